theorem dX9_exchange_51 : decode cX9_exchange 51 = .ok (.iload_n 2, 1) := by decide +kernel
theorem dX9_exchange_52 : decode cX9_exchange 52 = .ok (.invokevirtual 278, 3) := by decide +kernel
theorem dX9_exchange_55 : decode cX9_exchange 55 = .ok (.iload_n 3, 1) := by decide +kernel
theorem dX9_exchange_56 : decode cX9_exchange 56 = .ok (.ireturn, 1) := by decide +kernel
theorem dX9_airs_0 : decode cX9_airs 0 = .ok (.aload_n 0, 1) := by decide +kernel
theorem dX9_airs_1 : decode cX9_airs 1 = .ok (.getfield 7, 3) := by decide +kernel
theorem dX9_airs_4 : decode cX9_airs 4 = .ok (.bipush 110, 2) := by decide +kernel
theorem dX9_airs_6 : decode cX9_airs 6 = .ok (.iload_n 1, 1) := by decide +kernel
theorem dX9_airs_7 : decode cX9_airs 7 = .ok (.iadd, 1) := by decide +kernel
theorem dX9_airs_8 : decode cX9_airs 8 = .ok (.iaload, 1) := by decide +kernel
theorem dX9_airs_9 : decode cX9_airs 9 = .ok (.i2l, 1) := by decide +kernel
theorem dX9_airs_10 : decode cX9_airs 10 = .ok (.iload_n 2, 1) := by decide +kernel
theorem dX9_airs_11 : decode cX9_airs 11 = .ok (.i2l, 1) := by decide +kernel
theorem dX9_airs_12 : decode cX9_airs 12 = .ok (.lmul, 1) := by decide +kernel
theorem dX9_airs_13 : decode cX9_airs 13 = .ok (.ldc2_w 234, 3) := by decide +kernel
theorem dX9_airs_16 : decode cX9_airs 16 = .ok (.aload_n 0, 1) := by decide +kernel
theorem dX9_airs_17 : decode cX9_airs 17 = .ok (.iload_n 1, 1) := by decide +kernel
theorem dX9_airs_18 : decode cX9_airs 18 = .ok (.iconst 3, 1) := by decide +kernel
theorem dX9_airs_19 : decode cX9_airs 19 = .ok (.invokevirtual 64, 3) := by decide +kernel
theorem dX9_airs_22 : decode cX9_airs 22 = .ok (.i2l, 1) := by decide +kernel
theorem dX9_airs_23 : decode cX9_airs 23 = .ok (.lmul, 1) := by decide +kernel
theorem dX9_airs_24 : decode cX9_airs 24 = .ok (.lsub, 1) := by decide +kernel
theorem dX9_airs_25 : decode cX9_airs 25 = .ok (.aload_n 0, 1) := by decide +kernel
theorem dX9_airs_26 : decode cX9_airs 26 = .ok (.iload_n 1, 1) := by decide +kernel
theorem dX9_airs_27 : decode cX9_airs 27 = .ok (.iconst 0, 1) := by decide +kernel
theorem dX9_airs_28 : decode cX9_airs 28 = .ok (.invokevirtual 64, 3) := by decide +kernel
theorem dX9_airs_31 : decode cX9_airs 31 = .ok (.i2l, 1) := by decide +kernel
theorem dX9_airs_32 : decode cX9_airs 32 = .ok (.lmul, 1) := by decide +kernel
theorem dX9_airs_33 : decode cX9_airs 33 = .ok (.ldc2_w 281, 3) := by decide +kernel
theorem dX9_airs_36 : decode cX9_airs 36 = .ok (.ldiv, 1) := by decide +kernel
theorem dX9_airs_37 : decode cX9_airs 37 = .ok (.lstore_n 3, 1) := by decide +kernel
theorem dX9_airs_38 : decode cX9_airs 38 = .ok (.aload_n 0, 1) := by decide +kernel
theorem dX9_airs_39 : decode cX9_airs 39 = .ok (.iload_n 1, 1) := by decide +kernel
theorem dX9_airs_40 : decode cX9_airs 40 = .ok (.iconst 3, 1) := by decide +kernel
theorem dX9_airs_41 : decode cX9_airs 41 = .ok (.aload_n 0, 1) := by decide +kernel
theorem dX9_airs_42 : decode cX9_airs 42 = .ok (.iload_n 1, 1) := by decide +kernel
theorem dX9_airs_43 : decode cX9_airs 43 = .ok (.iconst 3, 1) := by decide +kernel
theorem dX9_airs_44 : decode cX9_airs 44 = .ok (.invokevirtual 64, 3) := by decide +kernel
theorem dX9_airs_47 : decode cX9_airs 47 = .ok (.lload_n 3, 1) := by decide +kernel
theorem dX9_airs_48 : decode cX9_airs 48 = .ok (.l2i, 1) := by decide +kernel
theorem dX9_airs_49 : decode cX9_airs 49 = .ok (.iadd, 1) := by decide +kernel
theorem dX9_airs_50 : decode cX9_airs 50 = .ok (.invokevirtual 79, 3) := by decide +kernel
theorem dX9_airs_53 : decode cX9_airs 53 = .ok (.aload_n 0, 1) := by decide +kernel
theorem dX9_airs_54 : decode cX9_airs 54 = .ok (.iload_n 1, 1) := by decide +kernel
theorem dX9_airs_55 : decode cX9_airs 55 = .ok (.iconst 2, 1) := by decide +kernel
theorem dX9_airs_56 : decode cX9_airs 56 = .ok (.lload_n 3, 1) := by decide +kernel
theorem dX9_airs_57 : decode cX9_airs 57 = .ok (.invokevirtual 248, 3) := by decide +kernel
theorem dX9_airs_60 : decode cX9_airs 60 = .ok (.iconst 0, 1) := by decide +kernel
theorem dX9_airs_61 : decode cX9_airs 61 = .ok (.istore 5, 2) := by decide +kernel
theorem dX9_airs_63 : decode cX9_airs 63 = .ok (.iload 5, 2) := by decide +kernel
theorem dX9_airs_65 : decode cX9_airs 65 = .ok (.aload_n 0, 1) := by decide +kernel
theorem dX9_airs_66 : decode cX9_airs 66 = .ok (.iload_n 1, 1) := by decide +kernel
theorem dX9_airs_67 : decode cX9_airs 67 = .ok (.iconst 4, 1) := by decide +kernel
theorem dX9_airs_68 : decode cX9_airs 68 = .ok (.invokevirtual 64, 3) := by decide +kernel
theorem dX9_airs_71 : decode cX9_airs 71 = .ok (.if_icmp .ge 131, 3) := by decide +kernel
theorem dX9_airs_74 : decode cX9_airs 74 = .ok (.aload_n 0, 1) := by decide +kernel
theorem dX9_airs_75 : decode cX9_airs 75 = .ok (.aload_n 0, 1) := by decide +kernel
theorem dX9_airs_76 : decode cX9_airs 76 = .ok (.iload_n 1, 1) := by decide +kernel
theorem dX9_airs_77 : decode cX9_airs 77 = .ok (.iload 5, 2) := by decide +kernel
theorem dX9_airs_79 : decode cX9_airs 79 = .ok (.iconst 1, 1) := by decide +kernel
theorem dX9_airs_80 : decode cX9_airs 80 = .ok (.invokevirtual 68, 3) := by decide +kernel
theorem dX9_airs_83 : decode cX9_airs 83 = .ok (.aload_n 0, 1) := by decide +kernel
theorem dX9_airs_84 : decode cX9_airs 84 = .ok (.iload_n 1, 1) := by decide +kernel
theorem dX9_airs_85 : decode cX9_airs 85 = .ok (.iload 5, 2) := by decide +kernel
theorem dX9_airs_87 : decode cX9_airs 87 = .ok (.iconst 2, 1) := by decide +kernel
theorem dX9_airs_88 : decode cX9_airs 88 = .ok (.invokevirtual 68, 3) := by decide +kernel
theorem dX9_airs_91 : decode cX9_airs 91 = .ok (.aload_n 0, 1) := by decide +kernel
theorem dX9_airs_92 : decode cX9_airs 92 = .ok (.iload_n 1, 1) := by decide +kernel
theorem dX9_airs_93 : decode cX9_airs 93 = .ok (.invokevirtual 242, 3) := by decide +kernel
theorem dX9_airs_96 : decode cX9_airs 96 = .ok (.invokevirtual 72, 3) := by decide +kernel
theorem dX9_airs_99 : decode cX9_airs 99 = .ok (.istore 6, 2) := by decide +kernel
theorem dX9_airs_101 : decode cX9_airs 101 = .ok (.iload 6, 2) := by decide +kernel
theorem dX9_airs_103 : decode cX9_airs 103 = .ok (.aload_n 0, 1) := by decide +kernel
theorem dX9_airs_104 : decode cX9_airs 104 = .ok (.iload_n 1, 1) := by decide +kernel
theorem dX9_airs_105 : decode cX9_airs 105 = .ok (.iload 5, 2) := by decide +kernel
theorem dX9_airs_107 : decode cX9_airs 107 = .ok (.iconst 3, 1) := by decide +kernel
theorem dX9_airs_108 : decode cX9_airs 108 = .ok (.invokevirtual 68, 3) := by decide +kernel
theorem dX9_airs_111 : decode cX9_airs 111 = .ok (.isub, 1) := by decide +kernel
theorem dX9_airs_112 : decode cX9_airs 112 = .ok (.aload_n 0, 1) := by decide +kernel
theorem dX9_airs_113 : decode cX9_airs 113 = .ok (.getfield 7, 3) := by decide +kernel
theorem dX9_airs_116 : decode cX9_airs 116 = .ok (.bipush 54, 2) := by decide +kernel
theorem dX9_airs_118 : decode cX9_airs 118 = .ok (.bipush 14, 2) := by decide +kernel
theorem dX9_airs_120 : decode cX9_airs 120 = .ok (.aload_n 0, 1) := by decide +kernel
theorem dX9_airs_121 : decode cX9_airs 121 = .ok (.iload_n 1, 1) := by decide +kernel
theorem dX9_airs_122 : decode cX9_airs 122 = .ok (.iload 5, 2) := by decide +kernel
theorem dX9_airs_124 : decode cX9_airs 124 = .ok (.iconst 1, 1) := by decide +kernel
theorem dX9_airs_125 : decode cX9_airs 125 = .ok (.invokevirtual 68, 3) := by decide +kernel
theorem dX9_airs_128 : decode cX9_airs 128 = .ok (.imul, 1) := by decide +kernel
theorem dX9_airs_129 : decode cX9_airs 129 = .ok (.iadd, 1) := by decide +kernel
theorem dX9_airs_130 : decode cX9_airs 130 = .ok (.iaload, 1) := by decide +kernel
theorem dX9_airs_131 : decode cX9_airs 131 = .ok (.imul, 1) := by decide +kernel
theorem dX9_airs_132 : decode cX9_airs 132 = .ok (.sipush 1000, 3) := by decide +kernel
theorem dX9_airs_135 : decode cX9_airs 135 = .ok (.idiv, 1) := by decide +kernel
theorem dX9_airs_136 : decode cX9_airs 136 = .ok (.istore 7, 2) := by decide +kernel
theorem dX9_airs_138 : decode cX9_airs 138 = .ok (.iload 7, 2) := by decide +kernel
theorem dX9_airs_140 : decode cX9_airs 140 = .ok (.aload_n 0, 1) := by decide +kernel
theorem dX9_airs_141 : decode cX9_airs 141 = .ok (.iload_n 1, 1) := by decide +kernel
theorem dX9_airs_142 : decode cX9_airs 142 = .ok (.iconst 3, 1) := by decide +kernel
theorem dX9_airs_143 : decode cX9_airs 143 = .ok (.invokevirtual 64, 3) := by decide +kernel
theorem dX9_airs_146 : decode cX9_airs 146 = .ok (.if_icmp .le 12, 3) := by decide +kernel
theorem dX9_airs_149 : decode cX9_airs 149 = .ok (.aload_n 0, 1) := by decide +kernel
theorem dX9_airs_150 : decode cX9_airs 150 = .ok (.iload_n 1, 1) := by decide +kernel
theorem dX9_airs_151 : decode cX9_airs 151 = .ok (.iconst 3, 1) := by decide +kernel
theorem dX9_airs_152 : decode cX9_airs 152 = .ok (.invokevirtual 64, 3) := by decide +kernel
theorem dX9_airs_155 : decode cX9_airs 155 = .ok (.goto 5, 3) := by decide +kernel
theorem dX9_airs_158 : decode cX9_airs 158 = .ok (.iload 7, 2) := by decide +kernel
theorem dX9_airs_160 : decode cX9_airs 160 = .ok (.istore 7, 2) := by decide +kernel
theorem dX9_airs_162 : decode cX9_airs 162 = .ok (.aload_n 0, 1) := by decide +kernel
theorem dX9_airs_163 : decode cX9_airs 163 = .ok (.iload_n 1, 1) := by decide +kernel
theorem dX9_airs_164 : decode cX9_airs 164 = .ok (.iload 5, 2) := by decide +kernel
theorem dX9_airs_166 : decode cX9_airs 166 = .ok (.iconst 3, 1) := by decide +kernel
theorem dX9_airs_167 : decode cX9_airs 167 = .ok (.aload_n 0, 1) := by decide +kernel
theorem dX9_airs_168 : decode cX9_airs 168 = .ok (.iload_n 1, 1) := by decide +kernel
theorem dX9_airs_169 : decode cX9_airs 169 = .ok (.iload 5, 2) := by decide +kernel
theorem dX9_airs_171 : decode cX9_airs 171 = .ok (.iconst 3, 1) := by decide +kernel
theorem dX9_airs_172 : decode cX9_airs 172 = .ok (.invokevirtual 68, 3) := by decide +kernel
theorem dX9_airs_175 : decode cX9_airs 175 = .ok (.iload 7, 2) := by decide +kernel
theorem dX9_airs_177 : decode cX9_airs 177 = .ok (.iadd, 1) := by decide +kernel
theorem dX9_airs_178 : decode cX9_airs 178 = .ok (.invokevirtual 75, 3) := by decide +kernel
theorem dX9_airs_181 : decode cX9_airs 181 = .ok (.aload_n 0, 1) := by decide +kernel
theorem dX9_airs_182 : decode cX9_airs 182 = .ok (.iload_n 1, 1) := by decide +kernel
theorem dX9_airs_183 : decode cX9_airs 183 = .ok (.iconst 3, 1) := by decide +kernel
theorem dX9_airs_184 : decode cX9_airs 184 = .ok (.aload_n 0, 1) := by decide +kernel
theorem dX9_airs_185 : decode cX9_airs 185 = .ok (.iload_n 1, 1) := by decide +kernel
theorem dX9_airs_186 : decode cX9_airs 186 = .ok (.iconst 3, 1) := by decide +kernel
theorem dX9_airs_187 : decode cX9_airs 187 = .ok (.invokevirtual 64, 3) := by decide +kernel
theorem dX9_airs_190 : decode cX9_airs 190 = .ok (.iload 7, 2) := by decide +kernel
theorem dX9_airs_192 : decode cX9_airs 192 = .ok (.isub, 1) := by decide +kernel
theorem dX9_airs_193 : decode cX9_airs 193 = .ok (.invokevirtual 79, 3) := by decide +kernel
theorem dX9_airs_196 : decode cX9_airs 196 = .ok (.iinc 5 1, 3) := by decide +kernel
theorem dX9_airs_199 : decode cX9_airs 199 = .ok (.goto (-136), 3) := by decide +kernel
theorem dX9_airs_202 : decode cX9_airs 202 = .ok (.return_, 1) := by decide +kernel
theorem dX9_records_0 : decode cX9_records 0 = .ok (.aload_n 0, 1) := by decide +kernel
theorem dX9_records_1 : decode cX9_records 1 = .ok (.iload_n 1, 1) := by decide +kernel
theorem dX9_records_2 : decode cX9_records 2 = .ok (.invokevirtual 242, 3) := by decide +kernel
theorem dX9_records_5 : decode cX9_records 5 = .ok (.istore_n 2, 1) := by decide +kernel
theorem dX9_records_6 : decode cX9_records 6 = .ok (.aload_n 0, 1) := by decide +kernel
theorem dX9_records_7 : decode cX9_records 7 = .ok (.iload_n 1, 1) := by decide +kernel
theorem dX9_records_8 : decode cX9_records 8 = .ok (.bipush 32, 2) := by decide +kernel
theorem dX9_records_10 : decode cX9_records 10 = .ok (.aload_n 0, 1) := by decide +kernel
theorem dX9_records_11 : decode cX9_records 11 = .ok (.getfield 16, 3) := by decide +kernel
theorem dX9_records_14 : decode cX9_records 14 = .ok (.iconst 0, 1) := by decide +kernel
theorem dX9_records_15 : decode cX9_records 15 = .ok (.iaload, 1) := by decide +kernel
theorem dX9_records_16 : decode cX9_records 16 = .ok (.bipush 24, 2) := by decide +kernel
theorem dX9_records_18 : decode cX9_records 18 = .ok (.irem, 1) := by decide +kernel
theorem dX9_records_19 : decode cX9_records 19 = .ok (.iadd, 1) := by decide +kernel
theorem dX9_records_20 : decode cX9_records 20 = .ok (.iload_n 2, 1) := by decide +kernel
theorem dX9_records_21 : decode cX9_records 21 = .ok (.invokevirtual 79, 3) := by decide +kernel
theorem dX9_records_24 : decode cX9_records 24 = .ok (.aload_n 0, 1) := by decide +kernel
theorem dX9_records_25 : decode cX9_records 25 = .ok (.iload_n 1, 1) := by decide +kernel
theorem dX9_records_26 : decode cX9_records 26 = .ok (.iconst 0, 1) := by decide +kernel
theorem dX9_records_27 : decode cX9_records 27 = .ok (.iload_n 2, 1) := by decide +kernel
theorem dX9_records_28 : decode cX9_records 28 = .ok (.i2l, 1) := by decide +kernel
theorem dX9_records_29 : decode cX9_records 29 = .ok (.invokevirtual 248, 3) := by decide +kernel
theorem dX9_records_32 : decode cX9_records 32 = .ok (.aload_n 0, 1) := by decide +kernel
theorem dX9_records_33 : decode cX9_records 33 = .ok (.iload_n 1, 1) := by decide +kernel
theorem dX9_records_34 : decode cX9_records 34 = .ok (.bipush 6, 2) := by decide +kernel
theorem dX9_records_36 : decode cX9_records 36 = .ok (.invokevirtual 64, 3) := by decide +kernel
theorem dX9_records_39 : decode cX9_records 39 = .ok (.iconst (-1), 1) := by decide +kernel
theorem dX9_records_40 : decode cX9_records 40 = .ok (.if_icmp .eq 14, 3) := by decide +kernel
theorem dX9_records_43 : decode cX9_records 43 = .ok (.iload_n 2, 1) := by decide +kernel
theorem dX9_records_44 : decode cX9_records 44 = .ok (.aload_n 0, 1) := by decide +kernel
theorem dX9_records_45 : decode cX9_records 45 = .ok (.iload_n 1, 1) := by decide +kernel
theorem dX9_records_46 : decode cX9_records 46 = .ok (.bipush 6, 2) := by decide +kernel
theorem dX9_records_48 : decode cX9_records 48 = .ok (.invokevirtual 64, 3) := by decide +kernel
theorem dX9_records_51 : decode cX9_records 51 = .ok (.if_icmp .ge 11, 3) := by decide +kernel
theorem dX9_records_54 : decode cX9_records 54 = .ok (.aload_n 0, 1) := by decide +kernel
theorem dX9_records_55 : decode cX9_records 55 = .ok (.iload_n 1, 1) := by decide +kernel
theorem dX9_records_56 : decode cX9_records 56 = .ok (.bipush 6, 2) := by decide +kernel
theorem dX9_records_58 : decode cX9_records 58 = .ok (.iload_n 2, 1) := by decide +kernel
theorem dX9_records_59 : decode cX9_records 59 = .ok (.invokevirtual 79, 3) := by decide +kernel
theorem dX9_records_62 : decode cX9_records 62 = .ok (.aload_n 0, 1) := by decide +kernel
theorem dX9_records_63 : decode cX9_records 63 = .ok (.iload_n 1, 1) := by decide +kernel
theorem dX9_records_64 : decode cX9_records 64 = .ok (.bipush 7, 2) := by decide +kernel
theorem dX9_records_66 : decode cX9_records 66 = .ok (.invokevirtual 64, 3) := by decide +kernel
theorem dX9_records_69 : decode cX9_records 69 = .ok (.iconst (-1), 1) := by decide +kernel
theorem dX9_records_70 : decode cX9_records 70 = .ok (.if_icmp .eq 14, 3) := by decide +kernel
theorem dX9_records_73 : decode cX9_records 73 = .ok (.iload_n 2, 1) := by decide +kernel
theorem dX9_records_74 : decode cX9_records 74 = .ok (.aload_n 0, 1) := by decide +kernel
theorem dX9_records_75 : decode cX9_records 75 = .ok (.iload_n 1, 1) := by decide +kernel
theorem dX9_records_76 : decode cX9_records 76 = .ok (.bipush 7, 2) := by decide +kernel
theorem dX9_records_78 : decode cX9_records 78 = .ok (.invokevirtual 64, 3) := by decide +kernel
theorem dX9_records_81 : decode cX9_records 81 = .ok (.if_icmp .le 11, 3) := by decide +kernel
theorem dX9_records_84 : decode cX9_records 84 = .ok (.aload_n 0, 1) := by decide +kernel
theorem dX9_records_85 : decode cX9_records 85 = .ok (.iload_n 1, 1) := by decide +kernel
theorem dX9_records_86 : decode cX9_records 86 = .ok (.bipush 7, 2) := by decide +kernel
theorem dX9_records_88 : decode cX9_records 88 = .ok (.iload_n 2, 1) := by decide +kernel
theorem dX9_records_89 : decode cX9_records 89 = .ok (.invokevirtual 79, 3) := by decide +kernel
theorem dX9_records_92 : decode cX9_records 92 = .ok (.iload_n 2, 1) := by decide +kernel
theorem dX9_records_93 : decode cX9_records 93 = .ok (.aload_n 0, 1) := by decide +kernel
theorem dX9_records_94 : decode cX9_records 94 = .ok (.iload_n 1, 1) := by decide +kernel
theorem dX9_records_95 : decode cX9_records 95 = .ok (.iconst 1, 1) := by decide +kernel
theorem dX9_records_96 : decode cX9_records 96 = .ok (.invokevirtual 64, 3) := by decide +kernel
theorem dX9_records_99 : decode cX9_records 99 = .ok (.aload_n 0, 1) := by decide +kernel
theorem dX9_records_100 : decode cX9_records 100 = .ok (.iload_n 1, 1) := by decide +kernel
theorem dX9_records_101 : decode cX9_records 101 = .ok (.iconst 2, 1) := by decide +kernel
theorem dX9_records_102 : decode cX9_records 102 = .ok (.invokevirtual 64, 3) := by decide +kernel
theorem dX9_records_105 : decode cX9_records 105 = .ok (.invokestatic 94, 3) := by decide +kernel
theorem dX9_records_108 : decode cX9_records 108 = .ok (.ifCond .ne 7, 3) := by decide +kernel
theorem dX9_records_111 : decode cX9_records 111 = .ok (.iconst 1, 1) := by decide +kernel
theorem dX9_records_112 : decode cX9_records 112 = .ok (.goto 4, 3) := by decide +kernel
theorem dX9_records_115 : decode cX9_records 115 = .ok (.iconst 0, 1) := by decide +kernel
theorem dX9_records_116 : decode cX9_records 116 = .ok (.istore_n 3, 1) := by decide +kernel
theorem dX9_records_117 : decode cX9_records 117 = .ok (.iload_n 3, 1) := by decide +kernel
theorem dX9_records_118 : decode cX9_records 118 = .ok (.ifCond .eq 17, 3) := by decide +kernel
theorem dX9_records_121 : decode cX9_records 121 = .ok (.aload_n 0, 1) := by decide +kernel
theorem dX9_records_122 : decode cX9_records 122 = .ok (.iload_n 1, 1) := by decide +kernel
theorem dX9_records_123 : decode cX9_records 123 = .ok (.iconst 5, 1) := by decide +kernel
theorem dX9_records_124 : decode cX9_records 124 = .ok (.aload_n 0, 1) := by decide +kernel
theorem dX9_records_125 : decode cX9_records 125 = .ok (.iload_n 1, 1) := by decide +kernel
theorem dX9_records_126 : decode cX9_records 126 = .ok (.iconst 5, 1) := by decide +kernel
theorem dX9_records_127 : decode cX9_records 127 = .ok (.invokevirtual 64, 3) := by decide +kernel
theorem dX9_records_130 : decode cX9_records 130 = .ok (.iconst 1, 1) := by decide +kernel
theorem dX9_records_131 : decode cX9_records 131 = .ok (.iadd, 1) := by decide +kernel
theorem dX9_records_132 : decode cX9_records 132 = .ok (.invokevirtual 79, 3) := by decide +kernel
theorem dX9_records_135 : decode cX9_records 135 = .ok (.iload_n 3, 1) := by decide +kernel
theorem dX9_records_136 : decode cX9_records 136 = .ok (.ireturn, 1) := by decide +kernel
theorem dX9_hour_0 : decode cX9_hour 0 = .ok (.aload_n 0, 1) := by decide +kernel
theorem dX9_hour_1 : decode cX9_hour 1 = .ok (.getfield 16, 3) := by decide +kernel
theorem dX9_hour_4 : decode cX9_hour 4 = .ok (.iconst 1, 1) := by decide +kernel
theorem dX9_hour_5 : decode cX9_hour 5 = .ok (.aload_n 0, 1) := by decide +kernel
theorem dX9_hour_6 : decode cX9_hour 6 = .ok (.getfield 16, 3) := by decide +kernel
theorem dX9_hour_9 : decode cX9_hour 9 = .ok (.iconst 1, 1) := by decide +kernel
theorem dX9_hour_10 : decode cX9_hour 10 = .ok (.iaload, 1) := by decide +kernel
theorem dX9_hour_11 : decode cX9_hour 11 = .ok (.i2l, 1) := by decide +kernel
theorem dX9_hour_12 : decode cX9_hour 12 = .ok (.aload_n 0, 1) := by decide +kernel
theorem dX9_hour_13 : decode cX9_hour 13 = .ok (.getfield 7, 3) := by decide +kernel
theorem dX9_hour_16 : decode cX9_hour 16 = .ok (.iconst 0, 1) := by decide +kernel
theorem dX9_hour_17 : decode cX9_hour 17 = .ok (.iaload, 1) := by decide +kernel
theorem dX9_hour_18 : decode cX9_hour 18 = .ok (.i2l, 1) := by decide +kernel
theorem dX9_hour_19 : decode cX9_hour 19 = .ok (.lmul, 1) := by decide +kernel
theorem dX9_hour_20 : decode cX9_hour 20 = .ok (.ldc2_w 234, 3) := by decide +kernel
theorem dX9_hour_23 : decode cX9_hour 23 = .ok (.ldiv, 1) := by decide +kernel
theorem dX9_hour_24 : decode cX9_hour 24 = .ok (.aload_n 0, 1) := by decide +kernel
theorem dX9_hour_25 : decode cX9_hour 25 = .ok (.getfield 7, 3) := by decide +kernel
theorem dX9_hour_28 : decode cX9_hour 28 = .ok (.iconst 1, 1) := by decide +kernel
theorem dX9_hour_29 : decode cX9_hour 29 = .ok (.iaload, 1) := by decide +kernel
theorem dX9_hour_30 : decode cX9_hour 30 = .ok (.i2l, 1) := by decide +kernel
theorem dX9_hour_31 : decode cX9_hour 31 = .ok (.aload_n 0, 1) := by decide +kernel
theorem dX9_hour_32 : decode cX9_hour 32 = .ok (.getfield 7, 3) := by decide +kernel
theorem dX9_hour_35 : decode cX9_hour 35 = .ok (.bipush 30, 2) := by decide +kernel
theorem dX9_hour_37 : decode cX9_hour 37 = .ok (.aload_n 0, 1) := by decide +kernel
theorem dX9_hour_38 : decode cX9_hour 38 = .ok (.getfield 16, 3) := by decide +kernel
theorem dX9_hour_41 : decode cX9_hour 41 = .ok (.iconst 0, 1) := by decide +kernel
theorem dX9_hour_42 : decode cX9_hour 42 = .ok (.iaload, 1) := by decide +kernel
theorem dX9_hour_43 : decode cX9_hour 43 = .ok (.bipush 24, 2) := by decide +kernel
theorem dX9_hour_45 : decode cX9_hour 45 = .ok (.irem, 1) := by decide +kernel
theorem dX9_hour_46 : decode cX9_hour 46 = .ok (.iadd, 1) := by decide +kernel
theorem dX9_hour_47 : decode cX9_hour 47 = .ok (.iaload, 1) := by decide +kernel
theorem dX9_hour_48 : decode cX9_hour 48 = .ok (.aload_n 0, 1) := by decide +kernel
theorem dX9_hour_49 : decode cX9_hour 49 = .ok (.getfield 16, 3) := by decide +kernel
theorem dX9_hour_52 : decode cX9_hour 52 = .ok (.iconst 2, 1) := by decide +kernel
theorem dX9_hour_53 : decode cX9_hour 53 = .ok (.iaload, 1) := by decide +kernel
theorem dX9_hour_54 : decode cX9_hour 54 = .ok (.iadd, 1) := by decide +kernel
theorem dX9_hour_55 : decode cX9_hour 55 = .ok (.i2l, 1) := by decide +kernel
theorem dX9_hour_56 : decode cX9_hour 56 = .ok (.lmul, 1) := by decide +kernel
theorem dX9_hour_57 : decode cX9_hour 57 = .ok (.ladd, 1) := by decide +kernel
theorem dX9_hour_58 : decode cX9_hour 58 = .ok (.l2i, 1) := by decide +kernel
theorem dX9_hour_59 : decode cX9_hour 59 = .ok (.iastore, 1) := by decide +kernel
theorem dX9_hour_60 : decode cX9_hour 60 = .ok (.aload_n 0, 1) := by decide +kernel
theorem dX9_hour_61 : decode cX9_hour 61 = .ok (.getfield 16, 3) := by decide +kernel
theorem dX9_hour_64 : decode cX9_hour 64 = .ok (.iconst 2, 1) := by decide +kernel
theorem dX9_hour_65 : decode cX9_hour 65 = .ok (.iconst 0, 1) := by decide +kernel
theorem dX9_hour_66 : decode cX9_hour 66 = .ok (.iastore, 1) := by decide +kernel
theorem dX9_hour_67 : decode cX9_hour 67 = .ok (.aload_n 0, 1) := by decide +kernel
theorem dX9_hour_68 : decode cX9_hour 68 = .ok (.aload_n 0, 1) := by decide +kernel
theorem dX9_hour_69 : decode cX9_hour 69 = .ok (.invokevirtual 225, 3) := by decide +kernel
theorem dX9_hour_72 : decode cX9_hour 72 = .ok (.putfield 283, 3) := by decide +kernel
theorem dX9_hour_75 : decode cX9_hour 75 = .ok (.iconst 0, 1) := by decide +kernel
theorem dX9_hour_76 : decode cX9_hour 76 = .ok (.istore_n 3, 1) := by decide +kernel
theorem dX9_hour_77 : decode cX9_hour 77 = .ok (.iload_n 1, 1) := by decide +kernel
theorem dX9_hour_78 : decode cX9_hour 78 = .ok (.istore 4, 2) := by decide +kernel
theorem dX9_hour_80 : decode cX9_hour 80 = .ok (.iload 4, 2) := by decide +kernel
theorem dX9_hour_82 : decode cX9_hour 82 = .ok (.iload_n 2, 1) := by decide +kernel
theorem dX9_hour_83 : decode cX9_hour 83 = .ok (.if_icmp .gt 36, 3) := by decide +kernel
theorem dX9_hour_86 : decode cX9_hour 86 = .ok (.aload_n 0, 1) := by decide +kernel
theorem dX9_hour_87 : decode cX9_hour 87 = .ok (.iload 4, 2) := by decide +kernel
theorem dX9_hour_89 : decode cX9_hour 89 = .ok (.aload_n 0, 1) := by decide +kernel
theorem dX9_hour_90 : decode cX9_hour 90 = .ok (.getfield 283, 3) := by decide +kernel
theorem dX9_hour_93 : decode cX9_hour 93 = .ok (.invokevirtual 286, 3) := by decide +kernel
theorem dX9_hour_96 : decode cX9_hour 96 = .ok (.iload_n 3, 1) := by decide +kernel
theorem dX9_hour_97 : decode cX9_hour 97 = .ok (.aload_n 0, 1) := by decide +kernel
theorem dX9_hour_98 : decode cX9_hour 98 = .ok (.iload 4, 2) := by decide +kernel
theorem dX9_hour_100 : decode cX9_hour 100 = .ok (.invokevirtual 289, 3) := by decide +kernel
theorem dX9_hour_103 : decode cX9_hour 103 = .ok (.ifCond .eq 7, 3) := by decide +kernel
theorem dX9_hour_106 : decode cX9_hour 106 = .ok (.iconst 1, 1) := by decide +kernel
theorem dX9_hour_107 : decode cX9_hour 107 = .ok (.goto 4, 3) := by decide +kernel
theorem dX9_hour_110 : decode cX9_hour 110 = .ok (.iconst 0, 1) := by decide +kernel
theorem dX9_hour_111 : decode cX9_hour 111 = .ok (.iadd, 1) := by decide +kernel
theorem dX9_hour_112 : decode cX9_hour 112 = .ok (.istore_n 3, 1) := by decide +kernel
theorem dX9_hour_113 : decode cX9_hour 113 = .ok (.iinc 4 1, 3) := by decide +kernel
theorem dX9_hour_116 : decode cX9_hour 116 = .ok (.goto (-36), 3) := by decide +kernel
theorem dX9_hour_119 : decode cX9_hour 119 = .ok (.aload_n 0, 1) := by decide +kernel
theorem dX9_hour_120 : decode cX9_hour 120 = .ok (.getfield 16, 3) := by decide +kernel
theorem dX9_hour_123 : decode cX9_hour 123 = .ok (.iconst 0, 1) := by decide +kernel
theorem dX9_hour_124 : decode cX9_hour 124 = .ok (.dup2, 1) := by decide +kernel
theorem dX9_hour_125 : decode cX9_hour 125 = .ok (.iaload, 1) := by decide +kernel
theorem dX9_hour_126 : decode cX9_hour 126 = .ok (.iconst 1, 1) := by decide +kernel
theorem dX9_hour_127 : decode cX9_hour 127 = .ok (.iadd, 1) := by decide +kernel
theorem dX9_hour_128 : decode cX9_hour 128 = .ok (.iastore, 1) := by decide +kernel
theorem dX9_hour_129 : decode cX9_hour 129 = .ok (.iload_n 3, 1) := by decide +kernel
theorem dX9_hour_130 : decode cX9_hour 130 = .ok (.ireturn, 1) := by decide +kernel
theorem dX9_hours_0 : decode cX9_hours 0 = .ok (.iconst 0, 1) := by decide +kernel
theorem dX9_hours_1 : decode cX9_hours 1 = .ok (.istore 4, 2) := by decide +kernel
theorem dX9_hours_3 : decode cX9_hours 3 = .ok (.iconst 0, 1) := by decide +kernel
theorem dX9_hours_4 : decode cX9_hours 4 = .ok (.istore 5, 2) := by decide +kernel
theorem dX9_hours_6 : decode cX9_hours 6 = .ok (.iload 5, 2) := by decide +kernel
theorem dX9_hours_8 : decode cX9_hours 8 = .ok (.iload_n 1, 1) := by decide +kernel
theorem dX9_hours_9 : decode cX9_hours 9 = .ok (.if_icmp .ge 20, 3) := by decide +kernel
theorem dX9_hours_12 : decode cX9_hours 12 = .ok (.iload 4, 2) := by decide +kernel
theorem dX9_hours_14 : decode cX9_hours 14 = .ok (.aload_n 0, 1) := by decide +kernel
theorem dX9_hours_15 : decode cX9_hours 15 = .ok (.iload_n 2, 1) := by decide +kernel
theorem dX9_hours_16 : decode cX9_hours 16 = .ok (.iload_n 3, 1) := by decide +kernel
theorem dX9_hours_17 : decode cX9_hours 17 = .ok (.invokevirtual 292, 3) := by decide +kernel
theorem dX9_hours_20 : decode cX9_hours 20 = .ok (.iadd, 1) := by decide +kernel
theorem dX9_hours_21 : decode cX9_hours 21 = .ok (.istore 4, 2) := by decide +kernel
theorem dX9_hours_23 : decode cX9_hours 23 = .ok (.iinc 5 1, 3) := by decide +kernel
theorem dX9_hours_26 : decode cX9_hours 26 = .ok (.goto (-20), 3) := by decide +kernel
theorem dX9_hours_29 : decode cX9_hours 29 = .ok (.iload 4, 2) := by decide +kernel
theorem dX9_hours_31 : decode cX9_hours 31 = .ok (.ireturn, 1) := by decide +kernel
theorem dX9_advance_0 : decode cX9_advance 0 = .ok (.aload_n 0, 1) := by decide +kernel
theorem dX9_advance_1 : decode cX9_advance 1 = .ok (.iconst 0, 1) := by decide +kernel
theorem dX9_advance_2 : decode cX9_advance 2 = .ok (.putfield 61, 3) := by decide +kernel
theorem dX9_advance_5 : decode cX9_advance 5 = .ok (.aload_n 0, 1) := by decide +kernel
theorem dX9_advance_6 : decode cX9_advance 6 = .ok (.iload_n 1, 1) := by decide +kernel
theorem dX9_advance_7 : decode cX9_advance 7 = .ok (.iconst 1, 1) := by decide +kernel
theorem dX9_advance_8 : decode cX9_advance 8 = .ok (.sipush 2000, 3) := by decide +kernel
theorem dX9_advance_11 : decode cX9_advance 11 = .ok (.invokestatic 94, 3) := by decide +kernel
theorem dX9_advance_14 : decode cX9_advance 14 = .ok (.iconst 1, 1) := by decide +kernel
theorem dX9_advance_15 : decode cX9_advance 15 = .ok (.invokevirtual 90, 3) := by decide +kernel
theorem dX9_advance_18 : decode cX9_advance 18 = .ok (.ifCond .eq 47, 3) := by decide +kernel
theorem dX9_advance_21 : decode cX9_advance 21 = .ok (.aload_n 0, 1) := by decide +kernel
theorem dX9_advance_22 : decode cX9_advance 22 = .ok (.aload_n 0, 1) := by decide +kernel
theorem dX9_advance_23 : decode cX9_advance 23 = .ok (.getfield 16, 3) := by decide +kernel
theorem dX9_advance_26 : decode cX9_advance 26 = .ok (.iconst 0, 1) := by decide +kernel
theorem dX9_advance_27 : decode cX9_advance 27 = .ok (.iaload, 1) := by decide +kernel
theorem dX9_advance_28 : decode cX9_advance 28 = .ok (.iload_n 1, 1) := by decide +kernel
theorem dX9_advance_29 : decode cX9_advance 29 = .ok (.iadd, 1) := by decide +kernel
theorem dX9_advance_30 : decode cX9_advance 30 = .ok (.ldc_w 295, 3) := by decide +kernel
theorem dX9_advance_33 : decode cX9_advance 33 = .ok (.if_icmp .gt 7, 3) := by decide +kernel
theorem dX9_advance_36 : decode cX9_advance 36 = .ok (.iconst 1, 1) := by decide +kernel
theorem dX9_advance_37 : decode cX9_advance 37 = .ok (.goto 4, 3) := by decide +kernel
theorem dX9_advance_40 : decode cX9_advance 40 = .ok (.iconst 0, 1) := by decide +kernel
theorem dX9_advance_41 : decode cX9_advance 41 = .ok (.iconst 2, 1) := by decide +kernel
theorem dX9_advance_42 : decode cX9_advance 42 = .ok (.invokevirtual 90, 3) := by decide +kernel
theorem dX9_advance_45 : decode cX9_advance 45 = .ok (.ifCond .eq 20, 3) := by decide +kernel
theorem dX9_advance_48 : decode cX9_advance 48 = .ok (.aload_n 0, 1) := by decide +kernel
theorem dX9_advance_49 : decode cX9_advance 49 = .ok (.iload_n 1, 1) := by decide +kernel
theorem dX9_advance_50 : decode cX9_advance 50 = .ok (.iconst 0, 1) := by decide +kernel
theorem dX9_advance_51 : decode cX9_advance 51 = .ok (.aload_n 0, 1) := by decide +kernel
theorem dX9_advance_52 : decode cX9_advance 52 = .ok (.getfield 7, 3) := by decide +kernel
theorem dX9_advance_55 : decode cX9_advance 55 = .ok (.iconst 5, 1) := by decide +kernel
theorem dX9_advance_56 : decode cX9_advance 56 = .ok (.iaload, 1) := by decide +kernel
theorem dX9_advance_57 : decode cX9_advance 57 = .ok (.iconst 1, 1) := by decide +kernel
theorem dX9_advance_58 : decode cX9_advance 58 = .ok (.isub, 1) := by decide +kernel
theorem dX9_advance_59 : decode cX9_advance 59 = .ok (.invokevirtual 296, 3) := by decide +kernel
theorem dX9_advance_62 : decode cX9_advance 62 = .ok (.goto 4, 3) := by decide +kernel
theorem dX9_advance_65 : decode cX9_advance 65 = .ok (.iconst 0, 1) := by decide +kernel
theorem dX9_advance_66 : decode cX9_advance 66 = .ok (.ireturn, 1) := by decide +kernel
theorem dX9_setsAside_0 : decode cX9_setsAside 0 = .ok (.iconst 0, 1) := by decide +kernel
theorem dX9_setsAside_1 : decode cX9_setsAside 1 = .ok (.istore_n 1, 1) := by decide +kernel
theorem dX9_setsAside_2 : decode cX9_setsAside 2 = .ok (.iload_n 1, 1) := by decide +kernel
theorem dX9_setsAside_3 : decode cX9_setsAside 3 = .ok (.sipush 340, 3) := by decide +kernel
theorem dX9_setsAside_6 : decode cX9_setsAside 6 = .ok (.if_icmp .ge 21, 3) := by decide +kernel
theorem dX9_setsAside_9 : decode cX9_setsAside 9 = .ok (.aload_n 0, 1) := by decide +kernel
theorem dX9_setsAside_10 : decode cX9_setsAside 10 = .ok (.getfield 19, 3) := by decide +kernel
theorem dX9_setsAside_13 : decode cX9_setsAside 13 = .ok (.iload_n 1, 1) := by decide +kernel
theorem dX9_setsAside_14 : decode cX9_setsAside 14 = .ok (.aload_n 0, 1) := by decide +kernel
theorem dX9_setsAside_15 : decode cX9_setsAside 15 = .ok (.getfield 16, 3) := by decide +kernel
theorem dX9_setsAside_18 : decode cX9_setsAside 18 = .ok (.iload_n 1, 1) := by decide +kernel
theorem dX9_setsAside_19 : decode cX9_setsAside 19 = .ok (.iaload, 1) := by decide +kernel
theorem dX9_setsAside_20 : decode cX9_setsAside 20 = .ok (.iastore, 1) := by decide +kernel
theorem dX9_setsAside_21 : decode cX9_setsAside 21 = .ok (.iinc 1 1, 3) := by decide +kernel
theorem dX9_setsAside_24 : decode cX9_setsAside 24 = .ok (.goto (-22), 3) := by decide +kernel
theorem dX9_setsAside_27 : decode cX9_setsAside 27 = .ok (.iconst 0, 1) := by decide +kernel
theorem dX9_setsAside_28 : decode cX9_setsAside 28 = .ok (.istore_n 1, 1) := by decide +kernel
theorem dX9_setsAside_29 : decode cX9_setsAside 29 = .ok (.iload_n 1, 1) := by decide +kernel
theorem dX9_setsAside_30 : decode cX9_setsAside 30 = .ok (.bipush 30, 2) := by decide +kernel
theorem dX9_setsAside_32 : decode cX9_setsAside 32 = .ok (.if_icmp .ge 21, 3) := by decide +kernel
theorem dX9_setsAside_35 : decode cX9_setsAside 35 = .ok (.aload_n 0, 1) := by decide +kernel
theorem dX9_setsAside_36 : decode cX9_setsAside 36 = .ok (.getfield 32, 3) := by decide +kernel
theorem dX9_setsAside_39 : decode cX9_setsAside 39 = .ok (.iload_n 1, 1) := by decide +kernel
theorem dX9_setsAside_40 : decode cX9_setsAside 40 = .ok (.aload_n 0, 1) := by decide +kernel
theorem dX9_setsAside_41 : decode cX9_setsAside 41 = .ok (.getfield 28, 3) := by decide +kernel
theorem dX9_setsAside_44 : decode cX9_setsAside 44 = .ok (.iload_n 1, 1) := by decide +kernel
theorem dX9_setsAside_45 : decode cX9_setsAside 45 = .ok (.laload, 1) := by decide +kernel
theorem dX9_setsAside_46 : decode cX9_setsAside 46 = .ok (.lastore, 1) := by decide +kernel
theorem dX9_setsAside_47 : decode cX9_setsAside 47 = .ok (.iinc 1 1, 3) := by decide +kernel
theorem dX9_setsAside_50 : decode cX9_setsAside 50 = .ok (.goto (-21), 3) := by decide +kernel
theorem dX9_setsAside_53 : decode cX9_setsAside 53 = .ok (.return_, 1) := by decide +kernel
theorem dX9_bringsBack_0 : decode cX9_bringsBack 0 = .ok (.iconst 0, 1) := by decide +kernel
theorem dX9_bringsBack_1 : decode cX9_bringsBack 1 = .ok (.istore_n 1, 1) := by decide +kernel
theorem dX9_bringsBack_2 : decode cX9_bringsBack 2 = .ok (.iload_n 1, 1) := by decide +kernel
theorem dX9_bringsBack_3 : decode cX9_bringsBack 3 = .ok (.sipush 340, 3) := by decide +kernel
theorem dX9_bringsBack_6 : decode cX9_bringsBack 6 = .ok (.if_icmp .ge 21, 3) := by decide +kernel
theorem dX9_bringsBack_9 : decode cX9_bringsBack 9 = .ok (.aload_n 0, 1) := by decide +kernel
theorem dX9_bringsBack_10 : decode cX9_bringsBack 10 = .ok (.getfield 16, 3) := by decide +kernel
theorem dX9_bringsBack_13 : decode cX9_bringsBack 13 = .ok (.iload_n 1, 1) := by decide +kernel
theorem dX9_bringsBack_14 : decode cX9_bringsBack 14 = .ok (.aload_n 0, 1) := by decide +kernel
theorem dX9_bringsBack_15 : decode cX9_bringsBack 15 = .ok (.getfield 19, 3) := by decide +kernel
theorem dX9_bringsBack_18 : decode cX9_bringsBack 18 = .ok (.iload_n 1, 1) := by decide +kernel
theorem dX9_bringsBack_19 : decode cX9_bringsBack 19 = .ok (.iaload, 1) := by decide +kernel
theorem dX9_bringsBack_20 : decode cX9_bringsBack 20 = .ok (.iastore, 1) := by decide +kernel
theorem dX9_bringsBack_21 : decode cX9_bringsBack 21 = .ok (.iinc 1 1, 3) := by decide +kernel
theorem dX9_bringsBack_24 : decode cX9_bringsBack 24 = .ok (.goto (-22), 3) := by decide +kernel
theorem dX9_bringsBack_27 : decode cX9_bringsBack 27 = .ok (.iconst 0, 1) := by decide +kernel
theorem dX9_bringsBack_28 : decode cX9_bringsBack 28 = .ok (.istore_n 1, 1) := by decide +kernel
theorem dX9_bringsBack_29 : decode cX9_bringsBack 29 = .ok (.iload_n 1, 1) := by decide +kernel
theorem dX9_bringsBack_30 : decode cX9_bringsBack 30 = .ok (.bipush 30, 2) := by decide +kernel
theorem dX9_bringsBack_32 : decode cX9_bringsBack 32 = .ok (.if_icmp .ge 21, 3) := by decide +kernel
theorem dX9_bringsBack_35 : decode cX9_bringsBack 35 = .ok (.aload_n 0, 1) := by decide +kernel
theorem dX9_bringsBack_36 : decode cX9_bringsBack 36 = .ok (.getfield 28, 3) := by decide +kernel
theorem dX9_bringsBack_39 : decode cX9_bringsBack 39 = .ok (.iload_n 1, 1) := by decide +kernel
theorem dX9_bringsBack_40 : decode cX9_bringsBack 40 = .ok (.aload_n 0, 1) := by decide +kernel
theorem dX9_bringsBack_41 : decode cX9_bringsBack 41 = .ok (.getfield 32, 3) := by decide +kernel
theorem dX9_bringsBack_44 : decode cX9_bringsBack 44 = .ok (.iload_n 1, 1) := by decide +kernel
theorem dX9_bringsBack_45 : decode cX9_bringsBack 45 = .ok (.laload, 1) := by decide +kernel
theorem dX9_bringsBack_46 : decode cX9_bringsBack 46 = .ok (.lastore, 1) := by decide +kernel
theorem dX9_bringsBack_47 : decode cX9_bringsBack 47 = .ok (.iinc 1 1, 3) := by decide +kernel
theorem dX9_bringsBack_50 : decode cX9_bringsBack 50 = .ok (.goto (-21), 3) := by decide +kernel
theorem dX9_bringsBack_53 : decode cX9_bringsBack 53 = .ok (.return_, 1) := by decide +kernel
theorem dX9_roomIn_0 : decode cX9_roomIn 0 = .ok (.aload_n 0, 1) := by decide +kernel
theorem dX9_roomIn_1 : decode cX9_roomIn 1 = .ok (.iconst 0, 1) := by decide +kernel
theorem dX9_roomIn_2 : decode cX9_roomIn 2 = .ok (.putfield 61, 3) := by decide +kernel
theorem dX9_roomIn_5 : decode cX9_roomIn 5 = .ok (.aload_n 0, 1) := by decide +kernel
theorem dX9_roomIn_6 : decode cX9_roomIn 6 = .ok (.iload_n 1, 1) := by decide +kernel
theorem dX9_roomIn_7 : decode cX9_roomIn 7 = .ok (.iconst 1, 1) := by decide +kernel
theorem dX9_roomIn_8 : decode cX9_roomIn 8 = .ok (.sipush 2000, 3) := by decide +kernel
theorem dX9_roomIn_11 : decode cX9_roomIn 11 = .ok (.invokestatic 94, 3) := by decide +kernel
theorem dX9_roomIn_14 : decode cX9_roomIn 14 = .ok (.iconst 1, 1) := by decide +kernel
theorem dX9_roomIn_15 : decode cX9_roomIn 15 = .ok (.invokevirtual 90, 3) := by decide +kernel
theorem dX9_roomIn_18 : decode cX9_roomIn 18 = .ok (.ifCond .ne 5, 3) := by decide +kernel
theorem dX9_roomIn_21 : decode cX9_roomIn 21 = .ok (.iconst 0, 1) := by decide +kernel
theorem dX9_roomIn_22 : decode cX9_roomIn 22 = .ok (.ireturn, 1) := by decide +kernel
theorem dX9_roomIn_23 : decode cX9_roomIn 23 = .ok (.aload_n 0, 1) := by decide +kernel
theorem dX9_roomIn_24 : decode cX9_roomIn 24 = .ok (.invokevirtual 299, 3) := by decide +kernel
theorem dX9_roomIn_27 : decode cX9_roomIn 27 = .ok (.aload_n 0, 1) := by decide +kernel
theorem dX9_roomIn_28 : decode cX9_roomIn 28 = .ok (.iload_n 1, 1) := by decide +kernel
theorem dX9_roomIn_29 : decode cX9_roomIn 29 = .ok (.iconst 0, 1) := by decide +kernel
theorem dX9_roomIn_30 : decode cX9_roomIn 30 = .ok (.iconst (-1), 1) := by decide +kernel
theorem dX9_roomIn_31 : decode cX9_roomIn 31 = .ok (.invokevirtual 296, 3) := by decide +kernel
theorem dX9_roomIn_34 : decode cX9_roomIn 34 = .ok (.istore_n 2, 1) := by decide +kernel
theorem dX9_roomIn_35 : decode cX9_roomIn 35 = .ok (.aload_n 0, 1) := by decide +kernel
theorem dX9_roomIn_36 : decode cX9_roomIn 36 = .ok (.invokevirtual 302, 3) := by decide +kernel
theorem dX9_roomIn_39 : decode cX9_roomIn 39 = .ok (.iload_n 2, 1) := by decide +kernel
theorem dX9_roomIn_40 : decode cX9_roomIn 40 = .ok (.ifCond .le 7, 3) := by decide +kernel
theorem dX9_roomIn_43 : decode cX9_roomIn 43 = .ok (.iconst (-1), 1) := by decide +kernel
theorem dX9_roomIn_44 : decode cX9_roomIn 44 = .ok (.goto 7, 3) := by decide +kernel
theorem dX9_roomIn_47 : decode cX9_roomIn 47 = .ok (.aload_n 0, 1) := by decide +kernel
theorem dX9_roomIn_48 : decode cX9_roomIn 48 = .ok (.getfield 283, 3) := by decide +kernel
theorem dX9_roomIn_51 : decode cX9_roomIn 51 = .ok (.ireturn, 1) := by decide +kernel
theorem dX9_humidityIn_0 : decode cX9_humidityIn 0 = .ok (.aload_n 0, 1) := by decide +kernel
theorem dX9_humidityIn_1 : decode cX9_humidityIn 1 = .ok (.iconst 0, 1) := by decide +kernel
theorem dX9_humidityIn_2 : decode cX9_humidityIn 2 = .ok (.putfield 61, 3) := by decide +kernel
theorem dX9_humidityIn_5 : decode cX9_humidityIn 5 = .ok (.aload_n 0, 1) := by decide +kernel
theorem dX9_humidityIn_6 : decode cX9_humidityIn 6 = .ok (.aload_n 0, 1) := by decide +kernel
theorem dX9_humidityIn_7 : decode cX9_humidityIn 7 = .ok (.iload_n 1, 1) := by decide +kernel
theorem dX9_humidityIn_8 : decode cX9_humidityIn 8 = .ok (.invokevirtual 239, 3) := by decide +kernel
theorem dX9_humidityIn_11 : decode cX9_humidityIn 11 = .ok (.iconst 1, 1) := by decide +kernel
theorem dX9_humidityIn_12 : decode cX9_humidityIn 12 = .ok (.invokevirtual 90, 3) := by decide +kernel
theorem dX9_humidityIn_15 : decode cX9_humidityIn 15 = .ok (.ifCond .eq 19, 3) := by decide +kernel
theorem dX9_humidityIn_18 : decode cX9_humidityIn 18 = .ok (.aload_n 0, 1) := by decide +kernel
theorem dX9_humidityIn_19 : decode cX9_humidityIn 19 = .ok (.iload_n 2, 1) := by decide +kernel
theorem dX9_humidityIn_20 : decode cX9_humidityIn 20 = .ok (.iconst 0, 1) := by decide +kernel
theorem dX9_humidityIn_21 : decode cX9_humidityIn 21 = .ok (.sipush 2000, 3) := by decide +kernel
theorem dX9_humidityIn_24 : decode cX9_humidityIn 24 = .ok (.invokestatic 94, 3) := by decide +kernel
theorem dX9_humidityIn_27 : decode cX9_humidityIn 27 = .ok (.iconst 2, 1) := by decide +kernel
theorem dX9_humidityIn_28 : decode cX9_humidityIn 28 = .ok (.invokevirtual 90, 3) := by decide +kernel
theorem dX9_humidityIn_31 : decode cX9_humidityIn 31 = .ok (.ifCond .ne 5, 3) := by decide +kernel
theorem dX9_humidityIn_34 : decode cX9_humidityIn 34 = .ok (.iconst 0, 1) := by decide +kernel
theorem dX9_humidityIn_35 : decode cX9_humidityIn 35 = .ok (.ireturn, 1) := by decide +kernel
theorem dX9_humidityIn_36 : decode cX9_humidityIn 36 = .ok (.aload_n 0, 1) := by decide +kernel
theorem dX9_humidityIn_37 : decode cX9_humidityIn 37 = .ok (.invokevirtual 299, 3) := by decide +kernel
theorem dX9_humidityIn_40 : decode cX9_humidityIn 40 = .ok (.aload_n 0, 1) := by decide +kernel
theorem dX9_humidityIn_41 : decode cX9_humidityIn 41 = .ok (.iload_n 2, 1) := by decide +kernel
theorem dX9_humidityIn_42 : decode cX9_humidityIn 42 = .ok (.iload_n 1, 1) := by decide +kernel
theorem dX9_humidityIn_43 : decode cX9_humidityIn 43 = .ok (.iload_n 1, 1) := by decide +kernel
theorem dX9_humidityIn_44 : decode cX9_humidityIn 44 = .ok (.invokevirtual 296, 3) := by decide +kernel
theorem dX9_humidityIn_47 : decode cX9_humidityIn 47 = .ok (.istore_n 3, 1) := by decide +kernel
theorem dX9_humidityIn_48 : decode cX9_humidityIn 48 = .ok (.aload_n 0, 1) := by decide +kernel
theorem dX9_humidityIn_49 : decode cX9_humidityIn 49 = .ok (.iload_n 1, 1) := by decide +kernel
theorem dX9_humidityIn_50 : decode cX9_humidityIn 50 = .ok (.invokevirtual 242, 3) := by decide +kernel
theorem dX9_humidityIn_53 : decode cX9_humidityIn 53 = .ok (.istore 4, 2) := by decide +kernel
theorem dX9_humidityIn_55 : decode cX9_humidityIn 55 = .ok (.aload_n 0, 1) := by decide +kernel
theorem dX9_humidityIn_56 : decode cX9_humidityIn 56 = .ok (.invokevirtual 302, 3) := by decide +kernel
theorem dX9_humidityIn_59 : decode cX9_humidityIn 59 = .ok (.iload 4, 2) := by decide +kernel
theorem dX9_humidityIn_61 : decode cX9_humidityIn 61 = .ok (.ireturn, 1) := by decide +kernel
theorem dX9_unsafeIn_0 : decode cX9_unsafeIn 0 = .ok (.aload_n 0, 1) := by decide +kernel
theorem dX9_unsafeIn_1 : decode cX9_unsafeIn 1 = .ok (.iconst 0, 1) := by decide +kernel
theorem dX9_unsafeIn_2 : decode cX9_unsafeIn 2 = .ok (.putfield 61, 3) := by decide +kernel
theorem dX9_unsafeIn_5 : decode cX9_unsafeIn 5 = .ok (.aload_n 0, 1) := by decide +kernel
theorem dX9_unsafeIn_6 : decode cX9_unsafeIn 6 = .ok (.aload_n 0, 1) := by decide +kernel
theorem dX9_unsafeIn_7 : decode cX9_unsafeIn 7 = .ok (.iload_n 1, 1) := by decide +kernel
theorem dX9_unsafeIn_8 : decode cX9_unsafeIn 8 = .ok (.invokevirtual 239, 3) := by decide +kernel
theorem dX9_unsafeIn_11 : decode cX9_unsafeIn 11 = .ok (.iconst 1, 1) := by decide +kernel
theorem dX9_unsafeIn_12 : decode cX9_unsafeIn 12 = .ok (.invokevirtual 90, 3) := by decide +kernel
theorem dX9_unsafeIn_15 : decode cX9_unsafeIn 15 = .ok (.ifCond .ne 5, 3) := by decide +kernel
theorem dX9_unsafeIn_18 : decode cX9_unsafeIn 18 = .ok (.iconst 0, 1) := by decide +kernel
theorem dX9_unsafeIn_19 : decode cX9_unsafeIn 19 = .ok (.ireturn, 1) := by decide +kernel
theorem dX9_unsafeIn_20 : decode cX9_unsafeIn 20 = .ok (.aload_n 0, 1) := by decide +kernel
theorem dX9_unsafeIn_21 : decode cX9_unsafeIn 21 = .ok (.invokevirtual 299, 3) := by decide +kernel
theorem dX9_unsafeIn_24 : decode cX9_unsafeIn 24 = .ok (.iconst 1, 1) := by decide +kernel
theorem dX9_unsafeIn_25 : decode cX9_unsafeIn 25 = .ok (.istore_n 2, 1) := by decide +kernel
theorem dX9_unsafeIn_26 : decode cX9_unsafeIn 26 = .ok (.iload_n 2, 1) := by decide +kernel
theorem dX9_unsafeIn_27 : decode cX9_unsafeIn 27 = .ok (.sipush 2000, 3) := by decide +kernel
theorem dX9_unsafeIn_30 : decode cX9_unsafeIn 30 = .ok (.if_icmp .gt 18, 3) := by decide +kernel
theorem dX9_unsafeIn_33 : decode cX9_unsafeIn 33 = .ok (.aload_n 0, 1) := by decide +kernel
theorem dX9_unsafeIn_34 : decode cX9_unsafeIn 34 = .ok (.iload_n 1, 1) := by decide +kernel
theorem dX9_unsafeIn_35 : decode cX9_unsafeIn 35 = .ok (.iload_n 1, 1) := by decide +kernel
theorem dX9_unsafeIn_36 : decode cX9_unsafeIn 36 = .ok (.invokevirtual 292, 3) := by decide +kernel
theorem dX9_unsafeIn_39 : decode cX9_unsafeIn 39 = .ok (.ifCond .ne 9, 3) := by decide +kernel
theorem dX9_unsafeIn_42 : decode cX9_unsafeIn 42 = .ok (.iinc 2 1, 3) := by decide +kernel
theorem dX9_unsafeIn_45 : decode cX9_unsafeIn 45 = .ok (.goto (-19), 3) := by decide +kernel
theorem dX9_unsafeIn_48 : decode cX9_unsafeIn 48 = .ok (.aload_n 0, 1) := by decide +kernel
theorem dX9_unsafeIn_49 : decode cX9_unsafeIn 49 = .ok (.invokevirtual 302, 3) := by decide +kernel
theorem dX9_unsafeIn_52 : decode cX9_unsafeIn 52 = .ok (.iload_n 2, 1) := by decide +kernel
theorem dX9_unsafeIn_53 : decode cX9_unsafeIn 53 = .ok (.sipush 2000, 3) := by decide +kernel
theorem dX9_unsafeIn_56 : decode cX9_unsafeIn 56 = .ok (.if_icmp .le 7, 3) := by decide +kernel
theorem dX9_unsafeIn_59 : decode cX9_unsafeIn 59 = .ok (.iconst (-1), 1) := by decide +kernel
theorem dX9_unsafeIn_60 : decode cX9_unsafeIn 60 = .ok (.goto 4, 3) := by decide +kernel
theorem dX9_unsafeIn_63 : decode cX9_unsafeIn 63 = .ok (.iload_n 2, 1) := by decide +kernel
theorem dX9_unsafeIn_64 : decode cX9_unsafeIn 64 = .ok (.ireturn, 1) := by decide +kernel
theorem dX9_restOf_0 : decode cX9_restOf 0 = .ok (.aload_n 0, 1) := by decide +kernel
theorem dX9_restOf_1 : decode cX9_restOf 1 = .ok (.iconst 0, 1) := by decide +kernel
theorem dX9_restOf_2 : decode cX9_restOf 2 = .ok (.putfield 61, 3) := by decide +kernel
theorem dX9_restOf_5 : decode cX9_restOf 5 = .ok (.aload_n 0, 1) := by decide +kernel
theorem dX9_restOf_6 : decode cX9_restOf 6 = .ok (.aload_n 0, 1) := by decide +kernel
theorem dX9_restOf_7 : decode cX9_restOf 7 = .ok (.iload_n 1, 1) := by decide +kernel
theorem dX9_restOf_8 : decode cX9_restOf 8 = .ok (.invokevirtual 239, 3) := by decide +kernel
theorem dX9_restOf_11 : decode cX9_restOf 11 = .ok (.iconst 1, 1) := by decide +kernel
theorem dX9_restOf_12 : decode cX9_restOf 12 = .ok (.invokevirtual 90, 3) := by decide +kernel
theorem dX9_restOf_15 : decode cX9_restOf 15 = .ok (.ifCond .ne 5, 3) := by decide +kernel
theorem dX9_restOf_18 : decode cX9_restOf 18 = .ok (.iconst 0, 1) := by decide +kernel
theorem dX9_restOf_19 : decode cX9_restOf 19 = .ok (.ireturn, 1) := by decide +kernel
theorem dX9_restOf_20 : decode cX9_restOf 20 = .ok (.iconst 0, 1) := by decide +kernel
theorem dX9_restOf_21 : decode cX9_restOf 21 = .ok (.istore_n 2, 1) := by decide +kernel
theorem dX9_restOf_22 : decode cX9_restOf 22 = .ok (.iconst 0, 1) := by decide +kernel
theorem dX9_restOf_23 : decode cX9_restOf 23 = .ok (.istore_n 3, 1) := by decide +kernel
theorem dX9_restOf_24 : decode cX9_restOf 24 = .ok (.iload_n 2, 1) := by decide +kernel
theorem dX9_restOf_25 : decode cX9_restOf 25 = .ok (.sipush 1000, 3) := by decide +kernel
theorem dX9_restOf_28 : decode cX9_restOf 28 = .ok (.if_icmp .gt 104, 3) := by decide +kernel
theorem dX9_restOf_31 : decode cX9_restOf 31 = .ok (.iload_n 3, 1) := by decide +kernel
theorem dX9_restOf_32 : decode cX9_restOf 32 = .ok (.ifCond .ne 100, 3) := by decide +kernel
theorem dX9_restOf_35 : decode cX9_restOf 35 = .ok (.aload_n 0, 1) := by decide +kernel
theorem dX9_restOf_36 : decode cX9_restOf 36 = .ok (.getfield 7, 3) := by decide +kernel
theorem dX9_restOf_39 : decode cX9_restOf 39 = .ok (.bipush 110, 2) := by decide +kernel
theorem dX9_restOf_41 : decode cX9_restOf 41 = .ok (.iload_n 1, 1) := by decide +kernel
theorem dX9_restOf_42 : decode cX9_restOf 42 = .ok (.iadd, 1) := by decide +kernel
theorem dX9_restOf_43 : decode cX9_restOf 43 = .ok (.iaload, 1) := by decide +kernel
theorem dX9_restOf_44 : decode cX9_restOf 44 = .ok (.iload_n 2, 1) := by decide +kernel
theorem dX9_restOf_45 : decode cX9_restOf 45 = .ok (.imul, 1) := by decide +kernel
theorem dX9_restOf_46 : decode cX9_restOf 46 = .ok (.sipush 1000, 3) := by decide +kernel
theorem dX9_restOf_49 : decode cX9_restOf 49 = .ok (.idiv, 1) := by decide +kernel
theorem dX9_restOf_50 : decode cX9_restOf 50 = .ok (.i2l, 1) := by decide +kernel
theorem dX9_restOf_51 : decode cX9_restOf 51 = .ok (.lstore 4, 2) := by decide +kernel
theorem dX9_restOf_53 : decode cX9_restOf 53 = .ok (.iconst 0, 1) := by decide +kernel
theorem dX9_restOf_54 : decode cX9_restOf 54 = .ok (.istore 6, 2) := by decide +kernel
theorem dX9_restOf_56 : decode cX9_restOf 56 = .ok (.iload 6, 2) := by decide +kernel
theorem dX9_restOf_58 : decode cX9_restOf 58 = .ok (.aload_n 0, 1) := by decide +kernel
theorem dX9_restOf_59 : decode cX9_restOf 59 = .ok (.iload_n 1, 1) := by decide +kernel
theorem dX9_restOf_60 : decode cX9_restOf 60 = .ok (.iconst 4, 1) := by decide +kernel
theorem dX9_restOf_61 : decode cX9_restOf 61 = .ok (.invokevirtual 64, 3) := by decide +kernel
theorem dX9_restOf_64 : decode cX9_restOf 64 = .ok (.if_icmp .ge 36, 3) := by decide +kernel
theorem dX9_restOf_67 : decode cX9_restOf 67 = .ok (.lload 4, 2) := by decide +kernel
theorem dX9_restOf_69 : decode cX9_restOf 69 = .ok (.aload_n 0, 1) := by decide +kernel
theorem dX9_restOf_70 : decode cX9_restOf 70 = .ok (.aload_n 0, 1) := by decide +kernel
theorem dX9_restOf_71 : decode cX9_restOf 71 = .ok (.iload_n 1, 1) := by decide +kernel
theorem dX9_restOf_72 : decode cX9_restOf 72 = .ok (.iload 6, 2) := by decide +kernel
theorem dX9_restOf_74 : decode cX9_restOf 74 = .ok (.iconst 1, 1) := by decide +kernel
theorem dX9_restOf_75 : decode cX9_restOf 75 = .ok (.invokevirtual 68, 3) := by decide +kernel
theorem dX9_restOf_78 : decode cX9_restOf 78 = .ok (.aload_n 0, 1) := by decide +kernel
theorem dX9_restOf_79 : decode cX9_restOf 79 = .ok (.iload_n 1, 1) := by decide +kernel
theorem dX9_restOf_80 : decode cX9_restOf 80 = .ok (.iload 6, 2) := by decide +kernel
theorem dX9_restOf_82 : decode cX9_restOf 82 = .ok (.iconst 2, 1) := by decide +kernel
theorem dX9_restOf_83 : decode cX9_restOf 83 = .ok (.invokevirtual 68, 3) := by decide +kernel
theorem dX9_restOf_86 : decode cX9_restOf 86 = .ok (.iload_n 2, 1) := by decide +kernel
theorem dX9_restOf_87 : decode cX9_restOf 87 = .ok (.invokevirtual 72, 3) := by decide +kernel
theorem dX9_restOf_90 : decode cX9_restOf 90 = .ok (.i2l, 1) := by decide +kernel
theorem dX9_restOf_91 : decode cX9_restOf 91 = .ok (.ladd, 1) := by decide +kernel
theorem dX9_restOf_92 : decode cX9_restOf 92 = .ok (.lstore 4, 2) := by decide +kernel
theorem dX9_restOf_94 : decode cX9_restOf 94 = .ok (.iinc 6 1, 3) := by decide +kernel
theorem dX9_restOf_97 : decode cX9_restOf 97 = .ok (.goto (-41), 3) := by decide +kernel
theorem dX9_restOf_100 : decode cX9_restOf 100 = .ok (.lload 4, 2) := by decide +kernel
theorem dX9_restOf_102 : decode cX9_restOf 102 = .ok (.aload_n 0, 1) := by decide +kernel
theorem dX9_restOf_103 : decode cX9_restOf 103 = .ok (.iload_n 1, 1) := by decide +kernel
theorem dX9_restOf_104 : decode cX9_restOf 104 = .ok (.invokevirtual 83, 3) := by decide +kernel
theorem dX9_restOf_107 : decode cX9_restOf 107 = .ok (.lcmp, 1) := by decide +kernel
theorem dX9_restOf_108 : decode cX9_restOf 108 = .ok (.ifCond .lt 7, 3) := by decide +kernel
theorem dX9_restOf_111 : decode cX9_restOf 111 = .ok (.iconst 1, 1) := by decide +kernel
theorem dX9_restOf_112 : decode cX9_restOf 112 = .ok (.goto 4, 3) := by decide +kernel
theorem dX9_restOf_115 : decode cX9_restOf 115 = .ok (.iconst 0, 1) := by decide +kernel
theorem dX9_restOf_116 : decode cX9_restOf 116 = .ok (.istore_n 3, 1) := by decide +kernel
theorem dX9_restOf_117 : decode cX9_restOf 117 = .ok (.iload_n 2, 1) := by decide +kernel
theorem dX9_restOf_118 : decode cX9_restOf 118 = .ok (.iload_n 3, 1) := by decide +kernel
theorem dX9_restOf_119 : decode cX9_restOf 119 = .ok (.ifCond .eq 7, 3) := by decide +kernel
theorem dX9_restOf_122 : decode cX9_restOf 122 = .ok (.iconst 0, 1) := by decide +kernel
theorem dX9_restOf_123 : decode cX9_restOf 123 = .ok (.goto 4, 3) := by decide +kernel
theorem dX9_restOf_126 : decode cX9_restOf 126 = .ok (.iconst 1, 1) := by decide +kernel
theorem dX9_restOf_127 : decode cX9_restOf 127 = .ok (.iadd, 1) := by decide +kernel
theorem dX9_restOf_128 : decode cX9_restOf 128 = .ok (.istore_n 2, 1) := by decide +kernel
theorem dX9_restOf_129 : decode cX9_restOf 129 = .ok (.goto (-105), 3) := by decide +kernel
theorem dX9_restOf_132 : decode cX9_restOf 132 = .ok (.aload_n 0, 1) := by decide +kernel
theorem dX9_restOf_133 : decode cX9_restOf 133 = .ok (.iload_n 2, 1) := by decide +kernel
theorem dX9_restOf_134 : decode cX9_restOf 134 = .ok (.sipush 1000, 3) := by decide +kernel
theorem dX9_restOf_137 : decode cX9_restOf 137 = .ok (.if_icmp .gt 7, 3) := by decide +kernel
theorem dX9_restOf_140 : decode cX9_restOf 140 = .ok (.iconst 1, 1) := by decide +kernel
theorem dX9_restOf_141 : decode cX9_restOf 141 = .ok (.goto 4, 3) := by decide +kernel
theorem dX9_restOf_144 : decode cX9_restOf 144 = .ok (.iconst 0, 1) := by decide +kernel
theorem dX9_restOf_145 : decode cX9_restOf 145 = .ok (.iconst 2, 1) := by decide +kernel
theorem dX9_restOf_146 : decode cX9_restOf 146 = .ok (.invokevirtual 90, 3) := by decide +kernel
theorem dX9_restOf_149 : decode cX9_restOf 149 = .ok (.ifCond .eq 7, 3) := by decide +kernel
theorem dX9_restOf_152 : decode cX9_restOf 152 = .ok (.iload_n 2, 1) := by decide +kernel
theorem dX9_restOf_153 : decode cX9_restOf 153 = .ok (.goto 4, 3) := by decide +kernel
theorem dX9_restOf_156 : decode cX9_restOf 156 = .ok (.iconst 0, 1) := by decide +kernel
theorem dX9_restOf_157 : decode cX9_restOf 157 = .ok (.ireturn, 1) := by decide +kernel
theorem dX9_massFor_0 : decode cX9_massFor 0 = .ok (.aload_n 0, 1) := by decide +kernel
theorem dX9_massFor_1 : decode cX9_massFor 1 = .ok (.iconst 0, 1) := by decide +kernel
theorem dX9_massFor_2 : decode cX9_massFor 2 = .ok (.putfield 61, 3) := by decide +kernel
theorem dX9_massFor_5 : decode cX9_massFor 5 = .ok (.aload_n 0, 1) := by decide +kernel
theorem dX9_massFor_6 : decode cX9_massFor 6 = .ok (.aload_n 0, 1) := by decide +kernel
theorem dX9_massFor_7 : decode cX9_massFor 7 = .ok (.iload_n 1, 1) := by decide +kernel
theorem dX9_massFor_8 : decode cX9_massFor 8 = .ok (.invokevirtual 239, 3) := by decide +kernel
theorem dX9_massFor_11 : decode cX9_massFor 11 = .ok (.ifCond .eq 15, 3) := by decide +kernel
theorem dX9_massFor_14 : decode cX9_massFor 14 = .ok (.aload_n 0, 1) := by decide +kernel
theorem dX9_massFor_15 : decode cX9_massFor 15 = .ok (.iload_n 2, 1) := by decide +kernel
theorem dX9_massFor_16 : decode cX9_massFor 16 = .ok (.invokevirtual 231, 3) := by decide +kernel
theorem dX9_massFor_19 : decode cX9_massFor 19 = .ok (.ifCond .eq 7, 3) := by decide +kernel
theorem dX9_massFor_22 : decode cX9_massFor 22 = .ok (.iconst 1, 1) := by decide +kernel
theorem dX9_massFor_23 : decode cX9_massFor 23 = .ok (.goto 4, 3) := by decide +kernel
theorem dX9_massFor_26 : decode cX9_massFor 26 = .ok (.iconst 0, 1) := by decide +kernel
theorem dX9_massFor_27 : decode cX9_massFor 27 = .ok (.iconst 1, 1) := by decide +kernel
theorem dX9_massFor_28 : decode cX9_massFor 28 = .ok (.invokevirtual 90, 3) := by decide +kernel
theorem dX9_massFor_31 : decode cX9_massFor 31 = .ok (.ifCond .eq 38, 3) := by decide +kernel
theorem dX9_massFor_34 : decode cX9_massFor 34 = .ok (.aload_n 0, 1) := by decide +kernel
theorem dX9_massFor_35 : decode cX9_massFor 35 = .ok (.iload_n 3, 1) := by decide +kernel
theorem dX9_massFor_36 : decode cX9_massFor 36 = .ok (.iconst 0, 1) := by decide +kernel
theorem dX9_massFor_37 : decode cX9_massFor 37 = .ok (.sipush 1000, 3) := by decide +kernel
theorem dX9_massFor_40 : decode cX9_massFor 40 = .ok (.invokestatic 94, 3) := by decide +kernel
theorem dX9_massFor_43 : decode cX9_massFor 43 = .ok (.ifCond .eq 18, 3) := by decide +kernel
theorem dX9_massFor_46 : decode cX9_massFor 46 = .ok (.iload 4, 2) := by decide +kernel
theorem dX9_massFor_48 : decode cX9_massFor 48 = .ok (.iconst 1, 1) := by decide +kernel
theorem dX9_massFor_49 : decode cX9_massFor 49 = .ok (.bipush 72, 2) := by decide +kernel
theorem dX9_massFor_51 : decode cX9_massFor 51 = .ok (.invokestatic 94, 3) := by decide +kernel
theorem dX9_massFor_54 : decode cX9_massFor 54 = .ok (.ifCond .eq 7, 3) := by decide +kernel
theorem dX9_massFor_57 : decode cX9_massFor 57 = .ok (.iconst 1, 1) := by decide +kernel
theorem dX9_massFor_58 : decode cX9_massFor 58 = .ok (.goto 4, 3) := by decide +kernel
theorem dX9_massFor_61 : decode cX9_massFor 61 = .ok (.iconst 0, 1) := by decide +kernel
theorem dX9_massFor_62 : decode cX9_massFor 62 = .ok (.iconst 2, 1) := by decide +kernel
theorem dX9_massFor_63 : decode cX9_massFor 63 = .ok (.invokevirtual 90, 3) := by decide +kernel
theorem dX9_massFor_66 : decode cX9_massFor 66 = .ok (.ifCond .ne 5, 3) := by decide +kernel
theorem dX9_massFor_69 : decode cX9_massFor 69 = .ok (.iconst 0, 1) := by decide +kernel
theorem dX9_massFor_70 : decode cX9_massFor 70 = .ok (.ireturn, 1) := by decide +kernel
theorem dX9_massFor_71 : decode cX9_massFor 71 = .ok (.aload_n 0, 1) := by decide +kernel
theorem dX9_massFor_72 : decode cX9_massFor 72 = .ok (.invokevirtual 299, 3) := by decide +kernel
theorem dX9_massFor_75 : decode cX9_massFor 75 = .ok (.iconst 0, 1) := by decide +kernel
theorem dX9_massFor_76 : decode cX9_massFor 76 = .ok (.istore 5, 2) := by decide +kernel
theorem dX9_massFor_78 : decode cX9_massFor 78 = .ok (.iconst 0, 1) := by decide +kernel
theorem dX9_massFor_79 : decode cX9_massFor 79 = .ok (.istore 6, 2) := by decide +kernel
theorem dX9_massFor_81 : decode cX9_massFor 81 = .ok (.iload 5, 2) := by decide +kernel
theorem dX9_massFor_83 : decode cX9_massFor 83 = .ok (.sipush 999, 3) := by decide +kernel
theorem dX9_massFor_86 : decode cX9_massFor 86 = .ok (.if_icmp .ge 81, 3) := by decide +kernel
theorem dX9_massFor_89 : decode cX9_massFor 89 = .ok (.iload 6, 2) := by decide +kernel
theorem dX9_massFor_91 : decode cX9_massFor 91 = .ok (.ifCond .ne 76, 3) := by decide +kernel
theorem dX9_massFor_94 : decode cX9_massFor 94 = .ok (.iinc 5 1, 3) := by decide +kernel
theorem dX9_massFor_97 : decode cX9_massFor 97 = .ok (.aload_n 0, 1) := by decide +kernel
theorem dX9_massFor_98 : decode cX9_massFor 98 = .ok (.iload_n 1, 1) := by decide +kernel
theorem dX9_massFor_99 : decode cX9_massFor 99 = .ok (.aload_n 0, 1) := by decide +kernel
theorem dX9_massFor_100 : decode cX9_massFor 100 = .ok (.getfield 16, 3) := by decide +kernel
theorem dX9_massFor_103 : decode cX9_massFor 103 = .ok (.iconst 3, 1) := by decide +kernel
theorem dX9_massFor_104 : decode cX9_massFor 104 = .ok (.iaload, 1) := by decide +kernel
theorem dX9_massFor_105 : decode cX9_massFor 105 = .ok (.iload_n 2, 1) := by decide +kernel
theorem dX9_massFor_106 : decode cX9_massFor 106 = .ok (.iload 5, 2) := by decide +kernel
theorem dX9_massFor_108 : decode cX9_massFor 108 = .ok (.aload_n 0, 1) := by decide +kernel
theorem dX9_massFor_109 : decode cX9_massFor 109 = .ok (.iload_n 2, 1) := by decide +kernel
theorem dX9_massFor_110 : decode cX9_massFor 110 = .ok (.iload 5, 2) := by decide +kernel
theorem dX9_massFor_112 : decode cX9_massFor 112 = .ok (.iload_n 3, 1) := by decide +kernel
theorem dX9_massFor_113 : decode cX9_massFor 113 = .ok (.invokevirtual 72, 3) := by decide +kernel
theorem dX9_massFor_116 : decode cX9_massFor 116 = .ok (.invokevirtual 271, 3) := by decide +kernel
theorem dX9_massFor_119 : decode cX9_massFor 119 = .ok (.aload_n 0, 1) := by decide +kernel
theorem dX9_massFor_120 : decode cX9_massFor 120 = .ok (.iload 4, 2) := by decide +kernel
theorem dX9_massFor_122 : decode cX9_massFor 122 = .ok (.iload_n 1, 1) := by decide +kernel
theorem dX9_massFor_123 : decode cX9_massFor 123 = .ok (.iload_n 1, 1) := by decide +kernel
theorem dX9_massFor_124 : decode cX9_massFor 124 = .ok (.invokevirtual 296, 3) := by decide +kernel
theorem dX9_massFor_127 : decode cX9_massFor 127 = .ok (.ifCond .ne 7, 3) := by decide +kernel
theorem dX9_massFor_130 : decode cX9_massFor 130 = .ok (.iconst 1, 1) := by decide +kernel
theorem dX9_massFor_131 : decode cX9_massFor 131 = .ok (.goto 4, 3) := by decide +kernel
theorem dX9_massFor_134 : decode cX9_massFor 134 = .ok (.iconst 0, 1) := by decide +kernel
theorem dX9_massFor_135 : decode cX9_massFor 135 = .ok (.istore 6, 2) := by decide +kernel
theorem dX9_massFor_137 : decode cX9_massFor 137 = .ok (.aload_n 0, 1) := by decide +kernel
theorem dX9_massFor_138 : decode cX9_massFor 138 = .ok (.invokevirtual 302, 3) := by decide +kernel
theorem dX9_massFor_141 : decode cX9_massFor 141 = .ok (.iload 5, 2) := by decide +kernel
theorem dX9_massFor_143 : decode cX9_massFor 143 = .ok (.iload 5, 2) := by decide +kernel
theorem dX9_massFor_145 : decode cX9_massFor 145 = .ok (.sipush 999, 3) := by decide +kernel
theorem dX9_massFor_148 : decode cX9_massFor 148 = .ok (.if_icmp .ne 12, 3) := by decide +kernel
theorem dX9_massFor_151 : decode cX9_massFor 151 = .ok (.iload 6, 2) := by decide +kernel
theorem dX9_massFor_153 : decode cX9_massFor 153 = .ok (.ifCond .ne 7, 3) := by decide +kernel
theorem dX9_massFor_156 : decode cX9_massFor 156 = .ok (.iconst 1, 1) := by decide +kernel
theorem dX9_massFor_157 : decode cX9_massFor 157 = .ok (.goto 4, 3) := by decide +kernel
theorem dX9_massFor_160 : decode cX9_massFor 160 = .ok (.iconst 0, 1) := by decide +kernel
theorem dX9_massFor_161 : decode cX9_massFor 161 = .ok (.iadd, 1) := by decide +kernel
theorem dX9_massFor_162 : decode cX9_massFor 162 = .ok (.istore 5, 2) := by decide +kernel
theorem dX9_massFor_164 : decode cX9_massFor 164 = .ok (.goto (-83), 3) := by decide +kernel
theorem dX9_massFor_167 : decode cX9_massFor 167 = .ok (.aload_n 0, 1) := by decide +kernel
theorem dX9_massFor_168 : decode cX9_massFor 168 = .ok (.iload 5, 2) := by decide +kernel
theorem dX9_massFor_170 : decode cX9_massFor 170 = .ok (.sipush 999, 3) := by decide +kernel
theorem dX9_massFor_173 : decode cX9_massFor 173 = .ok (.if_icmp .gt 7, 3) := by decide +kernel
theorem dX9_massFor_176 : decode cX9_massFor 176 = .ok (.iconst 1, 1) := by decide +kernel
theorem dX9_massFor_177 : decode cX9_massFor 177 = .ok (.goto 4, 3) := by decide +kernel
theorem dX9_massFor_180 : decode cX9_massFor 180 = .ok (.iconst 0, 1) := by decide +kernel
theorem dX9_massFor_181 : decode cX9_massFor 181 = .ok (.iconst 3, 1) := by decide +kernel
theorem dX9_massFor_182 : decode cX9_massFor 182 = .ok (.invokevirtual 90, 3) := by decide +kernel
theorem dX9_massFor_185 : decode cX9_massFor 185 = .ok (.ifCond .eq 8, 3) := by decide +kernel
theorem dX9_massFor_188 : decode cX9_massFor 188 = .ok (.iload 5, 2) := by decide +kernel
theorem dX9_massFor_190 : decode cX9_massFor 190 = .ok (.goto 4, 3) := by decide +kernel
theorem dX9_massFor_193 : decode cX9_massFor 193 = .ok (.iconst 0, 1) := by decide +kernel
theorem dX9_massFor_194 : decode cX9_massFor 194 = .ok (.ireturn, 1) := by decide +kernel
theorem dX9_bestFor_0 : decode cX9_bestFor 0 = .ok (.aload_n 0, 1) := by decide +kernel
theorem dX9_bestFor_1 : decode cX9_bestFor 1 = .ok (.iconst 0, 1) := by decide +kernel
theorem dX9_bestFor_2 : decode cX9_bestFor 2 = .ok (.putfield 61, 3) := by decide +kernel
theorem dX9_bestFor_5 : decode cX9_bestFor 5 = .ok (.aload_n 0, 1) := by decide +kernel
theorem dX9_bestFor_6 : decode cX9_bestFor 6 = .ok (.aload_n 0, 1) := by decide +kernel
theorem dX9_bestFor_7 : decode cX9_bestFor 7 = .ok (.iload_n 1, 1) := by decide +kernel
theorem dX9_bestFor_8 : decode cX9_bestFor 8 = .ok (.invokevirtual 261, 3) := by decide +kernel
theorem dX9_bestFor_11 : decode cX9_bestFor 11 = .ok (.iconst 1, 1) := by decide +kernel
theorem dX9_bestFor_12 : decode cX9_bestFor 12 = .ok (.invokevirtual 90, 3) := by decide +kernel
theorem dX9_bestFor_15 : decode cX9_bestFor 15 = .ok (.ifCond .eq 18, 3) := by decide +kernel
theorem dX9_bestFor_18 : decode cX9_bestFor 18 = .ok (.aload_n 0, 1) := by decide +kernel
theorem dX9_bestFor_19 : decode cX9_bestFor 19 = .ok (.iload_n 2, 1) := by decide +kernel
theorem dX9_bestFor_20 : decode cX9_bestFor 20 = .ok (.iconst 1, 1) := by decide +kernel
theorem dX9_bestFor_21 : decode cX9_bestFor 21 = .ok (.bipush 72, 2) := by decide +kernel
theorem dX9_bestFor_23 : decode cX9_bestFor 23 = .ok (.invokestatic 94, 3) := by decide +kernel
theorem dX9_bestFor_26 : decode cX9_bestFor 26 = .ok (.iconst 2, 1) := by decide +kernel
theorem dX9_bestFor_27 : decode cX9_bestFor 27 = .ok (.invokevirtual 90, 3) := by decide +kernel
theorem dX9_bestFor_30 : decode cX9_bestFor 30 = .ok (.ifCond .ne 5, 3) := by decide +kernel
theorem dX9_bestFor_33 : decode cX9_bestFor 33 = .ok (.iconst 0, 1) := by decide +kernel
theorem dX9_bestFor_34 : decode cX9_bestFor 34 = .ok (.ireturn, 1) := by decide +kernel
theorem dX9_bestFor_35 : decode cX9_bestFor 35 = .ok (.aload_n 0, 1) := by decide +kernel
theorem dX9_bestFor_36 : decode cX9_bestFor 36 = .ok (.invokevirtual 299, 3) := by decide +kernel
theorem dX9_bestFor_39 : decode cX9_bestFor 39 = .ok (.iconst (-1), 1) := by decide +kernel
theorem dX9_bestFor_40 : decode cX9_bestFor 40 = .ok (.istore_n 3, 1) := by decide +kernel
theorem dX9_bestFor_41 : decode cX9_bestFor 41 = .ok (.iconst 0, 1) := by decide +kernel
theorem dX9_bestFor_42 : decode cX9_bestFor 42 = .ok (.istore 4, 2) := by decide +kernel
theorem dX9_bestFor_44 : decode cX9_bestFor 44 = .ok (.iconst 0, 1) := by decide +kernel
theorem dX9_bestFor_45 : decode cX9_bestFor 45 = .ok (.istore 5, 2) := by decide +kernel
theorem dX9_bestFor_47 : decode cX9_bestFor 47 = .ok (.iload 5, 2) := by decide +kernel
theorem dX9_bestFor_49 : decode cX9_bestFor 49 = .ok (.sipush 1000, 3) := by decide +kernel
theorem dX9_bestFor_52 : decode cX9_bestFor 52 = .ok (.if_icmp .gt 70, 3) := by decide +kernel
theorem dX9_bestFor_55 : decode cX9_bestFor 55 = .ok (.aload_n 0, 1) := by decide +kernel
theorem dX9_bestFor_56 : decode cX9_bestFor 56 = .ok (.aload_n 0, 1) := by decide +kernel
theorem dX9_bestFor_57 : decode cX9_bestFor 57 = .ok (.getfield 252, 3) := by decide +kernel
theorem dX9_bestFor_60 : decode cX9_bestFor 60 = .ok (.aload_n 0, 1) := by decide +kernel
theorem dX9_bestFor_61 : decode cX9_bestFor 61 = .ok (.getfield 255, 3) := by decide +kernel
theorem dX9_bestFor_64 : decode cX9_bestFor 64 = .ok (.aload_n 0, 1) := by decide +kernel
theorem dX9_bestFor_65 : decode cX9_bestFor 65 = .ok (.getfield 16, 3) := by decide +kernel
theorem dX9_bestFor_68 : decode cX9_bestFor 68 = .ok (.iconst 3, 1) := by decide +kernel
theorem dX9_bestFor_69 : decode cX9_bestFor 69 = .ok (.iaload, 1) := by decide +kernel
theorem dX9_bestFor_70 : decode cX9_bestFor 70 = .ok (.iload 5, 2) := by decide +kernel
theorem dX9_bestFor_72 : decode cX9_bestFor 72 = .ok (.invokevirtual 278, 3) := by decide +kernel
theorem dX9_bestFor_75 : decode cX9_bestFor 75 = .ok (.aload_n 0, 1) := by decide +kernel
theorem dX9_bestFor_76 : decode cX9_bestFor 76 = .ok (.iload_n 2, 1) := by decide +kernel
theorem dX9_bestFor_77 : decode cX9_bestFor 77 = .ok (.aload_n 0, 1) := by decide +kernel
theorem dX9_bestFor_78 : decode cX9_bestFor 78 = .ok (.getfield 252, 3) := by decide +kernel
theorem dX9_bestFor_81 : decode cX9_bestFor 81 = .ok (.aload_n 0, 1) := by decide +kernel
theorem dX9_bestFor_82 : decode cX9_bestFor 82 = .ok (.getfield 252, 3) := by decide +kernel
theorem dX9_bestFor_85 : decode cX9_bestFor 85 = .ok (.invokevirtual 296, 3) := by decide +kernel
theorem dX9_bestFor_88 : decode cX9_bestFor 88 = .ok (.istore 6, 2) := by decide +kernel
theorem dX9_bestFor_90 : decode cX9_bestFor 90 = .ok (.aload_n 0, 1) := by decide +kernel
theorem dX9_bestFor_91 : decode cX9_bestFor 91 = .ok (.invokevirtual 302, 3) := by decide +kernel
theorem dX9_bestFor_94 : decode cX9_bestFor 94 = .ok (.iload_n 3, 1) := by decide +kernel
theorem dX9_bestFor_95 : decode cX9_bestFor 95 = .ok (.iconst (-1), 1) := by decide +kernel
theorem dX9_bestFor_96 : decode cX9_bestFor 96 = .ok (.if_icmp .eq 13, 3) := by decide +kernel
theorem dX9_bestFor_99 : decode cX9_bestFor 99 = .ok (.iload 6, 2) := by decide +kernel
theorem dX9_bestFor_101 : decode cX9_bestFor 101 = .ok (.iload 4, 2) := by decide +kernel
theorem dX9_bestFor_103 : decode cX9_bestFor 103 = .ok (.if_icmp .lt 6, 3) := by decide +kernel
theorem dX9_bestFor_106 : decode cX9_bestFor 106 = .ok (.goto 10, 3) := by decide +kernel
theorem dX9_bestFor_109 : decode cX9_bestFor 109 = .ok (.iload 5, 2) := by decide +kernel
theorem dX9_bestFor_111 : decode cX9_bestFor 111 = .ok (.istore_n 3, 1) := by decide +kernel
theorem dX9_bestFor_112 : decode cX9_bestFor 112 = .ok (.iload 6, 2) := by decide +kernel
theorem dX9_bestFor_114 : decode cX9_bestFor 114 = .ok (.istore 4, 2) := by decide +kernel
theorem dX9_bestFor_116 : decode cX9_bestFor 116 = .ok (.iinc 5 50, 3) := by decide +kernel
theorem dX9_bestFor_119 : decode cX9_bestFor 119 = .ok (.goto (-72), 3) := by decide +kernel
theorem dX9_bestFor_122 : decode cX9_bestFor 122 = .ok (.iload_n 3, 1) := by decide +kernel
theorem dX9_bestFor_123 : decode cX9_bestFor 123 = .ok (.ireturn, 1) := by decide +kernel
theorem dX9_save_0 : decode cX9_save 0 = .ok (.aload_n 0, 1) := by decide +kernel
theorem dX9_save_1 : decode cX9_save 1 = .ok (.iconst 0, 1) := by decide +kernel
theorem dX9_save_2 : decode cX9_save 2 = .ok (.putfield 61, 3) := by decide +kernel
theorem dX9_save_5 : decode cX9_save 5 = .ok (.aload_n 0, 1) := by decide +kernel
theorem dX9_save_6 : decode cX9_save 6 = .ok (.iload_n 1, 1) := by decide +kernel
theorem dX9_save_7 : decode cX9_save 7 = .ok (.iconst 0, 1) := by decide +kernel
theorem dX9_save_8 : decode cX9_save 8 = .ok (.iconst 1, 1) := by decide +kernel
theorem dX9_save_9 : decode cX9_save 9 = .ok (.invokestatic 94, 3) := by decide +kernel
theorem dX9_save_12 : decode cX9_save 12 = .ok (.iconst 1, 1) := by decide +kernel
theorem dX9_save_13 : decode cX9_save 13 = .ok (.invokevirtual 90, 3) := by decide +kernel
theorem dX9_save_16 : decode cX9_save 16 = .ok (.ifCond .ne 4, 3) := by decide +kernel
theorem dX9_save_19 : decode cX9_save 19 = .ok (.return_, 1) := by decide +kernel
theorem dX9_save_20 : decode cX9_save 20 = .ok (.aload_n 0, 1) := by decide +kernel
theorem dX9_save_21 : decode cX9_save 21 = .ok (.getfield 38, 3) := by decide +kernel
theorem dX9_save_24 : decode cX9_save 24 = .ok (.iload_n 1, 1) := by decide +kernel
theorem dX9_save_25 : decode cX9_save 25 = .ok (.iconst 1, 1) := by decide +kernel
theorem dX9_save_26 : decode cX9_save 26 = .ok (.bastore, 1) := by decide +kernel
theorem dX9_save_27 : decode cX9_save 27 = .ok (.iconst 0, 1) := by decide +kernel
theorem dX9_save_28 : decode cX9_save 28 = .ok (.istore_n 2, 1) := by decide +kernel
theorem dX9_save_29 : decode cX9_save 29 = .ok (.iload_n 2, 1) := by decide +kernel
theorem dX9_save_30 : decode cX9_save 30 = .ok (.sipush 340, 3) := by decide +kernel
theorem dX9_save_33 : decode cX9_save 33 = .ok (.if_icmp .ge 27, 3) := by decide +kernel
theorem dX9_save_36 : decode cX9_save 36 = .ok (.aload_n 0, 1) := by decide +kernel
theorem dX9_save_37 : decode cX9_save 37 = .ok (.getfield 22, 3) := by decide +kernel
theorem dX9_save_40 : decode cX9_save 40 = .ok (.sipush 340, 3) := by decide +kernel
theorem dX9_save_43 : decode cX9_save 43 = .ok (.iload_n 1, 1) := by decide +kernel
theorem dX9_save_44 : decode cX9_save 44 = .ok (.imul, 1) := by decide +kernel
theorem dX9_save_45 : decode cX9_save 45 = .ok (.iload_n 2, 1) := by decide +kernel
theorem dX9_save_46 : decode cX9_save 46 = .ok (.iadd, 1) := by decide +kernel
theorem dX9_save_47 : decode cX9_save 47 = .ok (.aload_n 0, 1) := by decide +kernel
theorem dX9_save_48 : decode cX9_save 48 = .ok (.getfield 16, 3) := by decide +kernel
theorem dX9_save_51 : decode cX9_save 51 = .ok (.iload_n 2, 1) := by decide +kernel
theorem dX9_save_52 : decode cX9_save 52 = .ok (.iaload, 1) := by decide +kernel
theorem dX9_save_53 : decode cX9_save 53 = .ok (.iastore, 1) := by decide +kernel
theorem dX9_save_54 : decode cX9_save 54 = .ok (.iinc 2 1, 3) := by decide +kernel
theorem dX9_save_57 : decode cX9_save 57 = .ok (.goto (-28), 3) := by decide +kernel
theorem dX9_save_60 : decode cX9_save 60 = .ok (.iconst 0, 1) := by decide +kernel
theorem dX9_save_61 : decode cX9_save 61 = .ok (.istore_n 2, 1) := by decide +kernel
theorem dX9_save_62 : decode cX9_save 62 = .ok (.iload_n 2, 1) := by decide +kernel
theorem dX9_save_63 : decode cX9_save 63 = .ok (.bipush 30, 2) := by decide +kernel
theorem dX9_save_65 : decode cX9_save 65 = .ok (.if_icmp .ge 26, 3) := by decide +kernel
theorem dX9_save_68 : decode cX9_save 68 = .ok (.aload_n 0, 1) := by decide +kernel
theorem dX9_save_69 : decode cX9_save 69 = .ok (.getfield 35, 3) := by decide +kernel
theorem dX9_save_72 : decode cX9_save 72 = .ok (.bipush 30, 2) := by decide +kernel
theorem dX9_save_74 : decode cX9_save 74 = .ok (.iload_n 1, 1) := by decide +kernel
theorem dX9_save_75 : decode cX9_save 75 = .ok (.imul, 1) := by decide +kernel
theorem dX9_save_76 : decode cX9_save 76 = .ok (.iload_n 2, 1) := by decide +kernel
theorem dX9_save_77 : decode cX9_save 77 = .ok (.iadd, 1) := by decide +kernel
theorem dX9_save_78 : decode cX9_save 78 = .ok (.aload_n 0, 1) := by decide +kernel
theorem dX9_save_79 : decode cX9_save 79 = .ok (.getfield 28, 3) := by decide +kernel
theorem dX9_save_82 : decode cX9_save 82 = .ok (.iload_n 2, 1) := by decide +kernel
theorem dX9_save_83 : decode cX9_save 83 = .ok (.laload, 1) := by decide +kernel
theorem dX9_save_84 : decode cX9_save 84 = .ok (.lastore, 1) := by decide +kernel
theorem dX9_save_85 : decode cX9_save 85 = .ok (.iinc 2 1, 3) := by decide +kernel
theorem dX9_save_88 : decode cX9_save 88 = .ok (.goto (-26), 3) := by decide +kernel
theorem dX9_save_91 : decode cX9_save 91 = .ok (.return_, 1) := by decide +kernel
theorem dX9_restore_0 : decode cX9_restore 0 = .ok (.aload_n 0, 1) := by decide +kernel
theorem dX9_restore_1 : decode cX9_restore 1 = .ok (.iconst 0, 1) := by decide +kernel
theorem dX9_restore_2 : decode cX9_restore 2 = .ok (.putfield 61, 3) := by decide +kernel
theorem dX9_restore_5 : decode cX9_restore 5 = .ok (.aload_n 0, 1) := by decide +kernel
theorem dX9_restore_6 : decode cX9_restore 6 = .ok (.iload_n 1, 1) := by decide +kernel
theorem dX9_restore_7 : decode cX9_restore 7 = .ok (.iconst 0, 1) := by decide +kernel
theorem dX9_restore_8 : decode cX9_restore 8 = .ok (.iconst 1, 1) := by decide +kernel
theorem dX9_restore_9 : decode cX9_restore 9 = .ok (.invokestatic 94, 3) := by decide +kernel
theorem dX9_restore_12 : decode cX9_restore 12 = .ok (.iconst 1, 1) := by decide +kernel
theorem dX9_restore_13 : decode cX9_restore 13 = .ok (.invokevirtual 90, 3) := by decide +kernel
theorem dX9_restore_16 : decode cX9_restore 16 = .ok (.ifCond .eq 17, 3) := by decide +kernel
theorem dX9_restore_19 : decode cX9_restore 19 = .ok (.aload_n 0, 1) := by decide +kernel
theorem dX9_restore_20 : decode cX9_restore 20 = .ok (.aload_n 0, 1) := by decide +kernel
theorem dX9_restore_21 : decode cX9_restore 21 = .ok (.getfield 38, 3) := by decide +kernel
theorem dX9_restore_24 : decode cX9_restore 24 = .ok (.iload_n 1, 1) := by decide +kernel
theorem dX9_restore_25 : decode cX9_restore 25 = .ok (.baload, 1) := by decide +kernel
theorem dX9_restore_26 : decode cX9_restore 26 = .ok (.iconst 2, 1) := by decide +kernel
theorem dX9_restore_27 : decode cX9_restore 27 = .ok (.invokevirtual 90, 3) := by decide +kernel
theorem dX9_restore_30 : decode cX9_restore 30 = .ok (.ifCond .ne 4, 3) := by decide +kernel
theorem dX9_restore_33 : decode cX9_restore 33 = .ok (.return_, 1) := by decide +kernel
theorem dX9_restore_34 : decode cX9_restore 34 = .ok (.iconst 0, 1) := by decide +kernel
theorem dX9_restore_35 : decode cX9_restore 35 = .ok (.istore_n 2, 1) := by decide +kernel
theorem dX9_restore_36 : decode cX9_restore 36 = .ok (.iload_n 2, 1) := by decide +kernel
theorem dX9_restore_37 : decode cX9_restore 37 = .ok (.sipush 340, 3) := by decide +kernel
theorem dX9_restore_40 : decode cX9_restore 40 = .ok (.if_icmp .ge 27, 3) := by decide +kernel
theorem dX9_restore_43 : decode cX9_restore 43 = .ok (.aload_n 0, 1) := by decide +kernel
theorem dX9_restore_44 : decode cX9_restore 44 = .ok (.getfield 16, 3) := by decide +kernel
theorem dX9_restore_47 : decode cX9_restore 47 = .ok (.iload_n 2, 1) := by decide +kernel
theorem dX9_restore_48 : decode cX9_restore 48 = .ok (.aload_n 0, 1) := by decide +kernel
theorem dX9_restore_49 : decode cX9_restore 49 = .ok (.getfield 22, 3) := by decide +kernel
theorem dX9_restore_52 : decode cX9_restore 52 = .ok (.sipush 340, 3) := by decide +kernel
theorem dX9_restore_55 : decode cX9_restore 55 = .ok (.iload_n 1, 1) := by decide +kernel
theorem dX9_restore_56 : decode cX9_restore 56 = .ok (.imul, 1) := by decide +kernel
theorem dX9_restore_57 : decode cX9_restore 57 = .ok (.iload_n 2, 1) := by decide +kernel
theorem dX9_restore_58 : decode cX9_restore 58 = .ok (.iadd, 1) := by decide +kernel
theorem dX9_restore_59 : decode cX9_restore 59 = .ok (.iaload, 1) := by decide +kernel
theorem dX9_restore_60 : decode cX9_restore 60 = .ok (.iastore, 1) := by decide +kernel
theorem dX9_restore_61 : decode cX9_restore 61 = .ok (.iinc 2 1, 3) := by decide +kernel
theorem dX9_restore_64 : decode cX9_restore 64 = .ok (.goto (-28), 3) := by decide +kernel
theorem dX9_restore_67 : decode cX9_restore 67 = .ok (.iconst 0, 1) := by decide +kernel
theorem dX9_restore_68 : decode cX9_restore 68 = .ok (.istore_n 2, 1) := by decide +kernel
theorem dX9_restore_69 : decode cX9_restore 69 = .ok (.iload_n 2, 1) := by decide +kernel
theorem dX9_restore_70 : decode cX9_restore 70 = .ok (.bipush 30, 2) := by decide +kernel
theorem dX9_restore_72 : decode cX9_restore 72 = .ok (.if_icmp .ge 26, 3) := by decide +kernel
theorem dX9_restore_75 : decode cX9_restore 75 = .ok (.aload_n 0, 1) := by decide +kernel
theorem dX9_restore_76 : decode cX9_restore 76 = .ok (.getfield 28, 3) := by decide +kernel
theorem dX9_restore_79 : decode cX9_restore 79 = .ok (.iload_n 2, 1) := by decide +kernel
theorem dX9_restore_80 : decode cX9_restore 80 = .ok (.aload_n 0, 1) := by decide +kernel
theorem dX9_restore_81 : decode cX9_restore 81 = .ok (.getfield 35, 3) := by decide +kernel
theorem dX9_restore_84 : decode cX9_restore 84 = .ok (.bipush 30, 2) := by decide +kernel
theorem dX9_restore_86 : decode cX9_restore 86 = .ok (.iload_n 1, 1) := by decide +kernel
theorem dX9_restore_87 : decode cX9_restore 87 = .ok (.imul, 1) := by decide +kernel
theorem dX9_restore_88 : decode cX9_restore 88 = .ok (.iload_n 2, 1) := by decide +kernel
theorem dX9_restore_89 : decode cX9_restore 89 = .ok (.iadd, 1) := by decide +kernel
theorem dX9_restore_90 : decode cX9_restore 90 = .ok (.laload, 1) := by decide +kernel
theorem dX9_restore_91 : decode cX9_restore 91 = .ok (.lastore, 1) := by decide +kernel
theorem dX9_restore_92 : decode cX9_restore 92 = .ok (.iinc 2 1, 3) := by decide +kernel
theorem dX9_restore_95 : decode cX9_restore 95 = .ok (.goto (-26), 3) := by decide +kernel
theorem dX9_restore_98 : decode cX9_restore 98 = .ok (.return_, 1) := by decide +kernel
theorem dJ0_length_8abf5_0 : decode cJ0_length_8abf5 0 = .ok (.aload_n 0, 1) := by decide +kernel
theorem dJ0_length_8abf5_1 : decode cJ0_length_8abf5 1 = .ok (.getfield 9, 3) := by decide +kernel
theorem dJ0_length_8abf5_4 : decode cJ0_length_8abf5 4 = .ok (.arraylength, 1) := by decide +kernel
theorem dJ0_length_8abf5_5 : decode cJ0_length_8abf5 5 = .ok (.aload_n 0, 1) := by decide +kernel
theorem dJ0_length_8abf5_6 : decode cJ0_length_8abf5 6 = .ok (.invokevirtual 335, 3) := by decide +kernel
theorem dJ0_length_8abf5_9 : decode cJ0_length_8abf5 9 = .ok (.ishr, 1) := by decide +kernel
theorem dJ0_length_8abf5_10 : decode cJ0_length_8abf5 10 = .ok (.ireturn, 1) := by decide +kernel
theorem dJ0_charAt_5068e_0 : decode cJ0_charAt_5068e 0 = .ok (.aload_n 0, 1) := by decide +kernel
theorem dJ0_charAt_5068e_1 : decode cJ0_charAt_5068e 1 = .ok (.invokevirtual 492, 3) := by decide +kernel
theorem dJ0_charAt_5068e_4 : decode cJ0_charAt_5068e 4 = .ok (.ifCond .eq 12, 3) := by decide +kernel
theorem dJ0_charAt_5068e_7 : decode cJ0_charAt_5068e 7 = .ok (.aload_n 0, 1) := by decide +kernel
theorem dJ0_charAt_5068e_8 : decode cJ0_charAt_5068e 8 = .ok (.getfield 9, 3) := by decide +kernel
theorem dJ0_charAt_5068e_11 : decode cJ0_charAt_5068e 11 = .ok (.iload_n 1, 1) := by decide +kernel
theorem dJ0_charAt_5068e_12 : decode cJ0_charAt_5068e 12 = .ok (.invokestatic 495, 3) := by decide +kernel
theorem dJ0_charAt_5068e_15 : decode cJ0_charAt_5068e 15 = .ok (.ireturn, 1) := by decide +kernel
theorem dJ0_charAt_5068e_16 : decode cJ0_charAt_5068e 16 = .ok (.aload_n 0, 1) := by decide +kernel
theorem dJ0_charAt_5068e_17 : decode cJ0_charAt_5068e 17 = .ok (.getfield 9, 3) := by decide +kernel
theorem dJ0_charAt_5068e_20 : decode cJ0_charAt_5068e 20 = .ok (.iload_n 1, 1) := by decide +kernel
theorem dJ0_charAt_5068e_21 : decode cJ0_charAt_5068e 21 = .ok (.invokestatic 498, 3) := by decide +kernel
theorem dJ0_charAt_5068e_24 : decode cJ0_charAt_5068e 24 = .ok (.ireturn, 1) := by decide +kernel
theorem dJ0_coder_7d493_0 : decode cJ0_coder_7d493 0 = .ok (.getstatic 38, 3) := by decide +kernel
theorem dJ0_coder_7d493_3 : decode cJ0_coder_7d493 3 = .ok (.ifCond .eq 10, 3) := by decide +kernel
theorem dJ0_coder_7d493_6 : decode cJ0_coder_7d493 6 = .ok (.aload_n 0, 1) := by decide +kernel
theorem dJ0_coder_7d493_7 : decode cJ0_coder_7d493 7 = .ok (.getfield 15, 3) := by decide +kernel
theorem dJ0_coder_7d493_10 : decode cJ0_coder_7d493 10 = .ok (.goto 4, 3) := by decide +kernel
theorem dJ0_coder_7d493_13 : decode cJ0_coder_7d493 13 = .ok (.iconst 1, 1) := by decide +kernel
theorem dJ0_coder_7d493_14 : decode cJ0_coder_7d493 14 = .ok (.ireturn, 1) := by decide +kernel
theorem dJ0_isLatin1_aae02_0 : decode cJ0_isLatin1_aae02 0 = .ok (.getstatic 38, 3) := by decide +kernel
theorem dJ0_isLatin1_aae02_3 : decode cJ0_isLatin1_aae02 3 = .ok (.ifCond .eq 14, 3) := by decide +kernel
theorem dJ0_isLatin1_aae02_6 : decode cJ0_isLatin1_aae02 6 = .ok (.aload_n 0, 1) := by decide +kernel
theorem dJ0_isLatin1_aae02_7 : decode cJ0_isLatin1_aae02 7 = .ok (.getfield 15, 3) := by decide +kernel
theorem dJ0_isLatin1_aae02_10 : decode cJ0_isLatin1_aae02 10 = .ok (.ifCond .ne 7, 3) := by decide +kernel
theorem dJ0_isLatin1_aae02_13 : decode cJ0_isLatin1_aae02 13 = .ok (.iconst 1, 1) := by decide +kernel
theorem dJ0_isLatin1_aae02_14 : decode cJ0_isLatin1_aae02 14 = .ok (.goto 4, 3) := by decide +kernel
theorem dJ0_isLatin1_aae02_17 : decode cJ0_isLatin1_aae02 17 = .ok (.iconst 0, 1) := by decide +kernel
theorem dJ0_isLatin1_aae02_18 : decode cJ0_isLatin1_aae02 18 = .ok (.ireturn, 1) := by decide +kernel
theorem dJ0_checkIndex_df160_0 : decode cJ0_checkIndex_df160 0 = .ok (.iload_n 0, 1) := by decide +kernel
theorem dJ0_checkIndex_df160_1 : decode cJ0_checkIndex_df160 1 = .ok (.iload_n 1, 1) := by decide +kernel
theorem dJ0_checkIndex_df160_2 : decode cJ0_checkIndex_df160 2 = .ok (.getstatic 1053, 3) := by decide +kernel
theorem dJ0_checkIndex_df160_5 : decode cJ0_checkIndex_df160 5 = .ok (.invokestatic 1059, 3) := by decide +kernel
theorem dJ0_checkIndex_df160_8 : decode cJ0_checkIndex_df160 8 = .ok (.pop, 1) := by decide +kernel
theorem dJ0_checkIndex_df160_9 : decode cJ0_checkIndex_df160 9 = .ok (.return_, 1) := by decide +kernel
theorem dJ1_charAt_3b067_0 : decode cJ1_charAt_3b067 0 = .ok (.iload_n 1, 1) := by decide +kernel
theorem dJ1_charAt_3b067_1 : decode cJ1_charAt_3b067 1 = .ok (.aload_n 0, 1) := by decide +kernel
theorem dJ1_charAt_3b067_2 : decode cJ1_charAt_3b067 2 = .ok (.arraylength, 1) := by decide +kernel
theorem dJ1_charAt_3b067_3 : decode cJ1_charAt_3b067 3 = .ok (.invokestatic 9, 3) := by decide +kernel
theorem dJ1_charAt_3b067_6 : decode cJ1_charAt_3b067 6 = .ok (.aload_n 0, 1) := by decide +kernel
theorem dJ1_charAt_3b067_7 : decode cJ1_charAt_3b067 7 = .ok (.iload_n 1, 1) := by decide +kernel
theorem dJ1_charAt_3b067_8 : decode cJ1_charAt_3b067 8 = .ok (.baload, 1) := by decide +kernel
theorem dJ1_charAt_3b067_9 : decode cJ1_charAt_3b067 9 = .ok (.sipush 255, 3) := by decide +kernel
theorem dJ1_charAt_3b067_12 : decode cJ1_charAt_3b067 12 = .ok (.iand, 1) := by decide +kernel
theorem dJ1_charAt_3b067_13 : decode cJ1_charAt_3b067 13 = .ok (.i2c, 1) := by decide +kernel
theorem dJ1_charAt_3b067_14 : decode cJ1_charAt_3b067 14 = .ok (.ireturn, 1) := by decide +kernel
theorem dJ2_getChar_3b067_0 : decode cJ2_getChar_3b067 0 = .ok (.getstatic 44, 3) := by decide +kernel
theorem dJ2_getChar_3b067_3 : decode cJ2_getChar_3b067 3 = .ok (.ifCond .ne 25, 3) := by decide +kernel
theorem dJ2_getChar_3b067_6 : decode cJ2_getChar_3b067 6 = .ok (.iload_n 1, 1) := by decide +kernel
theorem dJ2_getChar_3b067_7 : decode cJ2_getChar_3b067 7 = .ok (.ifCond .lt 11, 3) := by decide +kernel
theorem dJ2_getChar_3b067_10 : decode cJ2_getChar_3b067 10 = .ok (.iload_n 1, 1) := by decide +kernel
theorem dJ2_getChar_3b067_11 : decode cJ2_getChar_3b067 11 = .ok (.aload_n 0, 1) := by decide +kernel
theorem dJ2_getChar_3b067_12 : decode cJ2_getChar_3b067 12 = .ok (.invokestatic 48, 3) := by decide +kernel
theorem dJ2_getChar_3b067_15 : decode cJ2_getChar_3b067 15 = .ok (.if_icmp .lt 13, 3) := by decide +kernel
theorem dJ2_getChar_3b067_18 : decode cJ2_getChar_3b067 18 = .ok (.new 52, 3) := by decide +kernel
theorem dJ2_getChar_3b067_21 : decode cJ2_getChar_3b067 21 = .ok (.dup, 1) := by decide +kernel
theorem dJ2_getChar_3b067_22 : decode cJ2_getChar_3b067 22 = .ok (.ldc 54, 2) := by decide +kernel
theorem dJ2_getChar_3b067_24 : decode cJ2_getChar_3b067 24 = .ok (.invokespecial 56, 3) := by decide +kernel
theorem dJ2_getChar_3b067_27 : decode cJ2_getChar_3b067 27 = .ok (.athrow, 1) := by decide +kernel
theorem dJ2_getChar_3b067_28 : decode cJ2_getChar_3b067 28 = .ok (.iload_n 1, 1) := by decide +kernel
theorem dJ2_getChar_3b067_29 : decode cJ2_getChar_3b067 29 = .ok (.iconst 1, 1) := by decide +kernel
theorem dJ2_getChar_3b067_30 : decode cJ2_getChar_3b067 30 = .ok (.ishl, 1) := by decide +kernel
theorem dJ2_getChar_3b067_31 : decode cJ2_getChar_3b067 31 = .ok (.istore_n 1, 1) := by decide +kernel
theorem dJ2_getChar_3b067_32 : decode cJ2_getChar_3b067 32 = .ok (.aload_n 0, 1) := by decide +kernel
theorem dJ2_getChar_3b067_33 : decode cJ2_getChar_3b067 33 = .ok (.iload_n 1, 1) := by decide +kernel
theorem dJ2_getChar_3b067_34 : decode cJ2_getChar_3b067 34 = .ok (.iinc 1 1, 3) := by decide +kernel
theorem dJ2_getChar_3b067_37 : decode cJ2_getChar_3b067 37 = .ok (.baload, 1) := by decide +kernel
theorem dJ2_getChar_3b067_38 : decode cJ2_getChar_3b067 38 = .ok (.sipush 255, 3) := by decide +kernel
theorem dJ2_getChar_3b067_41 : decode cJ2_getChar_3b067 41 = .ok (.iand, 1) := by decide +kernel
theorem dJ2_getChar_3b067_42 : decode cJ2_getChar_3b067 42 = .ok (.getstatic 59, 3) := by decide +kernel
theorem dJ2_getChar_3b067_45 : decode cJ2_getChar_3b067 45 = .ok (.ishl, 1) := by decide +kernel
theorem dJ2_getChar_3b067_46 : decode cJ2_getChar_3b067 46 = .ok (.aload_n 0, 1) := by decide +kernel
theorem dJ2_getChar_3b067_47 : decode cJ2_getChar_3b067 47 = .ok (.iload_n 1, 1) := by decide +kernel
theorem dJ2_getChar_3b067_48 : decode cJ2_getChar_3b067 48 = .ok (.baload, 1) := by decide +kernel
theorem dJ2_getChar_3b067_49 : decode cJ2_getChar_3b067 49 = .ok (.sipush 255, 3) := by decide +kernel
theorem dJ2_getChar_3b067_52 : decode cJ2_getChar_3b067 52 = .ok (.iand, 1) := by decide +kernel
theorem dJ2_getChar_3b067_53 : decode cJ2_getChar_3b067 53 = .ok (.getstatic 63, 3) := by decide +kernel
theorem dJ2_getChar_3b067_56 : decode cJ2_getChar_3b067 56 = .ok (.ishl, 1) := by decide +kernel
theorem dJ2_getChar_3b067_57 : decode cJ2_getChar_3b067 57 = .ok (.ior, 1) := by decide +kernel
theorem dJ2_getChar_3b067_58 : decode cJ2_getChar_3b067 58 = .ok (.i2c, 1) := by decide +kernel
theorem dJ2_getChar_3b067_59 : decode cJ2_getChar_3b067 59 = .ok (.ireturn, 1) := by decide +kernel
theorem dJ2_length_9d52b_0 : decode cJ2_length_9d52b 0 = .ok (.aload_n 0, 1) := by decide +kernel
theorem dJ2_length_9d52b_1 : decode cJ2_length_9d52b 1 = .ok (.arraylength, 1) := by decide +kernel
theorem dJ2_length_9d52b_2 : decode cJ2_length_9d52b 2 = .ok (.iconst 1, 1) := by decide +kernel
theorem dJ2_length_9d52b_3 : decode cJ2_length_9d52b 3 = .ok (.ishr, 1) := by decide +kernel
theorem dJ2_length_9d52b_4 : decode cJ2_length_9d52b 4 = .ok (.ireturn, 1) := by decide +kernel
theorem dJ2_charAt_3b067_0 : decode cJ2_charAt_3b067 0 = .ok (.iload_n 1, 1) := by decide +kernel
theorem dJ2_charAt_3b067_1 : decode cJ2_charAt_3b067 1 = .ok (.aload_n 0, 1) := by decide +kernel
theorem dJ2_charAt_3b067_2 : decode cJ2_charAt_3b067 2 = .ok (.invokestatic 67, 3) := by decide +kernel
theorem dJ2_charAt_3b067_5 : decode cJ2_charAt_3b067 5 = .ok (.aload_n 0, 1) := by decide +kernel
theorem dJ2_charAt_3b067_6 : decode cJ2_charAt_3b067 6 = .ok (.iload_n 1, 1) := by decide +kernel
theorem dJ2_charAt_3b067_7 : decode cJ2_charAt_3b067 7 = .ok (.invokestatic 71, 3) := by decide +kernel
theorem dJ2_charAt_3b067_10 : decode cJ2_charAt_3b067 10 = .ok (.ireturn, 1) := by decide +kernel
theorem dJ2_checkIndex_2214a_0 : decode cJ2_checkIndex_2214a 0 = .ok (.iload_n 0, 1) := by decide +kernel
theorem dJ2_checkIndex_2214a_1 : decode cJ2_checkIndex_2214a 1 = .ok (.aload_n 1, 1) := by decide +kernel
theorem dJ2_checkIndex_2214a_2 : decode cJ2_checkIndex_2214a 2 = .ok (.invokestatic 48, 3) := by decide +kernel
theorem dJ2_checkIndex_2214a_5 : decode cJ2_checkIndex_2214a 5 = .ok (.invokestatic 414, 3) := by decide +kernel
theorem dJ2_checkIndex_2214a_8 : decode cJ2_checkIndex_2214a 8 = .ok (.return_, 1) := by decide +kernel
theorem dJ3_checkIndex_8e157_0 : decode cJ3_checkIndex_8e157 0 = .ok (.iload_n 0, 1) := by decide +kernel
theorem dJ3_checkIndex_8e157_1 : decode cJ3_checkIndex_8e157 1 = .ok (.ifCond .lt 8, 3) := by decide +kernel
theorem dJ3_checkIndex_8e157_4 : decode cJ3_checkIndex_8e157 4 = .ok (.iload_n 0, 1) := by decide +kernel
theorem dJ3_checkIndex_8e157_5 : decode cJ3_checkIndex_8e157 5 = .ok (.iload_n 1, 1) := by decide +kernel
theorem dJ3_checkIndex_8e157_6 : decode cJ3_checkIndex_8e157 6 = .ok (.if_icmp .lt 10, 3) := by decide +kernel
theorem dJ3_checkIndex_8e157_9 : decode cJ3_checkIndex_8e157 9 = .ok (.aload_n 2, 1) := by decide +kernel
theorem dJ3_checkIndex_8e157_10 : decode cJ3_checkIndex_8e157 10 = .ok (.iload_n 0, 1) := by decide +kernel
theorem dJ3_checkIndex_8e157_11 : decode cJ3_checkIndex_8e157 11 = .ok (.iload_n 1, 1) := by decide +kernel
theorem dJ3_checkIndex_8e157_12 : decode cJ3_checkIndex_8e157 12 = .ok (.invokestatic 95, 3) := by decide +kernel
theorem dJ3_checkIndex_8e157_15 : decode cJ3_checkIndex_8e157 15 = .ok (.athrow, 1) := by decide +kernel
theorem dJ3_checkIndex_8e157_16 : decode cJ3_checkIndex_8e157 16 = .ok (.iload_n 0, 1) := by decide +kernel
theorem dJ3_checkIndex_8e157_17 : decode cJ3_checkIndex_8e157 17 = .ok (.ireturn, 1) := by decide +kernel
theorem dL_append_0 : decode cL_append 0 = .ok (.aload 6, 2) := by decide +kernel
theorem dL_append_2 : decode cL_append 2 = .ok (.iconst 0, 1) := by decide +kernel
theorem dL_append_3 : decode cL_append 3 = .ok (.aload_n 0, 1) := by decide +kernel
theorem dL_append_4 : decode cL_append 4 = .ok (.iload_n 1, 1) := by decide +kernel
theorem dL_append_5 : decode cL_append 5 = .ok (.iload_n 2, 1) := by decide +kernel
theorem dL_append_6 : decode cL_append 6 = .ok (.iload_n 3, 1) := by decide +kernel
theorem dL_append_7 : decode cL_append 7 = .ok (.iload 4, 2) := by decide +kernel
theorem dL_append_9 : decode cL_append 9 = .ok (.iload 5, 2) := by decide +kernel
theorem dL_append_11 : decode cL_append 11 = .ok (.invokevirtual 7, 3) := by decide +kernel
theorem dL_append_14 : decode cL_append 14 = .ok (.i2l, 1) := by decide +kernel
theorem dL_append_15 : decode cL_append 15 = .ok (.lastore, 1) := by decide +kernel
theorem dL_append_16 : decode cL_append 16 = .ok (.goto 7, 3) := by decide +kernel
theorem dL_append_19 : decode cL_append 19 = .ok (.astore 7, 2) := by decide +kernel
theorem dL_append_21 : decode cL_append 21 = .ok (.iconst 1, 1) := by decide +kernel
theorem dL_append_22 : decode cL_append 22 = .ok (.ireturn, 1) := by decide +kernel
theorem dL_append_23 : decode cL_append 23 = .ok (.iconst 0, 1) := by decide +kernel
theorem dL_append_24 : decode cL_append 24 = .ok (.ireturn, 1) := by decide +kernel
theorem dL_truncate_0 : decode cL_truncate 0 = .ok (.aload_n 2, 1) := by decide +kernel
theorem dL_truncate_1 : decode cL_truncate 1 = .ok (.iconst 0, 1) := by decide +kernel
theorem dL_truncate_2 : decode cL_truncate 2 = .ok (.aload_n 0, 1) := by decide +kernel
theorem dL_truncate_3 : decode cL_truncate 3 = .ok (.iload_n 1, 1) := by decide +kernel
theorem dL_truncate_4 : decode cL_truncate 4 = .ok (.invokevirtual 15, 3) := by decide +kernel
theorem dL_truncate_7 : decode cL_truncate 7 = .ok (.i2l, 1) := by decide +kernel
theorem dL_truncate_8 : decode cL_truncate 8 = .ok (.lastore, 1) := by decide +kernel
theorem dL_truncate_9 : decode cL_truncate 9 = .ok (.goto 6, 3) := by decide +kernel
theorem dL_truncate_12 : decode cL_truncate 12 = .ok (.astore_n 3, 1) := by decide +kernel
theorem dL_truncate_13 : decode cL_truncate 13 = .ok (.iconst 1, 1) := by decide +kernel
theorem dL_truncate_14 : decode cL_truncate 14 = .ok (.ireturn, 1) := by decide +kernel
theorem dL_truncate_15 : decode cL_truncate 15 = .ok (.iconst 0, 1) := by decide +kernel
theorem dL_truncate_16 : decode cL_truncate 16 = .ok (.ireturn, 1) := by decide +kernel
theorem dL_load_0 : decode cL_load 0 = .ok (.aload_n 1, 1) := by decide +kernel
theorem dL_load_1 : decode cL_load 1 = .ok (.iconst 0, 1) := by decide +kernel
theorem dL_load_2 : decode cL_load 2 = .ok (.aload_n 0, 1) := by decide +kernel
theorem dL_load_3 : decode cL_load 3 = .ok (.invokevirtual 21, 3) := by decide +kernel
theorem dL_load_6 : decode cL_load 6 = .ok (.i2l, 1) := by decide +kernel
theorem dL_load_7 : decode cL_load 7 = .ok (.lastore, 1) := by decide +kernel
theorem dL_load_8 : decode cL_load 8 = .ok (.goto 6, 3) := by decide +kernel
theorem dL_load_11 : decode cL_load 11 = .ok (.astore_n 2, 1) := by decide +kernel
theorem dL_load_12 : decode cL_load 12 = .ok (.iconst 1, 1) := by decide +kernel
theorem dL_load_13 : decode cL_load 13 = .ok (.ireturn, 1) := by decide +kernel
theorem dL_load_14 : decode cL_load 14 = .ok (.iconst 0, 1) := by decide +kernel
theorem dL_load_15 : decode cL_load 15 = .ok (.ireturn, 1) := by decide +kernel
theorem dL_report_0 : decode cL_report 0 = .ok (.aload_n 2, 1) := by decide +kernel
theorem dL_report_1 : decode cL_report 1 = .ok (.iconst 0, 1) := by decide +kernel
theorem dL_report_2 : decode cL_report 2 = .ok (.aload_n 0, 1) := by decide +kernel
theorem dL_report_3 : decode cL_report 3 = .ok (.iload_n 1, 1) := by decide +kernel
theorem dL_report_4 : decode cL_report 4 = .ok (.invokevirtual 27, 3) := by decide +kernel
theorem dL_report_7 : decode cL_report 7 = .ok (.i2l, 1) := by decide +kernel
theorem dL_report_8 : decode cL_report 8 = .ok (.lastore, 1) := by decide +kernel
theorem dL_report_9 : decode cL_report 9 = .ok (.goto 6, 3) := by decide +kernel
theorem dL_report_12 : decode cL_report 12 = .ok (.astore_n 3, 1) := by decide +kernel
theorem dL_report_13 : decode cL_report 13 = .ok (.iconst 1, 1) := by decide +kernel
theorem dL_report_14 : decode cL_report 14 = .ok (.ireturn, 1) := by decide +kernel
theorem dL_report_15 : decode cL_report 15 = .ok (.iconst 0, 1) := by decide +kernel
theorem dL_report_16 : decode cL_report 16 = .ok (.ireturn, 1) := by decide +kernel
theorem dL_setPoint_0 : decode cL_setPoint 0 = .ok (.aload_n 2, 1) := by decide +kernel
theorem dL_setPoint_1 : decode cL_setPoint 1 = .ok (.iconst 0, 1) := by decide +kernel
theorem dL_setPoint_2 : decode cL_setPoint 2 = .ok (.aload_n 0, 1) := by decide +kernel
theorem dL_setPoint_3 : decode cL_setPoint 3 = .ok (.iload_n 1, 1) := by decide +kernel
theorem dL_setPoint_4 : decode cL_setPoint 4 = .ok (.invokevirtual 30, 3) := by decide +kernel
theorem dL_setPoint_7 : decode cL_setPoint 7 = .ok (.i2l, 1) := by decide +kernel
theorem dL_setPoint_8 : decode cL_setPoint 8 = .ok (.lastore, 1) := by decide +kernel
theorem dL_setPoint_9 : decode cL_setPoint 9 = .ok (.goto 6, 3) := by decide +kernel
theorem dL_setPoint_12 : decode cL_setPoint 12 = .ok (.astore_n 3, 1) := by decide +kernel
theorem dL_setPoint_13 : decode cL_setPoint 13 = .ok (.iconst 1, 1) := by decide +kernel
theorem dL_setPoint_14 : decode cL_setPoint 14 = .ok (.ireturn, 1) := by decide +kernel
theorem dL_setPoint_15 : decode cL_setPoint 15 = .ok (.iconst 0, 1) := by decide +kernel
theorem dL_setPoint_16 : decode cL_setPoint 16 = .ok (.ireturn, 1) := by decide +kernel
theorem dL_visitors_0 : decode cL_visitors 0 = .ok (.aload_n 2, 1) := by decide +kernel
theorem dL_visitors_1 : decode cL_visitors 1 = .ok (.iconst 0, 1) := by decide +kernel
theorem dL_visitors_2 : decode cL_visitors 2 = .ok (.aload_n 0, 1) := by decide +kernel
theorem dL_visitors_3 : decode cL_visitors 3 = .ok (.iload_n 1, 1) := by decide +kernel
theorem dL_visitors_4 : decode cL_visitors 4 = .ok (.invokevirtual 33, 3) := by decide +kernel
theorem dL_visitors_7 : decode cL_visitors 7 = .ok (.i2l, 1) := by decide +kernel
theorem dL_visitors_8 : decode cL_visitors 8 = .ok (.lastore, 1) := by decide +kernel
theorem dL_visitors_9 : decode cL_visitors 9 = .ok (.goto 6, 3) := by decide +kernel
theorem dL_visitors_12 : decode cL_visitors 12 = .ok (.astore_n 3, 1) := by decide +kernel
theorem dL_visitors_13 : decode cL_visitors 13 = .ok (.iconst 1, 1) := by decide +kernel
theorem dL_visitors_14 : decode cL_visitors 14 = .ok (.ireturn, 1) := by decide +kernel
theorem dL_visitors_15 : decode cL_visitors 15 = .ok (.iconst 0, 1) := by decide +kernel
theorem dL_visitors_16 : decode cL_visitors 16 = .ok (.ireturn, 1) := by decide +kernel
theorem dL_content_0 : decode cL_content 0 = .ok (.aload_n 3, 1) := by decide +kernel
theorem dL_content_1 : decode cL_content 1 = .ok (.iconst 0, 1) := by decide +kernel
theorem dL_content_2 : decode cL_content 2 = .ok (.aload_n 0, 1) := by decide +kernel
theorem dL_content_3 : decode cL_content 3 = .ok (.iload_n 1, 1) := by decide +kernel
theorem dL_content_4 : decode cL_content 4 = .ok (.iload_n 2, 1) := by decide +kernel
theorem dL_content_5 : decode cL_content 5 = .ok (.invokevirtual 36, 3) := by decide +kernel
theorem dL_content_8 : decode cL_content 8 = .ok (.i2l, 1) := by decide +kernel
theorem dL_content_9 : decode cL_content 9 = .ok (.lastore, 1) := by decide +kernel
theorem dL_content_10 : decode cL_content 10 = .ok (.goto 7, 3) := by decide +kernel
theorem dL_content_13 : decode cL_content 13 = .ok (.astore 4, 2) := by decide +kernel
theorem dL_content_15 : decode cL_content 15 = .ok (.iconst 1, 1) := by decide +kernel
theorem dL_content_16 : decode cL_content 16 = .ok (.ireturn, 1) := by decide +kernel
theorem dL_content_17 : decode cL_content 17 = .ok (.iconst 0, 1) := by decide +kernel
theorem dL_content_18 : decode cL_content 18 = .ok (.ireturn, 1) := by decide +kernel
theorem dL_announce_0 : decode cL_announce 0 = .ok (.aload_n 2, 1) := by decide +kernel
theorem dL_announce_1 : decode cL_announce 1 = .ok (.iconst 0, 1) := by decide +kernel
theorem dL_announce_2 : decode cL_announce 2 = .ok (.aload_n 0, 1) := by decide +kernel
theorem dL_announce_3 : decode cL_announce 3 = .ok (.iload_n 1, 1) := by decide +kernel
theorem dL_announce_4 : decode cL_announce 4 = .ok (.invokevirtual 40, 3) := by decide +kernel
theorem dL_announce_7 : decode cL_announce 7 = .ok (.i2l, 1) := by decide +kernel
theorem dL_announce_8 : decode cL_announce 8 = .ok (.lastore, 1) := by decide +kernel
theorem dL_announce_9 : decode cL_announce 9 = .ok (.goto 9, 3) := by decide +kernel
theorem dL_announce_12 : decode cL_announce 12 = .ok (.astore_n 3, 1) := by decide +kernel
theorem dL_announce_13 : decode cL_announce 13 = .ok (.iconst 1, 1) := by decide +kernel
theorem dL_announce_14 : decode cL_announce 14 = .ok (.ireturn, 1) := by decide +kernel
theorem dL_announce_15 : decode cL_announce 15 = .ok (.astore_n 3, 1) := by decide +kernel
theorem dL_announce_16 : decode cL_announce 16 = .ok (.iconst 2, 1) := by decide +kernel
theorem dL_announce_17 : decode cL_announce 17 = .ok (.ireturn, 1) := by decide +kernel
theorem dL_announce_18 : decode cL_announce 18 = .ok (.iconst 0, 1) := by decide +kernel
theorem dL_announce_19 : decode cL_announce 19 = .ok (.ireturn, 1) := by decide +kernel
theorem dL_displayCase_0 : decode cL_displayCase 0 = .ok (.aload_n 3, 1) := by decide +kernel
theorem dL_displayCase_1 : decode cL_displayCase 1 = .ok (.iconst 0, 1) := by decide +kernel
theorem dL_displayCase_2 : decode cL_displayCase 2 = .ok (.aload_n 0, 1) := by decide +kernel
theorem dL_displayCase_3 : decode cL_displayCase 3 = .ok (.iload_n 1, 1) := by decide +kernel
theorem dL_displayCase_4 : decode cL_displayCase 4 = .ok (.iload_n 2, 1) := by decide +kernel
theorem dL_displayCase_5 : decode cL_displayCase 5 = .ok (.invokevirtual 43, 3) := by decide +kernel
theorem dL_displayCase_8 : decode cL_displayCase 8 = .ok (.i2l, 1) := by decide +kernel
theorem dL_displayCase_9 : decode cL_displayCase 9 = .ok (.lastore, 1) := by decide +kernel
theorem dL_displayCase_10 : decode cL_displayCase 10 = .ok (.goto 11, 3) := by decide +kernel
theorem dL_displayCase_13 : decode cL_displayCase 13 = .ok (.astore 4, 2) := by decide +kernel
theorem dL_displayCase_15 : decode cL_displayCase 15 = .ok (.iconst 1, 1) := by decide +kernel
theorem dL_displayCase_16 : decode cL_displayCase 16 = .ok (.ireturn, 1) := by decide +kernel
theorem dL_displayCase_17 : decode cL_displayCase 17 = .ok (.astore 4, 2) := by decide +kernel
theorem dL_displayCase_19 : decode cL_displayCase 19 = .ok (.iconst 2, 1) := by decide +kernel
theorem dL_displayCase_20 : decode cL_displayCase 20 = .ok (.ireturn, 1) := by decide +kernel
theorem dL_displayCase_21 : decode cL_displayCase 21 = .ok (.iconst 0, 1) := by decide +kernel
theorem dL_displayCase_22 : decode cL_displayCase 22 = .ok (.ireturn, 1) := by decide +kernel
theorem dL_balance_0 : decode cL_balance 0 = .ok (.aload_n 3, 1) := by decide +kernel
theorem dL_balance_1 : decode cL_balance 1 = .ok (.iconst 0, 1) := by decide +kernel
theorem dL_balance_2 : decode cL_balance 2 = .ok (.aload_n 0, 1) := by decide +kernel
theorem dL_balance_3 : decode cL_balance 3 = .ok (.iload_n 1, 1) := by decide +kernel
theorem dL_balance_4 : decode cL_balance 4 = .ok (.iload_n 2, 1) := by decide +kernel
theorem dL_balance_5 : decode cL_balance 5 = .ok (.invokevirtual 46, 3) := by decide +kernel
theorem dL_balance_8 : decode cL_balance 8 = .ok (.lastore, 1) := by decide +kernel
theorem dL_balance_9 : decode cL_balance 9 = .ok (.goto 11, 3) := by decide +kernel
theorem dL_balance_12 : decode cL_balance 12 = .ok (.astore 4, 2) := by decide +kernel
theorem dL_balance_14 : decode cL_balance 14 = .ok (.iconst 1, 1) := by decide +kernel
theorem dL_balance_15 : decode cL_balance 15 = .ok (.ireturn, 1) := by decide +kernel
theorem dL_balance_16 : decode cL_balance 16 = .ok (.astore 4, 2) := by decide +kernel
theorem dL_balance_18 : decode cL_balance 18 = .ok (.iconst 2, 1) := by decide +kernel
theorem dL_balance_19 : decode cL_balance 19 = .ok (.ireturn, 1) := by decide +kernel
theorem dL_balance_20 : decode cL_balance 20 = .ok (.iconst 0, 1) := by decide +kernel
theorem dL_balance_21 : decode cL_balance 21 = .ok (.ireturn, 1) := by decide +kernel
theorem dL_recorded_0 : decode cL_recorded 0 = .ok (.aload_n 3, 1) := by decide +kernel
theorem dL_recorded_1 : decode cL_recorded 1 = .ok (.iconst 0, 1) := by decide +kernel
theorem dL_recorded_2 : decode cL_recorded 2 = .ok (.aload_n 0, 1) := by decide +kernel
theorem dL_recorded_3 : decode cL_recorded 3 = .ok (.iload_n 1, 1) := by decide +kernel
theorem dL_recorded_4 : decode cL_recorded 4 = .ok (.iload_n 2, 1) := by decide +kernel
theorem dL_recorded_5 : decode cL_recorded 5 = .ok (.invokevirtual 50, 3) := by decide +kernel
theorem dL_recorded_8 : decode cL_recorded 8 = .ok (.i2l, 1) := by decide +kernel
theorem dL_recorded_9 : decode cL_recorded 9 = .ok (.lastore, 1) := by decide +kernel
theorem dL_recorded_10 : decode cL_recorded 10 = .ok (.goto 15, 3) := by decide +kernel
theorem dL_recorded_13 : decode cL_recorded 13 = .ok (.astore 4, 2) := by decide +kernel
theorem dL_recorded_15 : decode cL_recorded 15 = .ok (.iconst 1, 1) := by decide +kernel
theorem dL_recorded_16 : decode cL_recorded 16 = .ok (.ireturn, 1) := by decide +kernel
theorem dL_recorded_17 : decode cL_recorded 17 = .ok (.astore 4, 2) := by decide +kernel
theorem dL_recorded_19 : decode cL_recorded 19 = .ok (.iconst 2, 1) := by decide +kernel
theorem dL_recorded_20 : decode cL_recorded 20 = .ok (.ireturn, 1) := by decide +kernel
theorem dL_recorded_21 : decode cL_recorded 21 = .ok (.astore 4, 2) := by decide +kernel
theorem dL_recorded_23 : decode cL_recorded 23 = .ok (.iconst 3, 1) := by decide +kernel
theorem dL_recorded_24 : decode cL_recorded 24 = .ok (.ireturn, 1) := by decide +kernel
theorem dL_recorded_25 : decode cL_recorded 25 = .ok (.iconst 0, 1) := by decide +kernel
theorem dL_recorded_26 : decode cL_recorded 26 = .ok (.ireturn, 1) := by decide +kernel
theorem dL_swing_0 : decode cL_swing 0 = .ok (.aload_n 2, 1) := by decide +kernel
theorem dL_swing_1 : decode cL_swing 1 = .ok (.iconst 0, 1) := by decide +kernel
theorem dL_swing_2 : decode cL_swing 2 = .ok (.aload_n 0, 1) := by decide +kernel
theorem dL_swing_3 : decode cL_swing 3 = .ok (.iload_n 1, 1) := by decide +kernel
theorem dL_swing_4 : decode cL_swing 4 = .ok (.invokevirtual 55, 3) := by decide +kernel
theorem dL_swing_7 : decode cL_swing 7 = .ok (.i2l, 1) := by decide +kernel
theorem dL_swing_8 : decode cL_swing 8 = .ok (.lastore, 1) := by decide +kernel
theorem dL_swing_9 : decode cL_swing 9 = .ok (.goto 9, 3) := by decide +kernel
theorem dL_swing_12 : decode cL_swing 12 = .ok (.astore_n 3, 1) := by decide +kernel
theorem dL_swing_13 : decode cL_swing 13 = .ok (.iconst 1, 1) := by decide +kernel
theorem dL_swing_14 : decode cL_swing 14 = .ok (.ireturn, 1) := by decide +kernel
theorem dL_swing_15 : decode cL_swing 15 = .ok (.astore_n 3, 1) := by decide +kernel
theorem dL_swing_16 : decode cL_swing 16 = .ok (.iconst 2, 1) := by decide +kernel
theorem dL_swing_17 : decode cL_swing 17 = .ok (.ireturn, 1) := by decide +kernel
theorem dL_swing_18 : decode cL_swing 18 = .ok (.iconst 0, 1) := by decide +kernel
theorem dL_swing_19 : decode cL_swing 19 = .ok (.ireturn, 1) := by decide +kernel
theorem dL_mean_0 : decode cL_mean 0 = .ok (.aload_n 2, 1) := by decide +kernel
theorem dL_mean_1 : decode cL_mean 1 = .ok (.iconst 0, 1) := by decide +kernel
theorem dL_mean_2 : decode cL_mean 2 = .ok (.aload_n 0, 1) := by decide +kernel
theorem dL_mean_3 : decode cL_mean 3 = .ok (.iload_n 1, 1) := by decide +kernel
theorem dL_mean_4 : decode cL_mean 4 = .ok (.invokevirtual 58, 3) := by decide +kernel
theorem dL_mean_7 : decode cL_mean 7 = .ok (.dastore, 1) := by decide +kernel
theorem dL_mean_8 : decode cL_mean 8 = .ok (.goto 9, 3) := by decide +kernel
theorem dL_mean_11 : decode cL_mean 11 = .ok (.astore_n 3, 1) := by decide +kernel
theorem dL_mean_12 : decode cL_mean 12 = .ok (.iconst 1, 1) := by decide +kernel
theorem dL_mean_13 : decode cL_mean 13 = .ok (.ireturn, 1) := by decide +kernel
theorem dL_mean_14 : decode cL_mean 14 = .ok (.astore_n 3, 1) := by decide +kernel
theorem dL_mean_15 : decode cL_mean 15 = .ok (.iconst 2, 1) := by decide +kernel
theorem dL_mean_16 : decode cL_mean 16 = .ok (.ireturn, 1) := by decide +kernel
theorem dL_mean_17 : decode cL_mean 17 = .ok (.iconst 0, 1) := by decide +kernel
theorem dL_mean_18 : decode cL_mean 18 = .ok (.ireturn, 1) := by decide +kernel
theorem dL_buffering_0 : decode cL_buffering 0 = .ok (.aload_n 2, 1) := by decide +kernel
theorem dL_buffering_1 : decode cL_buffering 1 = .ok (.iconst 0, 1) := by decide +kernel
theorem dL_buffering_2 : decode cL_buffering 2 = .ok (.aload_n 0, 1) := by decide +kernel
theorem dL_buffering_3 : decode cL_buffering 3 = .ok (.iload_n 1, 1) := by decide +kernel
theorem dL_buffering_4 : decode cL_buffering 4 = .ok (.invokevirtual 62, 3) := by decide +kernel
theorem dL_buffering_7 : decode cL_buffering 7 = .ok (.dastore, 1) := by decide +kernel
theorem dL_buffering_8 : decode cL_buffering 8 = .ok (.goto 9, 3) := by decide +kernel
theorem dL_buffering_11 : decode cL_buffering 11 = .ok (.astore_n 3, 1) := by decide +kernel
theorem dL_buffering_12 : decode cL_buffering 12 = .ok (.iconst 1, 1) := by decide +kernel
theorem dL_buffering_13 : decode cL_buffering 13 = .ok (.ireturn, 1) := by decide +kernel
theorem dL_buffering_14 : decode cL_buffering 14 = .ok (.astore_n 3, 1) := by decide +kernel
theorem dL_buffering_15 : decode cL_buffering 15 = .ok (.iconst 2, 1) := by decide +kernel
theorem dL_buffering_16 : decode cL_buffering 16 = .ok (.ireturn, 1) := by decide +kernel
theorem dL_buffering_17 : decode cL_buffering 17 = .ok (.iconst 0, 1) := by decide +kernel
theorem dL_buffering_18 : decode cL_buffering 18 = .ok (.ireturn, 1) := by decide +kernel
theorem dL_setLeak_0 : decode cL_setLeak 0 = .ok (.aload_n 3, 1) := by decide +kernel
theorem dL_setLeak_1 : decode cL_setLeak 1 = .ok (.iconst 0, 1) := by decide +kernel
theorem dL_setLeak_2 : decode cL_setLeak 2 = .ok (.aload_n 0, 1) := by decide +kernel
theorem dL_setLeak_3 : decode cL_setLeak 3 = .ok (.iload_n 1, 1) := by decide +kernel
theorem dL_setLeak_4 : decode cL_setLeak 4 = .ok (.iload_n 2, 1) := by decide +kernel
theorem dL_setLeak_5 : decode cL_setLeak 5 = .ok (.invokevirtual 65, 3) := by decide +kernel
theorem dL_setLeak_8 : decode cL_setLeak 8 = .ok (.i2l, 1) := by decide +kernel
theorem dL_setLeak_9 : decode cL_setLeak 9 = .ok (.lastore, 1) := by decide +kernel
theorem dL_setLeak_10 : decode cL_setLeak 10 = .ok (.goto 11, 3) := by decide +kernel
theorem dL_setLeak_13 : decode cL_setLeak 13 = .ok (.astore 4, 2) := by decide +kernel
theorem dL_setLeak_15 : decode cL_setLeak 15 = .ok (.iconst 1, 1) := by decide +kernel
theorem dL_setLeak_16 : decode cL_setLeak 16 = .ok (.ireturn, 1) := by decide +kernel
theorem dL_setLeak_17 : decode cL_setLeak 17 = .ok (.astore 4, 2) := by decide +kernel
theorem dL_setLeak_19 : decode cL_setLeak 19 = .ok (.iconst 2, 1) := by decide +kernel
theorem dL_setLeak_20 : decode cL_setLeak 20 = .ok (.ireturn, 1) := by decide +kernel
theorem dL_setLeak_21 : decode cL_setLeak 21 = .ok (.iconst 0, 1) := by decide +kernel
theorem dL_setLeak_22 : decode cL_setLeak 22 = .ok (.ireturn, 1) := by decide +kernel
theorem dL_setSafe_0 : decode cL_setSafe 0 = .ok (.aload_n 0, 1) := by decide +kernel
theorem dL_setSafe_1 : decode cL_setSafe 1 = .ok (.iload_n 1, 1) := by decide +kernel
theorem dL_setSafe_2 : decode cL_setSafe 2 = .ok (.iload_n 2, 1) := by decide +kernel
theorem dL_setSafe_3 : decode cL_setSafe 3 = .ok (.iload_n 3, 1) := by decide +kernel
theorem dL_setSafe_4 : decode cL_setSafe 4 = .ok (.invokevirtual 68, 3) := by decide +kernel
theorem dL_setSafe_7 : decode cL_setSafe 7 = .ok (.goto 11, 3) := by decide +kernel
theorem dL_setSafe_10 : decode cL_setSafe 10 = .ok (.astore 4, 2) := by decide +kernel
theorem dL_setSafe_12 : decode cL_setSafe 12 = .ok (.iconst 1, 1) := by decide +kernel
theorem dL_setSafe_13 : decode cL_setSafe 13 = .ok (.ireturn, 1) := by decide +kernel
theorem dL_setSafe_14 : decode cL_setSafe 14 = .ok (.astore 4, 2) := by decide +kernel
theorem dL_setSafe_16 : decode cL_setSafe 16 = .ok (.iconst 2, 1) := by decide +kernel
theorem dL_setSafe_17 : decode cL_setSafe 17 = .ok (.ireturn, 1) := by decide +kernel
theorem dL_setSafe_18 : decode cL_setSafe 18 = .ok (.iconst 0, 1) := by decide +kernel
theorem dL_setSafe_19 : decode cL_setSafe 19 = .ok (.ireturn, 1) := by decide +kernel
theorem dL_open_0 : decode cL_open 0 = .ok (.aload_n 2, 1) := by decide +kernel
theorem dL_open_1 : decode cL_open 1 = .ok (.iconst 0, 1) := by decide +kernel
theorem dL_open_2 : decode cL_open 2 = .ok (.aload_n 0, 1) := by decide +kernel
theorem dL_open_3 : decode cL_open 3 = .ok (.iload_n 1, 1) := by decide +kernel
theorem dL_open_4 : decode cL_open 4 = .ok (.invokevirtual 72, 3) := by decide +kernel
theorem dL_open_7 : decode cL_open 7 = .ok (.i2l, 1) := by decide +kernel
theorem dL_open_8 : decode cL_open 8 = .ok (.lastore, 1) := by decide +kernel
theorem dL_open_9 : decode cL_open 9 = .ok (.goto 6, 3) := by decide +kernel
theorem dL_open_12 : decode cL_open 12 = .ok (.astore_n 3, 1) := by decide +kernel
theorem dL_open_13 : decode cL_open 13 = .ok (.iconst 1, 1) := by decide +kernel
theorem dL_open_14 : decode cL_open 14 = .ok (.ireturn, 1) := by decide +kernel
theorem dL_open_15 : decode cL_open 15 = .ok (.iconst 0, 1) := by decide +kernel
theorem dL_open_16 : decode cL_open 16 = .ok (.ireturn, 1) := by decide +kernel
theorem dL_cassette_0 : decode cL_cassette 0 = .ok (.aload 4, 2) := by decide +kernel
theorem dL_cassette_2 : decode cL_cassette 2 = .ok (.iconst 0, 1) := by decide +kernel
theorem dL_cassette_3 : decode cL_cassette 3 = .ok (.aload_n 0, 1) := by decide +kernel
theorem dL_cassette_4 : decode cL_cassette 4 = .ok (.iload_n 1, 1) := by decide +kernel
theorem dL_cassette_5 : decode cL_cassette 5 = .ok (.iload_n 2, 1) := by decide +kernel
theorem dL_cassette_6 : decode cL_cassette 6 = .ok (.iload_n 3, 1) := by decide +kernel
theorem dL_cassette_7 : decode cL_cassette 7 = .ok (.invokevirtual 75, 3) := by decide +kernel
theorem dL_cassette_10 : decode cL_cassette 10 = .ok (.i2l, 1) := by decide +kernel
theorem dL_cassette_11 : decode cL_cassette 11 = .ok (.lastore, 1) := by decide +kernel
theorem dL_cassette_12 : decode cL_cassette 12 = .ok (.goto 11, 3) := by decide +kernel
theorem dL_cassette_15 : decode cL_cassette 15 = .ok (.astore 5, 2) := by decide +kernel
theorem dL_cassette_17 : decode cL_cassette 17 = .ok (.iconst 1, 1) := by decide +kernel
theorem dL_cassette_18 : decode cL_cassette 18 = .ok (.ireturn, 1) := by decide +kernel
theorem dL_cassette_19 : decode cL_cassette 19 = .ok (.astore 5, 2) := by decide +kernel
theorem dL_cassette_21 : decode cL_cassette 21 = .ok (.iconst 2, 1) := by decide +kernel
theorem dL_cassette_22 : decode cL_cassette 22 = .ok (.ireturn, 1) := by decide +kernel
theorem dL_cassette_23 : decode cL_cassette 23 = .ok (.iconst 0, 1) := by decide +kernel
theorem dL_cassette_24 : decode cL_cassette 24 = .ok (.ireturn, 1) := by decide +kernel
theorem dL_caseOf_0 : decode cL_caseOf 0 = .ok (.aload_n 2, 1) := by decide +kernel
theorem dL_caseOf_1 : decode cL_caseOf 1 = .ok (.iconst 0, 1) := by decide +kernel
theorem dL_caseOf_2 : decode cL_caseOf 2 = .ok (.aload_n 0, 1) := by decide +kernel
theorem dL_caseOf_3 : decode cL_caseOf 3 = .ok (.iload_n 1, 1) := by decide +kernel
theorem dL_caseOf_4 : decode cL_caseOf 4 = .ok (.invokevirtual 79, 3) := by decide +kernel
theorem dL_caseOf_7 : decode cL_caseOf 7 = .ok (.i2l, 1) := by decide +kernel
theorem dL_caseOf_8 : decode cL_caseOf 8 = .ok (.lastore, 1) := by decide +kernel
theorem dL_caseOf_9 : decode cL_caseOf 9 = .ok (.goto 6, 3) := by decide +kernel
theorem dL_caseOf_12 : decode cL_caseOf 12 = .ok (.astore_n 3, 1) := by decide +kernel
theorem dL_caseOf_13 : decode cL_caseOf 13 = .ok (.iconst 1, 1) := by decide +kernel
theorem dL_caseOf_14 : decode cL_caseOf 14 = .ok (.ireturn, 1) := by decide +kernel
theorem dL_caseOf_15 : decode cL_caseOf 15 = .ok (.iconst 0, 1) := by decide +kernel
theorem dL_caseOf_16 : decode cL_caseOf 16 = .ok (.ireturn, 1) := by decide +kernel
theorem dL_add_0 : decode cL_add 0 = .ok (.aload 5, 2) := by decide +kernel
theorem dL_add_2 : decode cL_add 2 = .ok (.iconst 0, 1) := by decide +kernel
theorem dL_add_3 : decode cL_add 3 = .ok (.aload_n 0, 1) := by decide +kernel
theorem dL_add_4 : decode cL_add 4 = .ok (.iload_n 1, 1) := by decide +kernel
theorem dL_add_5 : decode cL_add 5 = .ok (.iload_n 2, 1) := by decide +kernel
theorem dL_add_6 : decode cL_add 6 = .ok (.iload_n 3, 1) := by decide +kernel
theorem dL_add_7 : decode cL_add 7 = .ok (.iload 4, 2) := by decide +kernel
theorem dL_add_9 : decode cL_add 9 = .ok (.invokevirtual 82, 3) := by decide +kernel
theorem dL_add_12 : decode cL_add 12 = .ok (.i2l, 1) := by decide +kernel
theorem dL_add_13 : decode cL_add 13 = .ok (.lastore, 1) := by decide +kernel
theorem dL_add_14 : decode cL_add 14 = .ok (.goto 15, 3) := by decide +kernel
theorem dL_add_17 : decode cL_add 17 = .ok (.astore 6, 2) := by decide +kernel
theorem dL_add_19 : decode cL_add 19 = .ok (.iconst 1, 1) := by decide +kernel
theorem dL_add_20 : decode cL_add 20 = .ok (.ireturn, 1) := by decide +kernel
theorem dL_add_21 : decode cL_add 21 = .ok (.astore 6, 2) := by decide +kernel
theorem dL_add_23 : decode cL_add 23 = .ok (.iconst 2, 1) := by decide +kernel
theorem dL_add_24 : decode cL_add 24 = .ok (.ireturn, 1) := by decide +kernel
theorem dL_add_25 : decode cL_add 25 = .ok (.astore 6, 2) := by decide +kernel
theorem dL_add_27 : decode cL_add 27 = .ok (.iconst 3, 1) := by decide +kernel
theorem dL_add_28 : decode cL_add 28 = .ok (.ireturn, 1) := by decide +kernel
theorem dL_add_29 : decode cL_add 29 = .ok (.iconst 0, 1) := by decide +kernel
theorem dL_add_30 : decode cL_add 30 = .ok (.ireturn, 1) := by decide +kernel
theorem dL_remove_0 : decode cL_remove 0 = .ok (.aload_n 2, 1) := by decide +kernel
theorem dL_remove_1 : decode cL_remove 1 = .ok (.iconst 0, 1) := by decide +kernel
theorem dL_remove_2 : decode cL_remove 2 = .ok (.aload_n 0, 1) := by decide +kernel
theorem dL_remove_3 : decode cL_remove 3 = .ok (.iload_n 1, 1) := by decide +kernel
theorem dL_remove_4 : decode cL_remove 4 = .ok (.invokevirtual 86, 3) := by decide +kernel
theorem dL_remove_7 : decode cL_remove 7 = .ok (.i2l, 1) := by decide +kernel
theorem dL_remove_8 : decode cL_remove 8 = .ok (.lastore, 1) := by decide +kernel
theorem dL_remove_9 : decode cL_remove 9 = .ok (.goto 6, 3) := by decide +kernel
theorem dL_remove_12 : decode cL_remove 12 = .ok (.astore_n 3, 1) := by decide +kernel
theorem dL_remove_13 : decode cL_remove 13 = .ok (.iconst 1, 1) := by decide +kernel
theorem dL_remove_14 : decode cL_remove 14 = .ok (.ireturn, 1) := by decide +kernel
theorem dL_remove_15 : decode cL_remove 15 = .ok (.iconst 0, 1) := by decide +kernel
theorem dL_remove_16 : decode cL_remove 16 = .ok (.ireturn, 1) := by decide +kernel
theorem dL_move_0 : decode cL_move 0 = .ok (.aload_n 3, 1) := by decide +kernel
theorem dL_move_1 : decode cL_move 1 = .ok (.iconst 0, 1) := by decide +kernel
theorem dL_move_2 : decode cL_move 2 = .ok (.aload_n 0, 1) := by decide +kernel
theorem dL_move_3 : decode cL_move 3 = .ok (.iload_n 1, 1) := by decide +kernel
theorem dL_move_4 : decode cL_move 4 = .ok (.iload_n 2, 1) := by decide +kernel
theorem dL_move_5 : decode cL_move 5 = .ok (.invokevirtual 89, 3) := by decide +kernel
theorem dL_move_8 : decode cL_move 8 = .ok (.i2l, 1) := by decide +kernel
theorem dL_move_9 : decode cL_move 9 = .ok (.lastore, 1) := by decide +kernel
theorem dL_move_10 : decode cL_move 10 = .ok (.goto 15, 3) := by decide +kernel
theorem dL_move_13 : decode cL_move 13 = .ok (.astore 4, 2) := by decide +kernel
theorem dL_move_15 : decode cL_move 15 = .ok (.iconst 1, 1) := by decide +kernel
theorem dL_move_16 : decode cL_move 16 = .ok (.ireturn, 1) := by decide +kernel
theorem dL_move_17 : decode cL_move 17 = .ok (.astore 4, 2) := by decide +kernel
theorem dL_move_19 : decode cL_move 19 = .ok (.iconst 2, 1) := by decide +kernel
theorem dL_move_20 : decode cL_move 20 = .ok (.ireturn, 1) := by decide +kernel
theorem dL_move_21 : decode cL_move 21 = .ok (.astore 4, 2) := by decide +kernel
theorem dL_move_23 : decode cL_move 23 = .ok (.iconst 3, 1) := by decide +kernel
theorem dL_move_24 : decode cL_move 24 = .ok (.ireturn, 1) := by decide +kernel
theorem dL_move_25 : decode cL_move 25 = .ok (.iconst 0, 1) := by decide +kernel
theorem dL_move_26 : decode cL_move 26 = .ok (.ireturn, 1) := by decide +kernel
theorem dL_exchange_0 : decode cL_exchange 0 = .ok (.aload_n 3, 1) := by decide +kernel
theorem dL_exchange_1 : decode cL_exchange 1 = .ok (.iconst 0, 1) := by decide +kernel
theorem dL_exchange_2 : decode cL_exchange 2 = .ok (.aload_n 0, 1) := by decide +kernel
theorem dL_exchange_3 : decode cL_exchange 3 = .ok (.iload_n 1, 1) := by decide +kernel
theorem dL_exchange_4 : decode cL_exchange 4 = .ok (.iload_n 2, 1) := by decide +kernel
theorem dL_exchange_5 : decode cL_exchange 5 = .ok (.invokevirtual 92, 3) := by decide +kernel
theorem dL_exchange_8 : decode cL_exchange 8 = .ok (.i2l, 1) := by decide +kernel
theorem dL_exchange_9 : decode cL_exchange 9 = .ok (.lastore, 1) := by decide +kernel
theorem dL_exchange_10 : decode cL_exchange 10 = .ok (.goto 11, 3) := by decide +kernel
theorem dL_exchange_13 : decode cL_exchange 13 = .ok (.astore 4, 2) := by decide +kernel
theorem dL_exchange_15 : decode cL_exchange 15 = .ok (.iconst 1, 1) := by decide +kernel
theorem dL_exchange_16 : decode cL_exchange 16 = .ok (.ireturn, 1) := by decide +kernel
theorem dL_exchange_17 : decode cL_exchange 17 = .ok (.astore 4, 2) := by decide +kernel
theorem dL_exchange_19 : decode cL_exchange 19 = .ok (.iconst 2, 1) := by decide +kernel
theorem dL_exchange_20 : decode cL_exchange 20 = .ok (.ireturn, 1) := by decide +kernel
theorem dL_exchange_21 : decode cL_exchange 21 = .ok (.iconst 0, 1) := by decide +kernel
theorem dL_exchange_22 : decode cL_exchange 22 = .ok (.ireturn, 1) := by decide +kernel
theorem dL_advance_0 : decode cL_advance 0 = .ok (.aload_n 2, 1) := by decide +kernel
theorem dL_advance_1 : decode cL_advance 1 = .ok (.iconst 0, 1) := by decide +kernel
theorem dL_advance_2 : decode cL_advance 2 = .ok (.aload_n 0, 1) := by decide +kernel
theorem dL_advance_3 : decode cL_advance 3 = .ok (.iload_n 1, 1) := by decide +kernel
theorem dL_advance_4 : decode cL_advance 4 = .ok (.invokevirtual 95, 3) := by decide +kernel
theorem dL_advance_7 : decode cL_advance 7 = .ok (.i2l, 1) := by decide +kernel
theorem dL_advance_8 : decode cL_advance 8 = .ok (.lastore, 1) := by decide +kernel
theorem dL_advance_9 : decode cL_advance 9 = .ok (.goto 9, 3) := by decide +kernel
theorem dL_advance_12 : decode cL_advance 12 = .ok (.astore_n 3, 1) := by decide +kernel
theorem dL_advance_13 : decode cL_advance 13 = .ok (.iconst 1, 1) := by decide +kernel
theorem dL_advance_14 : decode cL_advance 14 = .ok (.ireturn, 1) := by decide +kernel
theorem dL_advance_15 : decode cL_advance 15 = .ok (.astore_n 3, 1) := by decide +kernel
theorem dL_advance_16 : decode cL_advance 16 = .ok (.iconst 2, 1) := by decide +kernel
theorem dL_advance_17 : decode cL_advance 17 = .ok (.ireturn, 1) := by decide +kernel
theorem dL_advance_18 : decode cL_advance 18 = .ok (.iconst 0, 1) := by decide +kernel
theorem dL_advance_19 : decode cL_advance 19 = .ok (.ireturn, 1) := by decide +kernel
theorem dL_roomIn_0 : decode cL_roomIn 0 = .ok (.aload_n 2, 1) := by decide +kernel
theorem dL_roomIn_1 : decode cL_roomIn 1 = .ok (.iconst 0, 1) := by decide +kernel
theorem dL_roomIn_2 : decode cL_roomIn 2 = .ok (.aload_n 0, 1) := by decide +kernel
theorem dL_roomIn_3 : decode cL_roomIn 3 = .ok (.iload_n 1, 1) := by decide +kernel
theorem dL_roomIn_4 : decode cL_roomIn 4 = .ok (.invokevirtual 98, 3) := by decide +kernel
theorem dL_roomIn_7 : decode cL_roomIn 7 = .ok (.i2l, 1) := by decide +kernel
theorem dL_roomIn_8 : decode cL_roomIn 8 = .ok (.lastore, 1) := by decide +kernel
theorem dL_roomIn_9 : decode cL_roomIn 9 = .ok (.goto 6, 3) := by decide +kernel
theorem dL_roomIn_12 : decode cL_roomIn 12 = .ok (.astore_n 3, 1) := by decide +kernel
theorem dL_roomIn_13 : decode cL_roomIn 13 = .ok (.iconst 1, 1) := by decide +kernel
theorem dL_roomIn_14 : decode cL_roomIn 14 = .ok (.ireturn, 1) := by decide +kernel
theorem dL_roomIn_15 : decode cL_roomIn 15 = .ok (.iconst 0, 1) := by decide +kernel
theorem dL_roomIn_16 : decode cL_roomIn 16 = .ok (.ireturn, 1) := by decide +kernel
theorem dL_humidityIn_0 : decode cL_humidityIn 0 = .ok (.aload_n 3, 1) := by decide +kernel
theorem dL_humidityIn_1 : decode cL_humidityIn 1 = .ok (.iconst 0, 1) := by decide +kernel
theorem dL_humidityIn_2 : decode cL_humidityIn 2 = .ok (.aload_n 0, 1) := by decide +kernel
theorem dL_humidityIn_3 : decode cL_humidityIn 3 = .ok (.iload_n 1, 1) := by decide +kernel
theorem dL_humidityIn_4 : decode cL_humidityIn 4 = .ok (.iload_n 2, 1) := by decide +kernel
theorem dL_humidityIn_5 : decode cL_humidityIn 5 = .ok (.invokevirtual 101, 3) := by decide +kernel
theorem dL_humidityIn_8 : decode cL_humidityIn 8 = .ok (.i2l, 1) := by decide +kernel
theorem dL_humidityIn_9 : decode cL_humidityIn 9 = .ok (.lastore, 1) := by decide +kernel
theorem dL_humidityIn_10 : decode cL_humidityIn 10 = .ok (.goto 11, 3) := by decide +kernel
theorem dL_humidityIn_13 : decode cL_humidityIn 13 = .ok (.astore 4, 2) := by decide +kernel
theorem dL_humidityIn_15 : decode cL_humidityIn 15 = .ok (.iconst 1, 1) := by decide +kernel
theorem dL_humidityIn_16 : decode cL_humidityIn 16 = .ok (.ireturn, 1) := by decide +kernel
theorem dL_humidityIn_17 : decode cL_humidityIn 17 = .ok (.astore 4, 2) := by decide +kernel
theorem dL_humidityIn_19 : decode cL_humidityIn 19 = .ok (.iconst 2, 1) := by decide +kernel
theorem dL_humidityIn_20 : decode cL_humidityIn 20 = .ok (.ireturn, 1) := by decide +kernel
theorem dL_humidityIn_21 : decode cL_humidityIn 21 = .ok (.iconst 0, 1) := by decide +kernel
theorem dL_humidityIn_22 : decode cL_humidityIn 22 = .ok (.ireturn, 1) := by decide +kernel
theorem dL_unsafeIn_0 : decode cL_unsafeIn 0 = .ok (.aload_n 2, 1) := by decide +kernel
theorem dL_unsafeIn_1 : decode cL_unsafeIn 1 = .ok (.iconst 0, 1) := by decide +kernel
theorem dL_unsafeIn_2 : decode cL_unsafeIn 2 = .ok (.aload_n 0, 1) := by decide +kernel
theorem dL_unsafeIn_3 : decode cL_unsafeIn 3 = .ok (.iload_n 1, 1) := by decide +kernel
theorem dL_unsafeIn_4 : decode cL_unsafeIn 4 = .ok (.invokevirtual 104, 3) := by decide +kernel
theorem dL_unsafeIn_7 : decode cL_unsafeIn 7 = .ok (.i2l, 1) := by decide +kernel
theorem dL_unsafeIn_8 : decode cL_unsafeIn 8 = .ok (.lastore, 1) := by decide +kernel
theorem dL_unsafeIn_9 : decode cL_unsafeIn 9 = .ok (.goto 6, 3) := by decide +kernel
theorem dL_unsafeIn_12 : decode cL_unsafeIn 12 = .ok (.astore_n 3, 1) := by decide +kernel
theorem dL_unsafeIn_13 : decode cL_unsafeIn 13 = .ok (.iconst 1, 1) := by decide +kernel
theorem dL_unsafeIn_14 : decode cL_unsafeIn 14 = .ok (.ireturn, 1) := by decide +kernel
theorem dL_unsafeIn_15 : decode cL_unsafeIn 15 = .ok (.iconst 0, 1) := by decide +kernel
theorem dL_unsafeIn_16 : decode cL_unsafeIn 16 = .ok (.ireturn, 1) := by decide +kernel
theorem dL_restOf_0 : decode cL_restOf 0 = .ok (.aload_n 2, 1) := by decide +kernel
theorem dL_restOf_1 : decode cL_restOf 1 = .ok (.iconst 0, 1) := by decide +kernel
theorem dL_restOf_2 : decode cL_restOf 2 = .ok (.aload_n 0, 1) := by decide +kernel
theorem dL_restOf_3 : decode cL_restOf 3 = .ok (.iload_n 1, 1) := by decide +kernel
theorem dL_restOf_4 : decode cL_restOf 4 = .ok (.invokevirtual 107, 3) := by decide +kernel
theorem dL_restOf_7 : decode cL_restOf 7 = .ok (.i2l, 1) := by decide +kernel
theorem dL_restOf_8 : decode cL_restOf 8 = .ok (.lastore, 1) := by decide +kernel
theorem dL_restOf_9 : decode cL_restOf 9 = .ok (.goto 9, 3) := by decide +kernel
theorem dL_restOf_12 : decode cL_restOf 12 = .ok (.astore_n 3, 1) := by decide +kernel
theorem dL_restOf_13 : decode cL_restOf 13 = .ok (.iconst 1, 1) := by decide +kernel
theorem dL_restOf_14 : decode cL_restOf 14 = .ok (.ireturn, 1) := by decide +kernel
theorem dL_restOf_15 : decode cL_restOf 15 = .ok (.astore_n 3, 1) := by decide +kernel
theorem dL_restOf_16 : decode cL_restOf 16 = .ok (.iconst 2, 1) := by decide +kernel
theorem dL_restOf_17 : decode cL_restOf 17 = .ok (.ireturn, 1) := by decide +kernel
theorem dL_restOf_18 : decode cL_restOf 18 = .ok (.iconst 0, 1) := by decide +kernel
theorem dL_restOf_19 : decode cL_restOf 19 = .ok (.ireturn, 1) := by decide +kernel
theorem dL_massFor_0 : decode cL_massFor 0 = .ok (.aload 5, 2) := by decide +kernel
theorem dL_massFor_2 : decode cL_massFor 2 = .ok (.iconst 0, 1) := by decide +kernel
theorem dL_massFor_3 : decode cL_massFor 3 = .ok (.aload_n 0, 1) := by decide +kernel
theorem dL_massFor_4 : decode cL_massFor 4 = .ok (.iload_n 1, 1) := by decide +kernel
theorem dL_massFor_5 : decode cL_massFor 5 = .ok (.iload_n 2, 1) := by decide +kernel
theorem dL_massFor_6 : decode cL_massFor 6 = .ok (.iload_n 3, 1) := by decide +kernel
theorem dL_massFor_7 : decode cL_massFor 7 = .ok (.iload 4, 2) := by decide +kernel
theorem dL_massFor_9 : decode cL_massFor 9 = .ok (.invokevirtual 110, 3) := by decide +kernel
theorem dL_massFor_12 : decode cL_massFor 12 = .ok (.i2l, 1) := by decide +kernel
theorem dL_massFor_13 : decode cL_massFor 13 = .ok (.lastore, 1) := by decide +kernel
theorem dL_massFor_14 : decode cL_massFor 14 = .ok (.goto 15, 3) := by decide +kernel
theorem dL_massFor_17 : decode cL_massFor 17 = .ok (.astore 6, 2) := by decide +kernel
theorem dL_massFor_19 : decode cL_massFor 19 = .ok (.iconst 1, 1) := by decide +kernel
theorem dL_massFor_20 : decode cL_massFor 20 = .ok (.ireturn, 1) := by decide +kernel
theorem dL_massFor_21 : decode cL_massFor 21 = .ok (.astore 6, 2) := by decide +kernel
theorem dL_massFor_23 : decode cL_massFor 23 = .ok (.iconst 2, 1) := by decide +kernel
theorem dL_massFor_24 : decode cL_massFor 24 = .ok (.ireturn, 1) := by decide +kernel
theorem dL_massFor_25 : decode cL_massFor 25 = .ok (.astore 6, 2) := by decide +kernel
theorem dL_massFor_27 : decode cL_massFor 27 = .ok (.iconst 3, 1) := by decide +kernel
theorem dL_massFor_28 : decode cL_massFor 28 = .ok (.ireturn, 1) := by decide +kernel
theorem dL_massFor_29 : decode cL_massFor 29 = .ok (.iconst 0, 1) := by decide +kernel
theorem dL_massFor_30 : decode cL_massFor 30 = .ok (.ireturn, 1) := by decide +kernel
theorem dL_bestFor_0 : decode cL_bestFor 0 = .ok (.aload_n 3, 1) := by decide +kernel
theorem dL_bestFor_1 : decode cL_bestFor 1 = .ok (.iconst 0, 1) := by decide +kernel
theorem dL_bestFor_2 : decode cL_bestFor 2 = .ok (.aload_n 0, 1) := by decide +kernel
theorem dL_bestFor_3 : decode cL_bestFor 3 = .ok (.iload_n 1, 1) := by decide +kernel
theorem dL_bestFor_4 : decode cL_bestFor 4 = .ok (.iload_n 2, 1) := by decide +kernel
theorem dL_bestFor_5 : decode cL_bestFor 5 = .ok (.invokevirtual 113, 3) := by decide +kernel
theorem dL_bestFor_8 : decode cL_bestFor 8 = .ok (.i2l, 1) := by decide +kernel
theorem dL_bestFor_9 : decode cL_bestFor 9 = .ok (.lastore, 1) := by decide +kernel
theorem dL_bestFor_10 : decode cL_bestFor 10 = .ok (.goto 11, 3) := by decide +kernel
theorem dL_bestFor_13 : decode cL_bestFor 13 = .ok (.astore 4, 2) := by decide +kernel
theorem dL_bestFor_15 : decode cL_bestFor 15 = .ok (.iconst 1, 1) := by decide +kernel
theorem dL_bestFor_16 : decode cL_bestFor 16 = .ok (.ireturn, 1) := by decide +kernel
theorem dL_bestFor_17 : decode cL_bestFor 17 = .ok (.astore 4, 2) := by decide +kernel
theorem dL_bestFor_19 : decode cL_bestFor 19 = .ok (.iconst 2, 1) := by decide +kernel
theorem dL_bestFor_20 : decode cL_bestFor 20 = .ok (.ireturn, 1) := by decide +kernel
theorem dL_bestFor_21 : decode cL_bestFor 21 = .ok (.iconst 0, 1) := by decide +kernel
theorem dL_bestFor_22 : decode cL_bestFor 22 = .ok (.ireturn, 1) := by decide +kernel
theorem dL_save_0 : decode cL_save 0 = .ok (.aload_n 0, 1) := by decide +kernel
theorem dL_save_1 : decode cL_save 1 = .ok (.iload_n 1, 1) := by decide +kernel
theorem dL_save_2 : decode cL_save 2 = .ok (.invokevirtual 116, 3) := by decide +kernel
theorem dL_save_5 : decode cL_save 5 = .ok (.goto 6, 3) := by decide +kernel
theorem dL_save_8 : decode cL_save 8 = .ok (.astore_n 2, 1) := by decide +kernel
theorem dL_save_9 : decode cL_save 9 = .ok (.iconst 1, 1) := by decide +kernel
theorem dL_save_10 : decode cL_save 10 = .ok (.ireturn, 1) := by decide +kernel
theorem dL_save_11 : decode cL_save 11 = .ok (.iconst 0, 1) := by decide +kernel
theorem dL_save_12 : decode cL_save 12 = .ok (.ireturn, 1) := by decide +kernel
theorem dL_restore_0 : decode cL_restore 0 = .ok (.aload_n 0, 1) := by decide +kernel
theorem dL_restore_1 : decode cL_restore 1 = .ok (.iload_n 1, 1) := by decide +kernel
theorem dL_restore_2 : decode cL_restore 2 = .ok (.invokevirtual 120, 3) := by decide +kernel
theorem dL_restore_5 : decode cL_restore 5 = .ok (.goto 9, 3) := by decide +kernel
theorem dL_restore_8 : decode cL_restore 8 = .ok (.astore_n 2, 1) := by decide +kernel
theorem dL_restore_9 : decode cL_restore 9 = .ok (.iconst 1, 1) := by decide +kernel
theorem dL_restore_10 : decode cL_restore 10 = .ok (.ireturn, 1) := by decide +kernel
theorem dL_restore_11 : decode cL_restore 11 = .ok (.astore_n 2, 1) := by decide +kernel
theorem dL_restore_12 : decode cL_restore 12 = .ok (.iconst 2, 1) := by decide +kernel
theorem dL_restore_13 : decode cL_restore 13 = .ok (.ireturn, 1) := by decide +kernel
theorem dL_restore_14 : decode cL_restore 14 = .ok (.iconst 0, 1) := by decide +kernel
theorem dL_restore_15 : decode cL_restore 15 = .ok (.ireturn, 1) := by decide +kernel
theorem dL_law_0 : decode cL_law 0 = .ok (.new 8, 3) := by decide +kernel
theorem dL_law_3 : decode cL_law 3 = .ok (.dup, 1) := by decide +kernel
theorem dL_law_4 : decode cL_law 4 = .ok (.invokespecial 123, 3) := by decide +kernel
theorem dL_law_7 : decode cL_law 7 = .ok (.astore_n 1, 1) := by decide +kernel
theorem dL_law_8 : decode cL_law 8 = .ok (.new 124, 3) := by decide +kernel
theorem dL_law_11 : decode cL_law 11 = .ok (.dup, 1) := by decide +kernel
theorem dL_law_12 : decode cL_law 12 = .ok (.invokespecial 126, 3) := by decide +kernel
theorem dL_law_15 : decode cL_law 15 = .ok (.astore_n 2, 1) := by decide +kernel
theorem dL_law_16 : decode cL_law 16 = .ok (.iconst 1, 1) := by decide +kernel
theorem dL_law_17 : decode cL_law 17 = .ok (.newarray .long, 2) := by decide +kernel
theorem dL_law_19 : decode cL_law 19 = .ok (.astore_n 3, 1) := by decide +kernel
theorem dL_law_20 : decode cL_law 20 = .ok (.iconst 1, 1) := by decide +kernel
theorem dL_law_21 : decode cL_law 21 = .ok (.newarray .double, 2) := by decide +kernel
theorem dL_law_23 : decode cL_law 23 = .ok (.astore 4, 2) := by decide +kernel
theorem dL_law_25 : decode cL_law 25 = .ok (.iconst 0, 1) := by decide +kernel
theorem dL_law_26 : decode cL_law 26 = .ok (.istore 5, 2) := by decide +kernel
theorem dL_law_28 : decode cL_law 28 = .ok (.iload 5, 2) := by decide +kernel
theorem dL_law_30 : decode cL_law 30 = .ok (.aload_n 0, 1) := by decide +kernel
theorem dL_law_31 : decode cL_law 31 = .ok (.arraylength, 1) := by decide +kernel
theorem dL_law_32 : decode cL_law 32 = .ok (.bipush 6, 2) := by decide +kernel
theorem dL_law_34 : decode cL_law 34 = .ok (.isub, 1) := by decide +kernel
theorem dL_law_35 : decode cL_law 35 = .ok (.if_icmp .gt 2230, 3) := by decide +kernel
theorem dL_law_38 : decode cL_law 38 = .ok (.aload_n 0, 1) := by decide +kernel
theorem dL_law_39 : decode cL_law 39 = .ok (.iload 5, 2) := by decide +kernel
theorem dL_law_41 : decode cL_law 41 = .ok (.iaload, 1) := by decide +kernel
theorem dL_law_42 : decode cL_law 42 = .ok (.bipush 63, 2) := by decide +kernel
theorem dL_law_44 : decode cL_law 44 = .ok (.iand, 1) := by decide +kernel
theorem dL_law_45 : decode cL_law 45 = .ok (.tableswitch 2214 0 33 #[151, 255, 311, 355, 368, 381, 437, 493, 549, 617, 673, 741, 808, 876, 932, 1009, 1086, 1154, 1214, 1270, 1350, 1406, 1498, 1554, 1622, 1690, 1746, 1802, 1870, 1926, 1982, 2074, 2142, 2178], 151) := by decide +kernel
theorem dL_law_196 : decode cL_law 196 = .ok (.aload_n 1, 1) := by decide +kernel
theorem dL_law_197 : decode cL_law 197 = .ok (.aload_n 0, 1) := by decide +kernel
theorem dL_law_198 : decode cL_law 198 = .ok (.iload 5, 2) := by decide +kernel
theorem dL_law_200 : decode cL_law 200 = .ok (.iconst 1, 1) := by decide +kernel
theorem dL_law_201 : decode cL_law 201 = .ok (.iadd, 1) := by decide +kernel
theorem dL_law_202 : decode cL_law 202 = .ok (.iaload, 1) := by decide +kernel
theorem dL_law_203 : decode cL_law 203 = .ok (.aload_n 0, 1) := by decide +kernel
theorem dL_law_204 : decode cL_law 204 = .ok (.iload 5, 2) := by decide +kernel
theorem dL_law_206 : decode cL_law 206 = .ok (.iconst 2, 1) := by decide +kernel
theorem dL_law_207 : decode cL_law 207 = .ok (.iadd, 1) := by decide +kernel
theorem dL_law_208 : decode cL_law 208 = .ok (.iaload, 1) := by decide +kernel
theorem dL_law_209 : decode cL_law 209 = .ok (.aload_n 0, 1) := by decide +kernel
theorem dL_law_210 : decode cL_law 210 = .ok (.iload 5, 2) := by decide +kernel
theorem dL_law_212 : decode cL_law 212 = .ok (.iconst 3, 1) := by decide +kernel
theorem dL_law_213 : decode cL_law 213 = .ok (.iadd, 1) := by decide +kernel
theorem dL_law_214 : decode cL_law 214 = .ok (.iaload, 1) := by decide +kernel
theorem dL_law_215 : decode cL_law 215 = .ok (.aload_n 0, 1) := by decide +kernel
theorem dL_law_216 : decode cL_law 216 = .ok (.iload 5, 2) := by decide +kernel
theorem dL_law_218 : decode cL_law 218 = .ok (.iconst 4, 1) := by decide +kernel
theorem dL_law_219 : decode cL_law 219 = .ok (.iadd, 1) := by decide +kernel
theorem dL_law_220 : decode cL_law 220 = .ok (.iaload, 1) := by decide +kernel
theorem dL_law_221 : decode cL_law 221 = .ok (.aload_n 0, 1) := by decide +kernel
theorem dL_law_222 : decode cL_law 222 = .ok (.iload 5, 2) := by decide +kernel
theorem dL_law_224 : decode cL_law 224 = .ok (.iconst 5, 1) := by decide +kernel
theorem dL_law_225 : decode cL_law 225 = .ok (.iadd, 1) := by decide +kernel
theorem dL_law_226 : decode cL_law 226 = .ok (.iaload, 1) := by decide +kernel
theorem dL_law_227 : decode cL_law 227 = .ok (.aload_n 3, 1) := by decide +kernel
theorem dL_law_228 : decode cL_law 228 = .ok (.invokestatic 127, 3) := by decide +kernel
theorem dL_law_231 : decode cL_law 231 = .ok (.istore 6, 2) := by decide +kernel
theorem dL_law_233 : decode cL_law 233 = .ok (.aload_n 2, 1) := by decide +kernel
theorem dL_law_234 : decode cL_law 234 = .ok (.aload_n 0, 1) := by decide +kernel
theorem dL_law_235 : decode cL_law 235 = .ok (.iload 5, 2) := by decide +kernel
theorem dL_law_237 : decode cL_law 237 = .ok (.iconst 1, 1) := by decide +kernel
theorem dL_law_238 : decode cL_law 238 = .ok (.iadd, 1) := by decide +kernel
theorem dL_law_239 : decode cL_law 239 = .ok (.iaload, 1) := by decide +kernel
theorem dL_law_240 : decode cL_law 240 = .ok (.aload_n 0, 1) := by decide +kernel
theorem dL_law_241 : decode cL_law 241 = .ok (.iload 5, 2) := by decide +kernel
theorem dL_law_243 : decode cL_law 243 = .ok (.iconst 2, 1) := by decide +kernel
theorem dL_law_244 : decode cL_law 244 = .ok (.iadd, 1) := by decide +kernel
theorem dL_law_245 : decode cL_law 245 = .ok (.iaload, 1) := by decide +kernel
theorem dL_law_246 : decode cL_law 246 = .ok (.aload_n 0, 1) := by decide +kernel
theorem dL_law_247 : decode cL_law 247 = .ok (.iload 5, 2) := by decide +kernel
theorem dL_law_249 : decode cL_law 249 = .ok (.iconst 3, 1) := by decide +kernel
theorem dL_law_250 : decode cL_law 250 = .ok (.iadd, 1) := by decide +kernel
theorem dL_law_251 : decode cL_law 251 = .ok (.iaload, 1) := by decide +kernel
theorem dL_law_252 : decode cL_law 252 = .ok (.aload_n 0, 1) := by decide +kernel
theorem dL_law_253 : decode cL_law 253 = .ok (.iload 5, 2) := by decide +kernel
theorem dL_law_255 : decode cL_law 255 = .ok (.iconst 4, 1) := by decide +kernel
theorem dL_law_256 : decode cL_law 256 = .ok (.iadd, 1) := by decide +kernel
theorem dL_law_257 : decode cL_law 257 = .ok (.iaload, 1) := by decide +kernel
theorem dL_law_258 : decode cL_law 258 = .ok (.aload_n 0, 1) := by decide +kernel
theorem dL_law_259 : decode cL_law 259 = .ok (.iload 5, 2) := by decide +kernel
theorem dL_law_261 : decode cL_law 261 = .ok (.iconst 5, 1) := by decide +kernel
theorem dL_law_262 : decode cL_law 262 = .ok (.iadd, 1) := by decide +kernel
theorem dL_law_263 : decode cL_law 263 = .ok (.iaload, 1) := by decide +kernel
theorem dL_law_264 : decode cL_law 264 = .ok (.invokevirtual 132, 3) := by decide +kernel
theorem dL_law_267 : decode cL_law 267 = .ok (.istore 7, 2) := by decide +kernel
theorem dL_law_269 : decode cL_law 269 = .ok (.aload_n 2, 1) := by decide +kernel
theorem dL_law_270 : decode cL_law 270 = .ok (.invokevirtual 133, 3) := by decide +kernel
theorem dL_law_273 : decode cL_law 273 = .ok (.iload 6, 2) := by decide +kernel
theorem dL_law_275 : decode cL_law 275 = .ok (.if_icmp .eq 5, 3) := by decide +kernel
theorem dL_law_278 : decode cL_law 278 = .ok (.iconst 0, 1) := by decide +kernel
theorem dL_law_279 : decode cL_law 279 = .ok (.ireturn, 1) := by decide +kernel
theorem dL_law_280 : decode cL_law 280 = .ok (.iload 6, 2) := by decide +kernel
theorem dL_law_282 : decode cL_law 282 = .ok (.ifCond .ne 15, 3) := by decide +kernel
theorem dL_law_285 : decode cL_law 285 = .ok (.aload_n 3, 1) := by decide +kernel
theorem dL_law_286 : decode cL_law 286 = .ok (.iconst 0, 1) := by decide +kernel
theorem dL_law_287 : decode cL_law 287 = .ok (.laload, 1) := by decide +kernel
theorem dL_law_288 : decode cL_law 288 = .ok (.iload 7, 2) := by decide +kernel
theorem dL_law_290 : decode cL_law 290 = .ok (.i2l, 1) := by decide +kernel
theorem dL_law_291 : decode cL_law 291 = .ok (.lcmp, 1) := by decide +kernel
theorem dL_law_292 : decode cL_law 292 = .ok (.ifCond .eq 5, 3) := by decide +kernel
theorem dL_law_295 : decode cL_law 295 = .ok (.iconst 0, 1) := by decide +kernel
theorem dL_law_296 : decode cL_law 296 = .ok (.ireturn, 1) := by decide +kernel
theorem dL_law_297 : decode cL_law 297 = .ok (.goto 1962, 3) := by decide +kernel
theorem dL_law_300 : decode cL_law 300 = .ok (.aload_n 1, 1) := by decide +kernel
theorem dL_law_301 : decode cL_law 301 = .ok (.aload_n 0, 1) := by decide +kernel
theorem dL_law_302 : decode cL_law 302 = .ok (.iload 5, 2) := by decide +kernel
theorem dL_law_304 : decode cL_law 304 = .ok (.iconst 1, 1) := by decide +kernel
theorem dL_law_305 : decode cL_law 305 = .ok (.iadd, 1) := by decide +kernel
theorem dL_law_306 : decode cL_law 306 = .ok (.iaload, 1) := by decide +kernel
theorem dL_law_307 : decode cL_law 307 = .ok (.aload_n 3, 1) := by decide +kernel
theorem dL_law_308 : decode cL_law 308 = .ok (.invokestatic 136, 3) := by decide +kernel
theorem dL_law_311 : decode cL_law 311 = .ok (.istore 6, 2) := by decide +kernel
theorem dL_law_313 : decode cL_law 313 = .ok (.aload_n 2, 1) := by decide +kernel
theorem dL_law_314 : decode cL_law 314 = .ok (.aload_n 0, 1) := by decide +kernel
theorem dL_law_315 : decode cL_law 315 = .ok (.iload 5, 2) := by decide +kernel
theorem dL_law_317 : decode cL_law 317 = .ok (.iconst 1, 1) := by decide +kernel
theorem dL_law_318 : decode cL_law 318 = .ok (.iadd, 1) := by decide +kernel
theorem dL_law_319 : decode cL_law 319 = .ok (.iaload, 1) := by decide +kernel
theorem dL_law_320 : decode cL_law 320 = .ok (.invokevirtual 139, 3) := by decide +kernel
theorem dL_law_323 : decode cL_law 323 = .ok (.istore 7, 2) := by decide +kernel
theorem dL_law_325 : decode cL_law 325 = .ok (.aload_n 2, 1) := by decide +kernel
theorem dL_law_326 : decode cL_law 326 = .ok (.invokevirtual 133, 3) := by decide +kernel
theorem dL_law_329 : decode cL_law 329 = .ok (.iload 6, 2) := by decide +kernel
theorem dL_law_331 : decode cL_law 331 = .ok (.if_icmp .eq 5, 3) := by decide +kernel
theorem dL_law_334 : decode cL_law 334 = .ok (.iconst 0, 1) := by decide +kernel
theorem dL_law_335 : decode cL_law 335 = .ok (.ireturn, 1) := by decide +kernel
theorem dL_law_336 : decode cL_law 336 = .ok (.iload 6, 2) := by decide +kernel
theorem dL_law_338 : decode cL_law 338 = .ok (.ifCond .ne 15, 3) := by decide +kernel
theorem dL_law_341 : decode cL_law 341 = .ok (.aload_n 3, 1) := by decide +kernel
theorem dL_law_342 : decode cL_law 342 = .ok (.iconst 0, 1) := by decide +kernel
theorem dL_law_343 : decode cL_law 343 = .ok (.laload, 1) := by decide +kernel
theorem dL_law_344 : decode cL_law 344 = .ok (.iload 7, 2) := by decide +kernel
theorem dL_law_346 : decode cL_law 346 = .ok (.i2l, 1) := by decide +kernel
theorem dL_law_347 : decode cL_law 347 = .ok (.lcmp, 1) := by decide +kernel
theorem dL_law_348 : decode cL_law 348 = .ok (.ifCond .eq 5, 3) := by decide +kernel
theorem dL_law_351 : decode cL_law 351 = .ok (.iconst 0, 1) := by decide +kernel
theorem dL_law_352 : decode cL_law 352 = .ok (.ireturn, 1) := by decide +kernel
theorem dL_law_353 : decode cL_law 353 = .ok (.goto 1906, 3) := by decide +kernel
theorem dL_law_356 : decode cL_law 356 = .ok (.aload_n 1, 1) := by decide +kernel
theorem dL_law_357 : decode cL_law 357 = .ok (.aload_n 3, 1) := by decide +kernel
theorem dL_law_358 : decode cL_law 358 = .ok (.invokestatic 140, 3) := by decide +kernel
theorem dL_law_361 : decode cL_law 361 = .ok (.istore 6, 2) := by decide +kernel
theorem dL_law_363 : decode cL_law 363 = .ok (.aload_n 2, 1) := by decide +kernel
theorem dL_law_364 : decode cL_law 364 = .ok (.invokevirtual 143, 3) := by decide +kernel
theorem dL_law_367 : decode cL_law 367 = .ok (.istore 7, 2) := by decide +kernel
theorem dL_law_369 : decode cL_law 369 = .ok (.aload_n 2, 1) := by decide +kernel
theorem dL_law_370 : decode cL_law 370 = .ok (.invokevirtual 133, 3) := by decide +kernel
theorem dL_law_373 : decode cL_law 373 = .ok (.iload 6, 2) := by decide +kernel
theorem dL_law_375 : decode cL_law 375 = .ok (.if_icmp .eq 5, 3) := by decide +kernel
theorem dL_law_378 : decode cL_law 378 = .ok (.iconst 0, 1) := by decide +kernel
theorem dL_law_379 : decode cL_law 379 = .ok (.ireturn, 1) := by decide +kernel
theorem dL_law_380 : decode cL_law 380 = .ok (.iload 6, 2) := by decide +kernel
theorem dL_law_382 : decode cL_law 382 = .ok (.ifCond .ne 15, 3) := by decide +kernel
theorem dL_law_385 : decode cL_law 385 = .ok (.aload_n 3, 1) := by decide +kernel
theorem dL_law_386 : decode cL_law 386 = .ok (.iconst 0, 1) := by decide +kernel
theorem dL_law_387 : decode cL_law 387 = .ok (.laload, 1) := by decide +kernel
theorem dL_law_388 : decode cL_law 388 = .ok (.iload 7, 2) := by decide +kernel
theorem dL_law_390 : decode cL_law 390 = .ok (.i2l, 1) := by decide +kernel
theorem dL_law_391 : decode cL_law 391 = .ok (.lcmp, 1) := by decide +kernel
theorem dL_law_392 : decode cL_law 392 = .ok (.ifCond .eq 5, 3) := by decide +kernel
theorem dL_law_395 : decode cL_law 395 = .ok (.iconst 0, 1) := by decide +kernel
theorem dL_law_396 : decode cL_law 396 = .ok (.ireturn, 1) := by decide +kernel
theorem dL_law_397 : decode cL_law 397 = .ok (.goto 1862, 3) := by decide +kernel
theorem dL_law_400 : decode cL_law 400 = .ok (.aload_n 1, 1) := by decide +kernel
theorem dL_law_401 : decode cL_law 401 = .ok (.invokevirtual 144, 3) := by decide +kernel
theorem dL_law_404 : decode cL_law 404 = .ok (.aload_n 2, 1) := by decide +kernel
theorem dL_law_405 : decode cL_law 405 = .ok (.invokevirtual 147, 3) := by decide +kernel
theorem dL_law_408 : decode cL_law 408 = .ok (.if_icmp .eq 1851, 3) := by decide +kernel
theorem dL_law_411 : decode cL_law 411 = .ok (.iconst 0, 1) := by decide +kernel
theorem dL_law_412 : decode cL_law 412 = .ok (.ireturn, 1) := by decide +kernel
theorem dL_law_413 : decode cL_law 413 = .ok (.aload_n 1, 1) := by decide +kernel
theorem dL_law_414 : decode cL_law 414 = .ok (.invokevirtual 148, 3) := by decide +kernel
theorem dL_law_417 : decode cL_law 417 = .ok (.aload_n 2, 1) := by decide +kernel
theorem dL_law_418 : decode cL_law 418 = .ok (.invokevirtual 151, 3) := by decide +kernel
theorem dL_law_421 : decode cL_law 421 = .ok (.if_icmp .eq 1838, 3) := by decide +kernel
theorem dL_law_424 : decode cL_law 424 = .ok (.iconst 0, 1) := by decide +kernel
theorem dL_law_425 : decode cL_law 425 = .ok (.ireturn, 1) := by decide +kernel
theorem dL_law_426 : decode cL_law 426 = .ok (.aload_n 1, 1) := by decide +kernel
theorem dL_law_427 : decode cL_law 427 = .ok (.aload_n 0, 1) := by decide +kernel
theorem dL_law_428 : decode cL_law 428 = .ok (.iload 5, 2) := by decide +kernel
theorem dL_law_430 : decode cL_law 430 = .ok (.iconst 1, 1) := by decide +kernel
theorem dL_law_431 : decode cL_law 431 = .ok (.iadd, 1) := by decide +kernel
theorem dL_law_432 : decode cL_law 432 = .ok (.iaload, 1) := by decide +kernel
theorem dL_law_433 : decode cL_law 433 = .ok (.aload_n 3, 1) := by decide +kernel
theorem dL_law_434 : decode cL_law 434 = .ok (.invokestatic 152, 3) := by decide +kernel
theorem dL_law_437 : decode cL_law 437 = .ok (.istore 6, 2) := by decide +kernel
theorem dL_law_439 : decode cL_law 439 = .ok (.aload_n 2, 1) := by decide +kernel
theorem dL_law_440 : decode cL_law 440 = .ok (.aload_n 0, 1) := by decide +kernel
theorem dL_law_441 : decode cL_law 441 = .ok (.iload 5, 2) := by decide +kernel
theorem dL_law_443 : decode cL_law 443 = .ok (.iconst 1, 1) := by decide +kernel
theorem dL_law_444 : decode cL_law 444 = .ok (.iadd, 1) := by decide +kernel
theorem dL_law_445 : decode cL_law 445 = .ok (.iaload, 1) := by decide +kernel
theorem dL_law_446 : decode cL_law 446 = .ok (.invokevirtual 154, 3) := by decide +kernel
theorem dL_law_449 : decode cL_law 449 = .ok (.istore 7, 2) := by decide +kernel
theorem dL_law_451 : decode cL_law 451 = .ok (.aload_n 2, 1) := by decide +kernel
theorem dL_law_452 : decode cL_law 452 = .ok (.invokevirtual 133, 3) := by decide +kernel
theorem dL_law_455 : decode cL_law 455 = .ok (.iload 6, 2) := by decide +kernel
theorem dL_law_457 : decode cL_law 457 = .ok (.if_icmp .eq 5, 3) := by decide +kernel
theorem dL_law_460 : decode cL_law 460 = .ok (.iconst 0, 1) := by decide +kernel
theorem dL_law_461 : decode cL_law 461 = .ok (.ireturn, 1) := by decide +kernel
theorem dL_law_462 : decode cL_law 462 = .ok (.iload 6, 2) := by decide +kernel
theorem dL_law_464 : decode cL_law 464 = .ok (.ifCond .ne 15, 3) := by decide +kernel
theorem dL_law_467 : decode cL_law 467 = .ok (.aload_n 3, 1) := by decide +kernel
theorem dL_law_468 : decode cL_law 468 = .ok (.iconst 0, 1) := by decide +kernel
theorem dL_law_469 : decode cL_law 469 = .ok (.laload, 1) := by decide +kernel
theorem dL_law_470 : decode cL_law 470 = .ok (.iload 7, 2) := by decide +kernel
theorem dL_law_472 : decode cL_law 472 = .ok (.i2l, 1) := by decide +kernel
theorem dL_law_473 : decode cL_law 473 = .ok (.lcmp, 1) := by decide +kernel
theorem dL_law_474 : decode cL_law 474 = .ok (.ifCond .eq 5, 3) := by decide +kernel
theorem dL_law_477 : decode cL_law 477 = .ok (.iconst 0, 1) := by decide +kernel
theorem dL_law_478 : decode cL_law 478 = .ok (.ireturn, 1) := by decide +kernel
theorem dL_law_479 : decode cL_law 479 = .ok (.goto 1780, 3) := by decide +kernel
theorem dL_law_482 : decode cL_law 482 = .ok (.aload_n 1, 1) := by decide +kernel
theorem dL_law_483 : decode cL_law 483 = .ok (.aload_n 0, 1) := by decide +kernel
theorem dL_law_484 : decode cL_law 484 = .ok (.iload 5, 2) := by decide +kernel
theorem dL_law_486 : decode cL_law 486 = .ok (.iconst 1, 1) := by decide +kernel
theorem dL_law_487 : decode cL_law 487 = .ok (.iadd, 1) := by decide +kernel
theorem dL_law_488 : decode cL_law 488 = .ok (.iaload, 1) := by decide +kernel
theorem dL_law_489 : decode cL_law 489 = .ok (.aload_n 3, 1) := by decide +kernel
theorem dL_law_490 : decode cL_law 490 = .ok (.invokestatic 155, 3) := by decide +kernel
theorem dL_law_493 : decode cL_law 493 = .ok (.istore 6, 2) := by decide +kernel
theorem dL_law_495 : decode cL_law 495 = .ok (.aload_n 2, 1) := by decide +kernel
theorem dL_law_496 : decode cL_law 496 = .ok (.aload_n 0, 1) := by decide +kernel
theorem dL_law_497 : decode cL_law 497 = .ok (.iload 5, 2) := by decide +kernel
theorem dL_law_499 : decode cL_law 499 = .ok (.iconst 1, 1) := by decide +kernel
theorem dL_law_500 : decode cL_law 500 = .ok (.iadd, 1) := by decide +kernel
theorem dL_law_501 : decode cL_law 501 = .ok (.iaload, 1) := by decide +kernel
theorem dL_law_502 : decode cL_law 502 = .ok (.invokevirtual 157, 3) := by decide +kernel
theorem dL_law_505 : decode cL_law 505 = .ok (.istore 7, 2) := by decide +kernel
theorem dL_law_507 : decode cL_law 507 = .ok (.aload_n 2, 1) := by decide +kernel
theorem dL_law_508 : decode cL_law 508 = .ok (.invokevirtual 133, 3) := by decide +kernel
theorem dL_law_511 : decode cL_law 511 = .ok (.iload 6, 2) := by decide +kernel
theorem dL_law_513 : decode cL_law 513 = .ok (.if_icmp .eq 5, 3) := by decide +kernel
theorem dL_law_516 : decode cL_law 516 = .ok (.iconst 0, 1) := by decide +kernel
theorem dL_law_517 : decode cL_law 517 = .ok (.ireturn, 1) := by decide +kernel
theorem dL_law_518 : decode cL_law 518 = .ok (.iload 6, 2) := by decide +kernel
theorem dL_law_520 : decode cL_law 520 = .ok (.ifCond .ne 15, 3) := by decide +kernel
theorem dL_law_523 : decode cL_law 523 = .ok (.aload_n 3, 1) := by decide +kernel
theorem dL_law_524 : decode cL_law 524 = .ok (.iconst 0, 1) := by decide +kernel
theorem dL_law_525 : decode cL_law 525 = .ok (.laload, 1) := by decide +kernel
theorem dL_law_526 : decode cL_law 526 = .ok (.iload 7, 2) := by decide +kernel
theorem dL_law_528 : decode cL_law 528 = .ok (.i2l, 1) := by decide +kernel
theorem dL_law_529 : decode cL_law 529 = .ok (.lcmp, 1) := by decide +kernel
theorem dL_law_530 : decode cL_law 530 = .ok (.ifCond .eq 5, 3) := by decide +kernel
theorem dL_law_533 : decode cL_law 533 = .ok (.iconst 0, 1) := by decide +kernel
theorem dL_law_534 : decode cL_law 534 = .ok (.ireturn, 1) := by decide +kernel
theorem dL_law_535 : decode cL_law 535 = .ok (.goto 1724, 3) := by decide +kernel
theorem dL_law_538 : decode cL_law 538 = .ok (.aload_n 1, 1) := by decide +kernel
theorem dL_law_539 : decode cL_law 539 = .ok (.aload_n 0, 1) := by decide +kernel
theorem dL_law_540 : decode cL_law 540 = .ok (.iload 5, 2) := by decide +kernel
theorem dL_law_542 : decode cL_law 542 = .ok (.iconst 1, 1) := by decide +kernel
theorem dL_law_543 : decode cL_law 543 = .ok (.iadd, 1) := by decide +kernel
theorem dL_law_544 : decode cL_law 544 = .ok (.iaload, 1) := by decide +kernel
theorem dL_law_545 : decode cL_law 545 = .ok (.aload_n 3, 1) := by decide +kernel
theorem dL_law_546 : decode cL_law 546 = .ok (.invokestatic 158, 3) := by decide +kernel
theorem dL_law_549 : decode cL_law 549 = .ok (.istore 6, 2) := by decide +kernel
theorem dL_law_551 : decode cL_law 551 = .ok (.aload_n 2, 1) := by decide +kernel
theorem dL_law_552 : decode cL_law 552 = .ok (.aload_n 0, 1) := by decide +kernel
theorem dL_law_553 : decode cL_law 553 = .ok (.iload 5, 2) := by decide +kernel
theorem dL_law_555 : decode cL_law 555 = .ok (.iconst 1, 1) := by decide +kernel
theorem dL_law_556 : decode cL_law 556 = .ok (.iadd, 1) := by decide +kernel
theorem dL_law_557 : decode cL_law 557 = .ok (.iaload, 1) := by decide +kernel
theorem dL_law_558 : decode cL_law 558 = .ok (.invokevirtual 160, 3) := by decide +kernel
theorem dL_law_561 : decode cL_law 561 = .ok (.istore 7, 2) := by decide +kernel
theorem dL_law_563 : decode cL_law 563 = .ok (.aload_n 2, 1) := by decide +kernel
theorem dL_law_564 : decode cL_law 564 = .ok (.invokevirtual 133, 3) := by decide +kernel
theorem dL_law_567 : decode cL_law 567 = .ok (.iload 6, 2) := by decide +kernel
theorem dL_law_569 : decode cL_law 569 = .ok (.if_icmp .eq 5, 3) := by decide +kernel
theorem dL_law_572 : decode cL_law 572 = .ok (.iconst 0, 1) := by decide +kernel
theorem dL_law_573 : decode cL_law 573 = .ok (.ireturn, 1) := by decide +kernel
theorem dL_law_574 : decode cL_law 574 = .ok (.iload 6, 2) := by decide +kernel
theorem dL_law_576 : decode cL_law 576 = .ok (.ifCond .ne 15, 3) := by decide +kernel
theorem dL_law_579 : decode cL_law 579 = .ok (.aload_n 3, 1) := by decide +kernel
theorem dL_law_580 : decode cL_law 580 = .ok (.iconst 0, 1) := by decide +kernel
theorem dL_law_581 : decode cL_law 581 = .ok (.laload, 1) := by decide +kernel
theorem dL_law_582 : decode cL_law 582 = .ok (.iload 7, 2) := by decide +kernel
theorem dL_law_584 : decode cL_law 584 = .ok (.i2l, 1) := by decide +kernel
theorem dL_law_585 : decode cL_law 585 = .ok (.lcmp, 1) := by decide +kernel
theorem dL_law_586 : decode cL_law 586 = .ok (.ifCond .eq 5, 3) := by decide +kernel
theorem dL_law_589 : decode cL_law 589 = .ok (.iconst 0, 1) := by decide +kernel
theorem dL_law_590 : decode cL_law 590 = .ok (.ireturn, 1) := by decide +kernel
theorem dL_law_591 : decode cL_law 591 = .ok (.goto 1668, 3) := by decide +kernel
theorem dL_law_594 : decode cL_law 594 = .ok (.aload_n 1, 1) := by decide +kernel
theorem dL_law_595 : decode cL_law 595 = .ok (.aload_n 0, 1) := by decide +kernel
theorem dL_law_596 : decode cL_law 596 = .ok (.iload 5, 2) := by decide +kernel
theorem dL_law_598 : decode cL_law 598 = .ok (.iconst 1, 1) := by decide +kernel
theorem dL_law_599 : decode cL_law 599 = .ok (.iadd, 1) := by decide +kernel
theorem dL_law_600 : decode cL_law 600 = .ok (.iaload, 1) := by decide +kernel
theorem dL_law_601 : decode cL_law 601 = .ok (.aload_n 0, 1) := by decide +kernel
theorem dL_law_602 : decode cL_law 602 = .ok (.iload 5, 2) := by decide +kernel
theorem dL_law_604 : decode cL_law 604 = .ok (.iconst 2, 1) := by decide +kernel
theorem dL_law_605 : decode cL_law 605 = .ok (.iadd, 1) := by decide +kernel
theorem dL_law_606 : decode cL_law 606 = .ok (.iaload, 1) := by decide +kernel
theorem dL_law_607 : decode cL_law 607 = .ok (.aload_n 3, 1) := by decide +kernel
theorem dL_law_608 : decode cL_law 608 = .ok (.invokestatic 161, 3) := by decide +kernel
theorem dL_law_611 : decode cL_law 611 = .ok (.istore 6, 2) := by decide +kernel
theorem dL_law_613 : decode cL_law 613 = .ok (.aload_n 2, 1) := by decide +kernel
theorem dL_law_614 : decode cL_law 614 = .ok (.aload_n 0, 1) := by decide +kernel
theorem dL_law_615 : decode cL_law 615 = .ok (.iload 5, 2) := by decide +kernel
theorem dL_law_617 : decode cL_law 617 = .ok (.iconst 1, 1) := by decide +kernel
theorem dL_law_618 : decode cL_law 618 = .ok (.iadd, 1) := by decide +kernel
theorem dL_law_619 : decode cL_law 619 = .ok (.iaload, 1) := by decide +kernel
theorem dL_law_620 : decode cL_law 620 = .ok (.aload_n 0, 1) := by decide +kernel
theorem dL_law_621 : decode cL_law 621 = .ok (.iload 5, 2) := by decide +kernel
theorem dL_law_623 : decode cL_law 623 = .ok (.iconst 2, 1) := by decide +kernel
theorem dL_law_624 : decode cL_law 624 = .ok (.iadd, 1) := by decide +kernel
theorem dL_law_625 : decode cL_law 625 = .ok (.iaload, 1) := by decide +kernel
theorem dL_law_626 : decode cL_law 626 = .ok (.invokevirtual 164, 3) := by decide +kernel
theorem dL_law_629 : decode cL_law 629 = .ok (.istore 7, 2) := by decide +kernel
theorem dL_law_631 : decode cL_law 631 = .ok (.aload_n 2, 1) := by decide +kernel
theorem dL_law_632 : decode cL_law 632 = .ok (.invokevirtual 133, 3) := by decide +kernel
theorem dL_law_635 : decode cL_law 635 = .ok (.iload 6, 2) := by decide +kernel
theorem dL_law_637 : decode cL_law 637 = .ok (.if_icmp .eq 5, 3) := by decide +kernel
theorem dL_law_640 : decode cL_law 640 = .ok (.iconst 0, 1) := by decide +kernel
theorem dL_law_641 : decode cL_law 641 = .ok (.ireturn, 1) := by decide +kernel
theorem dL_law_642 : decode cL_law 642 = .ok (.iload 6, 2) := by decide +kernel
theorem dL_law_644 : decode cL_law 644 = .ok (.ifCond .ne 15, 3) := by decide +kernel
theorem dL_law_647 : decode cL_law 647 = .ok (.aload_n 3, 1) := by decide +kernel
theorem dL_law_648 : decode cL_law 648 = .ok (.iconst 0, 1) := by decide +kernel
theorem dL_law_649 : decode cL_law 649 = .ok (.laload, 1) := by decide +kernel
theorem dL_law_650 : decode cL_law 650 = .ok (.iload 7, 2) := by decide +kernel
theorem dL_law_652 : decode cL_law 652 = .ok (.i2l, 1) := by decide +kernel
theorem dL_law_653 : decode cL_law 653 = .ok (.lcmp, 1) := by decide +kernel
theorem dL_law_654 : decode cL_law 654 = .ok (.ifCond .eq 5, 3) := by decide +kernel
theorem dL_law_657 : decode cL_law 657 = .ok (.iconst 0, 1) := by decide +kernel
theorem dL_law_658 : decode cL_law 658 = .ok (.ireturn, 1) := by decide +kernel
theorem dL_law_659 : decode cL_law 659 = .ok (.goto 1600, 3) := by decide +kernel
theorem dL_law_662 : decode cL_law 662 = .ok (.aload_n 1, 1) := by decide +kernel
theorem dL_law_663 : decode cL_law 663 = .ok (.aload_n 0, 1) := by decide +kernel
theorem dL_law_664 : decode cL_law 664 = .ok (.iload 5, 2) := by decide +kernel
theorem dL_law_666 : decode cL_law 666 = .ok (.iconst 1, 1) := by decide +kernel
theorem dL_law_667 : decode cL_law 667 = .ok (.iadd, 1) := by decide +kernel
theorem dL_law_668 : decode cL_law 668 = .ok (.iaload, 1) := by decide +kernel
theorem dL_law_669 : decode cL_law 669 = .ok (.aload_n 3, 1) := by decide +kernel
theorem dL_law_670 : decode cL_law 670 = .ok (.invokestatic 165, 3) := by decide +kernel
theorem dL_law_673 : decode cL_law 673 = .ok (.istore 6, 2) := by decide +kernel
theorem dL_law_675 : decode cL_law 675 = .ok (.aload_n 2, 1) := by decide +kernel
theorem dL_law_676 : decode cL_law 676 = .ok (.aload_n 0, 1) := by decide +kernel
theorem dL_law_677 : decode cL_law 677 = .ok (.iload 5, 2) := by decide +kernel
theorem dL_law_679 : decode cL_law 679 = .ok (.iconst 1, 1) := by decide +kernel
theorem dL_law_680 : decode cL_law 680 = .ok (.iadd, 1) := by decide +kernel
theorem dL_law_681 : decode cL_law 681 = .ok (.iaload, 1) := by decide +kernel
theorem dL_law_682 : decode cL_law 682 = .ok (.invokevirtual 167, 3) := by decide +kernel
theorem dL_law_685 : decode cL_law 685 = .ok (.istore 7, 2) := by decide +kernel
theorem dL_law_687 : decode cL_law 687 = .ok (.aload_n 2, 1) := by decide +kernel
theorem dL_law_688 : decode cL_law 688 = .ok (.invokevirtual 133, 3) := by decide +kernel
theorem dL_law_691 : decode cL_law 691 = .ok (.iload 6, 2) := by decide +kernel
theorem dL_law_693 : decode cL_law 693 = .ok (.if_icmp .eq 5, 3) := by decide +kernel
theorem dL_law_696 : decode cL_law 696 = .ok (.iconst 0, 1) := by decide +kernel
theorem dL_law_697 : decode cL_law 697 = .ok (.ireturn, 1) := by decide +kernel
theorem dL_law_698 : decode cL_law 698 = .ok (.iload 6, 2) := by decide +kernel
theorem dL_law_700 : decode cL_law 700 = .ok (.ifCond .ne 15, 3) := by decide +kernel
theorem dL_law_703 : decode cL_law 703 = .ok (.aload_n 3, 1) := by decide +kernel
theorem dL_law_704 : decode cL_law 704 = .ok (.iconst 0, 1) := by decide +kernel
theorem dL_law_705 : decode cL_law 705 = .ok (.laload, 1) := by decide +kernel
theorem dL_law_706 : decode cL_law 706 = .ok (.iload 7, 2) := by decide +kernel
theorem dL_law_708 : decode cL_law 708 = .ok (.i2l, 1) := by decide +kernel
theorem dL_law_709 : decode cL_law 709 = .ok (.lcmp, 1) := by decide +kernel
theorem dL_law_710 : decode cL_law 710 = .ok (.ifCond .eq 5, 3) := by decide +kernel
theorem dL_law_713 : decode cL_law 713 = .ok (.iconst 0, 1) := by decide +kernel
theorem dL_law_714 : decode cL_law 714 = .ok (.ireturn, 1) := by decide +kernel
theorem dL_law_715 : decode cL_law 715 = .ok (.goto 1544, 3) := by decide +kernel
theorem dL_law_718 : decode cL_law 718 = .ok (.aload_n 1, 1) := by decide +kernel
theorem dL_law_719 : decode cL_law 719 = .ok (.aload_n 0, 1) := by decide +kernel
theorem dL_law_720 : decode cL_law 720 = .ok (.iload 5, 2) := by decide +kernel
theorem dL_law_722 : decode cL_law 722 = .ok (.iconst 1, 1) := by decide +kernel
theorem dL_law_723 : decode cL_law 723 = .ok (.iadd, 1) := by decide +kernel
theorem dL_law_724 : decode cL_law 724 = .ok (.iaload, 1) := by decide +kernel
theorem dL_law_725 : decode cL_law 725 = .ok (.aload_n 0, 1) := by decide +kernel
theorem dL_law_726 : decode cL_law 726 = .ok (.iload 5, 2) := by decide +kernel
theorem dL_law_728 : decode cL_law 728 = .ok (.iconst 2, 1) := by decide +kernel
theorem dL_law_729 : decode cL_law 729 = .ok (.iadd, 1) := by decide +kernel
theorem dL_law_730 : decode cL_law 730 = .ok (.iaload, 1) := by decide +kernel
theorem dL_law_731 : decode cL_law 731 = .ok (.aload_n 3, 1) := by decide +kernel
theorem dL_law_732 : decode cL_law 732 = .ok (.invokestatic 168, 3) := by decide +kernel
theorem dL_law_735 : decode cL_law 735 = .ok (.istore 6, 2) := by decide +kernel
theorem dL_law_737 : decode cL_law 737 = .ok (.aload_n 2, 1) := by decide +kernel
theorem dL_law_738 : decode cL_law 738 = .ok (.aload_n 0, 1) := by decide +kernel
theorem dL_law_739 : decode cL_law 739 = .ok (.iload 5, 2) := by decide +kernel
theorem dL_law_741 : decode cL_law 741 = .ok (.iconst 1, 1) := by decide +kernel
theorem dL_law_742 : decode cL_law 742 = .ok (.iadd, 1) := by decide +kernel
theorem dL_law_743 : decode cL_law 743 = .ok (.iaload, 1) := by decide +kernel
theorem dL_law_744 : decode cL_law 744 = .ok (.aload_n 0, 1) := by decide +kernel
theorem dL_law_745 : decode cL_law 745 = .ok (.iload 5, 2) := by decide +kernel
theorem dL_law_747 : decode cL_law 747 = .ok (.iconst 2, 1) := by decide +kernel
theorem dL_law_748 : decode cL_law 748 = .ok (.iadd, 1) := by decide +kernel
theorem dL_law_749 : decode cL_law 749 = .ok (.iaload, 1) := by decide +kernel
theorem dL_law_750 : decode cL_law 750 = .ok (.invokevirtual 170, 3) := by decide +kernel
theorem dL_law_753 : decode cL_law 753 = .ok (.istore 7, 2) := by decide +kernel
theorem dL_law_755 : decode cL_law 755 = .ok (.aload_n 2, 1) := by decide +kernel
theorem dL_law_756 : decode cL_law 756 = .ok (.invokevirtual 133, 3) := by decide +kernel
theorem dL_law_759 : decode cL_law 759 = .ok (.iload 6, 2) := by decide +kernel
theorem dL_law_761 : decode cL_law 761 = .ok (.if_icmp .eq 5, 3) := by decide +kernel
theorem dL_law_764 : decode cL_law 764 = .ok (.iconst 0, 1) := by decide +kernel
theorem dL_law_765 : decode cL_law 765 = .ok (.ireturn, 1) := by decide +kernel
theorem dL_law_766 : decode cL_law 766 = .ok (.iload 6, 2) := by decide +kernel
theorem dL_law_768 : decode cL_law 768 = .ok (.ifCond .ne 15, 3) := by decide +kernel
theorem dL_law_771 : decode cL_law 771 = .ok (.aload_n 3, 1) := by decide +kernel
theorem dL_law_772 : decode cL_law 772 = .ok (.iconst 0, 1) := by decide +kernel
theorem dL_law_773 : decode cL_law 773 = .ok (.laload, 1) := by decide +kernel
theorem dL_law_774 : decode cL_law 774 = .ok (.iload 7, 2) := by decide +kernel
theorem dL_law_776 : decode cL_law 776 = .ok (.i2l, 1) := by decide +kernel
theorem dL_law_777 : decode cL_law 777 = .ok (.lcmp, 1) := by decide +kernel
theorem dL_law_778 : decode cL_law 778 = .ok (.ifCond .eq 5, 3) := by decide +kernel
theorem dL_law_781 : decode cL_law 781 = .ok (.iconst 0, 1) := by decide +kernel
theorem dL_law_782 : decode cL_law 782 = .ok (.ireturn, 1) := by decide +kernel
theorem dL_law_783 : decode cL_law 783 = .ok (.goto 1476, 3) := by decide +kernel
theorem dL_law_786 : decode cL_law 786 = .ok (.aload_n 1, 1) := by decide +kernel
theorem dL_law_787 : decode cL_law 787 = .ok (.aload_n 0, 1) := by decide +kernel
theorem dL_law_788 : decode cL_law 788 = .ok (.iload 5, 2) := by decide +kernel
theorem dL_law_790 : decode cL_law 790 = .ok (.iconst 1, 1) := by decide +kernel
theorem dL_law_791 : decode cL_law 791 = .ok (.iadd, 1) := by decide +kernel
theorem dL_law_792 : decode cL_law 792 = .ok (.iaload, 1) := by decide +kernel
theorem dL_law_793 : decode cL_law 793 = .ok (.aload_n 0, 1) := by decide +kernel
theorem dL_law_794 : decode cL_law 794 = .ok (.iload 5, 2) := by decide +kernel
theorem dL_law_796 : decode cL_law 796 = .ok (.iconst 2, 1) := by decide +kernel
theorem dL_law_797 : decode cL_law 797 = .ok (.iadd, 1) := by decide +kernel
theorem dL_law_798 : decode cL_law 798 = .ok (.iaload, 1) := by decide +kernel
theorem dL_law_799 : decode cL_law 799 = .ok (.aload_n 3, 1) := by decide +kernel
theorem dL_law_800 : decode cL_law 800 = .ok (.invokestatic 171, 3) := by decide +kernel
theorem dL_law_803 : decode cL_law 803 = .ok (.istore 6, 2) := by decide +kernel
theorem dL_law_805 : decode cL_law 805 = .ok (.aload_n 2, 1) := by decide +kernel
theorem dL_law_806 : decode cL_law 806 = .ok (.aload_n 0, 1) := by decide +kernel
theorem dL_law_807 : decode cL_law 807 = .ok (.iload 5, 2) := by decide +kernel
theorem dL_law_809 : decode cL_law 809 = .ok (.iconst 1, 1) := by decide +kernel
theorem dL_law_810 : decode cL_law 810 = .ok (.iadd, 1) := by decide +kernel
theorem dL_law_811 : decode cL_law 811 = .ok (.iaload, 1) := by decide +kernel
theorem dL_law_812 : decode cL_law 812 = .ok (.aload_n 0, 1) := by decide +kernel
theorem dL_law_813 : decode cL_law 813 = .ok (.iload 5, 2) := by decide +kernel
theorem dL_law_815 : decode cL_law 815 = .ok (.iconst 2, 1) := by decide +kernel
theorem dL_law_816 : decode cL_law 816 = .ok (.iadd, 1) := by decide +kernel
theorem dL_law_817 : decode cL_law 817 = .ok (.iaload, 1) := by decide +kernel
theorem dL_law_818 : decode cL_law 818 = .ok (.invokevirtual 173, 3) := by decide +kernel
theorem dL_law_821 : decode cL_law 821 = .ok (.lstore 7, 2) := by decide +kernel
theorem dL_law_823 : decode cL_law 823 = .ok (.aload_n 2, 1) := by decide +kernel
theorem dL_law_824 : decode cL_law 824 = .ok (.invokevirtual 133, 3) := by decide +kernel
theorem dL_law_827 : decode cL_law 827 = .ok (.iload 6, 2) := by decide +kernel
theorem dL_law_829 : decode cL_law 829 = .ok (.if_icmp .eq 5, 3) := by decide +kernel
theorem dL_law_832 : decode cL_law 832 = .ok (.iconst 0, 1) := by decide +kernel
theorem dL_law_833 : decode cL_law 833 = .ok (.ireturn, 1) := by decide +kernel
theorem dL_law_834 : decode cL_law 834 = .ok (.iload 6, 2) := by decide +kernel
theorem dL_law_836 : decode cL_law 836 = .ok (.ifCond .ne 14, 3) := by decide +kernel
theorem dL_law_839 : decode cL_law 839 = .ok (.aload_n 3, 1) := by decide +kernel
theorem dL_law_840 : decode cL_law 840 = .ok (.iconst 0, 1) := by decide +kernel
theorem dL_law_841 : decode cL_law 841 = .ok (.laload, 1) := by decide +kernel
theorem dL_law_842 : decode cL_law 842 = .ok (.lload 7, 2) := by decide +kernel
theorem dL_law_844 : decode cL_law 844 = .ok (.lcmp, 1) := by decide +kernel
theorem dL_law_845 : decode cL_law 845 = .ok (.ifCond .eq 5, 3) := by decide +kernel
theorem dL_law_848 : decode cL_law 848 = .ok (.iconst 0, 1) := by decide +kernel
theorem dL_law_849 : decode cL_law 849 = .ok (.ireturn, 1) := by decide +kernel
theorem dL_law_850 : decode cL_law 850 = .ok (.goto 1409, 3) := by decide +kernel
theorem dL_law_853 : decode cL_law 853 = .ok (.aload_n 1, 1) := by decide +kernel
theorem dL_law_854 : decode cL_law 854 = .ok (.aload_n 0, 1) := by decide +kernel
theorem dL_law_855 : decode cL_law 855 = .ok (.iload 5, 2) := by decide +kernel
theorem dL_law_857 : decode cL_law 857 = .ok (.iconst 1, 1) := by decide +kernel
theorem dL_law_858 : decode cL_law 858 = .ok (.iadd, 1) := by decide +kernel
theorem dL_law_859 : decode cL_law 859 = .ok (.iaload, 1) := by decide +kernel
theorem dL_law_860 : decode cL_law 860 = .ok (.aload_n 0, 1) := by decide +kernel
theorem dL_law_861 : decode cL_law 861 = .ok (.iload 5, 2) := by decide +kernel
theorem dL_law_863 : decode cL_law 863 = .ok (.iconst 2, 1) := by decide +kernel
theorem dL_law_864 : decode cL_law 864 = .ok (.iadd, 1) := by decide +kernel
theorem dL_law_865 : decode cL_law 865 = .ok (.iaload, 1) := by decide +kernel
theorem dL_law_866 : decode cL_law 866 = .ok (.aload_n 3, 1) := by decide +kernel
theorem dL_law_867 : decode cL_law 867 = .ok (.invokestatic 174, 3) := by decide +kernel
theorem dL_law_870 : decode cL_law 870 = .ok (.istore 6, 2) := by decide +kernel
theorem dL_law_872 : decode cL_law 872 = .ok (.aload_n 2, 1) := by decide +kernel
theorem dL_law_873 : decode cL_law 873 = .ok (.aload_n 0, 1) := by decide +kernel
theorem dL_law_874 : decode cL_law 874 = .ok (.iload 5, 2) := by decide +kernel
theorem dL_law_876 : decode cL_law 876 = .ok (.iconst 1, 1) := by decide +kernel
theorem dL_law_877 : decode cL_law 877 = .ok (.iadd, 1) := by decide +kernel
theorem dL_law_878 : decode cL_law 878 = .ok (.iaload, 1) := by decide +kernel
theorem dL_law_879 : decode cL_law 879 = .ok (.aload_n 0, 1) := by decide +kernel
theorem dL_law_880 : decode cL_law 880 = .ok (.iload 5, 2) := by decide +kernel
theorem dL_law_882 : decode cL_law 882 = .ok (.iconst 2, 1) := by decide +kernel
theorem dL_law_883 : decode cL_law 883 = .ok (.iadd, 1) := by decide +kernel
theorem dL_law_884 : decode cL_law 884 = .ok (.iaload, 1) := by decide +kernel
theorem dL_law_885 : decode cL_law 885 = .ok (.invokevirtual 176, 3) := by decide +kernel
theorem dL_law_888 : decode cL_law 888 = .ok (.istore 7, 2) := by decide +kernel
theorem dL_law_890 : decode cL_law 890 = .ok (.aload_n 2, 1) := by decide +kernel
theorem dL_law_891 : decode cL_law 891 = .ok (.invokevirtual 133, 3) := by decide +kernel
theorem dL_law_894 : decode cL_law 894 = .ok (.iload 6, 2) := by decide +kernel
theorem dL_law_896 : decode cL_law 896 = .ok (.if_icmp .eq 5, 3) := by decide +kernel
theorem dL_law_899 : decode cL_law 899 = .ok (.iconst 0, 1) := by decide +kernel
theorem dL_law_900 : decode cL_law 900 = .ok (.ireturn, 1) := by decide +kernel
theorem dL_law_901 : decode cL_law 901 = .ok (.iload 6, 2) := by decide +kernel
theorem dL_law_903 : decode cL_law 903 = .ok (.ifCond .ne 15, 3) := by decide +kernel
theorem dL_law_906 : decode cL_law 906 = .ok (.aload_n 3, 1) := by decide +kernel
theorem dL_law_907 : decode cL_law 907 = .ok (.iconst 0, 1) := by decide +kernel
theorem dL_law_908 : decode cL_law 908 = .ok (.laload, 1) := by decide +kernel
theorem dL_law_909 : decode cL_law 909 = .ok (.iload 7, 2) := by decide +kernel
theorem dL_law_911 : decode cL_law 911 = .ok (.i2l, 1) := by decide +kernel
theorem dL_law_912 : decode cL_law 912 = .ok (.lcmp, 1) := by decide +kernel
theorem dL_law_913 : decode cL_law 913 = .ok (.ifCond .eq 5, 3) := by decide +kernel
theorem dL_law_916 : decode cL_law 916 = .ok (.iconst 0, 1) := by decide +kernel
theorem dL_law_917 : decode cL_law 917 = .ok (.ireturn, 1) := by decide +kernel
theorem dL_law_918 : decode cL_law 918 = .ok (.goto 1341, 3) := by decide +kernel
theorem dL_law_921 : decode cL_law 921 = .ok (.aload_n 1, 1) := by decide +kernel
theorem dL_law_922 : decode cL_law 922 = .ok (.aload_n 0, 1) := by decide +kernel
theorem dL_law_923 : decode cL_law 923 = .ok (.iload 5, 2) := by decide +kernel
theorem dL_law_925 : decode cL_law 925 = .ok (.iconst 1, 1) := by decide +kernel
theorem dL_law_926 : decode cL_law 926 = .ok (.iadd, 1) := by decide +kernel
theorem dL_law_927 : decode cL_law 927 = .ok (.iaload, 1) := by decide +kernel
theorem dL_law_928 : decode cL_law 928 = .ok (.aload_n 3, 1) := by decide +kernel
theorem dL_law_929 : decode cL_law 929 = .ok (.invokestatic 177, 3) := by decide +kernel
theorem dL_law_932 : decode cL_law 932 = .ok (.istore 6, 2) := by decide +kernel
theorem dL_law_934 : decode cL_law 934 = .ok (.aload_n 2, 1) := by decide +kernel
theorem dL_law_935 : decode cL_law 935 = .ok (.aload_n 0, 1) := by decide +kernel
theorem dL_law_936 : decode cL_law 936 = .ok (.iload 5, 2) := by decide +kernel
theorem dL_law_938 : decode cL_law 938 = .ok (.iconst 1, 1) := by decide +kernel
theorem dL_law_939 : decode cL_law 939 = .ok (.iadd, 1) := by decide +kernel
theorem dL_law_940 : decode cL_law 940 = .ok (.iaload, 1) := by decide +kernel
theorem dL_law_941 : decode cL_law 941 = .ok (.invokevirtual 179, 3) := by decide +kernel
theorem dL_law_944 : decode cL_law 944 = .ok (.istore 7, 2) := by decide +kernel
theorem dL_law_946 : decode cL_law 946 = .ok (.aload_n 2, 1) := by decide +kernel
theorem dL_law_947 : decode cL_law 947 = .ok (.invokevirtual 133, 3) := by decide +kernel
theorem dL_law_950 : decode cL_law 950 = .ok (.iload 6, 2) := by decide +kernel
theorem dL_law_952 : decode cL_law 952 = .ok (.if_icmp .eq 5, 3) := by decide +kernel
theorem dL_law_955 : decode cL_law 955 = .ok (.iconst 0, 1) := by decide +kernel
theorem dL_law_956 : decode cL_law 956 = .ok (.ireturn, 1) := by decide +kernel
theorem dL_law_957 : decode cL_law 957 = .ok (.iload 6, 2) := by decide +kernel
theorem dL_law_959 : decode cL_law 959 = .ok (.ifCond .ne 15, 3) := by decide +kernel
theorem dL_law_962 : decode cL_law 962 = .ok (.aload_n 3, 1) := by decide +kernel
theorem dL_law_963 : decode cL_law 963 = .ok (.iconst 0, 1) := by decide +kernel
theorem dL_law_964 : decode cL_law 964 = .ok (.laload, 1) := by decide +kernel
theorem dL_law_965 : decode cL_law 965 = .ok (.iload 7, 2) := by decide +kernel
theorem dL_law_967 : decode cL_law 967 = .ok (.i2l, 1) := by decide +kernel
theorem dL_law_968 : decode cL_law 968 = .ok (.lcmp, 1) := by decide +kernel
theorem dL_law_969 : decode cL_law 969 = .ok (.ifCond .eq 5, 3) := by decide +kernel
theorem dL_law_972 : decode cL_law 972 = .ok (.iconst 0, 1) := by decide +kernel
theorem dL_law_973 : decode cL_law 973 = .ok (.ireturn, 1) := by decide +kernel
theorem dL_law_974 : decode cL_law 974 = .ok (.goto 1285, 3) := by decide +kernel
theorem dL_law_977 : decode cL_law 977 = .ok (.aload_n 1, 1) := by decide +kernel
theorem dL_law_978 : decode cL_law 978 = .ok (.aload_n 0, 1) := by decide +kernel
theorem dL_law_979 : decode cL_law 979 = .ok (.iload 5, 2) := by decide +kernel
theorem dL_law_981 : decode cL_law 981 = .ok (.iconst 1, 1) := by decide +kernel
theorem dL_law_982 : decode cL_law 982 = .ok (.iadd, 1) := by decide +kernel
theorem dL_law_983 : decode cL_law 983 = .ok (.iaload, 1) := by decide +kernel
theorem dL_law_984 : decode cL_law 984 = .ok (.aload 4, 2) := by decide +kernel
theorem dL_law_986 : decode cL_law 986 = .ok (.invokestatic 180, 3) := by decide +kernel
theorem dL_law_989 : decode cL_law 989 = .ok (.istore 6, 2) := by decide +kernel
theorem dL_law_991 : decode cL_law 991 = .ok (.aload_n 2, 1) := by decide +kernel
theorem dL_law_992 : decode cL_law 992 = .ok (.aload_n 0, 1) := by decide +kernel
theorem dL_law_993 : decode cL_law 993 = .ok (.iload 5, 2) := by decide +kernel
theorem dL_law_995 : decode cL_law 995 = .ok (.iconst 1, 1) := by decide +kernel
theorem dL_law_996 : decode cL_law 996 = .ok (.iadd, 1) := by decide +kernel
theorem dL_law_997 : decode cL_law 997 = .ok (.iaload, 1) := by decide +kernel
theorem dL_law_998 : decode cL_law 998 = .ok (.invokevirtual 183, 3) := by decide +kernel
theorem dL_law_1001 : decode cL_law 1001 = .ok (.dstore 7, 2) := by decide +kernel
theorem dL_law_1003 : decode cL_law 1003 = .ok (.aload_n 2, 1) := by decide +kernel
theorem dL_law_1004 : decode cL_law 1004 = .ok (.invokevirtual 133, 3) := by decide +kernel
theorem dL_law_1007 : decode cL_law 1007 = .ok (.iload 6, 2) := by decide +kernel
theorem dL_law_1009 : decode cL_law 1009 = .ok (.if_icmp .eq 5, 3) := by decide +kernel
theorem dL_law_1012 : decode cL_law 1012 = .ok (.iconst 0, 1) := by decide +kernel
theorem dL_law_1013 : decode cL_law 1013 = .ok (.ireturn, 1) := by decide +kernel
theorem dL_law_1014 : decode cL_law 1014 = .ok (.iload 6, 2) := by decide +kernel
theorem dL_law_1016 : decode cL_law 1016 = .ok (.ifCond .ne 35, 3) := by decide +kernel
theorem dL_law_1019 : decode cL_law 1019 = .ok (.aload 4, 2) := by decide +kernel
theorem dL_law_1021 : decode cL_law 1021 = .ok (.iconst 0, 1) := by decide +kernel
theorem dL_law_1022 : decode cL_law 1022 = .ok (.daload, 1) := by decide +kernel
theorem dL_law_1023 : decode cL_law 1023 = .ok (.dload 7, 2) := by decide +kernel
theorem dL_law_1025 : decode cL_law 1025 = .ok (.dcmp .l, 1) := by decide +kernel
theorem dL_law_1026 : decode cL_law 1026 = .ok (.ifCond .eq 25, 3) := by decide +kernel
theorem dL_law_1029 : decode cL_law 1029 = .ok (.aload 4, 2) := by decide +kernel
theorem dL_law_1031 : decode cL_law 1031 = .ok (.iconst 0, 1) := by decide +kernel
theorem dL_law_1032 : decode cL_law 1032 = .ok (.daload, 1) := by decide +kernel
theorem dL_law_1033 : decode cL_law 1033 = .ok (.aload 4, 2) := by decide +kernel
theorem dL_law_1035 : decode cL_law 1035 = .ok (.iconst 0, 1) := by decide +kernel
theorem dL_law_1036 : decode cL_law 1036 = .ok (.daload, 1) := by decide +kernel
theorem dL_law_1037 : decode cL_law 1037 = .ok (.dcmp .l, 1) := by decide +kernel
theorem dL_law_1038 : decode cL_law 1038 = .ok (.ifCond .eq 11, 3) := by decide +kernel
theorem dL_law_1041 : decode cL_law 1041 = .ok (.dload 7, 2) := by decide +kernel
theorem dL_law_1043 : decode cL_law 1043 = .ok (.dload 7, 2) := by decide +kernel
theorem dL_law_1045 : decode cL_law 1045 = .ok (.dcmp .l, 1) := by decide +kernel
theorem dL_law_1046 : decode cL_law 1046 = .ok (.ifCond .ne 5, 3) := by decide +kernel
theorem dL_law_1049 : decode cL_law 1049 = .ok (.iconst 0, 1) := by decide +kernel
theorem dL_law_1050 : decode cL_law 1050 = .ok (.ireturn, 1) := by decide +kernel
theorem dL_law_1051 : decode cL_law 1051 = .ok (.goto 1208, 3) := by decide +kernel
theorem dL_law_1054 : decode cL_law 1054 = .ok (.aload_n 1, 1) := by decide +kernel
theorem dL_law_1055 : decode cL_law 1055 = .ok (.aload_n 0, 1) := by decide +kernel
theorem dL_law_1056 : decode cL_law 1056 = .ok (.iload 5, 2) := by decide +kernel
theorem dL_law_1058 : decode cL_law 1058 = .ok (.iconst 1, 1) := by decide +kernel
theorem dL_law_1059 : decode cL_law 1059 = .ok (.iadd, 1) := by decide +kernel
theorem dL_law_1060 : decode cL_law 1060 = .ok (.iaload, 1) := by decide +kernel
theorem dL_law_1061 : decode cL_law 1061 = .ok (.aload 4, 2) := by decide +kernel
theorem dL_law_1063 : decode cL_law 1063 = .ok (.invokestatic 184, 3) := by decide +kernel
theorem dL_law_1066 : decode cL_law 1066 = .ok (.istore 6, 2) := by decide +kernel
theorem dL_law_1068 : decode cL_law 1068 = .ok (.aload_n 2, 1) := by decide +kernel
theorem dL_law_1069 : decode cL_law 1069 = .ok (.aload_n 0, 1) := by decide +kernel
theorem dL_law_1070 : decode cL_law 1070 = .ok (.iload 5, 2) := by decide +kernel
theorem dL_law_1072 : decode cL_law 1072 = .ok (.iconst 1, 1) := by decide +kernel
theorem dL_law_1073 : decode cL_law 1073 = .ok (.iadd, 1) := by decide +kernel
theorem dL_law_1074 : decode cL_law 1074 = .ok (.iaload, 1) := by decide +kernel
theorem dL_law_1075 : decode cL_law 1075 = .ok (.invokevirtual 186, 3) := by decide +kernel
theorem dL_law_1078 : decode cL_law 1078 = .ok (.dstore 7, 2) := by decide +kernel
theorem dL_law_1080 : decode cL_law 1080 = .ok (.aload_n 2, 1) := by decide +kernel
theorem dL_law_1081 : decode cL_law 1081 = .ok (.invokevirtual 133, 3) := by decide +kernel
theorem dL_law_1084 : decode cL_law 1084 = .ok (.iload 6, 2) := by decide +kernel
theorem dL_law_1086 : decode cL_law 1086 = .ok (.if_icmp .eq 5, 3) := by decide +kernel
theorem dL_law_1089 : decode cL_law 1089 = .ok (.iconst 0, 1) := by decide +kernel
theorem dL_law_1090 : decode cL_law 1090 = .ok (.ireturn, 1) := by decide +kernel
theorem dL_law_1091 : decode cL_law 1091 = .ok (.iload 6, 2) := by decide +kernel
theorem dL_law_1093 : decode cL_law 1093 = .ok (.ifCond .ne 35, 3) := by decide +kernel
theorem dL_law_1096 : decode cL_law 1096 = .ok (.aload 4, 2) := by decide +kernel
theorem dL_law_1098 : decode cL_law 1098 = .ok (.iconst 0, 1) := by decide +kernel
theorem dL_law_1099 : decode cL_law 1099 = .ok (.daload, 1) := by decide +kernel
theorem dL_law_1100 : decode cL_law 1100 = .ok (.dload 7, 2) := by decide +kernel
theorem dL_law_1102 : decode cL_law 1102 = .ok (.dcmp .l, 1) := by decide +kernel
theorem dL_law_1103 : decode cL_law 1103 = .ok (.ifCond .eq 25, 3) := by decide +kernel
theorem dL_law_1106 : decode cL_law 1106 = .ok (.aload 4, 2) := by decide +kernel
theorem dL_law_1108 : decode cL_law 1108 = .ok (.iconst 0, 1) := by decide +kernel
theorem dL_law_1109 : decode cL_law 1109 = .ok (.daload, 1) := by decide +kernel
theorem dL_law_1110 : decode cL_law 1110 = .ok (.aload 4, 2) := by decide +kernel
theorem dL_law_1112 : decode cL_law 1112 = .ok (.iconst 0, 1) := by decide +kernel
theorem dL_law_1113 : decode cL_law 1113 = .ok (.daload, 1) := by decide +kernel
theorem dL_law_1114 : decode cL_law 1114 = .ok (.dcmp .l, 1) := by decide +kernel
theorem dL_law_1115 : decode cL_law 1115 = .ok (.ifCond .eq 11, 3) := by decide +kernel
theorem dL_law_1118 : decode cL_law 1118 = .ok (.dload 7, 2) := by decide +kernel
theorem dL_law_1120 : decode cL_law 1120 = .ok (.dload 7, 2) := by decide +kernel
theorem dL_law_1122 : decode cL_law 1122 = .ok (.dcmp .l, 1) := by decide +kernel
theorem dL_law_1123 : decode cL_law 1123 = .ok (.ifCond .ne 5, 3) := by decide +kernel
theorem dL_law_1126 : decode cL_law 1126 = .ok (.iconst 0, 1) := by decide +kernel
theorem dL_law_1127 : decode cL_law 1127 = .ok (.ireturn, 1) := by decide +kernel
theorem dL_law_1128 : decode cL_law 1128 = .ok (.goto 1131, 3) := by decide +kernel
theorem dL_law_1131 : decode cL_law 1131 = .ok (.aload_n 1, 1) := by decide +kernel
theorem dL_law_1132 : decode cL_law 1132 = .ok (.aload_n 0, 1) := by decide +kernel
theorem dL_law_1133 : decode cL_law 1133 = .ok (.iload 5, 2) := by decide +kernel
theorem dL_law_1135 : decode cL_law 1135 = .ok (.iconst 1, 1) := by decide +kernel
theorem dL_law_1136 : decode cL_law 1136 = .ok (.iadd, 1) := by decide +kernel
theorem dL_law_1137 : decode cL_law 1137 = .ok (.iaload, 1) := by decide +kernel
theorem dL_law_1138 : decode cL_law 1138 = .ok (.aload_n 0, 1) := by decide +kernel
theorem dL_law_1139 : decode cL_law 1139 = .ok (.iload 5, 2) := by decide +kernel
theorem dL_law_1141 : decode cL_law 1141 = .ok (.iconst 2, 1) := by decide +kernel
theorem dL_law_1142 : decode cL_law 1142 = .ok (.iadd, 1) := by decide +kernel
theorem dL_law_1143 : decode cL_law 1143 = .ok (.iaload, 1) := by decide +kernel
theorem dL_law_1144 : decode cL_law 1144 = .ok (.aload_n 3, 1) := by decide +kernel
theorem dL_law_1145 : decode cL_law 1145 = .ok (.invokestatic 187, 3) := by decide +kernel
theorem dL_law_1148 : decode cL_law 1148 = .ok (.istore 6, 2) := by decide +kernel
theorem dL_law_1150 : decode cL_law 1150 = .ok (.aload_n 2, 1) := by decide +kernel
theorem dL_law_1151 : decode cL_law 1151 = .ok (.aload_n 0, 1) := by decide +kernel
theorem dL_law_1152 : decode cL_law 1152 = .ok (.iload 5, 2) := by decide +kernel
theorem dL_law_1154 : decode cL_law 1154 = .ok (.iconst 1, 1) := by decide +kernel
theorem dL_law_1155 : decode cL_law 1155 = .ok (.iadd, 1) := by decide +kernel
theorem dL_law_1156 : decode cL_law 1156 = .ok (.iaload, 1) := by decide +kernel
theorem dL_law_1157 : decode cL_law 1157 = .ok (.aload_n 0, 1) := by decide +kernel
theorem dL_law_1158 : decode cL_law 1158 = .ok (.iload 5, 2) := by decide +kernel
theorem dL_law_1160 : decode cL_law 1160 = .ok (.iconst 2, 1) := by decide +kernel
theorem dL_law_1161 : decode cL_law 1161 = .ok (.iadd, 1) := by decide +kernel
theorem dL_law_1162 : decode cL_law 1162 = .ok (.iaload, 1) := by decide +kernel
theorem dL_law_1163 : decode cL_law 1163 = .ok (.invokevirtual 189, 3) := by decide +kernel
theorem dL_law_1166 : decode cL_law 1166 = .ok (.istore 7, 2) := by decide +kernel
theorem dL_law_1168 : decode cL_law 1168 = .ok (.aload_n 2, 1) := by decide +kernel
theorem dL_law_1169 : decode cL_law 1169 = .ok (.invokevirtual 133, 3) := by decide +kernel
theorem dL_law_1172 : decode cL_law 1172 = .ok (.iload 6, 2) := by decide +kernel
theorem dL_law_1174 : decode cL_law 1174 = .ok (.if_icmp .eq 5, 3) := by decide +kernel
theorem dL_law_1177 : decode cL_law 1177 = .ok (.iconst 0, 1) := by decide +kernel
theorem dL_law_1178 : decode cL_law 1178 = .ok (.ireturn, 1) := by decide +kernel
theorem dL_law_1179 : decode cL_law 1179 = .ok (.iload 6, 2) := by decide +kernel
theorem dL_law_1181 : decode cL_law 1181 = .ok (.ifCond .ne 15, 3) := by decide +kernel
theorem dL_law_1184 : decode cL_law 1184 = .ok (.aload_n 3, 1) := by decide +kernel
theorem dL_law_1185 : decode cL_law 1185 = .ok (.iconst 0, 1) := by decide +kernel
theorem dL_law_1186 : decode cL_law 1186 = .ok (.laload, 1) := by decide +kernel
theorem dL_law_1187 : decode cL_law 1187 = .ok (.iload 7, 2) := by decide +kernel
theorem dL_law_1189 : decode cL_law 1189 = .ok (.i2l, 1) := by decide +kernel
theorem dL_law_1190 : decode cL_law 1190 = .ok (.lcmp, 1) := by decide +kernel
theorem dL_law_1191 : decode cL_law 1191 = .ok (.ifCond .eq 5, 3) := by decide +kernel
theorem dL_law_1194 : decode cL_law 1194 = .ok (.iconst 0, 1) := by decide +kernel
theorem dL_law_1195 : decode cL_law 1195 = .ok (.ireturn, 1) := by decide +kernel
theorem dL_law_1196 : decode cL_law 1196 = .ok (.goto 1063, 3) := by decide +kernel
theorem dL_law_1199 : decode cL_law 1199 = .ok (.aload_n 1, 1) := by decide +kernel
theorem dL_law_1200 : decode cL_law 1200 = .ok (.aload_n 0, 1) := by decide +kernel
theorem dL_law_1201 : decode cL_law 1201 = .ok (.iload 5, 2) := by decide +kernel
theorem dL_law_1203 : decode cL_law 1203 = .ok (.iconst 1, 1) := by decide +kernel
theorem dL_law_1204 : decode cL_law 1204 = .ok (.iadd, 1) := by decide +kernel
theorem dL_law_1205 : decode cL_law 1205 = .ok (.iaload, 1) := by decide +kernel
theorem dL_law_1206 : decode cL_law 1206 = .ok (.aload_n 0, 1) := by decide +kernel
theorem dL_law_1207 : decode cL_law 1207 = .ok (.iload 5, 2) := by decide +kernel
theorem dL_law_1209 : decode cL_law 1209 = .ok (.iconst 2, 1) := by decide +kernel
theorem dL_law_1210 : decode cL_law 1210 = .ok (.iadd, 1) := by decide +kernel
theorem dL_law_1211 : decode cL_law 1211 = .ok (.iaload, 1) := by decide +kernel
theorem dL_law_1212 : decode cL_law 1212 = .ok (.aload_n 0, 1) := by decide +kernel
theorem dL_law_1213 : decode cL_law 1213 = .ok (.iload 5, 2) := by decide +kernel
theorem dL_law_1215 : decode cL_law 1215 = .ok (.iconst 3, 1) := by decide +kernel
theorem dL_law_1216 : decode cL_law 1216 = .ok (.iadd, 1) := by decide +kernel
theorem dL_law_1217 : decode cL_law 1217 = .ok (.iaload, 1) := by decide +kernel
theorem dL_law_1218 : decode cL_law 1218 = .ok (.invokestatic 190, 3) := by decide +kernel
theorem dL_law_1221 : decode cL_law 1221 = .ok (.istore 6, 2) := by decide +kernel
theorem dL_law_1223 : decode cL_law 1223 = .ok (.aload_n 2, 1) := by decide +kernel
theorem dL_law_1224 : decode cL_law 1224 = .ok (.aload_n 0, 1) := by decide +kernel
theorem dL_law_1225 : decode cL_law 1225 = .ok (.iload 5, 2) := by decide +kernel
theorem dL_law_1227 : decode cL_law 1227 = .ok (.iconst 1, 1) := by decide +kernel
theorem dL_law_1228 : decode cL_law 1228 = .ok (.iadd, 1) := by decide +kernel
theorem dL_law_1229 : decode cL_law 1229 = .ok (.iaload, 1) := by decide +kernel
theorem dL_law_1230 : decode cL_law 1230 = .ok (.aload_n 0, 1) := by decide +kernel
theorem dL_law_1231 : decode cL_law 1231 = .ok (.iload 5, 2) := by decide +kernel
theorem dL_law_1233 : decode cL_law 1233 = .ok (.iconst 2, 1) := by decide +kernel
theorem dL_law_1234 : decode cL_law 1234 = .ok (.iadd, 1) := by decide +kernel
theorem dL_law_1235 : decode cL_law 1235 = .ok (.iaload, 1) := by decide +kernel
theorem dL_law_1236 : decode cL_law 1236 = .ok (.aload_n 0, 1) := by decide +kernel
theorem dL_law_1237 : decode cL_law 1237 = .ok (.iload 5, 2) := by decide +kernel
theorem dL_law_1239 : decode cL_law 1239 = .ok (.iconst 3, 1) := by decide +kernel
theorem dL_law_1240 : decode cL_law 1240 = .ok (.iadd, 1) := by decide +kernel
theorem dL_law_1241 : decode cL_law 1241 = .ok (.iaload, 1) := by decide +kernel
theorem dL_law_1242 : decode cL_law 1242 = .ok (.invokevirtual 193, 3) := by decide +kernel
theorem dL_law_1245 : decode cL_law 1245 = .ok (.aload_n 2, 1) := by decide +kernel
theorem dL_law_1246 : decode cL_law 1246 = .ok (.invokevirtual 133, 3) := by decide +kernel
theorem dL_law_1249 : decode cL_law 1249 = .ok (.iload 6, 2) := by decide +kernel
theorem dL_law_1251 : decode cL_law 1251 = .ok (.if_icmp .eq 5, 3) := by decide +kernel
theorem dL_law_1254 : decode cL_law 1254 = .ok (.iconst 0, 1) := by decide +kernel
theorem dL_law_1255 : decode cL_law 1255 = .ok (.ireturn, 1) := by decide +kernel
theorem dL_law_1256 : decode cL_law 1256 = .ok (.goto 1003, 3) := by decide +kernel
theorem dL_law_1259 : decode cL_law 1259 = .ok (.aload_n 1, 1) := by decide +kernel
theorem dL_law_1260 : decode cL_law 1260 = .ok (.aload_n 0, 1) := by decide +kernel
theorem dL_law_1261 : decode cL_law 1261 = .ok (.iload 5, 2) := by decide +kernel
theorem dL_law_1263 : decode cL_law 1263 = .ok (.iconst 1, 1) := by decide +kernel
theorem dL_law_1264 : decode cL_law 1264 = .ok (.iadd, 1) := by decide +kernel
theorem dL_law_1265 : decode cL_law 1265 = .ok (.iaload, 1) := by decide +kernel
theorem dL_law_1266 : decode cL_law 1266 = .ok (.aload_n 3, 1) := by decide +kernel
theorem dL_law_1267 : decode cL_law 1267 = .ok (.invokestatic 194, 3) := by decide +kernel
theorem dL_law_1270 : decode cL_law 1270 = .ok (.istore 6, 2) := by decide +kernel
theorem dL_law_1272 : decode cL_law 1272 = .ok (.aload_n 2, 1) := by decide +kernel
theorem dL_law_1273 : decode cL_law 1273 = .ok (.aload_n 0, 1) := by decide +kernel
theorem dL_law_1274 : decode cL_law 1274 = .ok (.iload 5, 2) := by decide +kernel
theorem dL_law_1276 : decode cL_law 1276 = .ok (.iconst 1, 1) := by decide +kernel
theorem dL_law_1277 : decode cL_law 1277 = .ok (.iadd, 1) := by decide +kernel
theorem dL_law_1278 : decode cL_law 1278 = .ok (.iaload, 1) := by decide +kernel
theorem dL_law_1279 : decode cL_law 1279 = .ok (.invokevirtual 196, 3) := by decide +kernel
theorem dL_law_1282 : decode cL_law 1282 = .ok (.istore 7, 2) := by decide +kernel
theorem dL_law_1284 : decode cL_law 1284 = .ok (.aload_n 2, 1) := by decide +kernel
theorem dL_law_1285 : decode cL_law 1285 = .ok (.invokevirtual 133, 3) := by decide +kernel
theorem dL_law_1288 : decode cL_law 1288 = .ok (.iload 6, 2) := by decide +kernel
theorem dL_law_1290 : decode cL_law 1290 = .ok (.if_icmp .eq 5, 3) := by decide +kernel
theorem dL_law_1293 : decode cL_law 1293 = .ok (.iconst 0, 1) := by decide +kernel
theorem dL_law_1294 : decode cL_law 1294 = .ok (.ireturn, 1) := by decide +kernel
theorem dL_law_1295 : decode cL_law 1295 = .ok (.iload 6, 2) := by decide +kernel
theorem dL_law_1297 : decode cL_law 1297 = .ok (.ifCond .ne 15, 3) := by decide +kernel
theorem dL_law_1300 : decode cL_law 1300 = .ok (.aload_n 3, 1) := by decide +kernel
theorem dL_law_1301 : decode cL_law 1301 = .ok (.iconst 0, 1) := by decide +kernel
theorem dL_law_1302 : decode cL_law 1302 = .ok (.laload, 1) := by decide +kernel
theorem dL_law_1303 : decode cL_law 1303 = .ok (.iload 7, 2) := by decide +kernel
theorem dL_law_1305 : decode cL_law 1305 = .ok (.i2l, 1) := by decide +kernel
theorem dL_law_1306 : decode cL_law 1306 = .ok (.lcmp, 1) := by decide +kernel
theorem dL_law_1307 : decode cL_law 1307 = .ok (.ifCond .eq 5, 3) := by decide +kernel
theorem dL_law_1310 : decode cL_law 1310 = .ok (.iconst 0, 1) := by decide +kernel
theorem dL_law_1311 : decode cL_law 1311 = .ok (.ireturn, 1) := by decide +kernel
theorem dL_law_1312 : decode cL_law 1312 = .ok (.goto 947, 3) := by decide +kernel
theorem dL_law_1315 : decode cL_law 1315 = .ok (.aload_n 1, 1) := by decide +kernel
theorem dL_law_1316 : decode cL_law 1316 = .ok (.aload_n 0, 1) := by decide +kernel
theorem dL_law_1317 : decode cL_law 1317 = .ok (.iload 5, 2) := by decide +kernel
theorem dL_law_1319 : decode cL_law 1319 = .ok (.iconst 1, 1) := by decide +kernel
theorem dL_law_1320 : decode cL_law 1320 = .ok (.iadd, 1) := by decide +kernel
theorem dL_law_1321 : decode cL_law 1321 = .ok (.iaload, 1) := by decide +kernel
theorem dL_law_1322 : decode cL_law 1322 = .ok (.aload_n 0, 1) := by decide +kernel
theorem dL_law_1323 : decode cL_law 1323 = .ok (.iload 5, 2) := by decide +kernel
theorem dL_law_1325 : decode cL_law 1325 = .ok (.iconst 2, 1) := by decide +kernel
theorem dL_law_1326 : decode cL_law 1326 = .ok (.iadd, 1) := by decide +kernel
theorem dL_law_1327 : decode cL_law 1327 = .ok (.iaload, 1) := by decide +kernel
theorem dL_law_1328 : decode cL_law 1328 = .ok (.aload_n 0, 1) := by decide +kernel
theorem dL_law_1329 : decode cL_law 1329 = .ok (.iload 5, 2) := by decide +kernel
theorem dL_law_1331 : decode cL_law 1331 = .ok (.iconst 3, 1) := by decide +kernel
theorem dL_law_1332 : decode cL_law 1332 = .ok (.iadd, 1) := by decide +kernel
theorem dL_law_1333 : decode cL_law 1333 = .ok (.iaload, 1) := by decide +kernel
theorem dL_law_1334 : decode cL_law 1334 = .ok (.aload_n 3, 1) := by decide +kernel
theorem dL_law_1335 : decode cL_law 1335 = .ok (.invokestatic 197, 3) := by decide +kernel
theorem dL_law_1338 : decode cL_law 1338 = .ok (.istore 6, 2) := by decide +kernel
theorem dL_law_1340 : decode cL_law 1340 = .ok (.aload_n 2, 1) := by decide +kernel
theorem dL_law_1341 : decode cL_law 1341 = .ok (.aload_n 0, 1) := by decide +kernel
theorem dL_law_1342 : decode cL_law 1342 = .ok (.iload 5, 2) := by decide +kernel
theorem dL_law_1344 : decode cL_law 1344 = .ok (.iconst 1, 1) := by decide +kernel
theorem dL_law_1345 : decode cL_law 1345 = .ok (.iadd, 1) := by decide +kernel
theorem dL_law_1346 : decode cL_law 1346 = .ok (.iaload, 1) := by decide +kernel
theorem dL_law_1347 : decode cL_law 1347 = .ok (.aload_n 0, 1) := by decide +kernel
theorem dL_law_1348 : decode cL_law 1348 = .ok (.iload 5, 2) := by decide +kernel
theorem dL_law_1350 : decode cL_law 1350 = .ok (.iconst 2, 1) := by decide +kernel
theorem dL_law_1351 : decode cL_law 1351 = .ok (.iadd, 1) := by decide +kernel
theorem dL_law_1352 : decode cL_law 1352 = .ok (.iaload, 1) := by decide +kernel
theorem dL_law_1353 : decode cL_law 1353 = .ok (.aload_n 0, 1) := by decide +kernel
theorem dL_law_1354 : decode cL_law 1354 = .ok (.iload 5, 2) := by decide +kernel
theorem dL_law_1356 : decode cL_law 1356 = .ok (.iconst 3, 1) := by decide +kernel
theorem dL_law_1357 : decode cL_law 1357 = .ok (.iadd, 1) := by decide +kernel
theorem dL_law_1358 : decode cL_law 1358 = .ok (.iaload, 1) := by decide +kernel
theorem dL_law_1359 : decode cL_law 1359 = .ok (.invokevirtual 200, 3) := by decide +kernel
theorem dL_law_1362 : decode cL_law 1362 = .ok (.istore 7, 2) := by decide +kernel
theorem dL_law_1364 : decode cL_law 1364 = .ok (.aload_n 2, 1) := by decide +kernel
theorem dL_law_1365 : decode cL_law 1365 = .ok (.invokevirtual 133, 3) := by decide +kernel
theorem dL_law_1368 : decode cL_law 1368 = .ok (.iload 6, 2) := by decide +kernel
theorem dL_law_1370 : decode cL_law 1370 = .ok (.if_icmp .eq 5, 3) := by decide +kernel
theorem dL_law_1373 : decode cL_law 1373 = .ok (.iconst 0, 1) := by decide +kernel
theorem dL_law_1374 : decode cL_law 1374 = .ok (.ireturn, 1) := by decide +kernel
theorem dL_law_1375 : decode cL_law 1375 = .ok (.iload 6, 2) := by decide +kernel
theorem dL_law_1377 : decode cL_law 1377 = .ok (.ifCond .ne 15, 3) := by decide +kernel
theorem dL_law_1380 : decode cL_law 1380 = .ok (.aload_n 3, 1) := by decide +kernel
theorem dL_law_1381 : decode cL_law 1381 = .ok (.iconst 0, 1) := by decide +kernel
theorem dL_law_1382 : decode cL_law 1382 = .ok (.laload, 1) := by decide +kernel
theorem dL_law_1383 : decode cL_law 1383 = .ok (.iload 7, 2) := by decide +kernel
theorem dL_law_1385 : decode cL_law 1385 = .ok (.i2l, 1) := by decide +kernel
theorem dL_law_1386 : decode cL_law 1386 = .ok (.lcmp, 1) := by decide +kernel
theorem dL_law_1387 : decode cL_law 1387 = .ok (.ifCond .eq 5, 3) := by decide +kernel
theorem dL_law_1390 : decode cL_law 1390 = .ok (.iconst 0, 1) := by decide +kernel
theorem dL_law_1391 : decode cL_law 1391 = .ok (.ireturn, 1) := by decide +kernel
theorem dL_law_1392 : decode cL_law 1392 = .ok (.goto 867, 3) := by decide +kernel
theorem dL_law_1395 : decode cL_law 1395 = .ok (.aload_n 1, 1) := by decide +kernel
theorem dL_law_1396 : decode cL_law 1396 = .ok (.aload_n 0, 1) := by decide +kernel
theorem dL_law_1397 : decode cL_law 1397 = .ok (.iload 5, 2) := by decide +kernel
theorem dL_law_1399 : decode cL_law 1399 = .ok (.iconst 1, 1) := by decide +kernel
theorem dL_law_1400 : decode cL_law 1400 = .ok (.iadd, 1) := by decide +kernel
theorem dL_law_1401 : decode cL_law 1401 = .ok (.iaload, 1) := by decide +kernel
theorem dL_law_1402 : decode cL_law 1402 = .ok (.aload_n 3, 1) := by decide +kernel
theorem dL_law_1403 : decode cL_law 1403 = .ok (.invokestatic 201, 3) := by decide +kernel
theorem dL_law_1406 : decode cL_law 1406 = .ok (.istore 6, 2) := by decide +kernel
theorem dL_law_1408 : decode cL_law 1408 = .ok (.aload_n 2, 1) := by decide +kernel
theorem dL_law_1409 : decode cL_law 1409 = .ok (.aload_n 0, 1) := by decide +kernel
theorem dL_law_1410 : decode cL_law 1410 = .ok (.iload 5, 2) := by decide +kernel
theorem dL_law_1412 : decode cL_law 1412 = .ok (.iconst 1, 1) := by decide +kernel
theorem dL_law_1413 : decode cL_law 1413 = .ok (.iadd, 1) := by decide +kernel
theorem dL_law_1414 : decode cL_law 1414 = .ok (.iaload, 1) := by decide +kernel
theorem dL_law_1415 : decode cL_law 1415 = .ok (.invokevirtual 203, 3) := by decide +kernel
theorem dL_law_1418 : decode cL_law 1418 = .ok (.istore 7, 2) := by decide +kernel
theorem dL_law_1420 : decode cL_law 1420 = .ok (.aload_n 2, 1) := by decide +kernel
theorem dL_law_1421 : decode cL_law 1421 = .ok (.invokevirtual 133, 3) := by decide +kernel
theorem dL_law_1424 : decode cL_law 1424 = .ok (.iload 6, 2) := by decide +kernel
theorem dL_law_1426 : decode cL_law 1426 = .ok (.if_icmp .eq 5, 3) := by decide +kernel
theorem dL_law_1429 : decode cL_law 1429 = .ok (.iconst 0, 1) := by decide +kernel
theorem dL_law_1430 : decode cL_law 1430 = .ok (.ireturn, 1) := by decide +kernel
theorem dL_law_1431 : decode cL_law 1431 = .ok (.iload 6, 2) := by decide +kernel
theorem dL_law_1433 : decode cL_law 1433 = .ok (.ifCond .ne 15, 3) := by decide +kernel
theorem dL_law_1436 : decode cL_law 1436 = .ok (.aload_n 3, 1) := by decide +kernel
theorem dL_law_1437 : decode cL_law 1437 = .ok (.iconst 0, 1) := by decide +kernel
theorem dL_law_1438 : decode cL_law 1438 = .ok (.laload, 1) := by decide +kernel
theorem dL_law_1439 : decode cL_law 1439 = .ok (.iload 7, 2) := by decide +kernel
theorem dL_law_1441 : decode cL_law 1441 = .ok (.i2l, 1) := by decide +kernel
theorem dL_law_1442 : decode cL_law 1442 = .ok (.lcmp, 1) := by decide +kernel
theorem dL_law_1443 : decode cL_law 1443 = .ok (.ifCond .eq 5, 3) := by decide +kernel
theorem dL_law_1446 : decode cL_law 1446 = .ok (.iconst 0, 1) := by decide +kernel
theorem dL_law_1447 : decode cL_law 1447 = .ok (.ireturn, 1) := by decide +kernel
theorem dL_law_1448 : decode cL_law 1448 = .ok (.goto 811, 3) := by decide +kernel
theorem dL_law_1451 : decode cL_law 1451 = .ok (.aload_n 1, 1) := by decide +kernel
theorem dL_law_1452 : decode cL_law 1452 = .ok (.aload_n 0, 1) := by decide +kernel
theorem dL_law_1453 : decode cL_law 1453 = .ok (.iload 5, 2) := by decide +kernel
theorem dL_law_1455 : decode cL_law 1455 = .ok (.iconst 1, 1) := by decide +kernel
theorem dL_law_1456 : decode cL_law 1456 = .ok (.iadd, 1) := by decide +kernel
theorem dL_law_1457 : decode cL_law 1457 = .ok (.iaload, 1) := by decide +kernel
theorem dL_law_1458 : decode cL_law 1458 = .ok (.aload_n 0, 1) := by decide +kernel
theorem dL_law_1459 : decode cL_law 1459 = .ok (.iload 5, 2) := by decide +kernel
theorem dL_law_1461 : decode cL_law 1461 = .ok (.iconst 2, 1) := by decide +kernel
theorem dL_law_1462 : decode cL_law 1462 = .ok (.iadd, 1) := by decide +kernel
theorem dL_law_1463 : decode cL_law 1463 = .ok (.iaload, 1) := by decide +kernel
theorem dL_law_1464 : decode cL_law 1464 = .ok (.aload_n 0, 1) := by decide +kernel
theorem dL_law_1465 : decode cL_law 1465 = .ok (.iload 5, 2) := by decide +kernel
theorem dL_law_1467 : decode cL_law 1467 = .ok (.iconst 3, 1) := by decide +kernel
theorem dL_law_1468 : decode cL_law 1468 = .ok (.iadd, 1) := by decide +kernel
theorem dL_law_1469 : decode cL_law 1469 = .ok (.iaload, 1) := by decide +kernel
theorem dL_law_1470 : decode cL_law 1470 = .ok (.aload_n 0, 1) := by decide +kernel
theorem dL_law_1471 : decode cL_law 1471 = .ok (.iload 5, 2) := by decide +kernel
theorem dL_law_1473 : decode cL_law 1473 = .ok (.iconst 4, 1) := by decide +kernel
theorem dL_law_1474 : decode cL_law 1474 = .ok (.iadd, 1) := by decide +kernel
theorem dL_law_1475 : decode cL_law 1475 = .ok (.iaload, 1) := by decide +kernel
theorem dL_law_1476 : decode cL_law 1476 = .ok (.aload_n 3, 1) := by decide +kernel
theorem dL_law_1477 : decode cL_law 1477 = .ok (.invokestatic 204, 3) := by decide +kernel
theorem dL_law_1480 : decode cL_law 1480 = .ok (.istore 6, 2) := by decide +kernel
theorem dL_law_1482 : decode cL_law 1482 = .ok (.aload_n 2, 1) := by decide +kernel
theorem dL_law_1483 : decode cL_law 1483 = .ok (.aload_n 0, 1) := by decide +kernel
theorem dL_law_1484 : decode cL_law 1484 = .ok (.iload 5, 2) := by decide +kernel
theorem dL_law_1486 : decode cL_law 1486 = .ok (.iconst 1, 1) := by decide +kernel
theorem dL_law_1487 : decode cL_law 1487 = .ok (.iadd, 1) := by decide +kernel
theorem dL_law_1488 : decode cL_law 1488 = .ok (.iaload, 1) := by decide +kernel
theorem dL_law_1489 : decode cL_law 1489 = .ok (.aload_n 0, 1) := by decide +kernel
theorem dL_law_1490 : decode cL_law 1490 = .ok (.iload 5, 2) := by decide +kernel
theorem dL_law_1492 : decode cL_law 1492 = .ok (.iconst 2, 1) := by decide +kernel
theorem dL_law_1493 : decode cL_law 1493 = .ok (.iadd, 1) := by decide +kernel
theorem dL_law_1494 : decode cL_law 1494 = .ok (.iaload, 1) := by decide +kernel
theorem dL_law_1495 : decode cL_law 1495 = .ok (.aload_n 0, 1) := by decide +kernel
theorem dL_law_1496 : decode cL_law 1496 = .ok (.iload 5, 2) := by decide +kernel
theorem dL_law_1498 : decode cL_law 1498 = .ok (.iconst 3, 1) := by decide +kernel
theorem dL_law_1499 : decode cL_law 1499 = .ok (.iadd, 1) := by decide +kernel
theorem dL_law_1500 : decode cL_law 1500 = .ok (.iaload, 1) := by decide +kernel
theorem dL_law_1501 : decode cL_law 1501 = .ok (.aload_n 0, 1) := by decide +kernel
theorem dL_law_1502 : decode cL_law 1502 = .ok (.iload 5, 2) := by decide +kernel
theorem dL_law_1504 : decode cL_law 1504 = .ok (.iconst 4, 1) := by decide +kernel
theorem dL_law_1505 : decode cL_law 1505 = .ok (.iadd, 1) := by decide +kernel
theorem dL_law_1506 : decode cL_law 1506 = .ok (.iaload, 1) := by decide +kernel
theorem dL_law_1507 : decode cL_law 1507 = .ok (.invokevirtual 207, 3) := by decide +kernel
theorem dL_law_1510 : decode cL_law 1510 = .ok (.istore 7, 2) := by decide +kernel
theorem dL_law_1512 : decode cL_law 1512 = .ok (.aload_n 2, 1) := by decide +kernel
theorem dL_law_1513 : decode cL_law 1513 = .ok (.invokevirtual 133, 3) := by decide +kernel
theorem dL_law_1516 : decode cL_law 1516 = .ok (.iload 6, 2) := by decide +kernel
theorem dL_law_1518 : decode cL_law 1518 = .ok (.if_icmp .eq 5, 3) := by decide +kernel
theorem dL_law_1521 : decode cL_law 1521 = .ok (.iconst 0, 1) := by decide +kernel
theorem dL_law_1522 : decode cL_law 1522 = .ok (.ireturn, 1) := by decide +kernel
theorem dL_law_1523 : decode cL_law 1523 = .ok (.iload 6, 2) := by decide +kernel
theorem dL_law_1525 : decode cL_law 1525 = .ok (.ifCond .ne 15, 3) := by decide +kernel
theorem dL_law_1528 : decode cL_law 1528 = .ok (.aload_n 3, 1) := by decide +kernel
theorem dL_law_1529 : decode cL_law 1529 = .ok (.iconst 0, 1) := by decide +kernel
theorem dL_law_1530 : decode cL_law 1530 = .ok (.laload, 1) := by decide +kernel
theorem dL_law_1531 : decode cL_law 1531 = .ok (.iload 7, 2) := by decide +kernel
theorem dL_law_1533 : decode cL_law 1533 = .ok (.i2l, 1) := by decide +kernel
theorem dL_law_1534 : decode cL_law 1534 = .ok (.lcmp, 1) := by decide +kernel
theorem dL_law_1535 : decode cL_law 1535 = .ok (.ifCond .eq 5, 3) := by decide +kernel
theorem dL_law_1538 : decode cL_law 1538 = .ok (.iconst 0, 1) := by decide +kernel
theorem dL_law_1539 : decode cL_law 1539 = .ok (.ireturn, 1) := by decide +kernel
theorem dL_law_1540 : decode cL_law 1540 = .ok (.goto 719, 3) := by decide +kernel
theorem dL_law_1543 : decode cL_law 1543 = .ok (.aload_n 1, 1) := by decide +kernel
theorem dL_law_1544 : decode cL_law 1544 = .ok (.aload_n 0, 1) := by decide +kernel
theorem dL_law_1545 : decode cL_law 1545 = .ok (.iload 5, 2) := by decide +kernel
theorem dL_law_1547 : decode cL_law 1547 = .ok (.iconst 1, 1) := by decide +kernel
theorem dL_law_1548 : decode cL_law 1548 = .ok (.iadd, 1) := by decide +kernel
theorem dL_law_1549 : decode cL_law 1549 = .ok (.iaload, 1) := by decide +kernel
theorem dL_law_1550 : decode cL_law 1550 = .ok (.aload_n 3, 1) := by decide +kernel
theorem dL_law_1551 : decode cL_law 1551 = .ok (.invokestatic 208, 3) := by decide +kernel
theorem dL_law_1554 : decode cL_law 1554 = .ok (.istore 6, 2) := by decide +kernel
theorem dL_law_1556 : decode cL_law 1556 = .ok (.aload_n 2, 1) := by decide +kernel
theorem dL_law_1557 : decode cL_law 1557 = .ok (.aload_n 0, 1) := by decide +kernel
theorem dL_law_1558 : decode cL_law 1558 = .ok (.iload 5, 2) := by decide +kernel
theorem dL_law_1560 : decode cL_law 1560 = .ok (.iconst 1, 1) := by decide +kernel
theorem dL_law_1561 : decode cL_law 1561 = .ok (.iadd, 1) := by decide +kernel
theorem dL_law_1562 : decode cL_law 1562 = .ok (.iaload, 1) := by decide +kernel
theorem dL_law_1563 : decode cL_law 1563 = .ok (.invokevirtual 210, 3) := by decide +kernel
theorem dL_law_1566 : decode cL_law 1566 = .ok (.istore 7, 2) := by decide +kernel
theorem dL_law_1568 : decode cL_law 1568 = .ok (.aload_n 2, 1) := by decide +kernel
theorem dL_law_1569 : decode cL_law 1569 = .ok (.invokevirtual 133, 3) := by decide +kernel
theorem dL_law_1572 : decode cL_law 1572 = .ok (.iload 6, 2) := by decide +kernel
theorem dL_law_1574 : decode cL_law 1574 = .ok (.if_icmp .eq 5, 3) := by decide +kernel
theorem dL_law_1577 : decode cL_law 1577 = .ok (.iconst 0, 1) := by decide +kernel
theorem dL_law_1578 : decode cL_law 1578 = .ok (.ireturn, 1) := by decide +kernel
theorem dL_law_1579 : decode cL_law 1579 = .ok (.iload 6, 2) := by decide +kernel
theorem dL_law_1581 : decode cL_law 1581 = .ok (.ifCond .ne 15, 3) := by decide +kernel
theorem dL_law_1584 : decode cL_law 1584 = .ok (.aload_n 3, 1) := by decide +kernel
theorem dL_law_1585 : decode cL_law 1585 = .ok (.iconst 0, 1) := by decide +kernel
theorem dL_law_1586 : decode cL_law 1586 = .ok (.laload, 1) := by decide +kernel
theorem dL_law_1587 : decode cL_law 1587 = .ok (.iload 7, 2) := by decide +kernel
theorem dL_law_1589 : decode cL_law 1589 = .ok (.i2l, 1) := by decide +kernel
theorem dL_law_1590 : decode cL_law 1590 = .ok (.lcmp, 1) := by decide +kernel
theorem dL_law_1591 : decode cL_law 1591 = .ok (.ifCond .eq 5, 3) := by decide +kernel
theorem dL_law_1594 : decode cL_law 1594 = .ok (.iconst 0, 1) := by decide +kernel
theorem dL_law_1595 : decode cL_law 1595 = .ok (.ireturn, 1) := by decide +kernel
theorem dL_law_1596 : decode cL_law 1596 = .ok (.goto 663, 3) := by decide +kernel
theorem dL_law_1599 : decode cL_law 1599 = .ok (.aload_n 1, 1) := by decide +kernel
theorem dL_law_1600 : decode cL_law 1600 = .ok (.aload_n 0, 1) := by decide +kernel
theorem dL_law_1601 : decode cL_law 1601 = .ok (.iload 5, 2) := by decide +kernel
theorem dL_law_1603 : decode cL_law 1603 = .ok (.iconst 1, 1) := by decide +kernel
theorem dL_law_1604 : decode cL_law 1604 = .ok (.iadd, 1) := by decide +kernel
theorem dL_law_1605 : decode cL_law 1605 = .ok (.iaload, 1) := by decide +kernel
theorem dL_law_1606 : decode cL_law 1606 = .ok (.aload_n 0, 1) := by decide +kernel
theorem dL_law_1607 : decode cL_law 1607 = .ok (.iload 5, 2) := by decide +kernel
theorem dL_law_1609 : decode cL_law 1609 = .ok (.iconst 2, 1) := by decide +kernel
theorem dL_law_1610 : decode cL_law 1610 = .ok (.iadd, 1) := by decide +kernel
theorem dL_law_1611 : decode cL_law 1611 = .ok (.iaload, 1) := by decide +kernel
theorem dL_law_1612 : decode cL_law 1612 = .ok (.aload_n 3, 1) := by decide +kernel
theorem dL_law_1613 : decode cL_law 1613 = .ok (.invokestatic 211, 3) := by decide +kernel
theorem dL_law_1616 : decode cL_law 1616 = .ok (.istore 6, 2) := by decide +kernel
theorem dL_law_1618 : decode cL_law 1618 = .ok (.aload_n 2, 1) := by decide +kernel
theorem dL_law_1619 : decode cL_law 1619 = .ok (.aload_n 0, 1) := by decide +kernel
theorem dL_law_1620 : decode cL_law 1620 = .ok (.iload 5, 2) := by decide +kernel
theorem dL_law_1622 : decode cL_law 1622 = .ok (.iconst 1, 1) := by decide +kernel
theorem dL_law_1623 : decode cL_law 1623 = .ok (.iadd, 1) := by decide +kernel
theorem dL_law_1624 : decode cL_law 1624 = .ok (.iaload, 1) := by decide +kernel
theorem dL_law_1625 : decode cL_law 1625 = .ok (.aload_n 0, 1) := by decide +kernel
theorem dL_law_1626 : decode cL_law 1626 = .ok (.iload 5, 2) := by decide +kernel
theorem dL_law_1628 : decode cL_law 1628 = .ok (.iconst 2, 1) := by decide +kernel
theorem dL_law_1629 : decode cL_law 1629 = .ok (.iadd, 1) := by decide +kernel
theorem dL_law_1630 : decode cL_law 1630 = .ok (.iaload, 1) := by decide +kernel
theorem dL_law_1631 : decode cL_law 1631 = .ok (.invokevirtual 213, 3) := by decide +kernel
theorem dL_law_1634 : decode cL_law 1634 = .ok (.istore 7, 2) := by decide +kernel
theorem dL_law_1636 : decode cL_law 1636 = .ok (.aload_n 2, 1) := by decide +kernel
theorem dL_law_1637 : decode cL_law 1637 = .ok (.invokevirtual 133, 3) := by decide +kernel
theorem dL_law_1640 : decode cL_law 1640 = .ok (.iload 6, 2) := by decide +kernel
theorem dL_law_1642 : decode cL_law 1642 = .ok (.if_icmp .eq 5, 3) := by decide +kernel
theorem dL_law_1645 : decode cL_law 1645 = .ok (.iconst 0, 1) := by decide +kernel
theorem dL_law_1646 : decode cL_law 1646 = .ok (.ireturn, 1) := by decide +kernel
theorem dL_law_1647 : decode cL_law 1647 = .ok (.iload 6, 2) := by decide +kernel
theorem dL_law_1649 : decode cL_law 1649 = .ok (.ifCond .ne 15, 3) := by decide +kernel
theorem dL_law_1652 : decode cL_law 1652 = .ok (.aload_n 3, 1) := by decide +kernel
theorem dL_law_1653 : decode cL_law 1653 = .ok (.iconst 0, 1) := by decide +kernel
theorem dL_law_1654 : decode cL_law 1654 = .ok (.laload, 1) := by decide +kernel
theorem dL_law_1655 : decode cL_law 1655 = .ok (.iload 7, 2) := by decide +kernel
theorem dL_law_1657 : decode cL_law 1657 = .ok (.i2l, 1) := by decide +kernel
theorem dL_law_1658 : decode cL_law 1658 = .ok (.lcmp, 1) := by decide +kernel
theorem dL_law_1659 : decode cL_law 1659 = .ok (.ifCond .eq 5, 3) := by decide +kernel
theorem dL_law_1662 : decode cL_law 1662 = .ok (.iconst 0, 1) := by decide +kernel
theorem dL_law_1663 : decode cL_law 1663 = .ok (.ireturn, 1) := by decide +kernel
theorem dL_law_1664 : decode cL_law 1664 = .ok (.goto 595, 3) := by decide +kernel
theorem dL_law_1667 : decode cL_law 1667 = .ok (.aload_n 1, 1) := by decide +kernel
theorem dL_law_1668 : decode cL_law 1668 = .ok (.aload_n 0, 1) := by decide +kernel
theorem dL_law_1669 : decode cL_law 1669 = .ok (.iload 5, 2) := by decide +kernel
theorem dL_law_1671 : decode cL_law 1671 = .ok (.iconst 1, 1) := by decide +kernel
theorem dL_law_1672 : decode cL_law 1672 = .ok (.iadd, 1) := by decide +kernel
theorem dL_law_1673 : decode cL_law 1673 = .ok (.iaload, 1) := by decide +kernel
theorem dL_law_1674 : decode cL_law 1674 = .ok (.aload_n 0, 1) := by decide +kernel
theorem dL_law_1675 : decode cL_law 1675 = .ok (.iload 5, 2) := by decide +kernel
theorem dL_law_1677 : decode cL_law 1677 = .ok (.iconst 2, 1) := by decide +kernel
theorem dL_law_1678 : decode cL_law 1678 = .ok (.iadd, 1) := by decide +kernel
theorem dL_law_1679 : decode cL_law 1679 = .ok (.iaload, 1) := by decide +kernel
theorem dL_law_1680 : decode cL_law 1680 = .ok (.aload_n 3, 1) := by decide +kernel
theorem dL_law_1681 : decode cL_law 1681 = .ok (.invokestatic 214, 3) := by decide +kernel
theorem dL_law_1684 : decode cL_law 1684 = .ok (.istore 6, 2) := by decide +kernel
theorem dL_law_1686 : decode cL_law 1686 = .ok (.aload_n 2, 1) := by decide +kernel
theorem dL_law_1687 : decode cL_law 1687 = .ok (.aload_n 0, 1) := by decide +kernel
theorem dL_law_1688 : decode cL_law 1688 = .ok (.iload 5, 2) := by decide +kernel
theorem dL_law_1690 : decode cL_law 1690 = .ok (.iconst 1, 1) := by decide +kernel
theorem dL_law_1691 : decode cL_law 1691 = .ok (.iadd, 1) := by decide +kernel
theorem dL_law_1692 : decode cL_law 1692 = .ok (.iaload, 1) := by decide +kernel
theorem dL_law_1693 : decode cL_law 1693 = .ok (.aload_n 0, 1) := by decide +kernel
theorem dL_law_1694 : decode cL_law 1694 = .ok (.iload 5, 2) := by decide +kernel
theorem dL_law_1696 : decode cL_law 1696 = .ok (.iconst 2, 1) := by decide +kernel
theorem dL_law_1697 : decode cL_law 1697 = .ok (.iadd, 1) := by decide +kernel
theorem dL_law_1698 : decode cL_law 1698 = .ok (.iaload, 1) := by decide +kernel
theorem dL_law_1699 : decode cL_law 1699 = .ok (.invokevirtual 216, 3) := by decide +kernel
theorem dL_law_1702 : decode cL_law 1702 = .ok (.istore 7, 2) := by decide +kernel
theorem dL_law_1704 : decode cL_law 1704 = .ok (.aload_n 2, 1) := by decide +kernel
theorem dL_law_1705 : decode cL_law 1705 = .ok (.invokevirtual 133, 3) := by decide +kernel
theorem dL_law_1708 : decode cL_law 1708 = .ok (.iload 6, 2) := by decide +kernel
theorem dL_law_1710 : decode cL_law 1710 = .ok (.if_icmp .eq 5, 3) := by decide +kernel
theorem dL_law_1713 : decode cL_law 1713 = .ok (.iconst 0, 1) := by decide +kernel
theorem dL_law_1714 : decode cL_law 1714 = .ok (.ireturn, 1) := by decide +kernel
theorem dL_law_1715 : decode cL_law 1715 = .ok (.iload 6, 2) := by decide +kernel
theorem dL_law_1717 : decode cL_law 1717 = .ok (.ifCond .ne 15, 3) := by decide +kernel
theorem dL_law_1720 : decode cL_law 1720 = .ok (.aload_n 3, 1) := by decide +kernel
theorem dL_law_1721 : decode cL_law 1721 = .ok (.iconst 0, 1) := by decide +kernel
theorem dL_law_1722 : decode cL_law 1722 = .ok (.laload, 1) := by decide +kernel
theorem dL_law_1723 : decode cL_law 1723 = .ok (.iload 7, 2) := by decide +kernel
theorem dL_law_1725 : decode cL_law 1725 = .ok (.i2l, 1) := by decide +kernel
theorem dL_law_1726 : decode cL_law 1726 = .ok (.lcmp, 1) := by decide +kernel
theorem dL_law_1727 : decode cL_law 1727 = .ok (.ifCond .eq 5, 3) := by decide +kernel
theorem dL_law_1730 : decode cL_law 1730 = .ok (.iconst 0, 1) := by decide +kernel
theorem dL_law_1731 : decode cL_law 1731 = .ok (.ireturn, 1) := by decide +kernel
theorem dL_law_1732 : decode cL_law 1732 = .ok (.goto 527, 3) := by decide +kernel
theorem dL_law_1735 : decode cL_law 1735 = .ok (.aload_n 1, 1) := by decide +kernel
theorem dL_law_1736 : decode cL_law 1736 = .ok (.aload_n 0, 1) := by decide +kernel
theorem dL_law_1737 : decode cL_law 1737 = .ok (.iload 5, 2) := by decide +kernel
theorem dL_law_1739 : decode cL_law 1739 = .ok (.iconst 1, 1) := by decide +kernel
theorem dL_law_1740 : decode cL_law 1740 = .ok (.iadd, 1) := by decide +kernel
theorem dL_law_1741 : decode cL_law 1741 = .ok (.iaload, 1) := by decide +kernel
theorem dL_law_1742 : decode cL_law 1742 = .ok (.aload_n 3, 1) := by decide +kernel
theorem dL_law_1743 : decode cL_law 1743 = .ok (.invokestatic 217, 3) := by decide +kernel
theorem dL_law_1746 : decode cL_law 1746 = .ok (.istore 6, 2) := by decide +kernel
theorem dL_law_1748 : decode cL_law 1748 = .ok (.aload_n 2, 1) := by decide +kernel
theorem dL_law_1749 : decode cL_law 1749 = .ok (.aload_n 0, 1) := by decide +kernel
theorem dL_law_1750 : decode cL_law 1750 = .ok (.iload 5, 2) := by decide +kernel
theorem dL_law_1752 : decode cL_law 1752 = .ok (.iconst 1, 1) := by decide +kernel
theorem dL_law_1753 : decode cL_law 1753 = .ok (.iadd, 1) := by decide +kernel
theorem dL_law_1754 : decode cL_law 1754 = .ok (.iaload, 1) := by decide +kernel
theorem dL_law_1755 : decode cL_law 1755 = .ok (.invokevirtual 219, 3) := by decide +kernel
theorem dL_law_1758 : decode cL_law 1758 = .ok (.istore 7, 2) := by decide +kernel
theorem dL_law_1760 : decode cL_law 1760 = .ok (.aload_n 2, 1) := by decide +kernel
theorem dL_law_1761 : decode cL_law 1761 = .ok (.invokevirtual 133, 3) := by decide +kernel
theorem dL_law_1764 : decode cL_law 1764 = .ok (.iload 6, 2) := by decide +kernel
theorem dL_law_1766 : decode cL_law 1766 = .ok (.if_icmp .eq 5, 3) := by decide +kernel
theorem dL_law_1769 : decode cL_law 1769 = .ok (.iconst 0, 1) := by decide +kernel
theorem dL_law_1770 : decode cL_law 1770 = .ok (.ireturn, 1) := by decide +kernel
theorem dL_law_1771 : decode cL_law 1771 = .ok (.iload 6, 2) := by decide +kernel
theorem dL_law_1773 : decode cL_law 1773 = .ok (.ifCond .ne 15, 3) := by decide +kernel
theorem dL_law_1776 : decode cL_law 1776 = .ok (.aload_n 3, 1) := by decide +kernel
theorem dL_law_1777 : decode cL_law 1777 = .ok (.iconst 0, 1) := by decide +kernel
theorem dL_law_1778 : decode cL_law 1778 = .ok (.laload, 1) := by decide +kernel
theorem dL_law_1779 : decode cL_law 1779 = .ok (.iload 7, 2) := by decide +kernel
theorem dL_law_1781 : decode cL_law 1781 = .ok (.i2l, 1) := by decide +kernel
theorem dL_law_1782 : decode cL_law 1782 = .ok (.lcmp, 1) := by decide +kernel
theorem dL_law_1783 : decode cL_law 1783 = .ok (.ifCond .eq 5, 3) := by decide +kernel
theorem dL_law_1786 : decode cL_law 1786 = .ok (.iconst 0, 1) := by decide +kernel
theorem dL_law_1787 : decode cL_law 1787 = .ok (.ireturn, 1) := by decide +kernel
theorem dL_law_1788 : decode cL_law 1788 = .ok (.goto 471, 3) := by decide +kernel
theorem dL_law_1791 : decode cL_law 1791 = .ok (.aload_n 1, 1) := by decide +kernel
theorem dL_law_1792 : decode cL_law 1792 = .ok (.aload_n 0, 1) := by decide +kernel
theorem dL_law_1793 : decode cL_law 1793 = .ok (.iload 5, 2) := by decide +kernel
theorem dL_law_1795 : decode cL_law 1795 = .ok (.iconst 1, 1) := by decide +kernel
theorem dL_law_1796 : decode cL_law 1796 = .ok (.iadd, 1) := by decide +kernel
theorem dL_law_1797 : decode cL_law 1797 = .ok (.iaload, 1) := by decide +kernel
theorem dL_law_1798 : decode cL_law 1798 = .ok (.aload_n 3, 1) := by decide +kernel
theorem dL_law_1799 : decode cL_law 1799 = .ok (.invokestatic 220, 3) := by decide +kernel
theorem dL_law_1802 : decode cL_law 1802 = .ok (.istore 6, 2) := by decide +kernel
theorem dL_law_1804 : decode cL_law 1804 = .ok (.aload_n 2, 1) := by decide +kernel
theorem dL_law_1805 : decode cL_law 1805 = .ok (.aload_n 0, 1) := by decide +kernel
theorem dL_law_1806 : decode cL_law 1806 = .ok (.iload 5, 2) := by decide +kernel
theorem dL_law_1808 : decode cL_law 1808 = .ok (.iconst 1, 1) := by decide +kernel
theorem dL_law_1809 : decode cL_law 1809 = .ok (.iadd, 1) := by decide +kernel
theorem dL_law_1810 : decode cL_law 1810 = .ok (.iaload, 1) := by decide +kernel
theorem dL_law_1811 : decode cL_law 1811 = .ok (.invokevirtual 222, 3) := by decide +kernel
theorem dL_law_1814 : decode cL_law 1814 = .ok (.istore 7, 2) := by decide +kernel
theorem dL_law_1816 : decode cL_law 1816 = .ok (.aload_n 2, 1) := by decide +kernel
theorem dL_law_1817 : decode cL_law 1817 = .ok (.invokevirtual 133, 3) := by decide +kernel
theorem dL_law_1820 : decode cL_law 1820 = .ok (.iload 6, 2) := by decide +kernel
theorem dL_law_1822 : decode cL_law 1822 = .ok (.if_icmp .eq 5, 3) := by decide +kernel
theorem dL_law_1825 : decode cL_law 1825 = .ok (.iconst 0, 1) := by decide +kernel
theorem dL_law_1826 : decode cL_law 1826 = .ok (.ireturn, 1) := by decide +kernel
theorem dL_law_1827 : decode cL_law 1827 = .ok (.iload 6, 2) := by decide +kernel
theorem dL_law_1829 : decode cL_law 1829 = .ok (.ifCond .ne 15, 3) := by decide +kernel
theorem dL_law_1832 : decode cL_law 1832 = .ok (.aload_n 3, 1) := by decide +kernel
theorem dL_law_1833 : decode cL_law 1833 = .ok (.iconst 0, 1) := by decide +kernel
theorem dL_law_1834 : decode cL_law 1834 = .ok (.laload, 1) := by decide +kernel
theorem dL_law_1835 : decode cL_law 1835 = .ok (.iload 7, 2) := by decide +kernel
theorem dL_law_1837 : decode cL_law 1837 = .ok (.i2l, 1) := by decide +kernel
theorem dL_law_1838 : decode cL_law 1838 = .ok (.lcmp, 1) := by decide +kernel
theorem dL_law_1839 : decode cL_law 1839 = .ok (.ifCond .eq 5, 3) := by decide +kernel
theorem dL_law_1842 : decode cL_law 1842 = .ok (.iconst 0, 1) := by decide +kernel
theorem dL_law_1843 : decode cL_law 1843 = .ok (.ireturn, 1) := by decide +kernel
theorem dL_law_1844 : decode cL_law 1844 = .ok (.goto 415, 3) := by decide +kernel
theorem dL_law_1847 : decode cL_law 1847 = .ok (.aload_n 1, 1) := by decide +kernel
theorem dL_law_1848 : decode cL_law 1848 = .ok (.aload_n 0, 1) := by decide +kernel
theorem dL_law_1849 : decode cL_law 1849 = .ok (.iload 5, 2) := by decide +kernel
theorem dL_law_1851 : decode cL_law 1851 = .ok (.iconst 1, 1) := by decide +kernel
theorem dL_law_1852 : decode cL_law 1852 = .ok (.iadd, 1) := by decide +kernel
theorem dL_law_1853 : decode cL_law 1853 = .ok (.iaload, 1) := by decide +kernel
theorem dL_law_1854 : decode cL_law 1854 = .ok (.aload_n 0, 1) := by decide +kernel
theorem dL_law_1855 : decode cL_law 1855 = .ok (.iload 5, 2) := by decide +kernel
theorem dL_law_1857 : decode cL_law 1857 = .ok (.iconst 2, 1) := by decide +kernel
theorem dL_law_1858 : decode cL_law 1858 = .ok (.iadd, 1) := by decide +kernel
theorem dL_law_1859 : decode cL_law 1859 = .ok (.iaload, 1) := by decide +kernel
theorem dL_law_1860 : decode cL_law 1860 = .ok (.aload_n 3, 1) := by decide +kernel
theorem dL_law_1861 : decode cL_law 1861 = .ok (.invokestatic 223, 3) := by decide +kernel
theorem dL_law_1864 : decode cL_law 1864 = .ok (.istore 6, 2) := by decide +kernel
theorem dL_law_1866 : decode cL_law 1866 = .ok (.aload_n 2, 1) := by decide +kernel
theorem dL_law_1867 : decode cL_law 1867 = .ok (.aload_n 0, 1) := by decide +kernel
theorem dL_law_1868 : decode cL_law 1868 = .ok (.iload 5, 2) := by decide +kernel
theorem dL_law_1870 : decode cL_law 1870 = .ok (.iconst 1, 1) := by decide +kernel
theorem dL_law_1871 : decode cL_law 1871 = .ok (.iadd, 1) := by decide +kernel
theorem dL_law_1872 : decode cL_law 1872 = .ok (.iaload, 1) := by decide +kernel
theorem dL_law_1873 : decode cL_law 1873 = .ok (.aload_n 0, 1) := by decide +kernel
theorem dL_law_1874 : decode cL_law 1874 = .ok (.iload 5, 2) := by decide +kernel
theorem dL_law_1876 : decode cL_law 1876 = .ok (.iconst 2, 1) := by decide +kernel
theorem dL_law_1877 : decode cL_law 1877 = .ok (.iadd, 1) := by decide +kernel
theorem dL_law_1878 : decode cL_law 1878 = .ok (.iaload, 1) := by decide +kernel
theorem dL_law_1879 : decode cL_law 1879 = .ok (.invokevirtual 225, 3) := by decide +kernel
theorem dL_law_1882 : decode cL_law 1882 = .ok (.istore 7, 2) := by decide +kernel
theorem dL_law_1884 : decode cL_law 1884 = .ok (.aload_n 2, 1) := by decide +kernel
theorem dL_law_1885 : decode cL_law 1885 = .ok (.invokevirtual 133, 3) := by decide +kernel
theorem dL_law_1888 : decode cL_law 1888 = .ok (.iload 6, 2) := by decide +kernel
theorem dL_law_1890 : decode cL_law 1890 = .ok (.if_icmp .eq 5, 3) := by decide +kernel
theorem dL_law_1893 : decode cL_law 1893 = .ok (.iconst 0, 1) := by decide +kernel
theorem dL_law_1894 : decode cL_law 1894 = .ok (.ireturn, 1) := by decide +kernel
theorem dL_law_1895 : decode cL_law 1895 = .ok (.iload 6, 2) := by decide +kernel
theorem dL_law_1897 : decode cL_law 1897 = .ok (.ifCond .ne 15, 3) := by decide +kernel
theorem dL_law_1900 : decode cL_law 1900 = .ok (.aload_n 3, 1) := by decide +kernel
theorem dL_law_1901 : decode cL_law 1901 = .ok (.iconst 0, 1) := by decide +kernel
theorem dL_law_1902 : decode cL_law 1902 = .ok (.laload, 1) := by decide +kernel
theorem dL_law_1903 : decode cL_law 1903 = .ok (.iload 7, 2) := by decide +kernel
theorem dL_law_1905 : decode cL_law 1905 = .ok (.i2l, 1) := by decide +kernel
theorem dL_law_1906 : decode cL_law 1906 = .ok (.lcmp, 1) := by decide +kernel
theorem dL_law_1907 : decode cL_law 1907 = .ok (.ifCond .eq 5, 3) := by decide +kernel
theorem dL_law_1910 : decode cL_law 1910 = .ok (.iconst 0, 1) := by decide +kernel
theorem dL_law_1911 : decode cL_law 1911 = .ok (.ireturn, 1) := by decide +kernel
theorem dL_law_1912 : decode cL_law 1912 = .ok (.goto 347, 3) := by decide +kernel
theorem dL_law_1915 : decode cL_law 1915 = .ok (.aload_n 1, 1) := by decide +kernel
theorem dL_law_1916 : decode cL_law 1916 = .ok (.aload_n 0, 1) := by decide +kernel
theorem dL_law_1917 : decode cL_law 1917 = .ok (.iload 5, 2) := by decide +kernel
theorem dL_law_1919 : decode cL_law 1919 = .ok (.iconst 1, 1) := by decide +kernel
theorem dL_law_1920 : decode cL_law 1920 = .ok (.iadd, 1) := by decide +kernel
theorem dL_law_1921 : decode cL_law 1921 = .ok (.iaload, 1) := by decide +kernel
theorem dL_law_1922 : decode cL_law 1922 = .ok (.aload_n 3, 1) := by decide +kernel
theorem dL_law_1923 : decode cL_law 1923 = .ok (.invokestatic 226, 3) := by decide +kernel
theorem dL_law_1926 : decode cL_law 1926 = .ok (.istore 6, 2) := by decide +kernel
theorem dL_law_1928 : decode cL_law 1928 = .ok (.aload_n 2, 1) := by decide +kernel
theorem dL_law_1929 : decode cL_law 1929 = .ok (.aload_n 0, 1) := by decide +kernel
theorem dL_law_1930 : decode cL_law 1930 = .ok (.iload 5, 2) := by decide +kernel
theorem dL_law_1932 : decode cL_law 1932 = .ok (.iconst 1, 1) := by decide +kernel
theorem dL_law_1933 : decode cL_law 1933 = .ok (.iadd, 1) := by decide +kernel
theorem dL_law_1934 : decode cL_law 1934 = .ok (.iaload, 1) := by decide +kernel
theorem dL_law_1935 : decode cL_law 1935 = .ok (.invokevirtual 228, 3) := by decide +kernel
theorem dL_law_1938 : decode cL_law 1938 = .ok (.istore 7, 2) := by decide +kernel
theorem dL_law_1940 : decode cL_law 1940 = .ok (.aload_n 2, 1) := by decide +kernel
theorem dL_law_1941 : decode cL_law 1941 = .ok (.invokevirtual 133, 3) := by decide +kernel
theorem dL_law_1944 : decode cL_law 1944 = .ok (.iload 6, 2) := by decide +kernel
theorem dL_law_1946 : decode cL_law 1946 = .ok (.if_icmp .eq 5, 3) := by decide +kernel
theorem dL_law_1949 : decode cL_law 1949 = .ok (.iconst 0, 1) := by decide +kernel
theorem dL_law_1950 : decode cL_law 1950 = .ok (.ireturn, 1) := by decide +kernel
theorem dL_law_1951 : decode cL_law 1951 = .ok (.iload 6, 2) := by decide +kernel
theorem dL_law_1953 : decode cL_law 1953 = .ok (.ifCond .ne 15, 3) := by decide +kernel
theorem dL_law_1956 : decode cL_law 1956 = .ok (.aload_n 3, 1) := by decide +kernel
theorem dL_law_1957 : decode cL_law 1957 = .ok (.iconst 0, 1) := by decide +kernel
theorem dL_law_1958 : decode cL_law 1958 = .ok (.laload, 1) := by decide +kernel
theorem dL_law_1959 : decode cL_law 1959 = .ok (.iload 7, 2) := by decide +kernel
theorem dL_law_1961 : decode cL_law 1961 = .ok (.i2l, 1) := by decide +kernel
theorem dL_law_1962 : decode cL_law 1962 = .ok (.lcmp, 1) := by decide +kernel
theorem dL_law_1963 : decode cL_law 1963 = .ok (.ifCond .eq 5, 3) := by decide +kernel
theorem dL_law_1966 : decode cL_law 1966 = .ok (.iconst 0, 1) := by decide +kernel
theorem dL_law_1967 : decode cL_law 1967 = .ok (.ireturn, 1) := by decide +kernel
theorem dL_law_1968 : decode cL_law 1968 = .ok (.goto 291, 3) := by decide +kernel
theorem dL_law_1971 : decode cL_law 1971 = .ok (.aload_n 1, 1) := by decide +kernel
theorem dL_law_1972 : decode cL_law 1972 = .ok (.aload_n 0, 1) := by decide +kernel
theorem dL_law_1973 : decode cL_law 1973 = .ok (.iload 5, 2) := by decide +kernel
theorem dL_law_1975 : decode cL_law 1975 = .ok (.iconst 1, 1) := by decide +kernel
theorem dL_law_1976 : decode cL_law 1976 = .ok (.iadd, 1) := by decide +kernel
theorem dL_law_1977 : decode cL_law 1977 = .ok (.iaload, 1) := by decide +kernel
theorem dL_law_1978 : decode cL_law 1978 = .ok (.aload_n 3, 1) := by decide +kernel
theorem dL_law_1979 : decode cL_law 1979 = .ok (.invokestatic 229, 3) := by decide +kernel
theorem dL_law_1982 : decode cL_law 1982 = .ok (.istore 6, 2) := by decide +kernel
theorem dL_law_1984 : decode cL_law 1984 = .ok (.aload_n 2, 1) := by decide +kernel
theorem dL_law_1985 : decode cL_law 1985 = .ok (.aload_n 0, 1) := by decide +kernel
theorem dL_law_1986 : decode cL_law 1986 = .ok (.iload 5, 2) := by decide +kernel
theorem dL_law_1988 : decode cL_law 1988 = .ok (.iconst 1, 1) := by decide +kernel
theorem dL_law_1989 : decode cL_law 1989 = .ok (.iadd, 1) := by decide +kernel
theorem dL_law_1990 : decode cL_law 1990 = .ok (.iaload, 1) := by decide +kernel
theorem dL_law_1991 : decode cL_law 1991 = .ok (.invokevirtual 231, 3) := by decide +kernel
theorem dL_law_1994 : decode cL_law 1994 = .ok (.istore 7, 2) := by decide +kernel
theorem dL_law_1996 : decode cL_law 1996 = .ok (.aload_n 2, 1) := by decide +kernel
theorem dL_law_1997 : decode cL_law 1997 = .ok (.invokevirtual 133, 3) := by decide +kernel
theorem dL_law_2000 : decode cL_law 2000 = .ok (.iload 6, 2) := by decide +kernel
theorem dL_law_2002 : decode cL_law 2002 = .ok (.if_icmp .eq 5, 3) := by decide +kernel
theorem dL_law_2005 : decode cL_law 2005 = .ok (.iconst 0, 1) := by decide +kernel
theorem dL_law_2006 : decode cL_law 2006 = .ok (.ireturn, 1) := by decide +kernel
theorem dL_law_2007 : decode cL_law 2007 = .ok (.iload 6, 2) := by decide +kernel
theorem dL_law_2009 : decode cL_law 2009 = .ok (.ifCond .ne 15, 3) := by decide +kernel
theorem dL_law_2012 : decode cL_law 2012 = .ok (.aload_n 3, 1) := by decide +kernel
theorem dL_law_2013 : decode cL_law 2013 = .ok (.iconst 0, 1) := by decide +kernel
theorem dL_law_2014 : decode cL_law 2014 = .ok (.laload, 1) := by decide +kernel
theorem dL_law_2015 : decode cL_law 2015 = .ok (.iload 7, 2) := by decide +kernel
theorem dL_law_2017 : decode cL_law 2017 = .ok (.i2l, 1) := by decide +kernel
theorem dL_law_2018 : decode cL_law 2018 = .ok (.lcmp, 1) := by decide +kernel
theorem dL_law_2019 : decode cL_law 2019 = .ok (.ifCond .eq 5, 3) := by decide +kernel
theorem dL_law_2022 : decode cL_law 2022 = .ok (.iconst 0, 1) := by decide +kernel
theorem dL_law_2023 : decode cL_law 2023 = .ok (.ireturn, 1) := by decide +kernel
theorem dL_law_2024 : decode cL_law 2024 = .ok (.goto 235, 3) := by decide +kernel
theorem dL_law_2027 : decode cL_law 2027 = .ok (.aload_n 1, 1) := by decide +kernel
theorem dL_law_2028 : decode cL_law 2028 = .ok (.aload_n 0, 1) := by decide +kernel
theorem dL_law_2029 : decode cL_law 2029 = .ok (.iload 5, 2) := by decide +kernel
theorem dL_law_2031 : decode cL_law 2031 = .ok (.iconst 1, 1) := by decide +kernel
theorem dL_law_2032 : decode cL_law 2032 = .ok (.iadd, 1) := by decide +kernel
theorem dL_law_2033 : decode cL_law 2033 = .ok (.iaload, 1) := by decide +kernel
theorem dL_law_2034 : decode cL_law 2034 = .ok (.aload_n 0, 1) := by decide +kernel
theorem dL_law_2035 : decode cL_law 2035 = .ok (.iload 5, 2) := by decide +kernel
theorem dL_law_2037 : decode cL_law 2037 = .ok (.iconst 2, 1) := by decide +kernel
theorem dL_law_2038 : decode cL_law 2038 = .ok (.iadd, 1) := by decide +kernel
theorem dL_law_2039 : decode cL_law 2039 = .ok (.iaload, 1) := by decide +kernel
theorem dL_law_2040 : decode cL_law 2040 = .ok (.aload_n 0, 1) := by decide +kernel
theorem dL_law_2041 : decode cL_law 2041 = .ok (.iload 5, 2) := by decide +kernel
theorem dL_law_2043 : decode cL_law 2043 = .ok (.iconst 3, 1) := by decide +kernel
theorem dL_law_2044 : decode cL_law 2044 = .ok (.iadd, 1) := by decide +kernel
theorem dL_law_2045 : decode cL_law 2045 = .ok (.iaload, 1) := by decide +kernel
theorem dL_law_2046 : decode cL_law 2046 = .ok (.aload_n 0, 1) := by decide +kernel
theorem dL_law_2047 : decode cL_law 2047 = .ok (.iload 5, 2) := by decide +kernel
theorem dL_law_2049 : decode cL_law 2049 = .ok (.iconst 4, 1) := by decide +kernel
theorem dL_law_2050 : decode cL_law 2050 = .ok (.iadd, 1) := by decide +kernel
theorem dL_law_2051 : decode cL_law 2051 = .ok (.iaload, 1) := by decide +kernel
theorem dL_law_2052 : decode cL_law 2052 = .ok (.aload_n 3, 1) := by decide +kernel
theorem dL_law_2053 : decode cL_law 2053 = .ok (.invokestatic 232, 3) := by decide +kernel
theorem dL_law_2056 : decode cL_law 2056 = .ok (.istore 6, 2) := by decide +kernel
theorem dL_law_2058 : decode cL_law 2058 = .ok (.aload_n 2, 1) := by decide +kernel
theorem dL_law_2059 : decode cL_law 2059 = .ok (.aload_n 0, 1) := by decide +kernel
theorem dL_law_2060 : decode cL_law 2060 = .ok (.iload 5, 2) := by decide +kernel
theorem dL_law_2062 : decode cL_law 2062 = .ok (.iconst 1, 1) := by decide +kernel
theorem dL_law_2063 : decode cL_law 2063 = .ok (.iadd, 1) := by decide +kernel
theorem dL_law_2064 : decode cL_law 2064 = .ok (.iaload, 1) := by decide +kernel
theorem dL_law_2065 : decode cL_law 2065 = .ok (.aload_n 0, 1) := by decide +kernel
theorem dL_law_2066 : decode cL_law 2066 = .ok (.iload 5, 2) := by decide +kernel
theorem dL_law_2068 : decode cL_law 2068 = .ok (.iconst 2, 1) := by decide +kernel
theorem dL_law_2069 : decode cL_law 2069 = .ok (.iadd, 1) := by decide +kernel
theorem dL_law_2070 : decode cL_law 2070 = .ok (.iaload, 1) := by decide +kernel
theorem dL_law_2071 : decode cL_law 2071 = .ok (.aload_n 0, 1) := by decide +kernel
theorem dL_law_2072 : decode cL_law 2072 = .ok (.iload 5, 2) := by decide +kernel
theorem dL_law_2074 : decode cL_law 2074 = .ok (.iconst 3, 1) := by decide +kernel
theorem dL_law_2075 : decode cL_law 2075 = .ok (.iadd, 1) := by decide +kernel
theorem dL_law_2076 : decode cL_law 2076 = .ok (.iaload, 1) := by decide +kernel
theorem dL_law_2077 : decode cL_law 2077 = .ok (.aload_n 0, 1) := by decide +kernel
theorem dL_law_2078 : decode cL_law 2078 = .ok (.iload 5, 2) := by decide +kernel
theorem dL_law_2080 : decode cL_law 2080 = .ok (.iconst 4, 1) := by decide +kernel
theorem dL_law_2081 : decode cL_law 2081 = .ok (.iadd, 1) := by decide +kernel
theorem dL_law_2082 : decode cL_law 2082 = .ok (.iaload, 1) := by decide +kernel
theorem dL_law_2083 : decode cL_law 2083 = .ok (.invokevirtual 234, 3) := by decide +kernel
theorem dL_law_2086 : decode cL_law 2086 = .ok (.istore 7, 2) := by decide +kernel
theorem dL_law_2088 : decode cL_law 2088 = .ok (.aload_n 2, 1) := by decide +kernel
theorem dL_law_2089 : decode cL_law 2089 = .ok (.invokevirtual 133, 3) := by decide +kernel
theorem dL_law_2092 : decode cL_law 2092 = .ok (.iload 6, 2) := by decide +kernel
theorem dL_law_2094 : decode cL_law 2094 = .ok (.if_icmp .eq 5, 3) := by decide +kernel
theorem dL_law_2097 : decode cL_law 2097 = .ok (.iconst 0, 1) := by decide +kernel
theorem dL_law_2098 : decode cL_law 2098 = .ok (.ireturn, 1) := by decide +kernel
theorem dL_law_2099 : decode cL_law 2099 = .ok (.iload 6, 2) := by decide +kernel
theorem dL_law_2101 : decode cL_law 2101 = .ok (.ifCond .ne 15, 3) := by decide +kernel
theorem dL_law_2104 : decode cL_law 2104 = .ok (.aload_n 3, 1) := by decide +kernel
theorem dL_law_2105 : decode cL_law 2105 = .ok (.iconst 0, 1) := by decide +kernel
theorem dL_law_2106 : decode cL_law 2106 = .ok (.laload, 1) := by decide +kernel
theorem dL_law_2107 : decode cL_law 2107 = .ok (.iload 7, 2) := by decide +kernel
theorem dL_law_2109 : decode cL_law 2109 = .ok (.i2l, 1) := by decide +kernel
theorem dL_law_2110 : decode cL_law 2110 = .ok (.lcmp, 1) := by decide +kernel
theorem dL_law_2111 : decode cL_law 2111 = .ok (.ifCond .eq 5, 3) := by decide +kernel
theorem dL_law_2114 : decode cL_law 2114 = .ok (.iconst 0, 1) := by decide +kernel
theorem dL_law_2115 : decode cL_law 2115 = .ok (.ireturn, 1) := by decide +kernel
theorem dL_law_2116 : decode cL_law 2116 = .ok (.goto 143, 3) := by decide +kernel
theorem dL_law_2119 : decode cL_law 2119 = .ok (.aload_n 1, 1) := by decide +kernel
theorem dL_law_2120 : decode cL_law 2120 = .ok (.aload_n 0, 1) := by decide +kernel
theorem dL_law_2121 : decode cL_law 2121 = .ok (.iload 5, 2) := by decide +kernel
theorem dL_law_2123 : decode cL_law 2123 = .ok (.iconst 1, 1) := by decide +kernel
theorem dL_law_2124 : decode cL_law 2124 = .ok (.iadd, 1) := by decide +kernel
theorem dL_law_2125 : decode cL_law 2125 = .ok (.iaload, 1) := by decide +kernel
theorem dL_law_2126 : decode cL_law 2126 = .ok (.aload_n 0, 1) := by decide +kernel
theorem dL_law_2127 : decode cL_law 2127 = .ok (.iload 5, 2) := by decide +kernel
theorem dL_law_2129 : decode cL_law 2129 = .ok (.iconst 2, 1) := by decide +kernel
theorem dL_law_2130 : decode cL_law 2130 = .ok (.iadd, 1) := by decide +kernel
theorem dL_law_2131 : decode cL_law 2131 = .ok (.iaload, 1) := by decide +kernel
theorem dL_law_2132 : decode cL_law 2132 = .ok (.aload_n 3, 1) := by decide +kernel
theorem dL_law_2133 : decode cL_law 2133 = .ok (.invokestatic 235, 3) := by decide +kernel
theorem dL_law_2136 : decode cL_law 2136 = .ok (.istore 6, 2) := by decide +kernel
theorem dL_law_2138 : decode cL_law 2138 = .ok (.aload_n 2, 1) := by decide +kernel
theorem dL_law_2139 : decode cL_law 2139 = .ok (.aload_n 0, 1) := by decide +kernel
theorem dL_law_2140 : decode cL_law 2140 = .ok (.iload 5, 2) := by decide +kernel
theorem dL_law_2142 : decode cL_law 2142 = .ok (.iconst 1, 1) := by decide +kernel
theorem dL_law_2143 : decode cL_law 2143 = .ok (.iadd, 1) := by decide +kernel
theorem dL_law_2144 : decode cL_law 2144 = .ok (.iaload, 1) := by decide +kernel
theorem dL_law_2145 : decode cL_law 2145 = .ok (.aload_n 0, 1) := by decide +kernel
theorem dL_law_2146 : decode cL_law 2146 = .ok (.iload 5, 2) := by decide +kernel
theorem dL_law_2148 : decode cL_law 2148 = .ok (.iconst 2, 1) := by decide +kernel
theorem dL_law_2149 : decode cL_law 2149 = .ok (.iadd, 1) := by decide +kernel
theorem dL_law_2150 : decode cL_law 2150 = .ok (.iaload, 1) := by decide +kernel
theorem dL_law_2151 : decode cL_law 2151 = .ok (.invokevirtual 237, 3) := by decide +kernel
theorem dL_law_2154 : decode cL_law 2154 = .ok (.istore 7, 2) := by decide +kernel
theorem dL_law_2156 : decode cL_law 2156 = .ok (.aload_n 2, 1) := by decide +kernel
theorem dL_law_2157 : decode cL_law 2157 = .ok (.invokevirtual 133, 3) := by decide +kernel
theorem dL_law_2160 : decode cL_law 2160 = .ok (.iload 6, 2) := by decide +kernel
theorem dL_law_2162 : decode cL_law 2162 = .ok (.if_icmp .eq 5, 3) := by decide +kernel
theorem dL_law_2165 : decode cL_law 2165 = .ok (.iconst 0, 1) := by decide +kernel
theorem dL_law_2166 : decode cL_law 2166 = .ok (.ireturn, 1) := by decide +kernel
theorem dL_law_2167 : decode cL_law 2167 = .ok (.iload 6, 2) := by decide +kernel
theorem dL_law_2169 : decode cL_law 2169 = .ok (.ifCond .ne 15, 3) := by decide +kernel
theorem dL_law_2172 : decode cL_law 2172 = .ok (.aload_n 3, 1) := by decide +kernel
theorem dL_law_2173 : decode cL_law 2173 = .ok (.iconst 0, 1) := by decide +kernel
theorem dL_law_2174 : decode cL_law 2174 = .ok (.laload, 1) := by decide +kernel
theorem dL_law_2175 : decode cL_law 2175 = .ok (.iload 7, 2) := by decide +kernel
theorem dL_law_2177 : decode cL_law 2177 = .ok (.i2l, 1) := by decide +kernel
theorem dL_law_2178 : decode cL_law 2178 = .ok (.lcmp, 1) := by decide +kernel
theorem dL_law_2179 : decode cL_law 2179 = .ok (.ifCond .eq 5, 3) := by decide +kernel
theorem dL_law_2182 : decode cL_law 2182 = .ok (.iconst 0, 1) := by decide +kernel
theorem dL_law_2183 : decode cL_law 2183 = .ok (.ireturn, 1) := by decide +kernel
theorem dL_law_2184 : decode cL_law 2184 = .ok (.goto 75, 3) := by decide +kernel
theorem dL_law_2187 : decode cL_law 2187 = .ok (.aload_n 1, 1) := by decide +kernel
theorem dL_law_2188 : decode cL_law 2188 = .ok (.aload_n 0, 1) := by decide +kernel
theorem dL_law_2189 : decode cL_law 2189 = .ok (.iload 5, 2) := by decide +kernel
theorem dL_law_2191 : decode cL_law 2191 = .ok (.iconst 1, 1) := by decide +kernel
theorem dL_law_2192 : decode cL_law 2192 = .ok (.iadd, 1) := by decide +kernel
theorem dL_law_2193 : decode cL_law 2193 = .ok (.iaload, 1) := by decide +kernel
theorem dL_law_2194 : decode cL_law 2194 = .ok (.invokestatic 238, 3) := by decide +kernel
theorem dL_law_2197 : decode cL_law 2197 = .ok (.istore 6, 2) := by decide +kernel
theorem dL_law_2199 : decode cL_law 2199 = .ok (.aload_n 2, 1) := by decide +kernel
theorem dL_law_2200 : decode cL_law 2200 = .ok (.aload_n 0, 1) := by decide +kernel
theorem dL_law_2201 : decode cL_law 2201 = .ok (.iload 5, 2) := by decide +kernel
theorem dL_law_2203 : decode cL_law 2203 = .ok (.iconst 1, 1) := by decide +kernel
theorem dL_law_2204 : decode cL_law 2204 = .ok (.iadd, 1) := by decide +kernel
theorem dL_law_2205 : decode cL_law 2205 = .ok (.iaload, 1) := by decide +kernel
theorem dL_law_2206 : decode cL_law 2206 = .ok (.invokevirtual 241, 3) := by decide +kernel
theorem dL_law_2209 : decode cL_law 2209 = .ok (.aload_n 2, 1) := by decide +kernel
theorem dL_law_2210 : decode cL_law 2210 = .ok (.invokevirtual 133, 3) := by decide +kernel
theorem dL_law_2213 : decode cL_law 2213 = .ok (.iload 6, 2) := by decide +kernel
theorem dL_law_2215 : decode cL_law 2215 = .ok (.if_icmp .eq 5, 3) := by decide +kernel
theorem dL_law_2218 : decode cL_law 2218 = .ok (.iconst 0, 1) := by decide +kernel
theorem dL_law_2219 : decode cL_law 2219 = .ok (.ireturn, 1) := by decide +kernel
theorem dL_law_2220 : decode cL_law 2220 = .ok (.goto 39, 3) := by decide +kernel
theorem dL_law_2223 : decode cL_law 2223 = .ok (.aload_n 1, 1) := by decide +kernel
theorem dL_law_2224 : decode cL_law 2224 = .ok (.aload_n 0, 1) := by decide +kernel
theorem dL_law_2225 : decode cL_law 2225 = .ok (.iload 5, 2) := by decide +kernel
theorem dL_law_2227 : decode cL_law 2227 = .ok (.iconst 1, 1) := by decide +kernel
theorem dL_law_2228 : decode cL_law 2228 = .ok (.iadd, 1) := by decide +kernel
theorem dL_law_2229 : decode cL_law 2229 = .ok (.iaload, 1) := by decide +kernel
theorem dL_law_2230 : decode cL_law 2230 = .ok (.invokestatic 242, 3) := by decide +kernel
theorem dL_law_2233 : decode cL_law 2233 = .ok (.istore 6, 2) := by decide +kernel
theorem dL_law_2235 : decode cL_law 2235 = .ok (.aload_n 2, 1) := by decide +kernel
theorem dL_law_2236 : decode cL_law 2236 = .ok (.aload_n 0, 1) := by decide +kernel
theorem dL_law_2237 : decode cL_law 2237 = .ok (.iload 5, 2) := by decide +kernel
theorem dL_law_2239 : decode cL_law 2239 = .ok (.iconst 1, 1) := by decide +kernel
theorem dL_law_2240 : decode cL_law 2240 = .ok (.iadd, 1) := by decide +kernel
theorem dL_law_2241 : decode cL_law 2241 = .ok (.iaload, 1) := by decide +kernel
theorem dL_law_2242 : decode cL_law 2242 = .ok (.invokevirtual 244, 3) := by decide +kernel
theorem dL_law_2245 : decode cL_law 2245 = .ok (.aload_n 2, 1) := by decide +kernel
theorem dL_law_2246 : decode cL_law 2246 = .ok (.invokevirtual 133, 3) := by decide +kernel
theorem dL_law_2249 : decode cL_law 2249 = .ok (.iload 6, 2) := by decide +kernel
theorem dL_law_2251 : decode cL_law 2251 = .ok (.if_icmp .eq 5, 3) := by decide +kernel
theorem dL_law_2254 : decode cL_law 2254 = .ok (.iconst 0, 1) := by decide +kernel
theorem dL_law_2255 : decode cL_law 2255 = .ok (.ireturn, 1) := by decide +kernel
theorem dL_law_2256 : decode cL_law 2256 = .ok (.goto 3, 3) := by decide +kernel
theorem dL_law_2259 : decode cL_law 2259 = .ok (.iinc 5 6, 3) := by decide +kernel
theorem dL_law_2262 : decode cL_law 2262 = .ok (.goto (-2234), 3) := by decide +kernel
theorem dL_law_2265 : decode cL_law 2265 = .ok (.iconst 1, 1) := by decide +kernel
theorem dL_law_2266 : decode cL_law 2266 = .ok (.ireturn, 1) := by decide +kernel
