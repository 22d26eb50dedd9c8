theorem dX4_put_57 : decode cX4_put 57 = .ok (.iaload, 1) := by decide +kernel
theorem dX4_put_58 : decode cX4_put 58 = .ok (.istore_n 3, 1) := by decide +kernel
theorem dX4_put_59 : decode cX4_put 59 = .ok (.aload_n 0, 1) := by decide +kernel
theorem dX4_put_60 : decode cX4_put 60 = .ok (.getfield 23, 3) := by decide +kernel
theorem dX4_put_63 : decode cX4_put 63 = .ok (.iload_n 1, 1) := by decide +kernel
theorem dX4_put_64 : decode cX4_put 64 = .ok (.iload_n 2, 1) := by decide +kernel
theorem dX4_put_65 : decode cX4_put 65 = .ok (.bipush (-9), 2) := by decide +kernel
theorem dX4_put_67 : decode cX4_put 67 = .ok (.if_icmp .ne 8, 3) := by decide +kernel
theorem dX4_put_70 : decode cX4_put 70 = .ok (.bipush 8, 2) := by decide +kernel
theorem dX4_put_72 : decode cX4_put 72 = .ok (.goto 4, 3) := by decide +kernel
theorem dX4_put_75 : decode cX4_put 75 = .ok (.iload_n 2, 1) := by decide +kernel
theorem dX4_put_76 : decode cX4_put 76 = .ok (.iastore, 1) := by decide +kernel
theorem dX4_put_77 : decode cX4_put 77 = .ok (.aload_n 0, 1) := by decide +kernel
theorem dX4_put_78 : decode cX4_put 78 = .ok (.invokevirtual 71, 3) := by decide +kernel
theorem dX4_put_81 : decode cX4_put 81 = .ok (.iload_n 3, 1) := by decide +kernel
theorem dX4_put_82 : decode cX4_put 82 = .ok (.bipush 8, 2) := by decide +kernel
theorem dX4_put_84 : decode cX4_put 84 = .ok (.if_icmp .ne 8, 3) := by decide +kernel
theorem dX4_put_87 : decode cX4_put 87 = .ok (.bipush (-9), 2) := by decide +kernel
theorem dX4_put_89 : decode cX4_put 89 = .ok (.goto 4, 3) := by decide +kernel
theorem dX4_put_92 : decode cX4_put 92 = .ok (.iload_n 3, 1) := by decide +kernel
theorem dX4_put_93 : decode cX4_put 93 = .ok (.ireturn, 1) := by decide +kernel
theorem dX4_at_0 : decode cX4_at 0 = .ok (.aload_n 0, 1) := by decide +kernel
theorem dX4_at_1 : decode cX4_at 1 = .ok (.iload_n 1, 1) := by decide +kernel
theorem dX4_at_2 : decode cX4_at 2 = .ok (.invokevirtual 94, 3) := by decide +kernel
theorem dX4_at_5 : decode cX4_at 5 = .ok (.ifCond .ne 7, 3) := by decide +kernel
theorem dX4_at_8 : decode cX4_at 8 = .ok (.iconst (-1), 1) := by decide +kernel
theorem dX4_at_9 : decode cX4_at 9 = .ok (.goto 25, 3) := by decide +kernel
theorem dX4_at_12 : decode cX4_at 12 = .ok (.aload_n 0, 1) := by decide +kernel
theorem dX4_at_13 : decode cX4_at 13 = .ok (.getfield 23, 3) := by decide +kernel
theorem dX4_at_16 : decode cX4_at 16 = .ok (.iload_n 1, 1) := by decide +kernel
theorem dX4_at_17 : decode cX4_at 17 = .ok (.iaload, 1) := by decide +kernel
theorem dX4_at_18 : decode cX4_at 18 = .ok (.bipush 8, 2) := by decide +kernel
theorem dX4_at_20 : decode cX4_at 20 = .ok (.if_icmp .ne 8, 3) := by decide +kernel
theorem dX4_at_23 : decode cX4_at 23 = .ok (.bipush (-9), 2) := by decide +kernel
theorem dX4_at_25 : decode cX4_at 25 = .ok (.goto 9, 3) := by decide +kernel
theorem dX4_at_28 : decode cX4_at 28 = .ok (.aload_n 0, 1) := by decide +kernel
theorem dX4_at_29 : decode cX4_at 29 = .ok (.getfield 23, 3) := by decide +kernel
theorem dX4_at_32 : decode cX4_at 32 = .ok (.iload_n 1, 1) := by decide +kernel
theorem dX4_at_33 : decode cX4_at 33 = .ok (.iaload, 1) := by decide +kernel
theorem dX4_at_34 : decode cX4_at 34 = .ok (.ireturn, 1) := by decide +kernel
theorem dX4_bit_0 : decode cX4_bit 0 = .ok (.aload_n 0, 1) := by decide +kernel
theorem dX4_bit_1 : decode cX4_bit 1 = .ok (.getfield 23, 3) := by decide +kernel
theorem dX4_bit_4 : decode cX4_bit 4 = .ok (.iload_n 1, 1) := by decide +kernel
theorem dX4_bit_5 : decode cX4_bit 5 = .ok (.iaload, 1) := by decide +kernel
theorem dX4_bit_6 : decode cX4_bit 6 = .ok (.bipush 8, 2) := by decide +kernel
theorem dX4_bit_8 : decode cX4_bit 8 = .ok (.if_icmp .ne 7, 3) := by decide +kernel
theorem dX4_bit_11 : decode cX4_bit 11 = .ok (.iconst 0, 1) := by decide +kernel
theorem dX4_bit_12 : decode cX4_bit 12 = .ok (.goto 11, 3) := by decide +kernel
theorem dX4_bit_15 : decode cX4_bit 15 = .ok (.iconst 1, 1) := by decide +kernel
theorem dX4_bit_16 : decode cX4_bit 16 = .ok (.aload_n 0, 1) := by decide +kernel
theorem dX4_bit_17 : decode cX4_bit 17 = .ok (.getfield 23, 3) := by decide +kernel
theorem dX4_bit_20 : decode cX4_bit 20 = .ok (.iload_n 1, 1) := by decide +kernel
theorem dX4_bit_21 : decode cX4_bit 21 = .ok (.iaload, 1) := by decide +kernel
theorem dX4_bit_22 : decode cX4_bit 22 = .ok (.ishl, 1) := by decide +kernel
theorem dX4_bit_23 : decode cX4_bit 23 = .ok (.ireturn, 1) := by decide +kernel
theorem dX4_spread_0 : decode cX4_spread 0 = .ok (.iconst 0, 1) := by decide +kernel
theorem dX4_spread_1 : decode cX4_spread 1 = .ok (.istore_n 1, 1) := by decide +kernel
theorem dX4_spread_2 : decode cX4_spread 2 = .ok (.iload_n 1, 1) := by decide +kernel
theorem dX4_spread_3 : decode cX4_spread 3 = .ok (.aload_n 0, 1) := by decide +kernel
theorem dX4_spread_4 : decode cX4_spread 4 = .ok (.getfield 13, 3) := by decide +kernel
theorem dX4_spread_7 : decode cX4_spread 7 = .ok (.iconst 1, 1) := by decide +kernel
theorem dX4_spread_8 : decode cX4_spread 8 = .ok (.isub, 1) := by decide +kernel
theorem dX4_spread_9 : decode cX4_spread 9 = .ok (.if_icmp .ge 208, 3) := by decide +kernel
theorem dX4_spread_12 : decode cX4_spread 12 = .ok (.aload_n 0, 1) := by decide +kernel
theorem dX4_spread_13 : decode cX4_spread 13 = .ok (.iload_n 1, 1) := by decide +kernel
theorem dX4_spread_14 : decode cX4_spread 14 = .ok (.invokevirtual 100, 3) := by decide +kernel
theorem dX4_spread_17 : decode cX4_spread 17 = .ok (.istore_n 2, 1) := by decide +kernel
theorem dX4_spread_18 : decode cX4_spread 18 = .ok (.iload_n 1, 1) := by decide +kernel
theorem dX4_spread_19 : decode cX4_spread 19 = .ok (.aload_n 0, 1) := by decide +kernel
theorem dX4_spread_20 : decode cX4_spread 20 = .ok (.iload_n 2, 1) := by decide +kernel
theorem dX4_spread_21 : decode cX4_spread 21 = .ok (.invokevirtual 90, 3) := by decide +kernel
theorem dX4_spread_24 : decode cX4_spread 24 = .ok (.isub, 1) := by decide +kernel
theorem dX4_spread_25 : decode cX4_spread 25 = .ok (.istore_n 3, 1) := by decide +kernel
theorem dX4_spread_26 : decode cX4_spread 26 = .ok (.aload_n 0, 1) := by decide +kernel
theorem dX4_spread_27 : decode cX4_spread 27 = .ok (.getfield 29, 3) := by decide +kernel
theorem dX4_spread_30 : decode cX4_spread 30 = .ok (.iload_n 1, 1) := by decide +kernel
theorem dX4_spread_31 : decode cX4_spread 31 = .ok (.iload_n 2, 1) := by decide +kernel
theorem dX4_spread_32 : decode cX4_spread 32 = .ok (.iconst 1, 1) := by decide +kernel
theorem dX4_spread_33 : decode cX4_spread 33 = .ok (.if_icmp .ne 13, 3) := by decide +kernel
theorem dX4_spread_36 : decode cX4_spread 36 = .ok (.aload_n 0, 1) := by decide +kernel
theorem dX4_spread_37 : decode cX4_spread 37 = .ok (.iconst 2, 1) := by decide +kernel
theorem dX4_spread_38 : decode cX4_spread 38 = .ok (.iload_n 3, 1) := by decide +kernel
theorem dX4_spread_39 : decode cX4_spread 39 = .ok (.imul, 1) := by decide +kernel
theorem dX4_spread_40 : decode cX4_spread 40 = .ok (.invokevirtual 103, 3) := by decide +kernel
theorem dX4_spread_43 : decode cX4_spread 43 = .ok (.goto 19, 3) := by decide +kernel
theorem dX4_spread_46 : decode cX4_spread 46 = .ok (.aload_n 0, 1) := by decide +kernel
theorem dX4_spread_47 : decode cX4_spread 47 = .ok (.getfield 35, 3) := by decide +kernel
theorem dX4_spread_50 : decode cX4_spread 50 = .ok (.aload_n 0, 1) := by decide +kernel
theorem dX4_spread_51 : decode cX4_spread 51 = .ok (.iload_n 2, 1) := by decide +kernel
theorem dX4_spread_52 : decode cX4_spread 52 = .ok (.iconst 1, 1) := by decide +kernel
theorem dX4_spread_53 : decode cX4_spread 53 = .ok (.isub, 1) := by decide +kernel
theorem dX4_spread_54 : decode cX4_spread 54 = .ok (.invokevirtual 90, 3) := by decide +kernel
theorem dX4_spread_57 : decode cX4_spread 57 = .ok (.iconst 2, 1) := by decide +kernel
theorem dX4_spread_58 : decode cX4_spread 58 = .ok (.iload_n 3, 1) := by decide +kernel
theorem dX4_spread_59 : decode cX4_spread 59 = .ok (.imul, 1) := by decide +kernel
theorem dX4_spread_60 : decode cX4_spread 60 = .ok (.iadd, 1) := by decide +kernel
theorem dX4_spread_61 : decode cX4_spread 61 = .ok (.iaload, 1) := by decide +kernel
theorem dX4_spread_62 : decode cX4_spread 62 = .ok (.iastore, 1) := by decide +kernel
theorem dX4_spread_63 : decode cX4_spread 63 = .ok (.aload_n 0, 1) := by decide +kernel
theorem dX4_spread_64 : decode cX4_spread 64 = .ok (.getfield 32, 3) := by decide +kernel
theorem dX4_spread_67 : decode cX4_spread 67 = .ok (.iload_n 1, 1) := by decide +kernel
theorem dX4_spread_68 : decode cX4_spread 68 = .ok (.iload_n 2, 1) := by decide +kernel
theorem dX4_spread_69 : decode cX4_spread 69 = .ok (.iconst 1, 1) := by decide +kernel
theorem dX4_spread_70 : decode cX4_spread 70 = .ok (.if_icmp .ne 15, 3) := by decide +kernel
theorem dX4_spread_73 : decode cX4_spread 73 = .ok (.aload_n 0, 1) := by decide +kernel
theorem dX4_spread_74 : decode cX4_spread 74 = .ok (.iconst 2, 1) := by decide +kernel
theorem dX4_spread_75 : decode cX4_spread 75 = .ok (.iload_n 3, 1) := by decide +kernel
theorem dX4_spread_76 : decode cX4_spread 76 = .ok (.imul, 1) := by decide +kernel
theorem dX4_spread_77 : decode cX4_spread 77 = .ok (.iconst 1, 1) := by decide +kernel
theorem dX4_spread_78 : decode cX4_spread 78 = .ok (.iadd, 1) := by decide +kernel
theorem dX4_spread_79 : decode cX4_spread 79 = .ok (.invokevirtual 103, 3) := by decide +kernel
theorem dX4_spread_82 : decode cX4_spread 82 = .ok (.goto 21, 3) := by decide +kernel
theorem dX4_spread_85 : decode cX4_spread 85 = .ok (.aload_n 0, 1) := by decide +kernel
theorem dX4_spread_86 : decode cX4_spread 86 = .ok (.getfield 35, 3) := by decide +kernel
theorem dX4_spread_89 : decode cX4_spread 89 = .ok (.aload_n 0, 1) := by decide +kernel
theorem dX4_spread_90 : decode cX4_spread 90 = .ok (.iload_n 2, 1) := by decide +kernel
theorem dX4_spread_91 : decode cX4_spread 91 = .ok (.iconst 1, 1) := by decide +kernel
theorem dX4_spread_92 : decode cX4_spread 92 = .ok (.isub, 1) := by decide +kernel
theorem dX4_spread_93 : decode cX4_spread 93 = .ok (.invokevirtual 90, 3) := by decide +kernel
theorem dX4_spread_96 : decode cX4_spread 96 = .ok (.iconst 2, 1) := by decide +kernel
theorem dX4_spread_97 : decode cX4_spread 97 = .ok (.iload_n 3, 1) := by decide +kernel
theorem dX4_spread_98 : decode cX4_spread 98 = .ok (.imul, 1) := by decide +kernel
theorem dX4_spread_99 : decode cX4_spread 99 = .ok (.iadd, 1) := by decide +kernel
theorem dX4_spread_100 : decode cX4_spread 100 = .ok (.iconst 1, 1) := by decide +kernel
theorem dX4_spread_101 : decode cX4_spread 101 = .ok (.iadd, 1) := by decide +kernel
theorem dX4_spread_102 : decode cX4_spread 102 = .ok (.iaload, 1) := by decide +kernel
theorem dX4_spread_103 : decode cX4_spread 103 = .ok (.iastore, 1) := by decide +kernel
theorem dX4_spread_104 : decode cX4_spread 104 = .ok (.aload_n 0, 1) := by decide +kernel
theorem dX4_spread_105 : decode cX4_spread 105 = .ok (.getfield 29, 3) := by decide +kernel
theorem dX4_spread_108 : decode cX4_spread 108 = .ok (.iload_n 1, 1) := by decide +kernel
theorem dX4_spread_109 : decode cX4_spread 109 = .ok (.iaload, 1) := by decide +kernel
theorem dX4_spread_110 : decode cX4_spread 110 = .ok (.ifCond .eq 12, 3) := by decide +kernel
theorem dX4_spread_113 : decode cX4_spread 113 = .ok (.aload_n 0, 1) := by decide +kernel
theorem dX4_spread_114 : decode cX4_spread 114 = .ok (.getfield 32, 3) := by decide +kernel
theorem dX4_spread_117 : decode cX4_spread 117 = .ok (.iload_n 1, 1) := by decide +kernel
theorem dX4_spread_118 : decode cX4_spread 118 = .ok (.iaload, 1) := by decide +kernel
theorem dX4_spread_119 : decode cX4_spread 119 = .ok (.ifCond .ne 25, 3) := by decide +kernel
theorem dX4_spread_122 : decode cX4_spread 122 = .ok (.aload_n 0, 1) := by decide +kernel
theorem dX4_spread_123 : decode cX4_spread 123 = .ok (.getfield 35, 3) := by decide +kernel
theorem dX4_spread_126 : decode cX4_spread 126 = .ok (.iload_n 1, 1) := by decide +kernel
theorem dX4_spread_127 : decode cX4_spread 127 = .ok (.aload_n 0, 1) := by decide +kernel
theorem dX4_spread_128 : decode cX4_spread 128 = .ok (.getfield 29, 3) := by decide +kernel
theorem dX4_spread_131 : decode cX4_spread 131 = .ok (.iload_n 1, 1) := by decide +kernel
theorem dX4_spread_132 : decode cX4_spread 132 = .ok (.iaload, 1) := by decide +kernel
theorem dX4_spread_133 : decode cX4_spread 133 = .ok (.aload_n 0, 1) := by decide +kernel
theorem dX4_spread_134 : decode cX4_spread 134 = .ok (.getfield 32, 3) := by decide +kernel
theorem dX4_spread_137 : decode cX4_spread 137 = .ok (.iload_n 1, 1) := by decide +kernel
theorem dX4_spread_138 : decode cX4_spread 138 = .ok (.iaload, 1) := by decide +kernel
theorem dX4_spread_139 : decode cX4_spread 139 = .ok (.ior, 1) := by decide +kernel
theorem dX4_spread_140 : decode cX4_spread 140 = .ok (.iastore, 1) := by decide +kernel
theorem dX4_spread_141 : decode cX4_spread 141 = .ok (.goto 70, 3) := by decide +kernel
theorem dX4_spread_144 : decode cX4_spread 144 = .ok (.aload_n 0, 1) := by decide +kernel
theorem dX4_spread_145 : decode cX4_spread 145 = .ok (.getfield 26, 3) := by decide +kernel
theorem dX4_spread_148 : decode cX4_spread 148 = .ok (.iload_n 1, 1) := by decide +kernel
theorem dX4_spread_149 : decode cX4_spread 149 = .ok (.iaload, 1) := by decide +kernel
theorem dX4_spread_150 : decode cX4_spread 150 = .ok (.bipush (-9), 2) := by decide +kernel
theorem dX4_spread_152 : decode cX4_spread 152 = .ok (.if_icmp .eq 20, 3) := by decide +kernel
theorem dX4_spread_155 : decode cX4_spread 155 = .ok (.aload_n 0, 1) := by decide +kernel
theorem dX4_spread_156 : decode cX4_spread 156 = .ok (.getfield 35, 3) := by decide +kernel
theorem dX4_spread_159 : decode cX4_spread 159 = .ok (.iload_n 1, 1) := by decide +kernel
theorem dX4_spread_160 : decode cX4_spread 160 = .ok (.iconst 1, 1) := by decide +kernel
theorem dX4_spread_161 : decode cX4_spread 161 = .ok (.aload_n 0, 1) := by decide +kernel
theorem dX4_spread_162 : decode cX4_spread 162 = .ok (.getfield 26, 3) := by decide +kernel
theorem dX4_spread_165 : decode cX4_spread 165 = .ok (.iload_n 1, 1) := by decide +kernel
theorem dX4_spread_166 : decode cX4_spread 166 = .ok (.iaload, 1) := by decide +kernel
theorem dX4_spread_167 : decode cX4_spread 167 = .ok (.ishl, 1) := by decide +kernel
theorem dX4_spread_168 : decode cX4_spread 168 = .ok (.iastore, 1) := by decide +kernel
theorem dX4_spread_169 : decode cX4_spread 169 = .ok (.goto 42, 3) := by decide +kernel
theorem dX4_spread_172 : decode cX4_spread 172 = .ok (.aload_n 0, 1) := by decide +kernel
theorem dX4_spread_173 : decode cX4_spread 173 = .ok (.getfield 35, 3) := by decide +kernel
theorem dX4_spread_176 : decode cX4_spread 176 = .ok (.iload_n 1, 1) := by decide +kernel
theorem dX4_spread_177 : decode cX4_spread 177 = .ok (.aload_n 0, 1) := by decide +kernel
theorem dX4_spread_178 : decode cX4_spread 178 = .ok (.aload_n 0, 1) := by decide +kernel
theorem dX4_spread_179 : decode cX4_spread 179 = .ok (.getfield 29, 3) := by decide +kernel
theorem dX4_spread_182 : decode cX4_spread 182 = .ok (.iload_n 1, 1) := by decide +kernel
theorem dX4_spread_183 : decode cX4_spread 183 = .ok (.iaload, 1) := by decide +kernel
theorem dX4_spread_184 : decode cX4_spread 184 = .ok (.aload_n 0, 1) := by decide +kernel
theorem dX4_spread_185 : decode cX4_spread 185 = .ok (.getfield 32, 3) := by decide +kernel
theorem dX4_spread_188 : decode cX4_spread 188 = .ok (.iload_n 1, 1) := by decide +kernel
theorem dX4_spread_189 : decode cX4_spread 189 = .ok (.iaload, 1) := by decide +kernel
theorem dX4_spread_190 : decode cX4_spread 190 = .ok (.invokevirtual 106, 3) := by decide +kernel
theorem dX4_spread_193 : decode cX4_spread 193 = .ok (.aload_n 0, 1) := by decide +kernel
theorem dX4_spread_194 : decode cX4_spread 194 = .ok (.aload_n 0, 1) := by decide +kernel
theorem dX4_spread_195 : decode cX4_spread 195 = .ok (.getfield 32, 3) := by decide +kernel
theorem dX4_spread_198 : decode cX4_spread 198 = .ok (.iload_n 1, 1) := by decide +kernel
theorem dX4_spread_199 : decode cX4_spread 199 = .ok (.iaload, 1) := by decide +kernel
theorem dX4_spread_200 : decode cX4_spread 200 = .ok (.aload_n 0, 1) := by decide +kernel
theorem dX4_spread_201 : decode cX4_spread 201 = .ok (.getfield 29, 3) := by decide +kernel
theorem dX4_spread_204 : decode cX4_spread 204 = .ok (.iload_n 1, 1) := by decide +kernel
theorem dX4_spread_205 : decode cX4_spread 205 = .ok (.iaload, 1) := by decide +kernel
theorem dX4_spread_206 : decode cX4_spread 206 = .ok (.invokevirtual 106, 3) := by decide +kernel
theorem dX4_spread_209 : decode cX4_spread 209 = .ok (.ior, 1) := by decide +kernel
theorem dX4_spread_210 : decode cX4_spread 210 = .ok (.iastore, 1) := by decide +kernel
theorem dX4_spread_211 : decode cX4_spread 211 = .ok (.iinc 1 1, 3) := by decide +kernel
theorem dX4_spread_214 : decode cX4_spread 214 = .ok (.goto (-212), 3) := by decide +kernel
theorem dX4_spread_217 : decode cX4_spread 217 = .ok (.return_, 1) := by decide +kernel
theorem dX4_beaters_0 : decode cX4_beaters 0 = .ok (.iconst 0, 1) := by decide +kernel
theorem dX4_beaters_1 : decode cX4_beaters 1 = .ok (.istore_n 3, 1) := by decide +kernel
theorem dX4_beaters_2 : decode cX4_beaters 2 = .ok (.iconst 0, 1) := by decide +kernel
theorem dX4_beaters_3 : decode cX4_beaters 3 = .ok (.istore 4, 2) := by decide +kernel
theorem dX4_beaters_5 : decode cX4_beaters 5 = .ok (.iload 4, 2) := by decide +kernel
theorem dX4_beaters_7 : decode cX4_beaters 7 = .ok (.bipush 8, 2) := by decide +kernel
theorem dX4_beaters_9 : decode cX4_beaters 9 = .ok (.if_icmp .ge 84, 3) := by decide +kernel
theorem dX4_beaters_12 : decode cX4_beaters 12 = .ok (.iconst 0, 1) := by decide +kernel
theorem dX4_beaters_13 : decode cX4_beaters 13 = .ok (.istore 5, 2) := by decide +kernel
theorem dX4_beaters_15 : decode cX4_beaters 15 = .ok (.iload 5, 2) := by decide +kernel
theorem dX4_beaters_17 : decode cX4_beaters 17 = .ok (.bipush 8, 2) := by decide +kernel
theorem dX4_beaters_19 : decode cX4_beaters 19 = .ok (.if_icmp .ge 68, 3) := by decide +kernel
theorem dX4_beaters_22 : decode cX4_beaters 22 = .ok (.iload_n 1, 1) := by decide +kernel
theorem dX4_beaters_23 : decode cX4_beaters 23 = .ok (.iload 4, 2) := by decide +kernel
theorem dX4_beaters_25 : decode cX4_beaters 25 = .ok (.ishr, 1) := by decide +kernel
theorem dX4_beaters_26 : decode cX4_beaters 26 = .ok (.iconst 1, 1) := by decide +kernel
theorem dX4_beaters_27 : decode cX4_beaters 27 = .ok (.iand, 1) := by decide +kernel
theorem dX4_beaters_28 : decode cX4_beaters 28 = .ok (.iconst 1, 1) := by decide +kernel
theorem dX4_beaters_29 : decode cX4_beaters 29 = .ok (.if_icmp .ne 33, 3) := by decide +kernel
theorem dX4_beaters_32 : decode cX4_beaters 32 = .ok (.iload_n 2, 1) := by decide +kernel
theorem dX4_beaters_33 : decode cX4_beaters 33 = .ok (.iload 5, 2) := by decide +kernel
theorem dX4_beaters_35 : decode cX4_beaters 35 = .ok (.ishr, 1) := by decide +kernel
theorem dX4_beaters_36 : decode cX4_beaters 36 = .ok (.iconst 1, 1) := by decide +kernel
theorem dX4_beaters_37 : decode cX4_beaters 37 = .ok (.iand, 1) := by decide +kernel
theorem dX4_beaters_38 : decode cX4_beaters 38 = .ok (.iconst 1, 1) := by decide +kernel
theorem dX4_beaters_39 : decode cX4_beaters 39 = .ok (.if_icmp .ne 23, 3) := by decide +kernel
theorem dX4_beaters_42 : decode cX4_beaters 42 = .ok (.aload_n 0, 1) := by decide +kernel
theorem dX4_beaters_43 : decode cX4_beaters 43 = .ok (.getfield 16, 3) := by decide +kernel
theorem dX4_beaters_46 : decode cX4_beaters 46 = .ok (.bipush 8, 2) := by decide +kernel
theorem dX4_beaters_48 : decode cX4_beaters 48 = .ok (.iload 4, 2) := by decide +kernel
theorem dX4_beaters_50 : decode cX4_beaters 50 = .ok (.imul, 1) := by decide +kernel
theorem dX4_beaters_51 : decode cX4_beaters 51 = .ok (.iload 5, 2) := by decide +kernel
theorem dX4_beaters_53 : decode cX4_beaters 53 = .ok (.iadd, 1) := by decide +kernel
theorem dX4_beaters_54 : decode cX4_beaters 54 = .ok (.iaload, 1) := by decide +kernel
theorem dX4_beaters_55 : decode cX4_beaters 55 = .ok (.ifCond .le 7, 3) := by decide +kernel
theorem dX4_beaters_58 : decode cX4_beaters 58 = .ok (.iconst 1, 1) := by decide +kernel
theorem dX4_beaters_59 : decode cX4_beaters 59 = .ok (.goto 4, 3) := by decide +kernel
theorem dX4_beaters_62 : decode cX4_beaters 62 = .ok (.iconst 0, 1) := by decide +kernel
theorem dX4_beaters_63 : decode cX4_beaters 63 = .ok (.istore 6, 2) := by decide +kernel
theorem dX4_beaters_65 : decode cX4_beaters 65 = .ok (.iload_n 3, 1) := by decide +kernel
theorem dX4_beaters_66 : decode cX4_beaters 66 = .ok (.iload 6, 2) := by decide +kernel
theorem dX4_beaters_68 : decode cX4_beaters 68 = .ok (.ifCond .eq 10, 3) := by decide +kernel
theorem dX4_beaters_71 : decode cX4_beaters 71 = .ok (.iconst 1, 1) := by decide +kernel
theorem dX4_beaters_72 : decode cX4_beaters 72 = .ok (.iload 4, 2) := by decide +kernel
theorem dX4_beaters_74 : decode cX4_beaters 74 = .ok (.ishl, 1) := by decide +kernel
theorem dX4_beaters_75 : decode cX4_beaters 75 = .ok (.goto 4, 3) := by decide +kernel
theorem dX4_beaters_78 : decode cX4_beaters 78 = .ok (.iconst 0, 1) := by decide +kernel
theorem dX4_beaters_79 : decode cX4_beaters 79 = .ok (.ior, 1) := by decide +kernel
theorem dX4_beaters_80 : decode cX4_beaters 80 = .ok (.istore_n 3, 1) := by decide +kernel
theorem dX4_beaters_81 : decode cX4_beaters 81 = .ok (.iinc 5 1, 3) := by decide +kernel
theorem dX4_beaters_84 : decode cX4_beaters 84 = .ok (.goto (-69), 3) := by decide +kernel
theorem dX4_beaters_87 : decode cX4_beaters 87 = .ok (.iinc 4 1, 3) := by decide +kernel
theorem dX4_beaters_90 : decode cX4_beaters 90 = .ok (.goto (-85), 3) := by decide +kernel
theorem dX4_beaters_93 : decode cX4_beaters 93 = .ok (.iload_n 3, 1) := by decide +kernel
theorem dX4_beaters_94 : decode cX4_beaters 94 = .ok (.ireturn, 1) := by decide +kernel
theorem dX4_many_0 : decode cX4_many 0 = .ok (.iconst 0, 1) := by decide +kernel
theorem dX4_many_1 : decode cX4_many 1 = .ok (.istore_n 1, 1) := by decide +kernel
theorem dX4_many_2 : decode cX4_many 2 = .ok (.iconst 0, 1) := by decide +kernel
theorem dX4_many_3 : decode cX4_many 3 = .ok (.istore_n 2, 1) := by decide +kernel
theorem dX4_many_4 : decode cX4_many 4 = .ok (.iload_n 2, 1) := by decide +kernel
theorem dX4_many_5 : decode cX4_many 5 = .ok (.bipush 8, 2) := by decide +kernel
theorem dX4_many_7 : decode cX4_many 7 = .ok (.if_icmp .ge 17, 3) := by decide +kernel
theorem dX4_many_10 : decode cX4_many 10 = .ok (.iload_n 1, 1) := by decide +kernel
theorem dX4_many_11 : decode cX4_many 11 = .ok (.iload_n 0, 1) := by decide +kernel
theorem dX4_many_12 : decode cX4_many 12 = .ok (.iload_n 2, 1) := by decide +kernel
theorem dX4_many_13 : decode cX4_many 13 = .ok (.ishr, 1) := by decide +kernel
theorem dX4_many_14 : decode cX4_many 14 = .ok (.iconst 1, 1) := by decide +kernel
theorem dX4_many_15 : decode cX4_many 15 = .ok (.iand, 1) := by decide +kernel
theorem dX4_many_16 : decode cX4_many 16 = .ok (.iadd, 1) := by decide +kernel
theorem dX4_many_17 : decode cX4_many 17 = .ok (.istore_n 1, 1) := by decide +kernel
theorem dX4_many_18 : decode cX4_many 18 = .ok (.iinc 2 1, 3) := by decide +kernel
theorem dX4_many_21 : decode cX4_many 21 = .ok (.goto (-17), 3) := by decide +kernel
theorem dX4_many_24 : decode cX4_many 24 = .ok (.iload_n 1, 1) := by decide +kernel
theorem dX4_many_25 : decode cX4_many 25 = .ok (.ireturn, 1) := by decide +kernel
theorem dX4_sort_0 : decode cX4_sort 0 = .ok (.aload_n 0, 1) := by decide +kernel
theorem dX4_sort_1 : decode cX4_sort 1 = .ok (.getfield 29, 3) := by decide +kernel
theorem dX4_sort_4 : decode cX4_sort 4 = .ok (.iload_n 1, 1) := by decide +kernel
theorem dX4_sort_5 : decode cX4_sort 5 = .ok (.iaload, 1) := by decide +kernel
theorem dX4_sort_6 : decode cX4_sort 6 = .ok (.aload_n 0, 1) := by decide +kernel
theorem dX4_sort_7 : decode cX4_sort 7 = .ok (.getfield 32, 3) := by decide +kernel
theorem dX4_sort_10 : decode cX4_sort 10 = .ok (.iload_n 1, 1) := by decide +kernel
theorem dX4_sort_11 : decode cX4_sort 11 = .ok (.iaload, 1) := by decide +kernel
theorem dX4_sort_12 : decode cX4_sort 12 = .ok (.ior, 1) := by decide +kernel
theorem dX4_sort_13 : decode cX4_sort 13 = .ok (.ifCond .ne 5, 3) := by decide +kernel
theorem dX4_sort_16 : decode cX4_sort 16 = .ok (.iconst 0, 1) := by decide +kernel
theorem dX4_sort_17 : decode cX4_sort 17 = .ok (.ireturn, 1) := by decide +kernel
theorem dX4_sort_18 : decode cX4_sort 18 = .ok (.aload_n 0, 1) := by decide +kernel
theorem dX4_sort_19 : decode cX4_sort 19 = .ok (.getfield 29, 3) := by decide +kernel
theorem dX4_sort_22 : decode cX4_sort 22 = .ok (.iload_n 1, 1) := by decide +kernel
theorem dX4_sort_23 : decode cX4_sort 23 = .ok (.iaload, 1) := by decide +kernel
theorem dX4_sort_24 : decode cX4_sort 24 = .ok (.ifCond .eq 12, 3) := by decide +kernel
theorem dX4_sort_27 : decode cX4_sort 27 = .ok (.aload_n 0, 1) := by decide +kernel
theorem dX4_sort_28 : decode cX4_sort 28 = .ok (.getfield 32, 3) := by decide +kernel
theorem dX4_sort_31 : decode cX4_sort 31 = .ok (.iload_n 1, 1) := by decide +kernel
theorem dX4_sort_32 : decode cX4_sort 32 = .ok (.iaload, 1) := by decide +kernel
theorem dX4_sort_33 : decode cX4_sort 33 = .ok (.ifCond .ne 7, 3) := by decide +kernel
theorem dX4_sort_36 : decode cX4_sort 36 = .ok (.iconst 1, 1) := by decide +kernel
theorem dX4_sort_37 : decode cX4_sort 37 = .ok (.goto 19, 3) := by decide +kernel
theorem dX4_sort_40 : decode cX4_sort 40 = .ok (.aload_n 0, 1) := by decide +kernel
theorem dX4_sort_41 : decode cX4_sort 41 = .ok (.getfield 26, 3) := by decide +kernel
theorem dX4_sort_44 : decode cX4_sort 44 = .ok (.iload_n 1, 1) := by decide +kernel
theorem dX4_sort_45 : decode cX4_sort 45 = .ok (.iaload, 1) := by decide +kernel
theorem dX4_sort_46 : decode cX4_sort 46 = .ok (.bipush (-9), 2) := by decide +kernel
theorem dX4_sort_48 : decode cX4_sort 48 = .ok (.if_icmp .eq 7, 3) := by decide +kernel
theorem dX4_sort_51 : decode cX4_sort 51 = .ok (.iconst 3, 1) := by decide +kernel
theorem dX4_sort_52 : decode cX4_sort 52 = .ok (.goto 4, 3) := by decide +kernel
theorem dX4_sort_55 : decode cX4_sort 55 = .ok (.iconst 2, 1) := by decide +kernel
theorem dX4_sort_56 : decode cX4_sort 56 = .ok (.ireturn, 1) := by decide +kernel
theorem dX4_isSettled_0 : decode cX4_isSettled 0 = .ok (.aload_n 0, 1) := by decide +kernel
theorem dX4_isSettled_1 : decode cX4_isSettled 1 = .ok (.iload_n 1, 1) := by decide +kernel
theorem dX4_isSettled_2 : decode cX4_isSettled 2 = .ok (.invokevirtual 110, 3) := by decide +kernel
theorem dX4_isSettled_5 : decode cX4_isSettled 5 = .ok (.istore_n 2, 1) := by decide +kernel
theorem dX4_isSettled_6 : decode cX4_isSettled 6 = .ok (.iload_n 2, 1) := by decide +kernel
theorem dX4_isSettled_7 : decode cX4_isSettled 7 = .ok (.ifCond .eq 33, 3) := by decide +kernel
theorem dX4_isSettled_10 : decode cX4_isSettled 10 = .ok (.iload_n 2, 1) := by decide +kernel
theorem dX4_isSettled_11 : decode cX4_isSettled 11 = .ok (.iconst 3, 1) := by decide +kernel
theorem dX4_isSettled_12 : decode cX4_isSettled 12 = .ok (.if_icmp .eq 28, 3) := by decide +kernel
theorem dX4_isSettled_15 : decode cX4_isSettled 15 = .ok (.iload_n 2, 1) := by decide +kernel
theorem dX4_isSettled_16 : decode cX4_isSettled 16 = .ok (.iconst 1, 1) := by decide +kernel
theorem dX4_isSettled_17 : decode cX4_isSettled 17 = .ok (.if_icmp .ne 27, 3) := by decide +kernel
theorem dX4_isSettled_20 : decode cX4_isSettled 20 = .ok (.aload_n 0, 1) := by decide +kernel
theorem dX4_isSettled_21 : decode cX4_isSettled 21 = .ok (.getfield 29, 3) := by decide +kernel
theorem dX4_isSettled_24 : decode cX4_isSettled 24 = .ok (.iload_n 1, 1) := by decide +kernel
theorem dX4_isSettled_25 : decode cX4_isSettled 25 = .ok (.iaload, 1) := by decide +kernel
theorem dX4_isSettled_26 : decode cX4_isSettled 26 = .ok (.aload_n 0, 1) := by decide +kernel
theorem dX4_isSettled_27 : decode cX4_isSettled 27 = .ok (.getfield 32, 3) := by decide +kernel
theorem dX4_isSettled_30 : decode cX4_isSettled 30 = .ok (.iload_n 1, 1) := by decide +kernel
theorem dX4_isSettled_31 : decode cX4_isSettled 31 = .ok (.iaload, 1) := by decide +kernel
theorem dX4_isSettled_32 : decode cX4_isSettled 32 = .ok (.ior, 1) := by decide +kernel
theorem dX4_isSettled_33 : decode cX4_isSettled 33 = .ok (.invokestatic 113, 3) := by decide +kernel
theorem dX4_isSettled_36 : decode cX4_isSettled 36 = .ok (.iconst 1, 1) := by decide +kernel
theorem dX4_isSettled_37 : decode cX4_isSettled 37 = .ok (.if_icmp .ne 7, 3) := by decide +kernel
theorem dX4_isSettled_40 : decode cX4_isSettled 40 = .ok (.iconst 1, 1) := by decide +kernel
theorem dX4_isSettled_41 : decode cX4_isSettled 41 = .ok (.goto 4, 3) := by decide +kernel
theorem dX4_isSettled_44 : decode cX4_isSettled 44 = .ok (.iconst 0, 1) := by decide +kernel
theorem dX4_isSettled_45 : decode cX4_isSettled 45 = .ok (.ireturn, 1) := by decide +kernel
theorem dX4_decided_0 : decode cX4_decided 0 = .ok (.iconst 0, 1) := by decide +kernel
theorem dX4_decided_1 : decode cX4_decided 1 = .ok (.istore_n 1, 1) := by decide +kernel
theorem dX4_decided_2 : decode cX4_decided 2 = .ok (.iconst 0, 1) := by decide +kernel
theorem dX4_decided_3 : decode cX4_decided 3 = .ok (.istore_n 2, 1) := by decide +kernel
theorem dX4_decided_4 : decode cX4_decided 4 = .ok (.iload_n 2, 1) := by decide +kernel
theorem dX4_decided_5 : decode cX4_decided 5 = .ok (.bipush 7, 2) := by decide +kernel
theorem dX4_decided_7 : decode cX4_decided 7 = .ok (.if_icmp .ge 28, 3) := by decide +kernel
theorem dX4_decided_10 : decode cX4_decided 10 = .ok (.iload_n 1, 1) := by decide +kernel
theorem dX4_decided_11 : decode cX4_decided 11 = .ok (.aload_n 0, 1) := by decide +kernel
theorem dX4_decided_12 : decode cX4_decided 12 = .ok (.getfield 26, 3) := by decide +kernel
theorem dX4_decided_15 : decode cX4_decided 15 = .ok (.iload_n 2, 1) := by decide +kernel
theorem dX4_decided_16 : decode cX4_decided 16 = .ok (.iaload, 1) := by decide +kernel
theorem dX4_decided_17 : decode cX4_decided 17 = .ok (.bipush (-9), 2) := by decide +kernel
theorem dX4_decided_19 : decode cX4_decided 19 = .ok (.if_icmp .ne 7, 3) := by decide +kernel
theorem dX4_decided_22 : decode cX4_decided 22 = .ok (.iconst 0, 1) := by decide +kernel
theorem dX4_decided_23 : decode cX4_decided 23 = .ok (.goto 4, 3) := by decide +kernel
theorem dX4_decided_26 : decode cX4_decided 26 = .ok (.iconst 1, 1) := by decide +kernel
theorem dX4_decided_27 : decode cX4_decided 27 = .ok (.iadd, 1) := by decide +kernel
theorem dX4_decided_28 : decode cX4_decided 28 = .ok (.istore_n 1, 1) := by decide +kernel
theorem dX4_decided_29 : decode cX4_decided 29 = .ok (.iinc 2 1, 3) := by decide +kernel
theorem dX4_decided_32 : decode cX4_decided 32 = .ok (.goto (-28), 3) := by decide +kernel
theorem dX4_decided_35 : decode cX4_decided 35 = .ok (.iload_n 1, 1) := by decide +kernel
theorem dX4_decided_36 : decode cX4_decided 36 = .ok (.ireturn, 1) := by decide +kernel
theorem dX4_won_0 : decode cX4_won 0 = .ok (.aload_n 0, 1) := by decide +kernel
theorem dX4_won_1 : decode cX4_won 1 = .ok (.iload_n 1, 1) := by decide +kernel
theorem dX4_won_2 : decode cX4_won 2 = .ok (.invokevirtual 116, 3) := by decide +kernel
theorem dX4_won_5 : decode cX4_won 5 = .ok (.ifCond .eq 11, 3) := by decide +kernel
theorem dX4_won_8 : decode cX4_won 8 = .ok (.aload_n 0, 1) := by decide +kernel
theorem dX4_won_9 : decode cX4_won 9 = .ok (.iload_n 2, 1) := by decide +kernel
theorem dX4_won_10 : decode cX4_won 10 = .ok (.invokevirtual 78, 3) := by decide +kernel
theorem dX4_won_13 : decode cX4_won 13 = .ok (.ifCond .ne 5, 3) := by decide +kernel
theorem dX4_won_16 : decode cX4_won 16 = .ok (.iconst (-1), 1) := by decide +kernel
theorem dX4_won_17 : decode cX4_won 17 = .ok (.ireturn, 1) := by decide +kernel
theorem dX4_won_18 : decode cX4_won 18 = .ok (.aload_n 0, 1) := by decide +kernel
theorem dX4_won_19 : decode cX4_won 19 = .ok (.invokevirtual 119, 3) := by decide +kernel
theorem dX4_won_22 : decode cX4_won 22 = .ok (.aload_n 0, 1) := by decide +kernel
theorem dX4_won_23 : decode cX4_won 23 = .ok (.iload_n 1, 1) := by decide +kernel
theorem dX4_won_24 : decode cX4_won 24 = .ok (.invokevirtual 100, 3) := by decide +kernel
theorem dX4_won_27 : decode cX4_won 27 = .ok (.istore_n 3, 1) := by decide +kernel
theorem dX4_won_28 : decode cX4_won 28 = .ok (.iload_n 1, 1) := by decide +kernel
theorem dX4_won_29 : decode cX4_won 29 = .ok (.aload_n 0, 1) := by decide +kernel
theorem dX4_won_30 : decode cX4_won 30 = .ok (.iload_n 3, 1) := by decide +kernel
theorem dX4_won_31 : decode cX4_won 31 = .ok (.invokevirtual 90, 3) := by decide +kernel
theorem dX4_won_34 : decode cX4_won 34 = .ok (.isub, 1) := by decide +kernel
theorem dX4_won_35 : decode cX4_won 35 = .ok (.istore 4, 2) := by decide +kernel
theorem dX4_won_37 : decode cX4_won 37 = .ok (.iload_n 3, 1) := by decide +kernel
theorem dX4_won_38 : decode cX4_won 38 = .ok (.iconst 1, 1) := by decide +kernel
theorem dX4_won_39 : decode cX4_won 39 = .ok (.if_icmp .eq 43, 3) := by decide +kernel
theorem dX4_won_42 : decode cX4_won 42 = .ok (.aload_n 0, 1) := by decide +kernel
theorem dX4_won_43 : decode cX4_won 43 = .ok (.aload_n 0, 1) := by decide +kernel
theorem dX4_won_44 : decode cX4_won 44 = .ok (.iload_n 3, 1) := by decide +kernel
theorem dX4_won_45 : decode cX4_won 45 = .ok (.iconst 1, 1) := by decide +kernel
theorem dX4_won_46 : decode cX4_won 46 = .ok (.isub, 1) := by decide +kernel
theorem dX4_won_47 : decode cX4_won 47 = .ok (.invokevirtual 90, 3) := by decide +kernel
theorem dX4_won_50 : decode cX4_won 50 = .ok (.iconst 2, 1) := by decide +kernel
theorem dX4_won_51 : decode cX4_won 51 = .ok (.iload 4, 2) := by decide +kernel
theorem dX4_won_53 : decode cX4_won 53 = .ok (.imul, 1) := by decide +kernel
theorem dX4_won_54 : decode cX4_won 54 = .ok (.iadd, 1) := by decide +kernel
theorem dX4_won_55 : decode cX4_won 55 = .ok (.invokevirtual 122, 3) := by decide +kernel
theorem dX4_won_58 : decode cX4_won 58 = .ok (.ifCond .eq 28, 3) := by decide +kernel
theorem dX4_won_61 : decode cX4_won 61 = .ok (.aload_n 0, 1) := by decide +kernel
theorem dX4_won_62 : decode cX4_won 62 = .ok (.aload_n 0, 1) := by decide +kernel
theorem dX4_won_63 : decode cX4_won 63 = .ok (.iload_n 3, 1) := by decide +kernel
theorem dX4_won_64 : decode cX4_won 64 = .ok (.iconst 1, 1) := by decide +kernel
theorem dX4_won_65 : decode cX4_won 65 = .ok (.isub, 1) := by decide +kernel
theorem dX4_won_66 : decode cX4_won 66 = .ok (.invokevirtual 90, 3) := by decide +kernel
theorem dX4_won_69 : decode cX4_won 69 = .ok (.iconst 2, 1) := by decide +kernel
theorem dX4_won_70 : decode cX4_won 70 = .ok (.iload 4, 2) := by decide +kernel
theorem dX4_won_72 : decode cX4_won 72 = .ok (.imul, 1) := by decide +kernel
theorem dX4_won_73 : decode cX4_won 73 = .ok (.iadd, 1) := by decide +kernel
theorem dX4_won_74 : decode cX4_won 74 = .ok (.iconst 1, 1) := by decide +kernel
theorem dX4_won_75 : decode cX4_won 75 = .ok (.iadd, 1) := by decide +kernel
theorem dX4_won_76 : decode cX4_won 76 = .ok (.invokevirtual 122, 3) := by decide +kernel
theorem dX4_won_79 : decode cX4_won 79 = .ok (.ifCond .eq 7, 3) := by decide +kernel
theorem dX4_won_82 : decode cX4_won 82 = .ok (.iconst 1, 1) := by decide +kernel
theorem dX4_won_83 : decode cX4_won 83 = .ok (.goto 4, 3) := by decide +kernel
theorem dX4_won_86 : decode cX4_won 86 = .ok (.iconst 0, 1) := by decide +kernel
theorem dX4_won_87 : decode cX4_won 87 = .ok (.istore 5, 2) := by decide +kernel
theorem dX4_won_89 : decode cX4_won 89 = .ok (.aload_n 0, 1) := by decide +kernel
theorem dX4_won_90 : decode cX4_won 90 = .ok (.iload_n 1, 1) := by decide +kernel
theorem dX4_won_91 : decode cX4_won 91 = .ok (.invokevirtual 110, 3) := by decide +kernel
theorem dX4_won_94 : decode cX4_won 94 = .ok (.iconst 2, 1) := by decide +kernel
theorem dX4_won_95 : decode cX4_won 95 = .ok (.if_icmp .ne 28, 3) := by decide +kernel
theorem dX4_won_98 : decode cX4_won 98 = .ok (.iload 5, 2) := by decide +kernel
theorem dX4_won_100 : decode cX4_won 100 = .ok (.ifCond .eq 23, 3) := by decide +kernel
theorem dX4_won_103 : decode cX4_won 103 = .ok (.aload_n 0, 1) := by decide +kernel
theorem dX4_won_104 : decode cX4_won 104 = .ok (.getfield 29, 3) := by decide +kernel
theorem dX4_won_107 : decode cX4_won 107 = .ok (.iload_n 1, 1) := by decide +kernel
theorem dX4_won_108 : decode cX4_won 108 = .ok (.iaload, 1) := by decide +kernel
theorem dX4_won_109 : decode cX4_won 109 = .ok (.aload_n 0, 1) := by decide +kernel
theorem dX4_won_110 : decode cX4_won 110 = .ok (.getfield 32, 3) := by decide +kernel
theorem dX4_won_113 : decode cX4_won 113 = .ok (.iload_n 1, 1) := by decide +kernel
theorem dX4_won_114 : decode cX4_won 114 = .ok (.iaload, 1) := by decide +kernel
theorem dX4_won_115 : decode cX4_won 115 = .ok (.ior, 1) := by decide +kernel
theorem dX4_won_116 : decode cX4_won 116 = .ok (.iload_n 2, 1) := by decide +kernel
theorem dX4_won_117 : decode cX4_won 117 = .ok (.ishr, 1) := by decide +kernel
theorem dX4_won_118 : decode cX4_won 118 = .ok (.iconst 1, 1) := by decide +kernel
theorem dX4_won_119 : decode cX4_won 119 = .ok (.iand, 1) := by decide +kernel
theorem dX4_won_120 : decode cX4_won 120 = .ok (.ifCond .ne 6, 3) := by decide +kernel
theorem dX4_won_123 : decode cX4_won 123 = .ok (.bipush (-3), 2) := by decide +kernel
theorem dX4_won_125 : decode cX4_won 125 = .ok (.ireturn, 1) := by decide +kernel
theorem dX4_won_126 : decode cX4_won 126 = .ok (.aload_n 0, 1) := by decide +kernel
theorem dX4_won_127 : decode cX4_won 127 = .ok (.getfield 26, 3) := by decide +kernel
theorem dX4_won_130 : decode cX4_won 130 = .ok (.iload_n 1, 1) := by decide +kernel
theorem dX4_won_131 : decode cX4_won 131 = .ok (.iload_n 2, 1) := by decide +kernel
theorem dX4_won_132 : decode cX4_won 132 = .ok (.iastore, 1) := by decide +kernel
theorem dX4_won_133 : decode cX4_won 133 = .ok (.aload_n 0, 1) := by decide +kernel
theorem dX4_won_134 : decode cX4_won 134 = .ok (.invokevirtual 125, 3) := by decide +kernel
theorem dX4_won_137 : decode cX4_won 137 = .ok (.ireturn, 1) := by decide +kernel
theorem dX4_open_0 : decode cX4_open 0 = .ok (.aload_n 0, 1) := by decide +kernel
theorem dX4_open_1 : decode cX4_open 1 = .ok (.iload_n 1, 1) := by decide +kernel
theorem dX4_open_2 : decode cX4_open 2 = .ok (.invokevirtual 116, 3) := by decide +kernel
theorem dX4_open_5 : decode cX4_open 5 = .ok (.ifCond .ne 5, 3) := by decide +kernel
theorem dX4_open_8 : decode cX4_open 8 = .ok (.iconst (-1), 1) := by decide +kernel
theorem dX4_open_9 : decode cX4_open 9 = .ok (.ireturn, 1) := by decide +kernel
theorem dX4_open_10 : decode cX4_open 10 = .ok (.aload_n 0, 1) := by decide +kernel
theorem dX4_open_11 : decode cX4_open 11 = .ok (.getfield 26, 3) := by decide +kernel
theorem dX4_open_14 : decode cX4_open 14 = .ok (.iload_n 1, 1) := by decide +kernel
theorem dX4_open_15 : decode cX4_open 15 = .ok (.iaload, 1) := by decide +kernel
theorem dX4_open_16 : decode cX4_open 16 = .ok (.bipush (-9), 2) := by decide +kernel
theorem dX4_open_18 : decode cX4_open 18 = .ok (.if_icmp .ne 6, 3) := by decide +kernel
theorem dX4_open_21 : decode cX4_open 21 = .ok (.bipush (-3), 2) := by decide +kernel
theorem dX4_open_23 : decode cX4_open 23 = .ok (.ireturn, 1) := by decide +kernel
theorem dX4_open_24 : decode cX4_open 24 = .ok (.iload_n 1, 1) := by decide +kernel
theorem dX4_open_25 : decode cX4_open 25 = .ok (.aload_n 0, 1) := by decide +kernel
theorem dX4_open_26 : decode cX4_open 26 = .ok (.aload_n 0, 1) := by decide +kernel
theorem dX4_open_27 : decode cX4_open 27 = .ok (.iload_n 1, 1) := by decide +kernel
theorem dX4_open_28 : decode cX4_open 28 = .ok (.invokevirtual 100, 3) := by decide +kernel
theorem dX4_open_31 : decode cX4_open 31 = .ok (.invokevirtual 90, 3) := by decide +kernel
theorem dX4_open_34 : decode cX4_open 34 = .ok (.isub, 1) := by decide +kernel
theorem dX4_open_35 : decode cX4_open 35 = .ok (.istore_n 2, 1) := by decide +kernel
theorem dX4_open_36 : decode cX4_open 36 = .ok (.aload_n 0, 1) := by decide +kernel
theorem dX4_open_37 : decode cX4_open 37 = .ok (.iload_n 1, 1) := by decide +kernel
theorem dX4_open_38 : decode cX4_open 38 = .ok (.invokevirtual 100, 3) := by decide +kernel
theorem dX4_open_41 : decode cX4_open 41 = .ok (.istore_n 3, 1) := by decide +kernel
theorem dX4_open_42 : decode cX4_open 42 = .ok (.iload_n 3, 1) := by decide +kernel
theorem dX4_open_43 : decode cX4_open 43 = .ok (.aload_n 0, 1) := by decide +kernel
theorem dX4_open_44 : decode cX4_open 44 = .ok (.invokevirtual 86, 3) := by decide +kernel
theorem dX4_open_47 : decode cX4_open 47 = .ok (.if_icmp .gt 27, 3) := by decide +kernel
theorem dX4_open_50 : decode cX4_open 50 = .ok (.aload_n 0, 1) := by decide +kernel
theorem dX4_open_51 : decode cX4_open 51 = .ok (.getfield 26, 3) := by decide +kernel
theorem dX4_open_54 : decode cX4_open 54 = .ok (.aload_n 0, 1) := by decide +kernel
theorem dX4_open_55 : decode cX4_open 55 = .ok (.iload_n 3, 1) := by decide +kernel
theorem dX4_open_56 : decode cX4_open 56 = .ok (.invokevirtual 90, 3) := by decide +kernel
theorem dX4_open_59 : decode cX4_open 59 = .ok (.iload_n 2, 1) := by decide +kernel
theorem dX4_open_60 : decode cX4_open 60 = .ok (.iadd, 1) := by decide +kernel
theorem dX4_open_61 : decode cX4_open 61 = .ok (.bipush (-9), 2) := by decide +kernel
theorem dX4_open_63 : decode cX4_open 63 = .ok (.iastore, 1) := by decide +kernel
theorem dX4_open_64 : decode cX4_open 64 = .ok (.iload_n 2, 1) := by decide +kernel
theorem dX4_open_65 : decode cX4_open 65 = .ok (.iconst 2, 1) := by decide +kernel
theorem dX4_open_66 : decode cX4_open 66 = .ok (.idiv, 1) := by decide +kernel
theorem dX4_open_67 : decode cX4_open 67 = .ok (.istore_n 2, 1) := by decide +kernel
theorem dX4_open_68 : decode cX4_open 68 = .ok (.iinc 3 1, 3) := by decide +kernel
theorem dX4_open_71 : decode cX4_open 71 = .ok (.goto (-29), 3) := by decide +kernel
theorem dX4_open_74 : decode cX4_open 74 = .ok (.aload_n 0, 1) := by decide +kernel
theorem dX4_open_75 : decode cX4_open 75 = .ok (.invokevirtual 125, 3) := by decide +kernel
theorem dX4_open_78 : decode cX4_open 78 = .ok (.ireturn, 1) := by decide +kernel
theorem dX4_match_0 : decode cX4_match 0 = .ok (.aload_n 0, 1) := by decide +kernel
theorem dX4_match_1 : decode cX4_match 1 = .ok (.iload_n 1, 1) := by decide +kernel
theorem dX4_match_2 : decode cX4_match 2 = .ok (.invokevirtual 116, 3) := by decide +kernel
theorem dX4_match_5 : decode cX4_match 5 = .ok (.ifCond .ne 5, 3) := by decide +kernel
theorem dX4_match_8 : decode cX4_match 8 = .ok (.iconst (-1), 1) := by decide +kernel
theorem dX4_match_9 : decode cX4_match 9 = .ok (.ireturn, 1) := by decide +kernel
theorem dX4_match_10 : decode cX4_match 10 = .ok (.aload_n 0, 1) := by decide +kernel
theorem dX4_match_11 : decode cX4_match 11 = .ok (.invokevirtual 119, 3) := by decide +kernel
theorem dX4_match_14 : decode cX4_match 14 = .ok (.iload_n 2, 1) := by decide +kernel
theorem dX4_match_15 : decode cX4_match 15 = .ok (.tableswitch 65 0 3 #[29, 35, 41, 48], 29) := by decide +kernel
theorem dX4_match_44 : decode cX4_match 44 = .ok (.aload_n 0, 1) := by decide +kernel
theorem dX4_match_45 : decode cX4_match 45 = .ok (.iload_n 1, 1) := by decide +kernel
theorem dX4_match_46 : decode cX4_match 46 = .ok (.invokevirtual 100, 3) := by decide +kernel
theorem dX4_match_49 : decode cX4_match 49 = .ok (.ireturn, 1) := by decide +kernel
theorem dX4_match_50 : decode cX4_match 50 = .ok (.aload_n 0, 1) := by decide +kernel
theorem dX4_match_51 : decode cX4_match 51 = .ok (.iload_n 1, 1) := by decide +kernel
theorem dX4_match_52 : decode cX4_match 52 = .ok (.invokevirtual 110, 3) := by decide +kernel
theorem dX4_match_55 : decode cX4_match 55 = .ok (.ireturn, 1) := by decide +kernel
theorem dX4_match_56 : decode cX4_match 56 = .ok (.aload_n 0, 1) := by decide +kernel
theorem dX4_match_57 : decode cX4_match 57 = .ok (.getfield 26, 3) := by decide +kernel
theorem dX4_match_60 : decode cX4_match 60 = .ok (.iload_n 1, 1) := by decide +kernel
theorem dX4_match_61 : decode cX4_match 61 = .ok (.iaload, 1) := by decide +kernel
theorem dX4_match_62 : decode cX4_match 62 = .ok (.ireturn, 1) := by decide +kernel
theorem dX4_match_63 : decode cX4_match 63 = .ok (.aload_n 0, 1) := by decide +kernel
theorem dX4_match_64 : decode cX4_match 64 = .ok (.getfield 29, 3) := by decide +kernel
theorem dX4_match_67 : decode cX4_match 67 = .ok (.iload_n 1, 1) := by decide +kernel
theorem dX4_match_68 : decode cX4_match 68 = .ok (.iaload, 1) := by decide +kernel
theorem dX4_match_69 : decode cX4_match 69 = .ok (.aload_n 0, 1) := by decide +kernel
theorem dX4_match_70 : decode cX4_match 70 = .ok (.getfield 32, 3) := by decide +kernel
theorem dX4_match_73 : decode cX4_match 73 = .ok (.iload_n 1, 1) := by decide +kernel
theorem dX4_match_74 : decode cX4_match 74 = .ok (.iaload, 1) := by decide +kernel
theorem dX4_match_75 : decode cX4_match 75 = .ok (.ior, 1) := by decide +kernel
theorem dX4_match_76 : decode cX4_match 76 = .ok (.invokestatic 113, 3) := by decide +kernel
theorem dX4_match_79 : decode cX4_match 79 = .ok (.ireturn, 1) := by decide +kernel
theorem dX4_match_80 : decode cX4_match 80 = .ok (.bipush (-2), 2) := by decide +kernel
theorem dX4_match_82 : decode cX4_match 82 = .ok (.ireturn, 1) := by decide +kernel
theorem dX4_sides_0 : decode cX4_sides 0 = .ok (.aload_n 0, 1) := by decide +kernel
theorem dX4_sides_1 : decode cX4_sides 1 = .ok (.iload_n 1, 1) := by decide +kernel
theorem dX4_sides_2 : decode cX4_sides 2 = .ok (.invokevirtual 100, 3) := by decide +kernel
theorem dX4_sides_5 : decode cX4_sides 5 = .ok (.istore_n 2, 1) := by decide +kernel
theorem dX4_sides_6 : decode cX4_sides 6 = .ok (.iload_n 1, 1) := by decide +kernel
theorem dX4_sides_7 : decode cX4_sides 7 = .ok (.aload_n 0, 1) := by decide +kernel
theorem dX4_sides_8 : decode cX4_sides 8 = .ok (.iload_n 2, 1) := by decide +kernel
theorem dX4_sides_9 : decode cX4_sides 9 = .ok (.invokevirtual 90, 3) := by decide +kernel
theorem dX4_sides_12 : decode cX4_sides 12 = .ok (.isub, 1) := by decide +kernel
theorem dX4_sides_13 : decode cX4_sides 13 = .ok (.istore_n 3, 1) := by decide +kernel
theorem dX4_sides_14 : decode cX4_sides 14 = .ok (.iconst 0, 1) := by decide +kernel
theorem dX4_sides_15 : decode cX4_sides 15 = .ok (.istore 4, 2) := by decide +kernel
theorem dX4_sides_17 : decode cX4_sides 17 = .ok (.iload 4, 2) := by decide +kernel
theorem dX4_sides_19 : decode cX4_sides 19 = .ok (.bipush 8, 2) := by decide +kernel
theorem dX4_sides_21 : decode cX4_sides 21 = .ok (.if_icmp .ge 129, 3) := by decide +kernel
theorem dX4_sides_24 : decode cX4_sides 24 = .ok (.iload_n 2, 1) := by decide +kernel
theorem dX4_sides_25 : decode cX4_sides 25 = .ok (.iconst 1, 1) := by decide +kernel
theorem dX4_sides_26 : decode cX4_sides 26 = .ok (.if_icmp .ne 58, 3) := by decide +kernel
theorem dX4_sides_29 : decode cX4_sides 29 = .ok (.aload_n 0, 1) := by decide +kernel
theorem dX4_sides_30 : decode cX4_sides 30 = .ok (.getfield 48, 3) := by decide +kernel
theorem dX4_sides_33 : decode cX4_sides 33 = .ok (.iload 4, 2) := by decide +kernel
theorem dX4_sides_35 : decode cX4_sides 35 = .ok (.aload_n 0, 1) := by decide +kernel
theorem dX4_sides_36 : decode cX4_sides 36 = .ok (.getfield 38, 3) := by decide +kernel
theorem dX4_sides_39 : decode cX4_sides 39 = .ok (.iconst 2, 1) := by decide +kernel
theorem dX4_sides_40 : decode cX4_sides 40 = .ok (.iload_n 3, 1) := by decide +kernel
theorem dX4_sides_41 : decode cX4_sides 41 = .ok (.imul, 1) := by decide +kernel
theorem dX4_sides_42 : decode cX4_sides 42 = .ok (.iaload, 1) := by decide +kernel
theorem dX4_sides_43 : decode cX4_sides 43 = .ok (.iload 4, 2) := by decide +kernel
theorem dX4_sides_45 : decode cX4_sides 45 = .ok (.if_icmp .ne 7, 3) := by decide +kernel
theorem dX4_sides_48 : decode cX4_sides 48 = .ok (.lconst 1, 1) := by decide +kernel
theorem dX4_sides_49 : decode cX4_sides 49 = .ok (.goto 4, 3) := by decide +kernel
theorem dX4_sides_52 : decode cX4_sides 52 = .ok (.lconst 0, 1) := by decide +kernel
theorem dX4_sides_53 : decode cX4_sides 53 = .ok (.lastore, 1) := by decide +kernel
theorem dX4_sides_54 : decode cX4_sides 54 = .ok (.aload_n 0, 1) := by decide +kernel
theorem dX4_sides_55 : decode cX4_sides 55 = .ok (.getfield 51, 3) := by decide +kernel
theorem dX4_sides_58 : decode cX4_sides 58 = .ok (.iload 4, 2) := by decide +kernel
theorem dX4_sides_60 : decode cX4_sides 60 = .ok (.aload_n 0, 1) := by decide +kernel
theorem dX4_sides_61 : decode cX4_sides 61 = .ok (.getfield 38, 3) := by decide +kernel
theorem dX4_sides_64 : decode cX4_sides 64 = .ok (.iconst 2, 1) := by decide +kernel
theorem dX4_sides_65 : decode cX4_sides 65 = .ok (.iload_n 3, 1) := by decide +kernel
theorem dX4_sides_66 : decode cX4_sides 66 = .ok (.imul, 1) := by decide +kernel
theorem dX4_sides_67 : decode cX4_sides 67 = .ok (.iconst 1, 1) := by decide +kernel
theorem dX4_sides_68 : decode cX4_sides 68 = .ok (.iadd, 1) := by decide +kernel
theorem dX4_sides_69 : decode cX4_sides 69 = .ok (.iaload, 1) := by decide +kernel
theorem dX4_sides_70 : decode cX4_sides 70 = .ok (.iload 4, 2) := by decide +kernel
theorem dX4_sides_72 : decode cX4_sides 72 = .ok (.if_icmp .ne 7, 3) := by decide +kernel
theorem dX4_sides_75 : decode cX4_sides 75 = .ok (.lconst 1, 1) := by decide +kernel
theorem dX4_sides_76 : decode cX4_sides 76 = .ok (.goto 4, 3) := by decide +kernel
theorem dX4_sides_79 : decode cX4_sides 79 = .ok (.lconst 0, 1) := by decide +kernel
theorem dX4_sides_80 : decode cX4_sides 80 = .ok (.lastore, 1) := by decide +kernel
theorem dX4_sides_81 : decode cX4_sides 81 = .ok (.goto 63, 3) := by decide +kernel
theorem dX4_sides_84 : decode cX4_sides 84 = .ok (.aload_n 0, 1) := by decide +kernel
theorem dX4_sides_85 : decode cX4_sides 85 = .ok (.getfield 48, 3) := by decide +kernel
theorem dX4_sides_88 : decode cX4_sides 88 = .ok (.iload 4, 2) := by decide +kernel
theorem dX4_sides_90 : decode cX4_sides 90 = .ok (.aload_n 0, 1) := by decide +kernel
theorem dX4_sides_91 : decode cX4_sides 91 = .ok (.getfield 41, 3) := by decide +kernel
theorem dX4_sides_94 : decode cX4_sides 94 = .ok (.bipush 8, 2) := by decide +kernel
theorem dX4_sides_96 : decode cX4_sides 96 = .ok (.aload_n 0, 1) := by decide +kernel
theorem dX4_sides_97 : decode cX4_sides 97 = .ok (.iload_n 2, 1) := by decide +kernel
theorem dX4_sides_98 : decode cX4_sides 98 = .ok (.iconst 1, 1) := by decide +kernel
theorem dX4_sides_99 : decode cX4_sides 99 = .ok (.isub, 1) := by decide +kernel
theorem dX4_sides_100 : decode cX4_sides 100 = .ok (.invokevirtual 90, 3) := by decide +kernel
theorem dX4_sides_103 : decode cX4_sides 103 = .ok (.iconst 2, 1) := by decide +kernel
theorem dX4_sides_104 : decode cX4_sides 104 = .ok (.iload_n 3, 1) := by decide +kernel
theorem dX4_sides_105 : decode cX4_sides 105 = .ok (.imul, 1) := by decide +kernel
theorem dX4_sides_106 : decode cX4_sides 106 = .ok (.iadd, 1) := by decide +kernel
theorem dX4_sides_107 : decode cX4_sides 107 = .ok (.imul, 1) := by decide +kernel
theorem dX4_sides_108 : decode cX4_sides 108 = .ok (.iload 4, 2) := by decide +kernel
theorem dX4_sides_110 : decode cX4_sides 110 = .ok (.iadd, 1) := by decide +kernel
theorem dX4_sides_111 : decode cX4_sides 111 = .ok (.laload, 1) := by decide +kernel
theorem dX4_sides_112 : decode cX4_sides 112 = .ok (.lastore, 1) := by decide +kernel
theorem dX4_sides_113 : decode cX4_sides 113 = .ok (.aload_n 0, 1) := by decide +kernel
theorem dX4_sides_114 : decode cX4_sides 114 = .ok (.getfield 51, 3) := by decide +kernel
theorem dX4_sides_117 : decode cX4_sides 117 = .ok (.iload 4, 2) := by decide +kernel
theorem dX4_sides_119 : decode cX4_sides 119 = .ok (.aload_n 0, 1) := by decide +kernel
theorem dX4_sides_120 : decode cX4_sides 120 = .ok (.getfield 41, 3) := by decide +kernel
theorem dX4_sides_123 : decode cX4_sides 123 = .ok (.bipush 8, 2) := by decide +kernel
theorem dX4_sides_125 : decode cX4_sides 125 = .ok (.aload_n 0, 1) := by decide +kernel
theorem dX4_sides_126 : decode cX4_sides 126 = .ok (.iload_n 2, 1) := by decide +kernel
theorem dX4_sides_127 : decode cX4_sides 127 = .ok (.iconst 1, 1) := by decide +kernel
theorem dX4_sides_128 : decode cX4_sides 128 = .ok (.isub, 1) := by decide +kernel
theorem dX4_sides_129 : decode cX4_sides 129 = .ok (.invokevirtual 90, 3) := by decide +kernel
theorem dX4_sides_132 : decode cX4_sides 132 = .ok (.iconst 2, 1) := by decide +kernel
theorem dX4_sides_133 : decode cX4_sides 133 = .ok (.iload_n 3, 1) := by decide +kernel
theorem dX4_sides_134 : decode cX4_sides 134 = .ok (.imul, 1) := by decide +kernel
theorem dX4_sides_135 : decode cX4_sides 135 = .ok (.iadd, 1) := by decide +kernel
theorem dX4_sides_136 : decode cX4_sides 136 = .ok (.iconst 1, 1) := by decide +kernel
theorem dX4_sides_137 : decode cX4_sides 137 = .ok (.iadd, 1) := by decide +kernel
theorem dX4_sides_138 : decode cX4_sides 138 = .ok (.imul, 1) := by decide +kernel
theorem dX4_sides_139 : decode cX4_sides 139 = .ok (.iload 4, 2) := by decide +kernel
theorem dX4_sides_141 : decode cX4_sides 141 = .ok (.iadd, 1) := by decide +kernel
theorem dX4_sides_142 : decode cX4_sides 142 = .ok (.laload, 1) := by decide +kernel
theorem dX4_sides_143 : decode cX4_sides 143 = .ok (.lastore, 1) := by decide +kernel
theorem dX4_sides_144 : decode cX4_sides 144 = .ok (.iinc 4 1, 3) := by decide +kernel
theorem dX4_sides_147 : decode cX4_sides 147 = .ok (.goto (-130), 3) := by decide +kernel
theorem dX4_sides_150 : decode cX4_sides 150 = .ok (.aload_n 0, 1) := by decide +kernel
theorem dX4_sides_151 : decode cX4_sides 151 = .ok (.iload_n 2, 1) := by decide +kernel
theorem dX4_sides_152 : decode cX4_sides 152 = .ok (.iconst 1, 1) := by decide +kernel
theorem dX4_sides_153 : decode cX4_sides 153 = .ok (.if_icmp .ne 7, 3) := by decide +kernel
theorem dX4_sides_156 : decode cX4_sides 156 = .ok (.lconst 1, 1) := by decide +kernel
theorem dX4_sides_157 : decode cX4_sides 157 = .ok (.goto 19, 3) := by decide +kernel
theorem dX4_sides_160 : decode cX4_sides 160 = .ok (.aload_n 0, 1) := by decide +kernel
theorem dX4_sides_161 : decode cX4_sides 161 = .ok (.getfield 45, 3) := by decide +kernel
theorem dX4_sides_164 : decode cX4_sides 164 = .ok (.aload_n 0, 1) := by decide +kernel
theorem dX4_sides_165 : decode cX4_sides 165 = .ok (.iload_n 2, 1) := by decide +kernel
theorem dX4_sides_166 : decode cX4_sides 166 = .ok (.iconst 1, 1) := by decide +kernel
theorem dX4_sides_167 : decode cX4_sides 167 = .ok (.isub, 1) := by decide +kernel
theorem dX4_sides_168 : decode cX4_sides 168 = .ok (.invokevirtual 90, 3) := by decide +kernel
theorem dX4_sides_171 : decode cX4_sides 171 = .ok (.iconst 2, 1) := by decide +kernel
theorem dX4_sides_172 : decode cX4_sides 172 = .ok (.iload_n 3, 1) := by decide +kernel
theorem dX4_sides_173 : decode cX4_sides 173 = .ok (.imul, 1) := by decide +kernel
theorem dX4_sides_174 : decode cX4_sides 174 = .ok (.iadd, 1) := by decide +kernel
theorem dX4_sides_175 : decode cX4_sides 175 = .ok (.laload, 1) := by decide +kernel
theorem dX4_sides_176 : decode cX4_sides 176 = .ok (.putfield 128, 3) := by decide +kernel
theorem dX4_sides_179 : decode cX4_sides 179 = .ok (.aload_n 0, 1) := by decide +kernel
theorem dX4_sides_180 : decode cX4_sides 180 = .ok (.iload_n 2, 1) := by decide +kernel
theorem dX4_sides_181 : decode cX4_sides 181 = .ok (.iconst 1, 1) := by decide +kernel
theorem dX4_sides_182 : decode cX4_sides 182 = .ok (.if_icmp .ne 7, 3) := by decide +kernel
theorem dX4_sides_185 : decode cX4_sides 185 = .ok (.lconst 1, 1) := by decide +kernel
theorem dX4_sides_186 : decode cX4_sides 186 = .ok (.goto 21, 3) := by decide +kernel
theorem dX4_sides_189 : decode cX4_sides 189 = .ok (.aload_n 0, 1) := by decide +kernel
theorem dX4_sides_190 : decode cX4_sides 190 = .ok (.getfield 45, 3) := by decide +kernel
theorem dX4_sides_193 : decode cX4_sides 193 = .ok (.aload_n 0, 1) := by decide +kernel
theorem dX4_sides_194 : decode cX4_sides 194 = .ok (.iload_n 2, 1) := by decide +kernel
theorem dX4_sides_195 : decode cX4_sides 195 = .ok (.iconst 1, 1) := by decide +kernel
theorem dX4_sides_196 : decode cX4_sides 196 = .ok (.isub, 1) := by decide +kernel
theorem dX4_sides_197 : decode cX4_sides 197 = .ok (.invokevirtual 90, 3) := by decide +kernel
theorem dX4_sides_200 : decode cX4_sides 200 = .ok (.iconst 2, 1) := by decide +kernel
theorem dX4_sides_201 : decode cX4_sides 201 = .ok (.iload_n 3, 1) := by decide +kernel
theorem dX4_sides_202 : decode cX4_sides 202 = .ok (.imul, 1) := by decide +kernel
theorem dX4_sides_203 : decode cX4_sides 203 = .ok (.iadd, 1) := by decide +kernel
theorem dX4_sides_204 : decode cX4_sides 204 = .ok (.iconst 1, 1) := by decide +kernel
theorem dX4_sides_205 : decode cX4_sides 205 = .ok (.iadd, 1) := by decide +kernel
theorem dX4_sides_206 : decode cX4_sides 206 = .ok (.laload, 1) := by decide +kernel
theorem dX4_sides_207 : decode cX4_sides 207 = .ok (.putfield 132, 3) := by decide +kernel
theorem dX4_sides_210 : decode cX4_sides 210 = .ok (.return_, 1) := by decide +kernel
theorem dX4_hasAny_0 : decode cX4_hasAny 0 = .ok (.iconst 0, 1) := by decide +kernel
theorem dX4_hasAny_1 : decode cX4_hasAny 1 = .ok (.istore_n 1, 1) := by decide +kernel
theorem dX4_hasAny_2 : decode cX4_hasAny 2 = .ok (.iconst 0, 1) := by decide +kernel
theorem dX4_hasAny_3 : decode cX4_hasAny 3 = .ok (.istore_n 2, 1) := by decide +kernel
theorem dX4_hasAny_4 : decode cX4_hasAny 4 = .ok (.iload_n 2, 1) := by decide +kernel
theorem dX4_hasAny_5 : decode cX4_hasAny 5 = .ok (.bipush 8, 2) := by decide +kernel
theorem dX4_hasAny_7 : decode cX4_hasAny 7 = .ok (.if_icmp .ge 27, 3) := by decide +kernel
theorem dX4_hasAny_10 : decode cX4_hasAny 10 = .ok (.iload_n 1, 1) := by decide +kernel
theorem dX4_hasAny_11 : decode cX4_hasAny 11 = .ok (.ifCond .ne 11, 3) := by decide +kernel
theorem dX4_hasAny_14 : decode cX4_hasAny 14 = .ok (.aload_n 0, 1) := by decide +kernel
theorem dX4_hasAny_15 : decode cX4_hasAny 15 = .ok (.iload_n 2, 1) := by decide +kernel
theorem dX4_hasAny_16 : decode cX4_hasAny 16 = .ok (.laload, 1) := by decide +kernel
theorem dX4_hasAny_17 : decode cX4_hasAny 17 = .ok (.lconst 0, 1) := by decide +kernel
theorem dX4_hasAny_18 : decode cX4_hasAny 18 = .ok (.lcmp, 1) := by decide +kernel
theorem dX4_hasAny_19 : decode cX4_hasAny 19 = .ok (.ifCond .le 7, 3) := by decide +kernel
theorem dX4_hasAny_22 : decode cX4_hasAny 22 = .ok (.iconst 1, 1) := by decide +kernel
theorem dX4_hasAny_23 : decode cX4_hasAny 23 = .ok (.goto 4, 3) := by decide +kernel
theorem dX4_hasAny_26 : decode cX4_hasAny 26 = .ok (.iconst 0, 1) := by decide +kernel
theorem dX4_hasAny_27 : decode cX4_hasAny 27 = .ok (.istore_n 1, 1) := by decide +kernel
theorem dX4_hasAny_28 : decode cX4_hasAny 28 = .ok (.iinc 2 1, 3) := by decide +kernel
theorem dX4_hasAny_31 : decode cX4_hasAny 31 = .ok (.goto (-27), 3) := by decide +kernel
theorem dX4_hasAny_34 : decode cX4_hasAny 34 = .ok (.iload_n 1, 1) := by decide +kernel
theorem dX4_hasAny_35 : decode cX4_hasAny 35 = .ok (.ireturn, 1) := by decide +kernel
theorem dX4_work_0 : decode cX4_work 0 = .ok (.iconst 0, 1) := by decide +kernel
theorem dX4_work_1 : decode cX4_work 1 = .ok (.istore_n 2, 1) := by decide +kernel
theorem dX4_work_2 : decode cX4_work 2 = .ok (.iload_n 2, 1) := by decide +kernel
theorem dX4_work_3 : decode cX4_work 3 = .ok (.aload_n 0, 1) := by decide +kernel
theorem dX4_work_4 : decode cX4_work 4 = .ok (.getfield 13, 3) := by decide +kernel
theorem dX4_work_7 : decode cX4_work 7 = .ok (.iconst 1, 1) := by decide +kernel
theorem dX4_work_8 : decode cX4_work 8 = .ok (.isub, 1) := by decide +kernel
theorem dX4_work_9 : decode cX4_work 9 = .ok (.if_icmp .ge 265, 3) := by decide +kernel
theorem dX4_work_12 : decode cX4_work 12 = .ok (.aload_n 0, 1) := by decide +kernel
theorem dX4_work_13 : decode cX4_work 13 = .ok (.iload_n 2, 1) := by decide +kernel
theorem dX4_work_14 : decode cX4_work 14 = .ok (.invokevirtual 135, 3) := by decide +kernel
theorem dX4_work_17 : decode cX4_work 17 = .ok (.aload_n 0, 1) := by decide +kernel
theorem dX4_work_18 : decode cX4_work 18 = .ok (.getfield 48, 3) := by decide +kernel
theorem dX4_work_21 : decode cX4_work 21 = .ok (.invokestatic 139, 3) := by decide +kernel
theorem dX4_work_24 : decode cX4_work 24 = .ok (.istore_n 3, 1) := by decide +kernel
theorem dX4_work_25 : decode cX4_work 25 = .ok (.aload_n 0, 1) := by decide +kernel
theorem dX4_work_26 : decode cX4_work 26 = .ok (.getfield 51, 3) := by decide +kernel
theorem dX4_work_29 : decode cX4_work 29 = .ok (.invokestatic 139, 3) := by decide +kernel
theorem dX4_work_32 : decode cX4_work 32 = .ok (.istore 4, 2) := by decide +kernel
theorem dX4_work_34 : decode cX4_work 34 = .ok (.aload_n 0, 1) := by decide +kernel
theorem dX4_work_35 : decode cX4_work 35 = .ok (.getfield 45, 3) := by decide +kernel
theorem dX4_work_38 : decode cX4_work 38 = .ok (.iload_n 2, 1) := by decide +kernel
theorem dX4_work_39 : decode cX4_work 39 = .ok (.iload_n 3, 1) := by decide +kernel
theorem dX4_work_40 : decode cX4_work 40 = .ok (.ifCond .ne 10, 3) := by decide +kernel
theorem dX4_work_43 : decode cX4_work 43 = .ok (.aload_n 0, 1) := by decide +kernel
theorem dX4_work_44 : decode cX4_work 44 = .ok (.getfield 132, 3) := by decide +kernel
theorem dX4_work_47 : decode cX4_work 47 = .ok (.goto 28, 3) := by decide +kernel
theorem dX4_work_50 : decode cX4_work 50 = .ok (.iload 4, 2) := by decide +kernel
theorem dX4_work_52 : decode cX4_work 52 = .ok (.ifCond .ne 10, 3) := by decide +kernel
theorem dX4_work_55 : decode cX4_work 55 = .ok (.aload_n 0, 1) := by decide +kernel
theorem dX4_work_56 : decode cX4_work 56 = .ok (.getfield 128, 3) := by decide +kernel
theorem dX4_work_59 : decode cX4_work 59 = .ok (.goto 16, 3) := by decide +kernel
theorem dX4_work_62 : decode cX4_work 62 = .ok (.ldc2_w 82, 3) := by decide +kernel
theorem dX4_work_65 : decode cX4_work 65 = .ok (.aload_n 0, 1) := by decide +kernel
theorem dX4_work_66 : decode cX4_work 66 = .ok (.getfield 128, 3) := by decide +kernel
theorem dX4_work_69 : decode cX4_work 69 = .ok (.lmul, 1) := by decide +kernel
theorem dX4_work_70 : decode cX4_work 70 = .ok (.aload_n 0, 1) := by decide +kernel
theorem dX4_work_71 : decode cX4_work 71 = .ok (.getfield 132, 3) := by decide +kernel
theorem dX4_work_74 : decode cX4_work 74 = .ok (.lmul, 1) := by decide +kernel
theorem dX4_work_75 : decode cX4_work 75 = .ok (.lastore, 1) := by decide +kernel
theorem dX4_work_76 : decode cX4_work 76 = .ok (.iconst 0, 1) := by decide +kernel
theorem dX4_work_77 : decode cX4_work 77 = .ok (.istore 5, 2) := by decide +kernel
theorem dX4_work_79 : decode cX4_work 79 = .ok (.iload 5, 2) := by decide +kernel
theorem dX4_work_81 : decode cX4_work 81 = .ok (.bipush 8, 2) := by decide +kernel
theorem dX4_work_83 : decode cX4_work 83 = .ok (.if_icmp .ge 119, 3) := by decide +kernel
theorem dX4_work_86 : decode cX4_work 86 = .ok (.aload_n 0, 1) := by decide +kernel
theorem dX4_work_87 : decode cX4_work 87 = .ok (.getfield 48, 3) := by decide +kernel
theorem dX4_work_90 : decode cX4_work 90 = .ok (.iload 5, 2) := by decide +kernel
theorem dX4_work_92 : decode cX4_work 92 = .ok (.laload, 1) := by decide +kernel
theorem dX4_work_93 : decode cX4_work 93 = .ok (.aload_n 0, 1) := by decide +kernel
theorem dX4_work_94 : decode cX4_work 94 = .ok (.getfield 51, 3) := by decide +kernel
theorem dX4_work_97 : decode cX4_work 97 = .ok (.iload 5, 2) := by decide +kernel
theorem dX4_work_99 : decode cX4_work 99 = .ok (.laload, 1) := by decide +kernel
theorem dX4_work_100 : decode cX4_work 100 = .ok (.ladd, 1) := by decide +kernel
theorem dX4_work_101 : decode cX4_work 101 = .ok (.lstore 6, 2) := by decide +kernel
theorem dX4_work_103 : decode cX4_work 103 = .ok (.iload_n 3, 1) := by decide +kernel
theorem dX4_work_104 : decode cX4_work 104 = .ok (.ifCond .eq 78, 3) := by decide +kernel
theorem dX4_work_107 : decode cX4_work 107 = .ok (.iload 4, 2) := by decide +kernel
theorem dX4_work_109 : decode cX4_work 109 = .ok (.ifCond .eq 73, 3) := by decide +kernel
theorem dX4_work_112 : decode cX4_work 112 = .ok (.lconst 0, 1) := by decide +kernel
theorem dX4_work_113 : decode cX4_work 113 = .ok (.lstore 6, 2) := by decide +kernel
theorem dX4_work_115 : decode cX4_work 115 = .ok (.iconst 0, 1) := by decide +kernel
theorem dX4_work_116 : decode cX4_work 116 = .ok (.istore 8, 2) := by decide +kernel
theorem dX4_work_118 : decode cX4_work 118 = .ok (.iload 8, 2) := by decide +kernel
theorem dX4_work_120 : decode cX4_work 120 = .ok (.bipush 8, 2) := by decide +kernel
theorem dX4_work_122 : decode cX4_work 122 = .ok (.if_icmp .ge 60, 3) := by decide +kernel
theorem dX4_work_125 : decode cX4_work 125 = .ok (.lload 6, 2) := by decide +kernel
theorem dX4_work_127 : decode cX4_work 127 = .ok (.aload_n 0, 1) := by decide +kernel
theorem dX4_work_128 : decode cX4_work 128 = .ok (.getfield 48, 3) := by decide +kernel
theorem dX4_work_131 : decode cX4_work 131 = .ok (.iload 5, 2) := by decide +kernel
theorem dX4_work_133 : decode cX4_work 133 = .ok (.laload, 1) := by decide +kernel
theorem dX4_work_134 : decode cX4_work 134 = .ok (.aload_n 0, 1) := by decide +kernel
theorem dX4_work_135 : decode cX4_work 135 = .ok (.getfield 51, 3) := by decide +kernel
theorem dX4_work_138 : decode cX4_work 138 = .ok (.iload 8, 2) := by decide +kernel
theorem dX4_work_140 : decode cX4_work 140 = .ok (.laload, 1) := by decide +kernel
theorem dX4_work_141 : decode cX4_work 141 = .ok (.lmul, 1) := by decide +kernel
theorem dX4_work_142 : decode cX4_work 142 = .ok (.aload_n 0, 1) := by decide +kernel
theorem dX4_work_143 : decode cX4_work 143 = .ok (.getfield 51, 3) := by decide +kernel
theorem dX4_work_146 : decode cX4_work 146 = .ok (.iload 5, 2) := by decide +kernel
theorem dX4_work_148 : decode cX4_work 148 = .ok (.laload, 1) := by decide +kernel
theorem dX4_work_149 : decode cX4_work 149 = .ok (.aload_n 0, 1) := by decide +kernel
theorem dX4_work_150 : decode cX4_work 150 = .ok (.getfield 48, 3) := by decide +kernel
theorem dX4_work_153 : decode cX4_work 153 = .ok (.iload 8, 2) := by decide +kernel
theorem dX4_work_155 : decode cX4_work 155 = .ok (.laload, 1) := by decide +kernel
theorem dX4_work_156 : decode cX4_work 156 = .ok (.lmul, 1) := by decide +kernel
theorem dX4_work_157 : decode cX4_work 157 = .ok (.ladd, 1) := by decide +kernel
theorem dX4_work_158 : decode cX4_work 158 = .ok (.aload_n 0, 1) := by decide +kernel
theorem dX4_work_159 : decode cX4_work 159 = .ok (.getfield 16, 3) := by decide +kernel
theorem dX4_work_162 : decode cX4_work 162 = .ok (.bipush 8, 2) := by decide +kernel
theorem dX4_work_164 : decode cX4_work 164 = .ok (.iload 5, 2) := by decide +kernel
theorem dX4_work_166 : decode cX4_work 166 = .ok (.imul, 1) := by decide +kernel
theorem dX4_work_167 : decode cX4_work 167 = .ok (.iload 8, 2) := by decide +kernel
theorem dX4_work_169 : decode cX4_work 169 = .ok (.iadd, 1) := by decide +kernel
theorem dX4_work_170 : decode cX4_work 170 = .ok (.iaload, 1) := by decide +kernel
theorem dX4_work_171 : decode cX4_work 171 = .ok (.i2l, 1) := by decide +kernel
theorem dX4_work_172 : decode cX4_work 172 = .ok (.lmul, 1) := by decide +kernel
theorem dX4_work_173 : decode cX4_work 173 = .ok (.ladd, 1) := by decide +kernel
theorem dX4_work_174 : decode cX4_work 174 = .ok (.lstore 6, 2) := by decide +kernel
theorem dX4_work_176 : decode cX4_work 176 = .ok (.iinc 8 1, 3) := by decide +kernel
theorem dX4_work_179 : decode cX4_work 179 = .ok (.goto (-61), 3) := by decide +kernel
theorem dX4_work_182 : decode cX4_work 182 = .ok (.aload_n 0, 1) := by decide +kernel
theorem dX4_work_183 : decode cX4_work 183 = .ok (.getfield 41, 3) := by decide +kernel
theorem dX4_work_186 : decode cX4_work 186 = .ok (.bipush 8, 2) := by decide +kernel
theorem dX4_work_188 : decode cX4_work 188 = .ok (.iload_n 2, 1) := by decide +kernel
theorem dX4_work_189 : decode cX4_work 189 = .ok (.imul, 1) := by decide +kernel
theorem dX4_work_190 : decode cX4_work 190 = .ok (.iload 5, 2) := by decide +kernel
theorem dX4_work_192 : decode cX4_work 192 = .ok (.iadd, 1) := by decide +kernel
theorem dX4_work_193 : decode cX4_work 193 = .ok (.lload 6, 2) := by decide +kernel
theorem dX4_work_195 : decode cX4_work 195 = .ok (.lastore, 1) := by decide +kernel
theorem dX4_work_196 : decode cX4_work 196 = .ok (.iinc 5 1, 3) := by decide +kernel
theorem dX4_work_199 : decode cX4_work 199 = .ok (.goto (-120), 3) := by decide +kernel
theorem dX4_work_202 : decode cX4_work 202 = .ok (.iload_n 1, 1) := by decide +kernel
theorem dX4_work_203 : decode cX4_work 203 = .ok (.ifCond .eq 65, 3) := by decide +kernel
theorem dX4_work_206 : decode cX4_work 206 = .ok (.aload_n 0, 1) := by decide +kernel
theorem dX4_work_207 : decode cX4_work 207 = .ok (.getfield 26, 3) := by decide +kernel
theorem dX4_work_210 : decode cX4_work 210 = .ok (.iload_n 2, 1) := by decide +kernel
theorem dX4_work_211 : decode cX4_work 211 = .ok (.iaload, 1) := by decide +kernel
theorem dX4_work_212 : decode cX4_work 212 = .ok (.bipush (-9), 2) := by decide +kernel
theorem dX4_work_214 : decode cX4_work 214 = .ok (.if_icmp .eq 54, 3) := by decide +kernel
theorem dX4_work_217 : decode cX4_work 217 = .ok (.aload_n 0, 1) := by decide +kernel
theorem dX4_work_218 : decode cX4_work 218 = .ok (.getfield 45, 3) := by decide +kernel
theorem dX4_work_221 : decode cX4_work 221 = .ok (.iload_n 2, 1) := by decide +kernel
theorem dX4_work_222 : decode cX4_work 222 = .ok (.lconst 1, 1) := by decide +kernel
theorem dX4_work_223 : decode cX4_work 223 = .ok (.lastore, 1) := by decide +kernel
theorem dX4_work_224 : decode cX4_work 224 = .ok (.iconst 0, 1) := by decide +kernel
theorem dX4_work_225 : decode cX4_work 225 = .ok (.istore 5, 2) := by decide +kernel
theorem dX4_work_227 : decode cX4_work 227 = .ok (.iload 5, 2) := by decide +kernel
theorem dX4_work_229 : decode cX4_work 229 = .ok (.bipush 8, 2) := by decide +kernel
theorem dX4_work_231 : decode cX4_work 231 = .ok (.if_icmp .ge 37, 3) := by decide +kernel
theorem dX4_work_234 : decode cX4_work 234 = .ok (.aload_n 0, 1) := by decide +kernel
theorem dX4_work_235 : decode cX4_work 235 = .ok (.getfield 41, 3) := by decide +kernel
theorem dX4_work_238 : decode cX4_work 238 = .ok (.bipush 8, 2) := by decide +kernel
theorem dX4_work_240 : decode cX4_work 240 = .ok (.iload_n 2, 1) := by decide +kernel
theorem dX4_work_241 : decode cX4_work 241 = .ok (.imul, 1) := by decide +kernel
theorem dX4_work_242 : decode cX4_work 242 = .ok (.iload 5, 2) := by decide +kernel
theorem dX4_work_244 : decode cX4_work 244 = .ok (.iadd, 1) := by decide +kernel
theorem dX4_work_245 : decode cX4_work 245 = .ok (.iload 5, 2) := by decide +kernel
theorem dX4_work_247 : decode cX4_work 247 = .ok (.aload_n 0, 1) := by decide +kernel
theorem dX4_work_248 : decode cX4_work 248 = .ok (.getfield 26, 3) := by decide +kernel
theorem dX4_work_251 : decode cX4_work 251 = .ok (.iload_n 2, 1) := by decide +kernel
theorem dX4_work_252 : decode cX4_work 252 = .ok (.iaload, 1) := by decide +kernel
theorem dX4_work_253 : decode cX4_work 253 = .ok (.if_icmp .ne 7, 3) := by decide +kernel
theorem dX4_work_256 : decode cX4_work 256 = .ok (.lconst 1, 1) := by decide +kernel
theorem dX4_work_257 : decode cX4_work 257 = .ok (.goto 4, 3) := by decide +kernel
theorem dX4_work_260 : decode cX4_work 260 = .ok (.lconst 0, 1) := by decide +kernel
theorem dX4_work_261 : decode cX4_work 261 = .ok (.lastore, 1) := by decide +kernel
theorem dX4_work_262 : decode cX4_work 262 = .ok (.iinc 5 1, 3) := by decide +kernel
theorem dX4_work_265 : decode cX4_work 265 = .ok (.goto (-38), 3) := by decide +kernel
theorem dX4_work_268 : decode cX4_work 268 = .ok (.iinc 2 1, 3) := by decide +kernel
theorem dX4_work_271 : decode cX4_work 271 = .ok (.goto (-269), 3) := by decide +kernel
theorem dX4_work_274 : decode cX4_work 274 = .ok (.return_, 1) := by decide +kernel
theorem dX4_told_0 : decode cX4_told 0 = .ok (.lload_n 0, 1) := by decide +kernel
theorem dX4_told_1 : decode cX4_told 1 = .ok (.lstore 5, 2) := by decide +kernel
theorem dX4_told_3 : decode cX4_told 3 = .ok (.lload_n 2, 1) := by decide +kernel
theorem dX4_told_4 : decode cX4_told 4 = .ok (.lstore 7, 2) := by decide +kernel
theorem dX4_told_6 : decode cX4_told 6 = .ok (.lload 7, 2) := by decide +kernel
theorem dX4_told_8 : decode cX4_told 8 = .ok (.lconst 0, 1) := by decide +kernel
theorem dX4_told_9 : decode cX4_told 9 = .ok (.lcmp, 1) := by decide +kernel
theorem dX4_told_10 : decode cX4_told 10 = .ok (.ifCond .eq 21, 3) := by decide +kernel
theorem dX4_told_13 : decode cX4_told 13 = .ok (.lload 5, 2) := by decide +kernel
theorem dX4_told_15 : decode cX4_told 15 = .ok (.lload 7, 2) := by decide +kernel
theorem dX4_told_17 : decode cX4_told 17 = .ok (.lrem, 1) := by decide +kernel
theorem dX4_told_18 : decode cX4_told 18 = .ok (.lstore 9, 2) := by decide +kernel
theorem dX4_told_20 : decode cX4_told 20 = .ok (.lload 7, 2) := by decide +kernel
theorem dX4_told_22 : decode cX4_told 22 = .ok (.lstore 5, 2) := by decide +kernel
theorem dX4_told_24 : decode cX4_told 24 = .ok (.lload 9, 2) := by decide +kernel
theorem dX4_told_26 : decode cX4_told 26 = .ok (.lstore 7, 2) := by decide +kernel
theorem dX4_told_28 : decode cX4_told 28 = .ok (.goto (-22), 3) := by decide +kernel
theorem dX4_told_31 : decode cX4_told 31 = .ok (.lload_n 0, 1) := by decide +kernel
theorem dX4_told_32 : decode cX4_told 32 = .ok (.lconst 0, 1) := by decide +kernel
theorem dX4_told_33 : decode cX4_told 33 = .ok (.lcmp, 1) := by decide +kernel
theorem dX4_told_34 : decode cX4_told 34 = .ok (.ifCond .ne 16, 3) := by decide +kernel
theorem dX4_told_37 : decode cX4_told 37 = .ok (.iload 4, 2) := by decide +kernel
theorem dX4_told_39 : decode cX4_told 39 = .ok (.ifCond .eq 7, 3) := by decide +kernel
theorem dX4_told_42 : decode cX4_told 42 = .ok (.lconst 0, 1) := by decide +kernel
theorem dX4_told_43 : decode cX4_told 43 = .ok (.goto 23, 3) := by decide +kernel
theorem dX4_told_46 : decode cX4_told 46 = .ok (.lconst 1, 1) := by decide +kernel
theorem dX4_told_47 : decode cX4_told 47 = .ok (.goto 19, 3) := by decide +kernel
theorem dX4_told_50 : decode cX4_told 50 = .ok (.iload 4, 2) := by decide +kernel
theorem dX4_told_52 : decode cX4_told 52 = .ok (.ifCond .eq 10, 3) := by decide +kernel
theorem dX4_told_55 : decode cX4_told 55 = .ok (.lload_n 0, 1) := by decide +kernel
theorem dX4_told_56 : decode cX4_told 56 = .ok (.lload 5, 2) := by decide +kernel
theorem dX4_told_58 : decode cX4_told 58 = .ok (.ldiv, 1) := by decide +kernel
theorem dX4_told_59 : decode cX4_told 59 = .ok (.goto 7, 3) := by decide +kernel
theorem dX4_told_62 : decode cX4_told 62 = .ok (.lload_n 2, 1) := by decide +kernel
theorem dX4_told_63 : decode cX4_told 63 = .ok (.lload 5, 2) := by decide +kernel
theorem dX4_told_65 : decode cX4_told 65 = .ok (.ldiv, 1) := by decide +kernel
theorem dX4_told_66 : decode cX4_told 66 = .ok (.lreturn, 1) := by decide +kernel
theorem dX4_layPlaces_0 : decode cX4_layPlaces 0 = .ok (.iconst 0, 1) := by decide +kernel
theorem dX4_layPlaces_1 : decode cX4_layPlaces 1 = .ok (.istore_n 1, 1) := by decide +kernel
theorem dX4_layPlaces_2 : decode cX4_layPlaces 2 = .ok (.iload_n 1, 1) := by decide +kernel
theorem dX4_layPlaces_3 : decode cX4_layPlaces 3 = .ok (.bipush 8, 2) := by decide +kernel
theorem dX4_layPlaces_5 : decode cX4_layPlaces 5 = .ok (.if_icmp .ge 21, 3) := by decide +kernel
theorem dX4_layPlaces_8 : decode cX4_layPlaces 8 = .ok (.aload_n 0, 1) := by decide +kernel
theorem dX4_layPlaces_9 : decode cX4_layPlaces 9 = .ok (.getfield 38, 3) := by decide +kernel
theorem dX4_layPlaces_12 : decode cX4_layPlaces 12 = .ok (.iload_n 1, 1) := by decide +kernel
theorem dX4_layPlaces_13 : decode cX4_layPlaces 13 = .ok (.aload_n 0, 1) := by decide +kernel
theorem dX4_layPlaces_14 : decode cX4_layPlaces 14 = .ok (.getfield 23, 3) := by decide +kernel
theorem dX4_layPlaces_17 : decode cX4_layPlaces 17 = .ok (.iload_n 1, 1) := by decide +kernel
theorem dX4_layPlaces_18 : decode cX4_layPlaces 18 = .ok (.iaload, 1) := by decide +kernel
theorem dX4_layPlaces_19 : decode cX4_layPlaces 19 = .ok (.iastore, 1) := by decide +kernel
theorem dX4_layPlaces_20 : decode cX4_layPlaces 20 = .ok (.iinc 1 1, 3) := by decide +kernel
theorem dX4_layPlaces_23 : decode cX4_layPlaces 23 = .ok (.goto (-21), 3) := by decide +kernel
theorem dX4_layPlaces_26 : decode cX4_layPlaces 26 = .ok (.return_, 1) := by decide +kernel
theorem dX4_reach_0 : decode cX4_reach 0 = .ok (.aload_n 0, 1) := by decide +kernel
theorem dX4_reach_1 : decode cX4_reach 1 = .ok (.iload_n 1, 1) := by decide +kernel
theorem dX4_reach_2 : decode cX4_reach 2 = .ok (.invokevirtual 78, 3) := by decide +kernel
theorem dX4_reach_5 : decode cX4_reach 5 = .ok (.ifCond .ne 7, 3) := by decide +kernel
theorem dX4_reach_8 : decode cX4_reach 8 = .ok (.ldc2_w 143, 3) := by decide +kernel
theorem dX4_reach_11 : decode cX4_reach 11 = .ok (.lreturn, 1) := by decide +kernel
theorem dX4_reach_12 : decode cX4_reach 12 = .ok (.iload_n 2, 1) := by decide +kernel
theorem dX4_reach_13 : decode cX4_reach 13 = .ok (.i2l, 1) := by decide +kernel
theorem dX4_reach_14 : decode cX4_reach 14 = .ok (.lconst 0, 1) := by decide +kernel
theorem dX4_reach_15 : decode cX4_reach 15 = .ok (.aload_n 0, 1) := by decide +kernel
theorem dX4_reach_16 : decode cX4_reach 16 = .ok (.invokevirtual 86, 3) := by decide +kernel
theorem dX4_reach_19 : decode cX4_reach 19 = .ok (.i2l, 1) := by decide +kernel
theorem dX4_reach_20 : decode cX4_reach 20 = .ok (.invokestatic 60, 3) := by decide +kernel
theorem dX4_reach_23 : decode cX4_reach 23 = .ok (.ifCond .ne 7, 3) := by decide +kernel
theorem dX4_reach_26 : decode cX4_reach 26 = .ok (.ldc2_w 145, 3) := by decide +kernel
theorem dX4_reach_29 : decode cX4_reach 29 = .ok (.lreturn, 1) := by decide +kernel
theorem dX4_reach_30 : decode cX4_reach 30 = .ok (.aload_n 0, 1) := by decide +kernel
theorem dX4_reach_31 : decode cX4_reach 31 = .ok (.iload_n 1, 1) := by decide +kernel
theorem dX4_reach_32 : decode cX4_reach 32 = .ok (.invokevirtual 97, 3) := by decide +kernel
theorem dX4_reach_35 : decode cX4_reach 35 = .ok (.istore 4, 2) := by decide +kernel
theorem dX4_reach_37 : decode cX4_reach 37 = .ok (.iload 4, 2) := by decide +kernel
theorem dX4_reach_39 : decode cX4_reach 39 = .ok (.bipush (-9), 2) := by decide +kernel
theorem dX4_reach_41 : decode cX4_reach 41 = .ok (.if_icmp .eq 7, 3) := by decide +kernel
theorem dX4_reach_44 : decode cX4_reach 44 = .ok (.iload_n 2, 1) := by decide +kernel
theorem dX4_reach_45 : decode cX4_reach 45 = .ok (.ifCond .ne 21, 3) := by decide +kernel
theorem dX4_reach_48 : decode cX4_reach 48 = .ok (.iload 4, 2) := by decide +kernel
theorem dX4_reach_50 : decode cX4_reach 50 = .ok (.bipush (-9), 2) := by decide +kernel
theorem dX4_reach_52 : decode cX4_reach 52 = .ok (.if_icmp .ne 7, 3) := by decide +kernel
theorem dX4_reach_55 : decode cX4_reach 55 = .ok (.lconst 0, 1) := by decide +kernel
theorem dX4_reach_56 : decode cX4_reach 56 = .ok (.goto 4, 3) := by decide +kernel
theorem dX4_reach_59 : decode cX4_reach 59 = .ok (.lconst 1, 1) := by decide +kernel
theorem dX4_reach_60 : decode cX4_reach 60 = .ok (.lconst 1, 1) := by decide +kernel
theorem dX4_reach_61 : decode cX4_reach 61 = .ok (.iload_n 3, 1) := by decide +kernel
theorem dX4_reach_62 : decode cX4_reach 62 = .ok (.invokestatic 147, 3) := by decide +kernel
theorem dX4_reach_65 : decode cX4_reach 65 = .ok (.lreturn, 1) := by decide +kernel
theorem dX4_reach_66 : decode cX4_reach 66 = .ok (.aload_n 0, 1) := by decide +kernel
theorem dX4_reach_67 : decode cX4_reach 67 = .ok (.invokevirtual 151, 3) := by decide +kernel
theorem dX4_reach_70 : decode cX4_reach 70 = .ok (.aload_n 0, 1) := by decide +kernel
theorem dX4_reach_71 : decode cX4_reach 71 = .ok (.iconst 1, 1) := by decide +kernel
theorem dX4_reach_72 : decode cX4_reach 72 = .ok (.invokevirtual 154, 3) := by decide +kernel
theorem dX4_reach_75 : decode cX4_reach 75 = .ok (.aload_n 0, 1) := by decide +kernel
theorem dX4_reach_76 : decode cX4_reach 76 = .ok (.iload 4, 2) := by decide +kernel
theorem dX4_reach_78 : decode cX4_reach 78 = .ok (.iload_n 2, 1) := by decide +kernel
theorem dX4_reach_79 : decode cX4_reach 79 = .ok (.invokevirtual 158, 3) := by decide +kernel
theorem dX4_reach_82 : decode cX4_reach 82 = .ok (.istore 5, 2) := by decide +kernel
theorem dX4_reach_84 : decode cX4_reach 84 = .ok (.aload_n 0, 1) := by decide +kernel
theorem dX4_reach_85 : decode cX4_reach 85 = .ok (.getfield 41, 3) := by decide +kernel
theorem dX4_reach_88 : decode cX4_reach 88 = .ok (.bipush 8, 2) := by decide +kernel
theorem dX4_reach_90 : decode cX4_reach 90 = .ok (.iload 5, 2) := by decide +kernel
theorem dX4_reach_92 : decode cX4_reach 92 = .ok (.imul, 1) := by decide +kernel
theorem dX4_reach_93 : decode cX4_reach 93 = .ok (.iload_n 1, 1) := by decide +kernel
theorem dX4_reach_94 : decode cX4_reach 94 = .ok (.iadd, 1) := by decide +kernel
theorem dX4_reach_95 : decode cX4_reach 95 = .ok (.laload, 1) := by decide +kernel
theorem dX4_reach_96 : decode cX4_reach 96 = .ok (.aload_n 0, 1) := by decide +kernel
theorem dX4_reach_97 : decode cX4_reach 97 = .ok (.getfield 45, 3) := by decide +kernel
theorem dX4_reach_100 : decode cX4_reach 100 = .ok (.iload 5, 2) := by decide +kernel
theorem dX4_reach_102 : decode cX4_reach 102 = .ok (.laload, 1) := by decide +kernel
theorem dX4_reach_103 : decode cX4_reach 103 = .ok (.iload_n 3, 1) := by decide +kernel
theorem dX4_reach_104 : decode cX4_reach 104 = .ok (.invokestatic 147, 3) := by decide +kernel
theorem dX4_reach_107 : decode cX4_reach 107 = .ok (.lreturn, 1) := by decide +kernel
theorem dX4_meet_0 : decode cX4_meet 0 = .ok (.aload_n 0, 1) := by decide +kernel
theorem dX4_meet_1 : decode cX4_meet 1 = .ok (.iload_n 1, 1) := by decide +kernel
theorem dX4_meet_2 : decode cX4_meet 2 = .ok (.invokevirtual 78, 3) := by decide +kernel
theorem dX4_meet_5 : decode cX4_meet 5 = .ok (.ifCond .eq 11, 3) := by decide +kernel
theorem dX4_meet_8 : decode cX4_meet 8 = .ok (.aload_n 0, 1) := by decide +kernel
theorem dX4_meet_9 : decode cX4_meet 9 = .ok (.iload_n 2, 1) := by decide +kernel
theorem dX4_meet_10 : decode cX4_meet 10 = .ok (.invokevirtual 78, 3) := by decide +kernel
theorem dX4_meet_13 : decode cX4_meet 13 = .ok (.ifCond .ne 7, 3) := by decide +kernel
theorem dX4_meet_16 : decode cX4_meet 16 = .ok (.ldc2_w 143, 3) := by decide +kernel
theorem dX4_meet_19 : decode cX4_meet 19 = .ok (.lreturn, 1) := by decide +kernel
theorem dX4_meet_20 : decode cX4_meet 20 = .ok (.iload_n 3, 1) := by decide +kernel
theorem dX4_meet_21 : decode cX4_meet 21 = .ok (.i2l, 1) := by decide +kernel
theorem dX4_meet_22 : decode cX4_meet 22 = .ok (.lconst 0, 1) := by decide +kernel
theorem dX4_meet_23 : decode cX4_meet 23 = .ok (.aload_n 0, 1) := by decide +kernel
theorem dX4_meet_24 : decode cX4_meet 24 = .ok (.invokevirtual 86, 3) := by decide +kernel
theorem dX4_meet_27 : decode cX4_meet 27 = .ok (.i2l, 1) := by decide +kernel
theorem dX4_meet_28 : decode cX4_meet 28 = .ok (.invokestatic 60, 3) := by decide +kernel
theorem dX4_meet_31 : decode cX4_meet 31 = .ok (.ifCond .ne 7, 3) := by decide +kernel
theorem dX4_meet_34 : decode cX4_meet 34 = .ok (.ldc2_w 145, 3) := by decide +kernel
theorem dX4_meet_37 : decode cX4_meet 37 = .ok (.lreturn, 1) := by decide +kernel
theorem dX4_meet_38 : decode cX4_meet 38 = .ok (.iload_n 1, 1) := by decide +kernel
theorem dX4_meet_39 : decode cX4_meet 39 = .ok (.iload_n 2, 1) := by decide +kernel
theorem dX4_meet_40 : decode cX4_meet 40 = .ok (.if_icmp .ne 7, 3) := by decide +kernel
theorem dX4_meet_43 : decode cX4_meet 43 = .ok (.ldc2_w 161, 3) := by decide +kernel
theorem dX4_meet_46 : decode cX4_meet 46 = .ok (.lreturn, 1) := by decide +kernel
theorem dX4_meet_47 : decode cX4_meet 47 = .ok (.aload_n 0, 1) := by decide +kernel
theorem dX4_meet_48 : decode cX4_meet 48 = .ok (.iload_n 1, 1) := by decide +kernel
theorem dX4_meet_49 : decode cX4_meet 49 = .ok (.invokevirtual 97, 3) := by decide +kernel
theorem dX4_meet_52 : decode cX4_meet 52 = .ok (.istore 5, 2) := by decide +kernel
theorem dX4_meet_54 : decode cX4_meet 54 = .ok (.aload_n 0, 1) := by decide +kernel
theorem dX4_meet_55 : decode cX4_meet 55 = .ok (.iload_n 2, 1) := by decide +kernel
theorem dX4_meet_56 : decode cX4_meet 56 = .ok (.invokevirtual 97, 3) := by decide +kernel
theorem dX4_meet_59 : decode cX4_meet 59 = .ok (.istore 6, 2) := by decide +kernel
theorem dX4_meet_61 : decode cX4_meet 61 = .ok (.iload 5, 2) := by decide +kernel
theorem dX4_meet_63 : decode cX4_meet 63 = .ok (.bipush (-9), 2) := by decide +kernel
theorem dX4_meet_65 : decode cX4_meet 65 = .ok (.if_icmp .eq 10, 3) := by decide +kernel
theorem dX4_meet_68 : decode cX4_meet 68 = .ok (.iload 6, 2) := by decide +kernel
theorem dX4_meet_70 : decode cX4_meet 70 = .ok (.bipush (-9), 2) := by decide +kernel
theorem dX4_meet_72 : decode cX4_meet 72 = .ok (.if_icmp .ne 11, 3) := by decide +kernel
theorem dX4_meet_75 : decode cX4_meet 75 = .ok (.lconst 0, 1) := by decide +kernel
theorem dX4_meet_76 : decode cX4_meet 76 = .ok (.lconst 1, 1) := by decide +kernel
theorem dX4_meet_77 : decode cX4_meet 77 = .ok (.iload 4, 2) := by decide +kernel
theorem dX4_meet_79 : decode cX4_meet 79 = .ok (.invokestatic 147, 3) := by decide +kernel
theorem dX4_meet_82 : decode cX4_meet 82 = .ok (.lreturn, 1) := by decide +kernel
theorem dX4_meet_83 : decode cX4_meet 83 = .ok (.iload 5, 2) := by decide +kernel
theorem dX4_meet_85 : decode cX4_meet 85 = .ok (.iload 6, 2) := by decide +kernel
theorem dX4_meet_87 : decode cX4_meet 87 = .ok (.invokestatic 163, 3) := by decide +kernel
theorem dX4_meet_90 : decode cX4_meet 90 = .ok (.istore 7, 2) := by decide +kernel
theorem dX4_meet_92 : decode cX4_meet 92 = .ok (.iload_n 3, 1) := by decide +kernel
theorem dX4_meet_93 : decode cX4_meet 93 = .ok (.ifCond .eq 17, 3) := by decide +kernel
theorem dX4_meet_96 : decode cX4_meet 96 = .ok (.iload_n 3, 1) := by decide +kernel
theorem dX4_meet_97 : decode cX4_meet 97 = .ok (.iload 7, 2) := by decide +kernel
theorem dX4_meet_99 : decode cX4_meet 99 = .ok (.if_icmp .eq 11, 3) := by decide +kernel
theorem dX4_meet_102 : decode cX4_meet 102 = .ok (.lconst 0, 1) := by decide +kernel
theorem dX4_meet_103 : decode cX4_meet 103 = .ok (.lconst 1, 1) := by decide +kernel
theorem dX4_meet_104 : decode cX4_meet 104 = .ok (.iload 4, 2) := by decide +kernel
theorem dX4_meet_106 : decode cX4_meet 106 = .ok (.invokestatic 147, 3) := by decide +kernel
theorem dX4_meet_109 : decode cX4_meet 109 = .ok (.lreturn, 1) := by decide +kernel
theorem dX4_meet_110 : decode cX4_meet 110 = .ok (.aload_n 0, 1) := by decide +kernel
theorem dX4_meet_111 : decode cX4_meet 111 = .ok (.invokevirtual 151, 3) := by decide +kernel
theorem dX4_meet_114 : decode cX4_meet 114 = .ok (.aload_n 0, 1) := by decide +kernel
theorem dX4_meet_115 : decode cX4_meet 115 = .ok (.iconst 1, 1) := by decide +kernel
theorem dX4_meet_116 : decode cX4_meet 116 = .ok (.invokevirtual 154, 3) := by decide +kernel
theorem dX4_meet_119 : decode cX4_meet 119 = .ok (.aload_n 0, 1) := by decide +kernel
theorem dX4_meet_120 : decode cX4_meet 120 = .ok (.aload_n 0, 1) := by decide +kernel
theorem dX4_meet_121 : decode cX4_meet 121 = .ok (.iload 5, 2) := by decide +kernel
theorem dX4_meet_123 : decode cX4_meet 123 = .ok (.iload 7, 2) := by decide +kernel
theorem dX4_meet_125 : decode cX4_meet 125 = .ok (.invokevirtual 158, 3) := by decide +kernel
theorem dX4_meet_128 : decode cX4_meet 128 = .ok (.invokevirtual 135, 3) := by decide +kernel
theorem dX4_meet_131 : decode cX4_meet 131 = .ok (.aload_n 0, 1) := by decide +kernel
theorem dX4_meet_132 : decode cX4_meet 132 = .ok (.getfield 48, 3) := by decide +kernel
theorem dX4_meet_135 : decode cX4_meet 135 = .ok (.iload_n 1, 1) := by decide +kernel
theorem dX4_meet_136 : decode cX4_meet 136 = .ok (.laload, 1) := by decide +kernel
theorem dX4_meet_137 : decode cX4_meet 137 = .ok (.aload_n 0, 1) := by decide +kernel
theorem dX4_meet_138 : decode cX4_meet 138 = .ok (.getfield 51, 3) := by decide +kernel
theorem dX4_meet_141 : decode cX4_meet 141 = .ok (.iload_n 1, 1) := by decide +kernel
theorem dX4_meet_142 : decode cX4_meet 142 = .ok (.laload, 1) := by decide +kernel
theorem dX4_meet_143 : decode cX4_meet 143 = .ok (.ladd, 1) := by decide +kernel
theorem dX4_meet_144 : decode cX4_meet 144 = .ok (.aload_n 0, 1) := by decide +kernel
theorem dX4_meet_145 : decode cX4_meet 145 = .ok (.getfield 48, 3) := by decide +kernel
theorem dX4_meet_148 : decode cX4_meet 148 = .ok (.iload_n 2, 1) := by decide +kernel
theorem dX4_meet_149 : decode cX4_meet 149 = .ok (.laload, 1) := by decide +kernel
theorem dX4_meet_150 : decode cX4_meet 150 = .ok (.aload_n 0, 1) := by decide +kernel
theorem dX4_meet_151 : decode cX4_meet 151 = .ok (.getfield 51, 3) := by decide +kernel
theorem dX4_meet_154 : decode cX4_meet 154 = .ok (.iload_n 2, 1) := by decide +kernel
theorem dX4_meet_155 : decode cX4_meet 155 = .ok (.laload, 1) := by decide +kernel
theorem dX4_meet_156 : decode cX4_meet 156 = .ok (.ladd, 1) := by decide +kernel
theorem dX4_meet_157 : decode cX4_meet 157 = .ok (.lmul, 1) := by decide +kernel
theorem dX4_meet_158 : decode cX4_meet 158 = .ok (.aload_n 0, 1) := by decide +kernel
theorem dX4_meet_159 : decode cX4_meet 159 = .ok (.getfield 128, 3) := by decide +kernel
theorem dX4_meet_162 : decode cX4_meet 162 = .ok (.aload_n 0, 1) := by decide +kernel
theorem dX4_meet_163 : decode cX4_meet 163 = .ok (.getfield 132, 3) := by decide +kernel
theorem dX4_meet_166 : decode cX4_meet 166 = .ok (.lmul, 1) := by decide +kernel
theorem dX4_meet_167 : decode cX4_meet 167 = .ok (.iload 4, 2) := by decide +kernel
theorem dX4_meet_169 : decode cX4_meet 169 = .ok (.invokestatic 147, 3) := by decide +kernel
theorem dX4_meet_172 : decode cX4_meet 172 = .ok (.lreturn, 1) := by decide +kernel
theorem dX4_can_0 : decode cX4_can 0 = .ok (.aload_n 0, 1) := by decide +kernel
theorem dX4_can_1 : decode cX4_can 1 = .ok (.iload_n 1, 1) := by decide +kernel
theorem dX4_can_2 : decode cX4_can 2 = .ok (.invokevirtual 78, 3) := by decide +kernel
theorem dX4_can_5 : decode cX4_can 5 = .ok (.ifCond .ne 5, 3) := by decide +kernel
theorem dX4_can_8 : decode cX4_can 8 = .ok (.iconst (-1), 1) := by decide +kernel
theorem dX4_can_9 : decode cX4_can 9 = .ok (.ireturn, 1) := by decide +kernel
theorem dX4_can_10 : decode cX4_can 10 = .ok (.aload_n 0, 1) := by decide +kernel
theorem dX4_can_11 : decode cX4_can 11 = .ok (.invokevirtual 119, 3) := by decide +kernel
theorem dX4_can_14 : decode cX4_can 14 = .ok (.aload_n 0, 1) := by decide +kernel
theorem dX4_can_15 : decode cX4_can 15 = .ok (.getfield 35, 3) := by decide +kernel
theorem dX4_can_18 : decode cX4_can 18 = .ok (.aload_n 0, 1) := by decide +kernel
theorem dX4_can_19 : decode cX4_can 19 = .ok (.getfield 13, 3) := by decide +kernel
theorem dX4_can_22 : decode cX4_can 22 = .ok (.iconst 2, 1) := by decide +kernel
theorem dX4_can_23 : decode cX4_can 23 = .ok (.isub, 1) := by decide +kernel
theorem dX4_can_24 : decode cX4_can 24 = .ok (.iaload, 1) := by decide +kernel
theorem dX4_can_25 : decode cX4_can 25 = .ok (.istore_n 2, 1) := by decide +kernel
theorem dX4_can_26 : decode cX4_can 26 = .ok (.iload_n 2, 1) := by decide +kernel
theorem dX4_can_27 : decode cX4_can 27 = .ok (.iload_n 1, 1) := by decide +kernel
theorem dX4_can_28 : decode cX4_can 28 = .ok (.ishr, 1) := by decide +kernel
theorem dX4_can_29 : decode cX4_can 29 = .ok (.iconst 1, 1) := by decide +kernel
theorem dX4_can_30 : decode cX4_can 30 = .ok (.iand, 1) := by decide +kernel
theorem dX4_can_31 : decode cX4_can 31 = .ok (.ifCond .ne 7, 3) := by decide +kernel
theorem dX4_can_34 : decode cX4_can 34 = .ok (.iconst 0, 1) := by decide +kernel
theorem dX4_can_35 : decode cX4_can 35 = .ok (.goto 16, 3) := by decide +kernel
theorem dX4_can_38 : decode cX4_can 38 = .ok (.iload_n 2, 1) := by decide +kernel
theorem dX4_can_39 : decode cX4_can 39 = .ok (.invokestatic 113, 3) := by decide +kernel
theorem dX4_can_42 : decode cX4_can 42 = .ok (.iconst 1, 1) := by decide +kernel
theorem dX4_can_43 : decode cX4_can 43 = .ok (.if_icmp .ne 7, 3) := by decide +kernel
theorem dX4_can_46 : decode cX4_can 46 = .ok (.iconst 2, 1) := by decide +kernel
theorem dX4_can_47 : decode cX4_can 47 = .ok (.goto 4, 3) := by decide +kernel
theorem dX4_can_50 : decode cX4_can 50 = .ok (.iconst 1, 1) := by decide +kernel
theorem dX4_can_51 : decode cX4_can 51 = .ok (.ireturn, 1) := by decide +kernel
theorem dX4_isBehind_0 : decode cX4_isBehind 0 = .ok (.iconst 0, 1) := by decide +kernel
theorem dX4_isBehind_1 : decode cX4_isBehind 1 = .ok (.istore_n 3, 1) := by decide +kernel
theorem dX4_isBehind_2 : decode cX4_isBehind 2 = .ok (.iload_n 3, 1) := by decide +kernel
theorem dX4_isBehind_3 : decode cX4_isBehind 3 = .ok (.iload_n 2, 1) := by decide +kernel
theorem dX4_isBehind_4 : decode cX4_isBehind 4 = .ok (.if_icmp .ge 30, 3) := by decide +kernel
theorem dX4_isBehind_7 : decode cX4_isBehind 7 = .ok (.aload_n 0, 1) := by decide +kernel
theorem dX4_isBehind_8 : decode cX4_isBehind 8 = .ok (.getfield 38, 3) := by decide +kernel
theorem dX4_isBehind_11 : decode cX4_isBehind 11 = .ok (.iload_n 1, 1) := by decide +kernel
theorem dX4_isBehind_12 : decode cX4_isBehind 12 = .ok (.iload_n 3, 1) := by decide +kernel
theorem dX4_isBehind_13 : decode cX4_isBehind 13 = .ok (.iadd, 1) := by decide +kernel
theorem dX4_isBehind_14 : decode cX4_isBehind 14 = .ok (.iaload, 1) := by decide +kernel
theorem dX4_isBehind_15 : decode cX4_isBehind 15 = .ok (.aload_n 0, 1) := by decide +kernel
theorem dX4_isBehind_16 : decode cX4_isBehind 16 = .ok (.getfield 38, 3) := by decide +kernel
theorem dX4_isBehind_19 : decode cX4_isBehind 19 = .ok (.iload_n 1, 1) := by decide +kernel
theorem dX4_isBehind_20 : decode cX4_isBehind 20 = .ok (.iload_n 2, 1) := by decide +kernel
theorem dX4_isBehind_21 : decode cX4_isBehind 21 = .ok (.iadd, 1) := by decide +kernel
theorem dX4_isBehind_22 : decode cX4_isBehind 22 = .ok (.iload_n 3, 1) := by decide +kernel
theorem dX4_isBehind_23 : decode cX4_isBehind 23 = .ok (.iadd, 1) := by decide +kernel
theorem dX4_isBehind_24 : decode cX4_isBehind 24 = .ok (.iaload, 1) := by decide +kernel
theorem dX4_isBehind_25 : decode cX4_isBehind 25 = .ok (.if_icmp .ne 9, 3) := by decide +kernel
theorem dX4_isBehind_28 : decode cX4_isBehind 28 = .ok (.iinc 3 1, 3) := by decide +kernel
theorem dX4_isBehind_31 : decode cX4_isBehind 31 = .ok (.goto (-29), 3) := by decide +kernel
theorem dX4_isBehind_34 : decode cX4_isBehind 34 = .ok (.iload_n 3, 1) := by decide +kernel
theorem dX4_isBehind_35 : decode cX4_isBehind 35 = .ok (.iload_n 2, 1) := by decide +kernel
theorem dX4_isBehind_36 : decode cX4_isBehind 36 = .ok (.if_icmp .ge 28, 3) := by decide +kernel
theorem dX4_isBehind_39 : decode cX4_isBehind 39 = .ok (.aload_n 0, 1) := by decide +kernel
theorem dX4_isBehind_40 : decode cX4_isBehind 40 = .ok (.getfield 38, 3) := by decide +kernel
theorem dX4_isBehind_43 : decode cX4_isBehind 43 = .ok (.iload_n 1, 1) := by decide +kernel
theorem dX4_isBehind_44 : decode cX4_isBehind 44 = .ok (.iload_n 3, 1) := by decide +kernel
theorem dX4_isBehind_45 : decode cX4_isBehind 45 = .ok (.iadd, 1) := by decide +kernel
theorem dX4_isBehind_46 : decode cX4_isBehind 46 = .ok (.iaload, 1) := by decide +kernel
theorem dX4_isBehind_47 : decode cX4_isBehind 47 = .ok (.aload_n 0, 1) := by decide +kernel
theorem dX4_isBehind_48 : decode cX4_isBehind 48 = .ok (.getfield 38, 3) := by decide +kernel
theorem dX4_isBehind_51 : decode cX4_isBehind 51 = .ok (.iload_n 1, 1) := by decide +kernel
theorem dX4_isBehind_52 : decode cX4_isBehind 52 = .ok (.iload_n 2, 1) := by decide +kernel
theorem dX4_isBehind_53 : decode cX4_isBehind 53 = .ok (.iadd, 1) := by decide +kernel
theorem dX4_isBehind_54 : decode cX4_isBehind 54 = .ok (.iload_n 3, 1) := by decide +kernel
theorem dX4_isBehind_55 : decode cX4_isBehind 55 = .ok (.iadd, 1) := by decide +kernel
theorem dX4_isBehind_56 : decode cX4_isBehind 56 = .ok (.iaload, 1) := by decide +kernel
theorem dX4_isBehind_57 : decode cX4_isBehind 57 = .ok (.if_icmp .le 7, 3) := by decide +kernel
theorem dX4_isBehind_60 : decode cX4_isBehind 60 = .ok (.iconst 1, 1) := by decide +kernel
theorem dX4_isBehind_61 : decode cX4_isBehind 61 = .ok (.goto 4, 3) := by decide +kernel
theorem dX4_isBehind_64 : decode cX4_isBehind 64 = .ok (.iconst 0, 1) := by decide +kernel
theorem dX4_isBehind_65 : decode cX4_isBehind 65 = .ok (.ireturn, 1) := by decide +kernel
theorem dX4_halvesFit_0 : decode cX4_halvesFit 0 = .ok (.iconst 1, 1) := by decide +kernel
theorem dX4_halvesFit_1 : decode cX4_halvesFit 1 = .ok (.istore_n 2, 1) := by decide +kernel
theorem dX4_halvesFit_2 : decode cX4_halvesFit 2 = .ok (.iconst 1, 1) := by decide +kernel
theorem dX4_halvesFit_3 : decode cX4_halvesFit 3 = .ok (.istore_n 3, 1) := by decide +kernel
theorem dX4_halvesFit_4 : decode cX4_halvesFit 4 = .ok (.iload_n 3, 1) := by decide +kernel
theorem dX4_halvesFit_5 : decode cX4_halvesFit 5 = .ok (.aload_n 0, 1) := by decide +kernel
theorem dX4_halvesFit_6 : decode cX4_halvesFit 6 = .ok (.getfield 13, 3) := by decide +kernel
theorem dX4_halvesFit_9 : decode cX4_halvesFit 9 = .ok (.if_icmp .ge 45, 3) := by decide +kernel
theorem dX4_halvesFit_12 : decode cX4_halvesFit 12 = .ok (.iload_n 1, 1) := by decide +kernel
theorem dX4_halvesFit_13 : decode cX4_halvesFit 13 = .ok (.iconst 1, 1) := by decide +kernel
theorem dX4_halvesFit_14 : decode cX4_halvesFit 14 = .ok (.iadd, 1) := by decide +kernel
theorem dX4_halvesFit_15 : decode cX4_halvesFit 15 = .ok (.iconst 2, 1) := by decide +kernel
theorem dX4_halvesFit_16 : decode cX4_halvesFit 16 = .ok (.iload_n 3, 1) := by decide +kernel
theorem dX4_halvesFit_17 : decode cX4_halvesFit 17 = .ok (.imul, 1) := by decide +kernel
theorem dX4_halvesFit_18 : decode cX4_halvesFit 18 = .ok (.irem, 1) := by decide +kernel
theorem dX4_halvesFit_19 : decode cX4_halvesFit 19 = .ok (.ifCond .ne 35, 3) := by decide +kernel
theorem dX4_halvesFit_22 : decode cX4_halvesFit 22 = .ok (.iload_n 2, 1) := by decide +kernel
theorem dX4_halvesFit_23 : decode cX4_halvesFit 23 = .ok (.ifCond .eq 22, 3) := by decide +kernel
theorem dX4_halvesFit_26 : decode cX4_halvesFit 26 = .ok (.aload_n 0, 1) := by decide +kernel
theorem dX4_halvesFit_27 : decode cX4_halvesFit 27 = .ok (.iload_n 1, 1) := by decide +kernel
theorem dX4_halvesFit_28 : decode cX4_halvesFit 28 = .ok (.iconst 1, 1) := by decide +kernel
theorem dX4_halvesFit_29 : decode cX4_halvesFit 29 = .ok (.iadd, 1) := by decide +kernel
theorem dX4_halvesFit_30 : decode cX4_halvesFit 30 = .ok (.iconst 2, 1) := by decide +kernel
theorem dX4_halvesFit_31 : decode cX4_halvesFit 31 = .ok (.iload_n 3, 1) := by decide +kernel
theorem dX4_halvesFit_32 : decode cX4_halvesFit 32 = .ok (.imul, 1) := by decide +kernel
theorem dX4_halvesFit_33 : decode cX4_halvesFit 33 = .ok (.isub, 1) := by decide +kernel
theorem dX4_halvesFit_34 : decode cX4_halvesFit 34 = .ok (.iload_n 3, 1) := by decide +kernel
theorem dX4_halvesFit_35 : decode cX4_halvesFit 35 = .ok (.invokevirtual 166, 3) := by decide +kernel
theorem dX4_halvesFit_38 : decode cX4_halvesFit 38 = .ok (.ifCond .ne 7, 3) := by decide +kernel
theorem dX4_halvesFit_41 : decode cX4_halvesFit 41 = .ok (.iconst 1, 1) := by decide +kernel
theorem dX4_halvesFit_42 : decode cX4_halvesFit 42 = .ok (.goto 4, 3) := by decide +kernel
theorem dX4_halvesFit_45 : decode cX4_halvesFit 45 = .ok (.iconst 0, 1) := by decide +kernel
theorem dX4_halvesFit_46 : decode cX4_halvesFit 46 = .ok (.istore_n 2, 1) := by decide +kernel
theorem dX4_halvesFit_47 : decode cX4_halvesFit 47 = .ok (.iload_n 3, 1) := by decide +kernel
theorem dX4_halvesFit_48 : decode cX4_halvesFit 48 = .ok (.iconst 2, 1) := by decide +kernel
theorem dX4_halvesFit_49 : decode cX4_halvesFit 49 = .ok (.imul, 1) := by decide +kernel
theorem dX4_halvesFit_50 : decode cX4_halvesFit 50 = .ok (.istore_n 3, 1) := by decide +kernel
theorem dX4_halvesFit_51 : decode cX4_halvesFit 51 = .ok (.goto (-47), 3) := by decide +kernel
theorem dX4_halvesFit_54 : decode cX4_halvesFit 54 = .ok (.iload_n 2, 1) := by decide +kernel
theorem dX4_halvesFit_55 : decode cX4_halvesFit 55 = .ok (.ireturn, 1) := by decide +kernel
theorem dX4_fits_0 : decode cX4_fits 0 = .ok (.aload_n 0, 1) := by decide +kernel
theorem dX4_fits_1 : decode cX4_fits 1 = .ok (.getfield 38, 3) := by decide +kernel
theorem dX4_fits_4 : decode cX4_fits 4 = .ok (.iload_n 1, 1) := by decide +kernel
theorem dX4_fits_5 : decode cX4_fits 5 = .ok (.iaload, 1) := by decide +kernel
theorem dX4_fits_6 : decode cX4_fits 6 = .ok (.istore_n 2, 1) := by decide +kernel
theorem dX4_fits_7 : decode cX4_fits 7 = .ok (.iconst 0, 1) := by decide +kernel
theorem dX4_fits_8 : decode cX4_fits 8 = .ok (.istore_n 3, 1) := by decide +kernel
theorem dX4_fits_9 : decode cX4_fits 9 = .ok (.iconst 0, 1) := by decide +kernel
theorem dX4_fits_10 : decode cX4_fits 10 = .ok (.istore 4, 2) := by decide +kernel
theorem dX4_fits_12 : decode cX4_fits 12 = .ok (.iload 4, 2) := by decide +kernel
theorem dX4_fits_14 : decode cX4_fits 14 = .ok (.iload_n 1, 1) := by decide +kernel
theorem dX4_fits_15 : decode cX4_fits 15 = .ok (.if_icmp .ge 121, 3) := by decide +kernel
theorem dX4_fits_18 : decode cX4_fits 18 = .ok (.aload_n 0, 1) := by decide +kernel
theorem dX4_fits_19 : decode cX4_fits 19 = .ok (.getfield 38, 3) := by decide +kernel
theorem dX4_fits_22 : decode cX4_fits 22 = .ok (.iload 4, 2) := by decide +kernel
theorem dX4_fits_24 : decode cX4_fits 24 = .ok (.iaload, 1) := by decide +kernel
theorem dX4_fits_25 : decode cX4_fits 25 = .ok (.iload_n 2, 1) := by decide +kernel
theorem dX4_fits_26 : decode cX4_fits 26 = .ok (.if_icmp .ne 13, 3) := by decide +kernel
theorem dX4_fits_29 : decode cX4_fits 29 = .ok (.iload_n 2, 1) := by decide +kernel
theorem dX4_fits_30 : decode cX4_fits 30 = .ok (.bipush 8, 2) := by decide +kernel
theorem dX4_fits_32 : decode cX4_fits 32 = .ok (.if_icmp .eq 7, 3) := by decide +kernel
theorem dX4_fits_35 : decode cX4_fits 35 = .ok (.iconst 1, 1) := by decide +kernel
theorem dX4_fits_36 : decode cX4_fits 36 = .ok (.goto 4, 3) := by decide +kernel
theorem dX4_fits_39 : decode cX4_fits 39 = .ok (.iconst 0, 1) := by decide +kernel
theorem dX4_fits_40 : decode cX4_fits 40 = .ok (.istore 5, 2) := by decide +kernel
theorem dX4_fits_42 : decode cX4_fits 42 = .ok (.iload_n 2, 1) := by decide +kernel
theorem dX4_fits_43 : decode cX4_fits 43 = .ok (.bipush 8, 2) := by decide +kernel
theorem dX4_fits_45 : decode cX4_fits 45 = .ok (.if_icmp .eq 50, 3) := by decide +kernel
theorem dX4_fits_48 : decode cX4_fits 48 = .ok (.aload_n 0, 1) := by decide +kernel
theorem dX4_fits_49 : decode cX4_fits 49 = .ok (.getfield 38, 3) := by decide +kernel
theorem dX4_fits_52 : decode cX4_fits 52 = .ok (.iload 4, 2) := by decide +kernel
theorem dX4_fits_54 : decode cX4_fits 54 = .ok (.iaload, 1) := by decide +kernel
theorem dX4_fits_55 : decode cX4_fits 55 = .ok (.bipush 8, 2) := by decide +kernel
theorem dX4_fits_57 : decode cX4_fits 57 = .ok (.if_icmp .eq 38, 3) := by decide +kernel
theorem dX4_fits_60 : decode cX4_fits 60 = .ok (.iload 5, 2) := by decide +kernel
theorem dX4_fits_62 : decode cX4_fits 62 = .ok (.ifCond .ne 33, 3) := by decide +kernel
theorem dX4_fits_65 : decode cX4_fits 65 = .ok (.iload_n 1, 1) := by decide +kernel
theorem dX4_fits_66 : decode cX4_fits 66 = .ok (.iload 4, 2) := by decide +kernel
theorem dX4_fits_68 : decode cX4_fits 68 = .ok (.invokestatic 163, 3) := by decide +kernel
theorem dX4_fits_71 : decode cX4_fits 71 = .ok (.aload_n 0, 1) := by decide +kernel
theorem dX4_fits_72 : decode cX4_fits 72 = .ok (.getfield 20, 3) := by decide +kernel
theorem dX4_fits_75 : decode cX4_fits 75 = .ok (.bipush 8, 2) := by decide +kernel
theorem dX4_fits_77 : decode cX4_fits 77 = .ok (.iload_n 2, 1) := by decide +kernel
theorem dX4_fits_78 : decode cX4_fits 78 = .ok (.imul, 1) := by decide +kernel
theorem dX4_fits_79 : decode cX4_fits 79 = .ok (.aload_n 0, 1) := by decide +kernel
theorem dX4_fits_80 : decode cX4_fits 80 = .ok (.getfield 38, 3) := by decide +kernel
theorem dX4_fits_83 : decode cX4_fits 83 = .ok (.iload 4, 2) := by decide +kernel
theorem dX4_fits_85 : decode cX4_fits 85 = .ok (.iaload, 1) := by decide +kernel
theorem dX4_fits_86 : decode cX4_fits 86 = .ok (.iadd, 1) := by decide +kernel
theorem dX4_fits_87 : decode cX4_fits 87 = .ok (.iaload, 1) := by decide +kernel
theorem dX4_fits_88 : decode cX4_fits 88 = .ok (.if_icmp .ge 7, 3) := by decide +kernel
theorem dX4_fits_91 : decode cX4_fits 91 = .ok (.iconst 1, 1) := by decide +kernel
theorem dX4_fits_92 : decode cX4_fits 92 = .ok (.goto 4, 3) := by decide +kernel
theorem dX4_fits_95 : decode cX4_fits 95 = .ok (.iconst 0, 1) := by decide +kernel
theorem dX4_fits_96 : decode cX4_fits 96 = .ok (.istore 6, 2) := by decide +kernel
theorem dX4_fits_98 : decode cX4_fits 98 = .ok (.iload 5, 2) := by decide +kernel
theorem dX4_fits_100 : decode cX4_fits 100 = .ok (.ifCond .ne 8, 3) := by decide +kernel
theorem dX4_fits_103 : decode cX4_fits 103 = .ok (.iload 6, 2) := by decide +kernel
theorem dX4_fits_105 : decode cX4_fits 105 = .ok (.ifCond .eq 5, 3) := by decide +kernel
theorem dX4_fits_108 : decode cX4_fits 108 = .ok (.iconst 0, 1) := by decide +kernel
theorem dX4_fits_109 : decode cX4_fits 109 = .ok (.ireturn, 1) := by decide +kernel
theorem dX4_fits_110 : decode cX4_fits 110 = .ok (.iload_n 3, 1) := by decide +kernel
theorem dX4_fits_111 : decode cX4_fits 111 = .ok (.aload_n 0, 1) := by decide +kernel
theorem dX4_fits_112 : decode cX4_fits 112 = .ok (.getfield 38, 3) := by decide +kernel
theorem dX4_fits_115 : decode cX4_fits 115 = .ok (.iload 4, 2) := by decide +kernel
theorem dX4_fits_117 : decode cX4_fits 117 = .ok (.iaload, 1) := by decide +kernel
theorem dX4_fits_118 : decode cX4_fits 118 = .ok (.bipush 8, 2) := by decide +kernel
theorem dX4_fits_120 : decode cX4_fits 120 = .ok (.if_icmp .ne 7, 3) := by decide +kernel
theorem dX4_fits_123 : decode cX4_fits 123 = .ok (.iconst 1, 1) := by decide +kernel
theorem dX4_fits_124 : decode cX4_fits 124 = .ok (.goto 4, 3) := by decide +kernel
theorem dX4_fits_127 : decode cX4_fits 127 = .ok (.iconst 0, 1) := by decide +kernel
theorem dX4_fits_128 : decode cX4_fits 128 = .ok (.iadd, 1) := by decide +kernel
theorem dX4_fits_129 : decode cX4_fits 129 = .ok (.istore_n 3, 1) := by decide +kernel
theorem dX4_fits_130 : decode cX4_fits 130 = .ok (.iinc 4 1, 3) := by decide +kernel
theorem dX4_fits_133 : decode cX4_fits 133 = .ok (.goto (-121), 3) := by decide +kernel
theorem dX4_fits_136 : decode cX4_fits 136 = .ok (.iload_n 2, 1) := by decide +kernel
theorem dX4_fits_137 : decode cX4_fits 137 = .ok (.bipush 8, 2) := by decide +kernel
theorem dX4_fits_139 : decode cX4_fits 139 = .ok (.if_icmp .ne 16, 3) := by decide +kernel
theorem dX4_fits_142 : decode cX4_fits 142 = .ok (.iload_n 3, 1) := by decide +kernel
theorem dX4_fits_143 : decode cX4_fits 143 = .ok (.aload_n 0, 1) := by decide +kernel
theorem dX4_fits_144 : decode cX4_fits 144 = .ok (.getfield 13, 3) := by decide +kernel
theorem dX4_fits_147 : decode cX4_fits 147 = .ok (.aload_n 0, 1) := by decide +kernel
theorem dX4_fits_148 : decode cX4_fits 148 = .ok (.getfield 7, 3) := by decide +kernel
theorem dX4_fits_151 : decode cX4_fits 151 = .ok (.isub, 1) := by decide +kernel
theorem dX4_fits_152 : decode cX4_fits 152 = .ok (.if_icmp .ge 15, 3) := by decide +kernel
theorem dX4_fits_155 : decode cX4_fits 155 = .ok (.aload_n 0, 1) := by decide +kernel
theorem dX4_fits_156 : decode cX4_fits 156 = .ok (.iload_n 1, 1) := by decide +kernel
theorem dX4_fits_157 : decode cX4_fits 157 = .ok (.invokevirtual 170, 3) := by decide +kernel
theorem dX4_fits_160 : decode cX4_fits 160 = .ok (.ifCond .eq 7, 3) := by decide +kernel
theorem dX4_fits_163 : decode cX4_fits 163 = .ok (.iconst 1, 1) := by decide +kernel
theorem dX4_fits_164 : decode cX4_fits 164 = .ok (.goto 4, 3) := by decide +kernel
theorem dX4_fits_167 : decode cX4_fits 167 = .ok (.iconst 0, 1) := by decide +kernel
theorem dX4_fits_168 : decode cX4_fits 168 = .ok (.ireturn, 1) := by decide +kernel
theorem dX4_list_0 : decode cX4_list 0 = .ok (.aload_n 0, 1) := by decide +kernel
theorem dX4_list_1 : decode cX4_list 1 = .ok (.getfield 67, 3) := by decide +kernel
theorem dX4_list_4 : decode cX4_list 4 = .ok (.ifCond .eq 4, 3) := by decide +kernel
theorem dX4_list_7 : decode cX4_list 7 = .ok (.return_, 1) := by decide +kernel
theorem dX4_list_8 : decode cX4_list 8 = .ok (.aload_n 0, 1) := by decide +kernel
theorem dX4_list_9 : decode cX4_list 9 = .ok (.iconst 1, 1) := by decide +kernel
theorem dX4_list_10 : decode cX4_list 10 = .ok (.putfield 67, 3) := by decide +kernel
theorem dX4_list_13 : decode cX4_list 13 = .ok (.aload_n 0, 1) := by decide +kernel
theorem dX4_list_14 : decode cX4_list 14 = .ok (.iconst 0, 1) := by decide +kernel
theorem dX4_list_15 : decode cX4_list 15 = .ok (.putfield 173, 3) := by decide +kernel
theorem dX4_list_18 : decode cX4_list 18 = .ok (.aload_n 0, 1) := by decide +kernel
theorem dX4_list_19 : decode cX4_list 19 = .ok (.getfield 7, 3) := by decide +kernel
theorem dX4_list_22 : decode cX4_list 22 = .ok (.aload_n 0, 1) := by decide +kernel
theorem dX4_list_23 : decode cX4_list 23 = .ok (.getfield 13, 3) := by decide +kernel
theorem dX4_list_26 : decode cX4_list 26 = .ok (.if_icmp .le 4, 3) := by decide +kernel
theorem dX4_list_29 : decode cX4_list 29 = .ok (.return_, 1) := by decide +kernel
theorem dX4_list_30 : decode cX4_list 30 = .ok (.iconst 0, 1) := by decide +kernel
theorem dX4_list_31 : decode cX4_list 31 = .ok (.istore_n 1, 1) := by decide +kernel
theorem dX4_list_32 : decode cX4_list 32 = .ok (.aload_n 0, 1) := by decide +kernel
theorem dX4_list_33 : decode cX4_list 33 = .ok (.getfield 38, 3) := by decide +kernel
theorem dX4_list_36 : decode cX4_list 36 = .ok (.iconst 0, 1) := by decide +kernel
theorem dX4_list_37 : decode cX4_list 37 = .ok (.iconst (-1), 1) := by decide +kernel
theorem dX4_list_38 : decode cX4_list 38 = .ok (.iastore, 1) := by decide +kernel
theorem dX4_list_39 : decode cX4_list 39 = .ok (.iload_n 1, 1) := by decide +kernel
theorem dX4_list_40 : decode cX4_list 40 = .ok (.ifCond .lt 89, 3) := by decide +kernel
theorem dX4_list_43 : decode cX4_list 43 = .ok (.aload_n 0, 1) := by decide +kernel
theorem dX4_list_44 : decode cX4_list 44 = .ok (.getfield 38, 3) := by decide +kernel
theorem dX4_list_47 : decode cX4_list 47 = .ok (.iload_n 1, 1) := by decide +kernel
theorem dX4_list_48 : decode cX4_list 48 = .ok (.dup2, 1) := by decide +kernel
theorem dX4_list_49 : decode cX4_list 49 = .ok (.iaload, 1) := by decide +kernel
theorem dX4_list_50 : decode cX4_list 50 = .ok (.iconst 1, 1) := by decide +kernel
theorem dX4_list_51 : decode cX4_list 51 = .ok (.iadd, 1) := by decide +kernel
theorem dX4_list_52 : decode cX4_list 52 = .ok (.iastore, 1) := by decide +kernel
theorem dX4_list_53 : decode cX4_list 53 = .ok (.aload_n 0, 1) := by decide +kernel
theorem dX4_list_54 : decode cX4_list 54 = .ok (.getfield 38, 3) := by decide +kernel
theorem dX4_list_57 : decode cX4_list 57 = .ok (.iload_n 1, 1) := by decide +kernel
theorem dX4_list_58 : decode cX4_list 58 = .ok (.iaload, 1) := by decide +kernel
theorem dX4_list_59 : decode cX4_list 59 = .ok (.aload_n 0, 1) := by decide +kernel
theorem dX4_list_60 : decode cX4_list 60 = .ok (.getfield 7, 3) := by decide +kernel
theorem dX4_list_63 : decode cX4_list 63 = .ok (.if_icmp .ne 11, 3) := by decide +kernel
theorem dX4_list_66 : decode cX4_list 66 = .ok (.aload_n 0, 1) := by decide +kernel
theorem dX4_list_67 : decode cX4_list 67 = .ok (.getfield 38, 3) := by decide +kernel
theorem dX4_list_70 : decode cX4_list 70 = .ok (.iload_n 1, 1) := by decide +kernel
theorem dX4_list_71 : decode cX4_list 71 = .ok (.bipush 8, 2) := by decide +kernel
theorem dX4_list_73 : decode cX4_list 73 = .ok (.iastore, 1) := by decide +kernel
theorem dX4_list_74 : decode cX4_list 74 = .ok (.aload_n 0, 1) := by decide +kernel
theorem dX4_list_75 : decode cX4_list 75 = .ok (.getfield 38, 3) := by decide +kernel
