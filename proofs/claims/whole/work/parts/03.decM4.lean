theorem d_M_putHead_99 : decode c_M_putHead 99 = .ok (.invokevirtual 59, 3) := by decide +kernel
theorem d_M_putHead_102 : decode c_M_putHead 102 = .ok (.aload_n 0, 1) := by decide +kernel
theorem d_M_putHead_103 : decode c_M_putHead 103 = .ok (.iload_n 1, 1) := by decide +kernel
theorem d_M_putHead_104 : decode c_M_putHead 104 = .ok (.iconst 5, 1) := by decide +kernel
theorem d_M_putHead_105 : decode c_M_putHead 105 = .ok (.invokevirtual 59, 3) := by decide +kernel
theorem d_M_putHead_108 : decode c_M_putHead 108 = .ok (.invokevirtual 260, 3) := by decide +kernel
theorem d_M_putHead_111 : decode c_M_putHead 111 = .ok (.goto 50, 3) := by decide +kernel
theorem d_M_putHead_114 : decode c_M_putHead 114 = .ok (.aload_n 0, 1) := by decide +kernel
theorem d_M_putHead_115 : decode c_M_putHead 115 = .ok (.iload_n 1, 1) := by decide +kernel
theorem d_M_putHead_116 : decode c_M_putHead 116 = .ok (.iconst 4, 1) := by decide +kernel
theorem d_M_putHead_117 : decode c_M_putHead 117 = .ok (.invokevirtual 59, 3) := by decide +kernel
theorem d_M_putHead_120 : decode c_M_putHead 120 = .ok (.iconst 2, 1) := by decide +kernel
theorem d_M_putHead_121 : decode c_M_putHead 121 = .ok (.if_icmp .ne 23, 3) := by decide +kernel
theorem d_M_putHead_124 : decode c_M_putHead 124 = .ok (.aload_n 0, 1) := by decide +kernel
theorem d_M_putHead_125 : decode c_M_putHead 125 = .ok (.aload_n 0, 1) := by decide +kernel
theorem d_M_putHead_126 : decode c_M_putHead 126 = .ok (.iload_n 1, 1) := by decide +kernel
theorem d_M_putHead_127 : decode c_M_putHead 127 = .ok (.bipush 10, 2) := by decide +kernel
theorem d_M_putHead_129 : decode c_M_putHead 129 = .ok (.invokevirtual 59, 3) := by decide +kernel
theorem d_M_putHead_132 : decode c_M_putHead 132 = .ok (.aload_n 0, 1) := by decide +kernel
theorem d_M_putHead_133 : decode c_M_putHead 133 = .ok (.iload_n 1, 1) := by decide +kernel
theorem d_M_putHead_134 : decode c_M_putHead 134 = .ok (.iconst 5, 1) := by decide +kernel
theorem d_M_putHead_135 : decode c_M_putHead 135 = .ok (.invokevirtual 59, 3) := by decide +kernel
theorem d_M_putHead_138 : decode c_M_putHead 138 = .ok (.invokevirtual 263, 3) := by decide +kernel
theorem d_M_putHead_141 : decode c_M_putHead 141 = .ok (.goto 20, 3) := by decide +kernel
theorem d_M_putHead_144 : decode c_M_putHead 144 = .ok (.aload_n 0, 1) := by decide +kernel
theorem d_M_putHead_145 : decode c_M_putHead 145 = .ok (.aload_n 0, 1) := by decide +kernel
theorem d_M_putHead_146 : decode c_M_putHead 146 = .ok (.iload_n 1, 1) := by decide +kernel
theorem d_M_putHead_147 : decode c_M_putHead 147 = .ok (.bipush 10, 2) := by decide +kernel
theorem d_M_putHead_149 : decode c_M_putHead 149 = .ok (.invokevirtual 59, 3) := by decide +kernel
theorem d_M_putHead_152 : decode c_M_putHead 152 = .ok (.aload_n 0, 1) := by decide +kernel
theorem d_M_putHead_153 : decode c_M_putHead 153 = .ok (.iload_n 1, 1) := by decide +kernel
theorem d_M_putHead_154 : decode c_M_putHead 154 = .ok (.iconst 5, 1) := by decide +kernel
theorem d_M_putHead_155 : decode c_M_putHead 155 = .ok (.invokevirtual 59, 3) := by decide +kernel
theorem d_M_putHead_158 : decode c_M_putHead 158 = .ok (.invokevirtual 257, 3) := by decide +kernel
theorem d_M_putHead_161 : decode c_M_putHead 161 = .ok (.return_, 1) := by decide +kernel
theorem d_M_putText_0 : decode c_M_putText 0 = .ok (.iconst 0, 1) := by decide +kernel
theorem d_M_putText_1 : decode c_M_putText 1 = .ok (.istore_n 3, 1) := by decide +kernel
theorem d_M_putText_2 : decode c_M_putText 2 = .ok (.iload_n 3, 1) := by decide +kernel
theorem d_M_putText_3 : decode c_M_putText 3 = .ok (.iload_n 2, 1) := by decide +kernel
theorem d_M_putText_4 : decode c_M_putText 4 = .ok (.if_icmp .ge 21, 3) := by decide +kernel
theorem d_M_putText_7 : decode c_M_putText 7 = .ok (.aload_n 0, 1) := by decide +kernel
theorem d_M_putText_8 : decode c_M_putText 8 = .ok (.aload_n 0, 1) := by decide +kernel
theorem d_M_putText_9 : decode c_M_putText 9 = .ok (.getfield 22, 3) := by decide +kernel
theorem d_M_putText_12 : decode c_M_putText 12 = .ok (.iload_n 1, 1) := by decide +kernel
theorem d_M_putText_13 : decode c_M_putText 13 = .ok (.iload_n 3, 1) := by decide +kernel
theorem d_M_putText_14 : decode c_M_putText 14 = .ok (.iadd, 1) := by decide +kernel
theorem d_M_putText_15 : decode c_M_putText 15 = .ok (.iaload, 1) := by decide +kernel
theorem d_M_putText_16 : decode c_M_putText 16 = .ok (.invokevirtual 238, 3) := by decide +kernel
theorem d_M_putText_19 : decode c_M_putText 19 = .ok (.iinc 3 1, 3) := by decide +kernel
theorem d_M_putText_22 : decode c_M_putText 22 = .ok (.goto (-20), 3) := by decide +kernel
theorem d_M_putText_25 : decode c_M_putText 25 = .ok (.return_, 1) := by decide +kernel
theorem d_M_put_0 : decode c_M_put 0 = .ok (.aload_n 0, 1) := by decide +kernel
theorem d_M_put_1 : decode c_M_put 1 = .ok (.getfield 235, 3) := by decide +kernel
theorem d_M_put_4 : decode c_M_put 4 = .ok (.sipush 1800, 3) := by decide +kernel
theorem d_M_put_7 : decode c_M_put 7 = .ok (.if_icmp .ge 13, 3) := by decide +kernel
theorem d_M_put_10 : decode c_M_put 10 = .ok (.aload_n 0, 1) := by decide +kernel
theorem d_M_put_11 : decode c_M_put 11 = .ok (.getfield 31, 3) := by decide +kernel
theorem d_M_put_14 : decode c_M_put 14 = .ok (.aload_n 0, 1) := by decide +kernel
theorem d_M_put_15 : decode c_M_put 15 = .ok (.getfield 235, 3) := by decide +kernel
theorem d_M_put_18 : decode c_M_put 18 = .ok (.iload_n 1, 1) := by decide +kernel
theorem d_M_put_19 : decode c_M_put 19 = .ok (.iastore, 1) := by decide +kernel
theorem d_M_put_20 : decode c_M_put 20 = .ok (.aload_n 0, 1) := by decide +kernel
theorem d_M_put_21 : decode c_M_put 21 = .ok (.dup, 1) := by decide +kernel
theorem d_M_put_22 : decode c_M_put 22 = .ok (.getfield 235, 3) := by decide +kernel
theorem d_M_put_25 : decode c_M_put 25 = .ok (.iconst 1, 1) := by decide +kernel
theorem d_M_put_26 : decode c_M_put 26 = .ok (.iadd, 1) := by decide +kernel
theorem d_M_put_27 : decode c_M_put 27 = .ok (.putfield 235, 3) := by decide +kernel
theorem d_M_put_30 : decode c_M_put 30 = .ok (.return_, 1) := by decide +kernel
theorem d_M_putLine_0 : decode c_M_putLine 0 = .ok (.aload_n 0, 1) := by decide +kernel
theorem d_M_putLine_1 : decode c_M_putLine 1 = .ok (.bipush 13, 2) := by decide +kernel
theorem d_M_putLine_3 : decode c_M_putLine 3 = .ok (.invokevirtual 238, 3) := by decide +kernel
theorem d_M_putLine_6 : decode c_M_putLine 6 = .ok (.aload_n 0, 1) := by decide +kernel
theorem d_M_putLine_7 : decode c_M_putLine 7 = .ok (.bipush 10, 2) := by decide +kernel
theorem d_M_putLine_9 : decode c_M_putLine 9 = .ok (.invokevirtual 238, 3) := by decide +kernel
theorem d_M_putLine_12 : decode c_M_putLine 12 = .ok (.aload_n 0, 1) := by decide +kernel
theorem d_M_putLine_13 : decode c_M_putLine 13 = .ok (.iconst 0, 1) := by decide +kernel
theorem d_M_putLine_14 : decode c_M_putLine 14 = .ok (.putfield 241, 3) := by decide +kernel
theorem d_M_putLine_17 : decode c_M_putLine 17 = .ok (.return_, 1) := by decide +kernel
theorem d_M_putLetters_0 : decode c_M_putLetters 0 = .ok (.iconst 0, 1) := by decide +kernel
theorem d_M_putLetters_1 : decode c_M_putLetters 1 = .ok (.istore_n 3, 1) := by decide +kernel
theorem d_M_putLetters_2 : decode c_M_putLetters 2 = .ok (.iconst 0, 1) := by decide +kernel
theorem d_M_putLetters_3 : decode c_M_putLetters 3 = .ok (.istore 4, 2) := by decide +kernel
theorem d_M_putLetters_5 : decode c_M_putLetters 5 = .ok (.iload 4, 2) := by decide +kernel
theorem d_M_putLetters_7 : decode c_M_putLetters 7 = .ok (.iload_n 2, 1) := by decide +kernel
theorem d_M_putLetters_8 : decode c_M_putLetters 8 = .ok (.if_icmp .ge 171, 3) := by decide +kernel
theorem d_M_putLetters_11 : decode c_M_putLetters 11 = .ok (.aload_n 0, 1) := by decide +kernel
theorem d_M_putLetters_12 : decode c_M_putLetters 12 = .ok (.getfield 22, 3) := by decide +kernel
theorem d_M_putLetters_15 : decode c_M_putLetters 15 = .ok (.iload_n 1, 1) := by decide +kernel
theorem d_M_putLetters_16 : decode c_M_putLetters 16 = .ok (.iload 4, 2) := by decide +kernel
theorem d_M_putLetters_18 : decode c_M_putLetters 18 = .ok (.iadd, 1) := by decide +kernel
theorem d_M_putLetters_19 : decode c_M_putLetters 19 = .ok (.iaload, 1) := by decide +kernel
theorem d_M_putLetters_20 : decode c_M_putLetters 20 = .ok (.istore 5, 2) := by decide +kernel
theorem d_M_putLetters_22 : decode c_M_putLetters 22 = .ok (.iload 4, 2) := by decide +kernel
theorem d_M_putLetters_24 : decode c_M_putLetters 24 = .ok (.iconst 1, 1) := by decide +kernel
theorem d_M_putLetters_25 : decode c_M_putLetters 25 = .ok (.iadd, 1) := by decide +kernel
theorem d_M_putLetters_26 : decode c_M_putLetters 26 = .ok (.iload_n 2, 1) := by decide +kernel
theorem d_M_putLetters_27 : decode c_M_putLetters 27 = .ok (.if_icmp .ge 17, 3) := by decide +kernel
theorem d_M_putLetters_30 : decode c_M_putLetters 30 = .ok (.aload_n 0, 1) := by decide +kernel
theorem d_M_putLetters_31 : decode c_M_putLetters 31 = .ok (.getfield 22, 3) := by decide +kernel
theorem d_M_putLetters_34 : decode c_M_putLetters 34 = .ok (.iload_n 1, 1) := by decide +kernel
theorem d_M_putLetters_35 : decode c_M_putLetters 35 = .ok (.iload 4, 2) := by decide +kernel
theorem d_M_putLetters_37 : decode c_M_putLetters 37 = .ok (.iadd, 1) := by decide +kernel
theorem d_M_putLetters_38 : decode c_M_putLetters 38 = .ok (.iconst 1, 1) := by decide +kernel
theorem d_M_putLetters_39 : decode c_M_putLetters 39 = .ok (.iadd, 1) := by decide +kernel
theorem d_M_putLetters_40 : decode c_M_putLetters 40 = .ok (.iaload, 1) := by decide +kernel
theorem d_M_putLetters_41 : decode c_M_putLetters 41 = .ok (.goto 4, 3) := by decide +kernel
theorem d_M_putLetters_44 : decode c_M_putLetters 44 = .ok (.iconst 0, 1) := by decide +kernel
theorem d_M_putLetters_45 : decode c_M_putLetters 45 = .ok (.istore 6, 2) := by decide +kernel
theorem d_M_putLetters_47 : decode c_M_putLetters 47 = .ok (.iload 4, 2) := by decide +kernel
theorem d_M_putLetters_49 : decode c_M_putLetters 49 = .ok (.iconst 2, 1) := by decide +kernel
theorem d_M_putLetters_50 : decode c_M_putLetters 50 = .ok (.iadd, 1) := by decide +kernel
theorem d_M_putLetters_51 : decode c_M_putLetters 51 = .ok (.iload_n 2, 1) := by decide +kernel
theorem d_M_putLetters_52 : decode c_M_putLetters 52 = .ok (.if_icmp .ge 17, 3) := by decide +kernel
theorem d_M_putLetters_55 : decode c_M_putLetters 55 = .ok (.aload_n 0, 1) := by decide +kernel
theorem d_M_putLetters_56 : decode c_M_putLetters 56 = .ok (.getfield 22, 3) := by decide +kernel
theorem d_M_putLetters_59 : decode c_M_putLetters 59 = .ok (.iload_n 1, 1) := by decide +kernel
theorem d_M_putLetters_60 : decode c_M_putLetters 60 = .ok (.iload 4, 2) := by decide +kernel
theorem d_M_putLetters_62 : decode c_M_putLetters 62 = .ok (.iadd, 1) := by decide +kernel
theorem d_M_putLetters_63 : decode c_M_putLetters 63 = .ok (.iconst 2, 1) := by decide +kernel
theorem d_M_putLetters_64 : decode c_M_putLetters 64 = .ok (.iadd, 1) := by decide +kernel
theorem d_M_putLetters_65 : decode c_M_putLetters 65 = .ok (.iaload, 1) := by decide +kernel
theorem d_M_putLetters_66 : decode c_M_putLetters 66 = .ok (.goto 4, 3) := by decide +kernel
theorem d_M_putLetters_69 : decode c_M_putLetters 69 = .ok (.iconst 0, 1) := by decide +kernel
theorem d_M_putLetters_70 : decode c_M_putLetters 70 = .ok (.istore 7, 2) := by decide +kernel
theorem d_M_putLetters_72 : decode c_M_putLetters 72 = .ok (.aload_n 0, 1) := by decide +kernel
theorem d_M_putLetters_73 : decode c_M_putLetters 73 = .ok (.iload 5, 2) := by decide +kernel
theorem d_M_putLetters_75 : decode c_M_putLetters 75 = .ok (.iconst 2, 1) := by decide +kernel
theorem d_M_putLetters_76 : decode c_M_putLetters 76 = .ok (.ishr, 1) := by decide +kernel
theorem d_M_putLetters_77 : decode c_M_putLetters 77 = .ok (.invokestatic 244, 3) := by decide +kernel
theorem d_M_putLetters_80 : decode c_M_putLetters 80 = .ok (.invokevirtual 238, 3) := by decide +kernel
theorem d_M_putLetters_83 : decode c_M_putLetters 83 = .ok (.aload_n 0, 1) := by decide +kernel
theorem d_M_putLetters_84 : decode c_M_putLetters 84 = .ok (.iload 5, 2) := by decide +kernel
theorem d_M_putLetters_86 : decode c_M_putLetters 86 = .ok (.iconst 3, 1) := by decide +kernel
theorem d_M_putLetters_87 : decode c_M_putLetters 87 = .ok (.iand, 1) := by decide +kernel
theorem d_M_putLetters_88 : decode c_M_putLetters 88 = .ok (.iconst 4, 1) := by decide +kernel
theorem d_M_putLetters_89 : decode c_M_putLetters 89 = .ok (.ishl, 1) := by decide +kernel
theorem d_M_putLetters_90 : decode c_M_putLetters 90 = .ok (.iload 6, 2) := by decide +kernel
theorem d_M_putLetters_92 : decode c_M_putLetters 92 = .ok (.iconst 4, 1) := by decide +kernel
theorem d_M_putLetters_93 : decode c_M_putLetters 93 = .ok (.ishr, 1) := by decide +kernel
theorem d_M_putLetters_94 : decode c_M_putLetters 94 = .ok (.ior, 1) := by decide +kernel
theorem d_M_putLetters_95 : decode c_M_putLetters 95 = .ok (.invokestatic 244, 3) := by decide +kernel
theorem d_M_putLetters_98 : decode c_M_putLetters 98 = .ok (.invokevirtual 238, 3) := by decide +kernel
theorem d_M_putLetters_101 : decode c_M_putLetters 101 = .ok (.aload_n 0, 1) := by decide +kernel
theorem d_M_putLetters_102 : decode c_M_putLetters 102 = .ok (.iload 4, 2) := by decide +kernel
theorem d_M_putLetters_104 : decode c_M_putLetters 104 = .ok (.iconst 1, 1) := by decide +kernel
theorem d_M_putLetters_105 : decode c_M_putLetters 105 = .ok (.iadd, 1) := by decide +kernel
theorem d_M_putLetters_106 : decode c_M_putLetters 106 = .ok (.iload_n 2, 1) := by decide +kernel
theorem d_M_putLetters_107 : decode c_M_putLetters 107 = .ok (.if_icmp .ge 22, 3) := by decide +kernel
theorem d_M_putLetters_110 : decode c_M_putLetters 110 = .ok (.iload 6, 2) := by decide +kernel
theorem d_M_putLetters_112 : decode c_M_putLetters 112 = .ok (.bipush 15, 2) := by decide +kernel
theorem d_M_putLetters_114 : decode c_M_putLetters 114 = .ok (.iand, 1) := by decide +kernel
theorem d_M_putLetters_115 : decode c_M_putLetters 115 = .ok (.iconst 2, 1) := by decide +kernel
theorem d_M_putLetters_116 : decode c_M_putLetters 116 = .ok (.ishl, 1) := by decide +kernel
theorem d_M_putLetters_117 : decode c_M_putLetters 117 = .ok (.iload 7, 2) := by decide +kernel
theorem d_M_putLetters_119 : decode c_M_putLetters 119 = .ok (.bipush 6, 2) := by decide +kernel
theorem d_M_putLetters_121 : decode c_M_putLetters 121 = .ok (.ishr, 1) := by decide +kernel
theorem d_M_putLetters_122 : decode c_M_putLetters 122 = .ok (.ior, 1) := by decide +kernel
theorem d_M_putLetters_123 : decode c_M_putLetters 123 = .ok (.invokestatic 244, 3) := by decide +kernel
theorem d_M_putLetters_126 : decode c_M_putLetters 126 = .ok (.goto 5, 3) := by decide +kernel
theorem d_M_putLetters_129 : decode c_M_putLetters 129 = .ok (.bipush 61, 2) := by decide +kernel
theorem d_M_putLetters_131 : decode c_M_putLetters 131 = .ok (.invokevirtual 238, 3) := by decide +kernel
theorem d_M_putLetters_134 : decode c_M_putLetters 134 = .ok (.aload_n 0, 1) := by decide +kernel
theorem d_M_putLetters_135 : decode c_M_putLetters 135 = .ok (.iload 4, 2) := by decide +kernel
theorem d_M_putLetters_137 : decode c_M_putLetters 137 = .ok (.iconst 2, 1) := by decide +kernel
theorem d_M_putLetters_138 : decode c_M_putLetters 138 = .ok (.iadd, 1) := by decide +kernel
theorem d_M_putLetters_139 : decode c_M_putLetters 139 = .ok (.iload_n 2, 1) := by decide +kernel
theorem d_M_putLetters_140 : decode c_M_putLetters 140 = .ok (.if_icmp .ge 14, 3) := by decide +kernel
theorem d_M_putLetters_143 : decode c_M_putLetters 143 = .ok (.iload 7, 2) := by decide +kernel
theorem d_M_putLetters_145 : decode c_M_putLetters 145 = .ok (.bipush 63, 2) := by decide +kernel
theorem d_M_putLetters_147 : decode c_M_putLetters 147 = .ok (.iand, 1) := by decide +kernel
theorem d_M_putLetters_148 : decode c_M_putLetters 148 = .ok (.invokestatic 244, 3) := by decide +kernel
theorem d_M_putLetters_151 : decode c_M_putLetters 151 = .ok (.goto 5, 3) := by decide +kernel
theorem d_M_putLetters_154 : decode c_M_putLetters 154 = .ok (.bipush 61, 2) := by decide +kernel
theorem d_M_putLetters_156 : decode c_M_putLetters 156 = .ok (.invokevirtual 238, 3) := by decide +kernel
theorem d_M_putLetters_159 : decode c_M_putLetters 159 = .ok (.iinc 3 4, 3) := by decide +kernel
theorem d_M_putLetters_162 : decode c_M_putLetters 162 = .ok (.iload_n 3, 1) := by decide +kernel
theorem d_M_putLetters_163 : decode c_M_putLetters 163 = .ok (.bipush 24, 2) := by decide +kernel
theorem d_M_putLetters_165 : decode c_M_putLetters 165 = .ok (.irem, 1) := by decide +kernel
theorem d_M_putLetters_166 : decode c_M_putLetters 166 = .ok (.ifCond .ne 7, 3) := by decide +kernel
theorem d_M_putLetters_169 : decode c_M_putLetters 169 = .ok (.aload_n 0, 1) := by decide +kernel
theorem d_M_putLetters_170 : decode c_M_putLetters 170 = .ok (.invokevirtual 247, 3) := by decide +kernel
theorem d_M_putLetters_173 : decode c_M_putLetters 173 = .ok (.iinc 4 3, 3) := by decide +kernel
theorem d_M_putLetters_176 : decode c_M_putLetters 176 = .ok (.goto (-171), 3) := by decide +kernel
theorem d_M_putLetters_179 : decode c_M_putLetters 179 = .ok (.iload_n 3, 1) := by decide +kernel
theorem d_M_putLetters_180 : decode c_M_putLetters 180 = .ok (.bipush 24, 2) := by decide +kernel
theorem d_M_putLetters_182 : decode c_M_putLetters 182 = .ok (.irem, 1) := by decide +kernel
theorem d_M_putLetters_183 : decode c_M_putLetters 183 = .ok (.ifCond .le 7, 3) := by decide +kernel
theorem d_M_putLetters_186 : decode c_M_putLetters 186 = .ok (.aload_n 0, 1) := by decide +kernel
theorem d_M_putLetters_187 : decode c_M_putLetters 187 = .ok (.invokevirtual 247, 3) := by decide +kernel
theorem d_M_putLetters_190 : decode c_M_putLetters 190 = .ok (.return_, 1) := by decide +kernel
theorem d_M_toLetter_0 : decode c_M_toLetter 0 = .ok (.iload_n 0, 1) := by decide +kernel
theorem d_M_toLetter_1 : decode c_M_toLetter 1 = .ok (.bipush 26, 2) := by decide +kernel
theorem d_M_toLetter_3 : decode c_M_toLetter 3 = .ok (.if_icmp .ge 8, 3) := by decide +kernel
theorem d_M_toLetter_6 : decode c_M_toLetter 6 = .ok (.bipush 65, 2) := by decide +kernel
theorem d_M_toLetter_8 : decode c_M_toLetter 8 = .ok (.iload_n 0, 1) := by decide +kernel
theorem d_M_toLetter_9 : decode c_M_toLetter 9 = .ok (.iadd, 1) := by decide +kernel
theorem d_M_toLetter_10 : decode c_M_toLetter 10 = .ok (.ireturn, 1) := by decide +kernel
theorem d_M_toLetter_11 : decode c_M_toLetter 11 = .ok (.iload_n 0, 1) := by decide +kernel
theorem d_M_toLetter_12 : decode c_M_toLetter 12 = .ok (.bipush 52, 2) := by decide +kernel
theorem d_M_toLetter_14 : decode c_M_toLetter 14 = .ok (.if_icmp .ge 8, 3) := by decide +kernel
theorem d_M_toLetter_17 : decode c_M_toLetter 17 = .ok (.bipush 71, 2) := by decide +kernel
theorem d_M_toLetter_19 : decode c_M_toLetter 19 = .ok (.iload_n 0, 1) := by decide +kernel
theorem d_M_toLetter_20 : decode c_M_toLetter 20 = .ok (.iadd, 1) := by decide +kernel
theorem d_M_toLetter_21 : decode c_M_toLetter 21 = .ok (.ireturn, 1) := by decide +kernel
theorem d_M_toLetter_22 : decode c_M_toLetter 22 = .ok (.iload_n 0, 1) := by decide +kernel
theorem d_M_toLetter_23 : decode c_M_toLetter 23 = .ok (.bipush 62, 2) := by decide +kernel
theorem d_M_toLetter_25 : decode c_M_toLetter 25 = .ok (.if_icmp .ge 9, 3) := by decide +kernel
theorem d_M_toLetter_28 : decode c_M_toLetter 28 = .ok (.iload_n 0, 1) := by decide +kernel
theorem d_M_toLetter_29 : decode c_M_toLetter 29 = .ok (.iconst 4, 1) := by decide +kernel
theorem d_M_toLetter_30 : decode c_M_toLetter 30 = .ok (.isub, 1) := by decide +kernel
theorem d_M_toLetter_31 : decode c_M_toLetter 31 = .ok (.goto 16, 3) := by decide +kernel
theorem d_M_toLetter_34 : decode c_M_toLetter 34 = .ok (.iload_n 0, 1) := by decide +kernel
theorem d_M_toLetter_35 : decode c_M_toLetter 35 = .ok (.bipush 62, 2) := by decide +kernel
theorem d_M_toLetter_37 : decode c_M_toLetter 37 = .ok (.if_icmp .ne 8, 3) := by decide +kernel
theorem d_M_toLetter_40 : decode c_M_toLetter 40 = .ok (.bipush 43, 2) := by decide +kernel
theorem d_M_toLetter_42 : decode c_M_toLetter 42 = .ok (.goto 5, 3) := by decide +kernel
theorem d_M_toLetter_45 : decode c_M_toLetter 45 = .ok (.bipush 47, 2) := by decide +kernel
theorem d_M_toLetter_47 : decode c_M_toLetter 47 = .ok (.ireturn, 1) := by decide +kernel
theorem d_M_putQuoted_0 : decode c_M_putQuoted 0 = .ok (.aload_n 0, 1) := by decide +kernel
theorem d_M_putQuoted_1 : decode c_M_putQuoted 1 = .ok (.iconst 0, 1) := by decide +kernel
theorem d_M_putQuoted_2 : decode c_M_putQuoted 2 = .ok (.putfield 241, 3) := by decide +kernel
theorem d_M_putQuoted_5 : decode c_M_putQuoted 5 = .ok (.iconst 0, 1) := by decide +kernel
theorem d_M_putQuoted_6 : decode c_M_putQuoted 6 = .ok (.istore_n 3, 1) := by decide +kernel
theorem d_M_putQuoted_7 : decode c_M_putQuoted 7 = .ok (.iload_n 3, 1) := by decide +kernel
theorem d_M_putQuoted_8 : decode c_M_putQuoted 8 = .ok (.iload_n 2, 1) := by decide +kernel
theorem d_M_putQuoted_9 : decode c_M_putQuoted 9 = .ok (.if_icmp .ge 169, 3) := by decide +kernel
theorem d_M_putQuoted_12 : decode c_M_putQuoted 12 = .ok (.aload_n 0, 1) := by decide +kernel
theorem d_M_putQuoted_13 : decode c_M_putQuoted 13 = .ok (.getfield 22, 3) := by decide +kernel
theorem d_M_putQuoted_16 : decode c_M_putQuoted 16 = .ok (.iload_n 1, 1) := by decide +kernel
theorem d_M_putQuoted_17 : decode c_M_putQuoted 17 = .ok (.iload_n 3, 1) := by decide +kernel
theorem d_M_putQuoted_18 : decode c_M_putQuoted 18 = .ok (.iadd, 1) := by decide +kernel
theorem d_M_putQuoted_19 : decode c_M_putQuoted 19 = .ok (.iaload, 1) := by decide +kernel
theorem d_M_putQuoted_20 : decode c_M_putQuoted 20 = .ok (.istore 4, 2) := by decide +kernel
theorem d_M_putQuoted_22 : decode c_M_putQuoted 22 = .ok (.iload 4, 2) := by decide +kernel
theorem d_M_putQuoted_24 : decode c_M_putQuoted 24 = .ok (.bipush 13, 2) := by decide +kernel
theorem d_M_putQuoted_26 : decode c_M_putQuoted 26 = .ok (.if_icmp .ne 35, 3) := by decide +kernel
theorem d_M_putQuoted_29 : decode c_M_putQuoted 29 = .ok (.iload_n 3, 1) := by decide +kernel
theorem d_M_putQuoted_30 : decode c_M_putQuoted 30 = .ok (.iconst 1, 1) := by decide +kernel
theorem d_M_putQuoted_31 : decode c_M_putQuoted 31 = .ok (.iadd, 1) := by decide +kernel
theorem d_M_putQuoted_32 : decode c_M_putQuoted 32 = .ok (.iload_n 2, 1) := by decide +kernel
theorem d_M_putQuoted_33 : decode c_M_putQuoted 33 = .ok (.if_icmp .ge 28, 3) := by decide +kernel
theorem d_M_putQuoted_36 : decode c_M_putQuoted 36 = .ok (.aload_n 0, 1) := by decide +kernel
theorem d_M_putQuoted_37 : decode c_M_putQuoted 37 = .ok (.getfield 22, 3) := by decide +kernel
theorem d_M_putQuoted_40 : decode c_M_putQuoted 40 = .ok (.iload_n 1, 1) := by decide +kernel
theorem d_M_putQuoted_41 : decode c_M_putQuoted 41 = .ok (.iload_n 3, 1) := by decide +kernel
theorem d_M_putQuoted_42 : decode c_M_putQuoted 42 = .ok (.iadd, 1) := by decide +kernel
theorem d_M_putQuoted_43 : decode c_M_putQuoted 43 = .ok (.iconst 1, 1) := by decide +kernel
theorem d_M_putQuoted_44 : decode c_M_putQuoted 44 = .ok (.iadd, 1) := by decide +kernel
theorem d_M_putQuoted_45 : decode c_M_putQuoted 45 = .ok (.iaload, 1) := by decide +kernel
theorem d_M_putQuoted_46 : decode c_M_putQuoted 46 = .ok (.bipush 10, 2) := by decide +kernel
theorem d_M_putQuoted_48 : decode c_M_putQuoted 48 = .ok (.if_icmp .ne 13, 3) := by decide +kernel
theorem d_M_putQuoted_51 : decode c_M_putQuoted 51 = .ok (.aload_n 0, 1) := by decide +kernel
theorem d_M_putQuoted_52 : decode c_M_putQuoted 52 = .ok (.invokevirtual 247, 3) := by decide +kernel
theorem d_M_putQuoted_55 : decode c_M_putQuoted 55 = .ok (.iinc 3 1, 3) := by decide +kernel
theorem d_M_putQuoted_58 : decode c_M_putQuoted 58 = .ok (.goto 114, 3) := by decide +kernel
theorem d_M_putQuoted_61 : decode c_M_putQuoted 61 = .ok (.aload_n 0, 1) := by decide +kernel
theorem d_M_putQuoted_62 : decode c_M_putQuoted 62 = .ok (.getfield 241, 3) := by decide +kernel
theorem d_M_putQuoted_65 : decode c_M_putQuoted 65 = .ok (.aload_n 0, 1) := by decide +kernel
theorem d_M_putQuoted_66 : decode c_M_putQuoted 66 = .ok (.iload_n 1, 1) := by decide +kernel
theorem d_M_putQuoted_67 : decode c_M_putQuoted 67 = .ok (.iload_n 3, 1) := by decide +kernel
theorem d_M_putQuoted_68 : decode c_M_putQuoted 68 = .ok (.iload_n 2, 1) := by decide +kernel
theorem d_M_putQuoted_69 : decode c_M_putQuoted 69 = .ok (.aload_n 0, 1) := by decide +kernel
theorem d_M_putQuoted_70 : decode c_M_putQuoted 70 = .ok (.getfield 241, 3) := by decide +kernel
theorem d_M_putQuoted_73 : decode c_M_putQuoted 73 = .ok (.invokevirtual 250, 3) := by decide +kernel
theorem d_M_putQuoted_76 : decode c_M_putQuoted 76 = .ok (.ifCond .eq 7, 3) := by decide +kernel
theorem d_M_putQuoted_79 : decode c_M_putQuoted 79 = .ok (.iconst 1, 1) := by decide +kernel
theorem d_M_putQuoted_80 : decode c_M_putQuoted 80 = .ok (.goto 4, 3) := by decide +kernel
theorem d_M_putQuoted_83 : decode c_M_putQuoted 83 = .ok (.iconst 3, 1) := by decide +kernel
theorem d_M_putQuoted_84 : decode c_M_putQuoted 84 = .ok (.iadd, 1) := by decide +kernel
theorem d_M_putQuoted_85 : decode c_M_putQuoted 85 = .ok (.bipush 30, 2) := by decide +kernel
theorem d_M_putQuoted_87 : decode c_M_putQuoted 87 = .ok (.if_icmp .le 13, 3) := by decide +kernel
theorem d_M_putQuoted_90 : decode c_M_putQuoted 90 = .ok (.aload_n 0, 1) := by decide +kernel
theorem d_M_putQuoted_91 : decode c_M_putQuoted 91 = .ok (.bipush 61, 2) := by decide +kernel
theorem d_M_putQuoted_93 : decode c_M_putQuoted 93 = .ok (.invokevirtual 238, 3) := by decide +kernel
theorem d_M_putQuoted_96 : decode c_M_putQuoted 96 = .ok (.aload_n 0, 1) := by decide +kernel
theorem d_M_putQuoted_97 : decode c_M_putQuoted 97 = .ok (.invokevirtual 247, 3) := by decide +kernel
theorem d_M_putQuoted_100 : decode c_M_putQuoted 100 = .ok (.aload_n 0, 1) := by decide +kernel
theorem d_M_putQuoted_101 : decode c_M_putQuoted 101 = .ok (.iload_n 1, 1) := by decide +kernel
theorem d_M_putQuoted_102 : decode c_M_putQuoted 102 = .ok (.iload_n 3, 1) := by decide +kernel
theorem d_M_putQuoted_103 : decode c_M_putQuoted 103 = .ok (.iload_n 2, 1) := by decide +kernel
theorem d_M_putQuoted_104 : decode c_M_putQuoted 104 = .ok (.aload_n 0, 1) := by decide +kernel
theorem d_M_putQuoted_105 : decode c_M_putQuoted 105 = .ok (.getfield 241, 3) := by decide +kernel
theorem d_M_putQuoted_108 : decode c_M_putQuoted 108 = .ok (.invokevirtual 250, 3) := by decide +kernel
theorem d_M_putQuoted_111 : decode c_M_putQuoted 111 = .ok (.ifCond .eq 22, 3) := by decide +kernel
theorem d_M_putQuoted_114 : decode c_M_putQuoted 114 = .ok (.aload_n 0, 1) := by decide +kernel
theorem d_M_putQuoted_115 : decode c_M_putQuoted 115 = .ok (.iload 4, 2) := by decide +kernel
theorem d_M_putQuoted_117 : decode c_M_putQuoted 117 = .ok (.invokevirtual 238, 3) := by decide +kernel
theorem d_M_putQuoted_120 : decode c_M_putQuoted 120 = .ok (.aload_n 0, 1) := by decide +kernel
theorem d_M_putQuoted_121 : decode c_M_putQuoted 121 = .ok (.dup, 1) := by decide +kernel
theorem d_M_putQuoted_122 : decode c_M_putQuoted 122 = .ok (.getfield 241, 3) := by decide +kernel
theorem d_M_putQuoted_125 : decode c_M_putQuoted 125 = .ok (.iconst 1, 1) := by decide +kernel
theorem d_M_putQuoted_126 : decode c_M_putQuoted 126 = .ok (.iadd, 1) := by decide +kernel
theorem d_M_putQuoted_127 : decode c_M_putQuoted 127 = .ok (.putfield 241, 3) := by decide +kernel
theorem d_M_putQuoted_130 : decode c_M_putQuoted 130 = .ok (.goto 42, 3) := by decide +kernel
theorem d_M_putQuoted_133 : decode c_M_putQuoted 133 = .ok (.aload_n 0, 1) := by decide +kernel
theorem d_M_putQuoted_134 : decode c_M_putQuoted 134 = .ok (.bipush 61, 2) := by decide +kernel
theorem d_M_putQuoted_136 : decode c_M_putQuoted 136 = .ok (.invokevirtual 238, 3) := by decide +kernel
theorem d_M_putQuoted_139 : decode c_M_putQuoted 139 = .ok (.aload_n 0, 1) := by decide +kernel
theorem d_M_putQuoted_140 : decode c_M_putQuoted 140 = .ok (.iload 4, 2) := by decide +kernel
theorem d_M_putQuoted_142 : decode c_M_putQuoted 142 = .ok (.iconst 4, 1) := by decide +kernel
theorem d_M_putQuoted_143 : decode c_M_putQuoted 143 = .ok (.ishr, 1) := by decide +kernel
theorem d_M_putQuoted_144 : decode c_M_putQuoted 144 = .ok (.invokestatic 254, 3) := by decide +kernel
theorem d_M_putQuoted_147 : decode c_M_putQuoted 147 = .ok (.invokevirtual 238, 3) := by decide +kernel
theorem d_M_putQuoted_150 : decode c_M_putQuoted 150 = .ok (.aload_n 0, 1) := by decide +kernel
theorem d_M_putQuoted_151 : decode c_M_putQuoted 151 = .ok (.iload 4, 2) := by decide +kernel
theorem d_M_putQuoted_153 : decode c_M_putQuoted 153 = .ok (.bipush 15, 2) := by decide +kernel
theorem d_M_putQuoted_155 : decode c_M_putQuoted 155 = .ok (.iand, 1) := by decide +kernel
theorem d_M_putQuoted_156 : decode c_M_putQuoted 156 = .ok (.invokestatic 254, 3) := by decide +kernel
theorem d_M_putQuoted_159 : decode c_M_putQuoted 159 = .ok (.invokevirtual 238, 3) := by decide +kernel
theorem d_M_putQuoted_162 : decode c_M_putQuoted 162 = .ok (.aload_n 0, 1) := by decide +kernel
theorem d_M_putQuoted_163 : decode c_M_putQuoted 163 = .ok (.dup, 1) := by decide +kernel
theorem d_M_putQuoted_164 : decode c_M_putQuoted 164 = .ok (.getfield 241, 3) := by decide +kernel
theorem d_M_putQuoted_167 : decode c_M_putQuoted 167 = .ok (.iconst 3, 1) := by decide +kernel
theorem d_M_putQuoted_168 : decode c_M_putQuoted 168 = .ok (.iadd, 1) := by decide +kernel
theorem d_M_putQuoted_169 : decode c_M_putQuoted 169 = .ok (.putfield 241, 3) := by decide +kernel
theorem d_M_putQuoted_172 : decode c_M_putQuoted 172 = .ok (.iinc 3 1, 3) := by decide +kernel
theorem d_M_putQuoted_175 : decode c_M_putQuoted 175 = .ok (.goto (-168), 3) := by decide +kernel
theorem d_M_putQuoted_178 : decode c_M_putQuoted 178 = .ok (.return_, 1) := by decide +kernel
theorem d_M_plain_0 : decode c_M_plain 0 = .ok (.aload_n 0, 1) := by decide +kernel
theorem d_M_plain_1 : decode c_M_plain 1 = .ok (.getfield 22, 3) := by decide +kernel
theorem d_M_plain_4 : decode c_M_plain 4 = .ok (.iload_n 1, 1) := by decide +kernel
theorem d_M_plain_5 : decode c_M_plain 5 = .ok (.iload_n 2, 1) := by decide +kernel
theorem d_M_plain_6 : decode c_M_plain 6 = .ok (.iadd, 1) := by decide +kernel
theorem d_M_plain_7 : decode c_M_plain 7 = .ok (.iaload, 1) := by decide +kernel
theorem d_M_plain_8 : decode c_M_plain 8 = .ok (.istore 5, 2) := by decide +kernel
theorem d_M_plain_10 : decode c_M_plain 10 = .ok (.iload 5, 2) := by decide +kernel
theorem d_M_plain_12 : decode c_M_plain 12 = .ok (.invokestatic 62, 3) := by decide +kernel
theorem d_M_plain_15 : decode c_M_plain 15 = .ok (.ifCond .eq 53, 3) := by decide +kernel
theorem d_M_plain_18 : decode c_M_plain 18 = .ok (.iload_n 2, 1) := by decide +kernel
theorem d_M_plain_19 : decode c_M_plain 19 = .ok (.iconst 1, 1) := by decide +kernel
theorem d_M_plain_20 : decode c_M_plain 20 = .ok (.iadd, 1) := by decide +kernel
theorem d_M_plain_21 : decode c_M_plain 21 = .ok (.iload_n 3, 1) := by decide +kernel
theorem d_M_plain_22 : decode c_M_plain 22 = .ok (.if_icmp .ge 44, 3) := by decide +kernel
theorem d_M_plain_25 : decode c_M_plain 25 = .ok (.iload_n 2, 1) := by decide +kernel
theorem d_M_plain_26 : decode c_M_plain 26 = .ok (.iconst 2, 1) := by decide +kernel
theorem d_M_plain_27 : decode c_M_plain 27 = .ok (.iadd, 1) := by decide +kernel
theorem d_M_plain_28 : decode c_M_plain 28 = .ok (.iload_n 3, 1) := by decide +kernel
theorem d_M_plain_29 : decode c_M_plain 29 = .ok (.if_icmp .ge 33, 3) := by decide +kernel
theorem d_M_plain_32 : decode c_M_plain 32 = .ok (.aload_n 0, 1) := by decide +kernel
theorem d_M_plain_33 : decode c_M_plain 33 = .ok (.getfield 22, 3) := by decide +kernel
theorem d_M_plain_36 : decode c_M_plain 36 = .ok (.iload_n 1, 1) := by decide +kernel
theorem d_M_plain_37 : decode c_M_plain 37 = .ok (.iload_n 2, 1) := by decide +kernel
theorem d_M_plain_38 : decode c_M_plain 38 = .ok (.iadd, 1) := by decide +kernel
theorem d_M_plain_39 : decode c_M_plain 39 = .ok (.iconst 1, 1) := by decide +kernel
theorem d_M_plain_40 : decode c_M_plain 40 = .ok (.iadd, 1) := by decide +kernel
theorem d_M_plain_41 : decode c_M_plain 41 = .ok (.iaload, 1) := by decide +kernel
theorem d_M_plain_42 : decode c_M_plain 42 = .ok (.bipush 13, 2) := by decide +kernel
theorem d_M_plain_44 : decode c_M_plain 44 = .ok (.if_icmp .ne 18, 3) := by decide +kernel
theorem d_M_plain_47 : decode c_M_plain 47 = .ok (.aload_n 0, 1) := by decide +kernel
theorem d_M_plain_48 : decode c_M_plain 48 = .ok (.getfield 22, 3) := by decide +kernel
theorem d_M_plain_51 : decode c_M_plain 51 = .ok (.iload_n 1, 1) := by decide +kernel
theorem d_M_plain_52 : decode c_M_plain 52 = .ok (.iload_n 2, 1) := by decide +kernel
theorem d_M_plain_53 : decode c_M_plain 53 = .ok (.iadd, 1) := by decide +kernel
theorem d_M_plain_54 : decode c_M_plain 54 = .ok (.iconst 2, 1) := by decide +kernel
theorem d_M_plain_55 : decode c_M_plain 55 = .ok (.iadd, 1) := by decide +kernel
theorem d_M_plain_56 : decode c_M_plain 56 = .ok (.iaload, 1) := by decide +kernel
theorem d_M_plain_57 : decode c_M_plain 57 = .ok (.bipush 10, 2) := by decide +kernel
theorem d_M_plain_59 : decode c_M_plain 59 = .ok (.if_icmp .eq 7, 3) := by decide +kernel
theorem d_M_plain_62 : decode c_M_plain 62 = .ok (.iconst 1, 1) := by decide +kernel
theorem d_M_plain_63 : decode c_M_plain 63 = .ok (.goto 4, 3) := by decide +kernel
theorem d_M_plain_66 : decode c_M_plain 66 = .ok (.iconst 0, 1) := by decide +kernel
theorem d_M_plain_67 : decode c_M_plain 67 = .ok (.ireturn, 1) := by decide +kernel
theorem d_M_plain_68 : decode c_M_plain 68 = .ok (.iload 5, 2) := by decide +kernel
theorem d_M_plain_70 : decode c_M_plain 70 = .ok (.bipush 32, 2) := by decide +kernel
theorem d_M_plain_72 : decode c_M_plain 72 = .ok (.if_icmp .le 33, 3) := by decide +kernel
theorem d_M_plain_75 : decode c_M_plain 75 = .ok (.iload 5, 2) := by decide +kernel
theorem d_M_plain_77 : decode c_M_plain 77 = .ok (.bipush 127, 2) := by decide +kernel
theorem d_M_plain_79 : decode c_M_plain 79 = .ok (.if_icmp .ge 26, 3) := by decide +kernel
theorem d_M_plain_82 : decode c_M_plain 82 = .ok (.iload 5, 2) := by decide +kernel
theorem d_M_plain_84 : decode c_M_plain 84 = .ok (.bipush 61, 2) := by decide +kernel
theorem d_M_plain_86 : decode c_M_plain 86 = .ok (.if_icmp .eq 19, 3) := by decide +kernel
theorem d_M_plain_89 : decode c_M_plain 89 = .ok (.iload 5, 2) := by decide +kernel
theorem d_M_plain_91 : decode c_M_plain 91 = .ok (.bipush 45, 2) := by decide +kernel
theorem d_M_plain_93 : decode c_M_plain 93 = .ok (.if_icmp .ne 8, 3) := by decide +kernel
theorem d_M_plain_96 : decode c_M_plain 96 = .ok (.iload 4, 2) := by decide +kernel
theorem d_M_plain_98 : decode c_M_plain 98 = .ok (.ifCond .eq 7, 3) := by decide +kernel
theorem d_M_plain_101 : decode c_M_plain 101 = .ok (.iconst 1, 1) := by decide +kernel
theorem d_M_plain_102 : decode c_M_plain 102 = .ok (.goto 4, 3) := by decide +kernel
theorem d_M_plain_105 : decode c_M_plain 105 = .ok (.iconst 0, 1) := by decide +kernel
theorem d_M_plain_106 : decode c_M_plain 106 = .ok (.ireturn, 1) := by decide +kernel
theorem d_M_digit_0 : decode c_M_digit 0 = .ok (.iload_n 0, 1) := by decide +kernel
theorem d_M_digit_1 : decode c_M_digit 1 = .ok (.bipush 10, 2) := by decide +kernel
theorem d_M_digit_3 : decode c_M_digit 3 = .ok (.if_icmp .ge 10, 3) := by decide +kernel
theorem d_M_digit_6 : decode c_M_digit 6 = .ok (.bipush 48, 2) := by decide +kernel
theorem d_M_digit_8 : decode c_M_digit 8 = .ok (.iload_n 0, 1) := by decide +kernel
theorem d_M_digit_9 : decode c_M_digit 9 = .ok (.iadd, 1) := by decide +kernel
theorem d_M_digit_10 : decode c_M_digit 10 = .ok (.goto 7, 3) := by decide +kernel
theorem d_M_digit_13 : decode c_M_digit 13 = .ok (.bipush 55, 2) := by decide +kernel
theorem d_M_digit_15 : decode c_M_digit 15 = .ok (.iload_n 0, 1) := by decide +kernel
theorem d_M_digit_16 : decode c_M_digit 16 = .ok (.iadd, 1) := by decide +kernel
theorem d_M_digit_17 : decode c_M_digit 17 = .ok (.ireturn, 1) := by decide +kernel
theorem d_M_goesOn_0 : decode c_M_goesOn 0 = .ok (.aload_n 0, 1) := by decide +kernel
theorem d_M_goesOn_1 : decode c_M_goesOn 1 = .ok (.getfield 37, 3) := by decide +kernel
theorem d_M_goesOn_4 : decode c_M_goesOn 4 = .ok (.aload_n 0, 1) := by decide +kernel
theorem d_M_goesOn_5 : decode c_M_goesOn 5 = .ok (.getfield 269, 3) := by decide +kernel
theorem d_M_goesOn_8 : decode c_M_goesOn 8 = .ok (.iconst 1, 1) := by decide +kernel
theorem d_M_goesOn_9 : decode c_M_goesOn 9 = .ok (.isub, 1) := by decide +kernel
theorem d_M_goesOn_10 : decode c_M_goesOn 10 = .ok (.iaload, 1) := by decide +kernel
theorem d_M_goesOn_11 : decode c_M_goesOn 11 = .ok (.istore_n 1, 1) := by decide +kernel
theorem d_M_goesOn_12 : decode c_M_goesOn 12 = .ok (.aload_n 0, 1) := by decide +kernel
theorem d_M_goesOn_13 : decode c_M_goesOn 13 = .ok (.iload_n 1, 1) := by decide +kernel
theorem d_M_goesOn_14 : decode c_M_goesOn 14 = .ok (.aload_n 0, 1) := by decide +kernel
theorem d_M_goesOn_15 : decode c_M_goesOn 15 = .ok (.getfield 40, 3) := by decide +kernel
theorem d_M_goesOn_18 : decode c_M_goesOn 18 = .ok (.aload_n 0, 1) := by decide +kernel
theorem d_M_goesOn_19 : decode c_M_goesOn 19 = .ok (.getfield 269, 3) := by decide +kernel
theorem d_M_goesOn_22 : decode c_M_goesOn 22 = .ok (.iconst 1, 1) := by decide +kernel
theorem d_M_goesOn_23 : decode c_M_goesOn 23 = .ok (.isub, 1) := by decide +kernel
theorem d_M_goesOn_24 : decode c_M_goesOn 24 = .ok (.iaload, 1) := by decide +kernel
theorem d_M_goesOn_25 : decode c_M_goesOn 25 = .ok (.invokevirtual 272, 3) := by decide +kernel
theorem d_M_goesOn_28 : decode c_M_goesOn 28 = .ok (.istore_n 2, 1) := by decide +kernel
theorem d_M_goesOn_29 : decode c_M_goesOn 29 = .ok (.aload_n 0, 1) := by decide +kernel
theorem d_M_goesOn_30 : decode c_M_goesOn 30 = .ok (.iload_n 1, 1) := by decide +kernel
theorem d_M_goesOn_31 : decode c_M_goesOn 31 = .ok (.iconst 0, 1) := by decide +kernel
theorem d_M_goesOn_32 : decode c_M_goesOn 32 = .ok (.invokevirtual 59, 3) := by decide +kernel
theorem d_M_goesOn_35 : decode c_M_goesOn 35 = .ok (.iconst 1, 1) := by decide +kernel
theorem d_M_goesOn_36 : decode c_M_goesOn 36 = .ok (.if_icmp .ne 7, 3) := by decide +kernel
theorem d_M_goesOn_39 : decode c_M_goesOn 39 = .ok (.iconst 1, 1) := by decide +kernel
theorem d_M_goesOn_40 : decode c_M_goesOn 40 = .ok (.goto 4, 3) := by decide +kernel
theorem d_M_goesOn_43 : decode c_M_goesOn 43 = .ok (.iconst 0, 1) := by decide +kernel
theorem d_M_goesOn_44 : decode c_M_goesOn 44 = .ok (.istore_n 3, 1) := by decide +kernel
theorem d_M_goesOn_45 : decode c_M_goesOn 45 = .ok (.iload_n 2, 1) := by decide +kernel
theorem d_M_goesOn_46 : decode c_M_goesOn 46 = .ok (.ifCond .lt 33, 3) := by decide +kernel
theorem d_M_goesOn_49 : decode c_M_goesOn 49 = .ok (.aload_n 0, 1) := by decide +kernel
theorem d_M_goesOn_50 : decode c_M_goesOn 50 = .ok (.getfield 40, 3) := by decide +kernel
theorem d_M_goesOn_53 : decode c_M_goesOn 53 = .ok (.aload_n 0, 1) := by decide +kernel
theorem d_M_goesOn_54 : decode c_M_goesOn 54 = .ok (.getfield 269, 3) := by decide +kernel
theorem d_M_goesOn_57 : decode c_M_goesOn 57 = .ok (.iconst 1, 1) := by decide +kernel
theorem d_M_goesOn_58 : decode c_M_goesOn 58 = .ok (.isub, 1) := by decide +kernel
theorem d_M_goesOn_59 : decode c_M_goesOn 59 = .ok (.iload_n 2, 1) := by decide +kernel
theorem d_M_goesOn_60 : decode c_M_goesOn 60 = .ok (.iconst 1, 1) := by decide +kernel
theorem d_M_goesOn_61 : decode c_M_goesOn 61 = .ok (.iadd, 1) := by decide +kernel
theorem d_M_goesOn_62 : decode c_M_goesOn 62 = .ok (.iastore, 1) := by decide +kernel
theorem d_M_goesOn_63 : decode c_M_goesOn 63 = .ok (.iload_n 3, 1) := by decide +kernel
theorem d_M_goesOn_64 : decode c_M_goesOn 64 = .ok (.ifCond .eq 9, 3) := by decide +kernel
theorem d_M_goesOn_67 : decode c_M_goesOn 67 = .ok (.aload_n 0, 1) := by decide +kernel
theorem d_M_goesOn_68 : decode c_M_goesOn 68 = .ok (.iload_n 1, 1) := by decide +kernel
theorem d_M_goesOn_69 : decode c_M_goesOn 69 = .ok (.iconst 0, 1) := by decide +kernel
theorem d_M_goesOn_70 : decode c_M_goesOn 70 = .ok (.invokevirtual 275, 3) := by decide +kernel
theorem d_M_goesOn_73 : decode c_M_goesOn 73 = .ok (.aload_n 0, 1) := by decide +kernel
theorem d_M_goesOn_74 : decode c_M_goesOn 74 = .ok (.iload_n 2, 1) := by decide +kernel
theorem d_M_goesOn_75 : decode c_M_goesOn 75 = .ok (.invokevirtual 279, 3) := by decide +kernel
theorem d_M_goesOn_78 : decode c_M_goesOn 78 = .ok (.return_, 1) := by decide +kernel
theorem d_M_goesOn_79 : decode c_M_goesOn 79 = .ok (.iload_n 3, 1) := by decide +kernel
theorem d_M_goesOn_80 : decode c_M_goesOn 80 = .ok (.ifCond .eq 9, 3) := by decide +kernel
theorem d_M_goesOn_83 : decode c_M_goesOn 83 = .ok (.aload_n 0, 1) := by decide +kernel
theorem d_M_goesOn_84 : decode c_M_goesOn 84 = .ok (.iload_n 1, 1) := by decide +kernel
theorem d_M_goesOn_85 : decode c_M_goesOn 85 = .ok (.iconst 1, 1) := by decide +kernel
theorem d_M_goesOn_86 : decode c_M_goesOn 86 = .ok (.invokevirtual 275, 3) := by decide +kernel
theorem d_M_goesOn_89 : decode c_M_goesOn 89 = .ok (.aload_n 0, 1) := by decide +kernel
theorem d_M_goesOn_90 : decode c_M_goesOn 90 = .ok (.dup, 1) := by decide +kernel
theorem d_M_goesOn_91 : decode c_M_goesOn 91 = .ok (.getfield 269, 3) := by decide +kernel
theorem d_M_goesOn_94 : decode c_M_goesOn 94 = .ok (.iconst 1, 1) := by decide +kernel
theorem d_M_goesOn_95 : decode c_M_goesOn 95 = .ok (.isub, 1) := by decide +kernel
theorem d_M_goesOn_96 : decode c_M_goesOn 96 = .ok (.putfield 269, 3) := by decide +kernel
theorem d_M_goesOn_99 : decode c_M_goesOn 99 = .ok (.aload_n 0, 1) := by decide +kernel
theorem d_M_goesOn_100 : decode c_M_goesOn 100 = .ok (.getfield 269, 3) := by decide +kernel
theorem d_M_goesOn_103 : decode c_M_goesOn 103 = .ok (.ifCond .le 27, 3) := by decide +kernel
theorem d_M_goesOn_106 : decode c_M_goesOn 106 = .ok (.aload_n 0, 1) := by decide +kernel
theorem d_M_goesOn_107 : decode c_M_goesOn 107 = .ok (.aload_n 0, 1) := by decide +kernel
theorem d_M_goesOn_108 : decode c_M_goesOn 108 = .ok (.getfield 37, 3) := by decide +kernel
theorem d_M_goesOn_111 : decode c_M_goesOn 111 = .ok (.aload_n 0, 1) := by decide +kernel
theorem d_M_goesOn_112 : decode c_M_goesOn 112 = .ok (.getfield 269, 3) := by decide +kernel
theorem d_M_goesOn_115 : decode c_M_goesOn 115 = .ok (.iconst 1, 1) := by decide +kernel
theorem d_M_goesOn_116 : decode c_M_goesOn 116 = .ok (.isub, 1) := by decide +kernel
theorem d_M_goesOn_117 : decode c_M_goesOn 117 = .ok (.iaload, 1) := by decide +kernel
theorem d_M_goesOn_118 : decode c_M_goesOn 118 = .ok (.iconst 0, 1) := by decide +kernel
theorem d_M_goesOn_119 : decode c_M_goesOn 119 = .ok (.invokevirtual 59, 3) := by decide +kernel
theorem d_M_goesOn_122 : decode c_M_goesOn 122 = .ok (.iconst 1, 1) := by decide +kernel
theorem d_M_goesOn_123 : decode c_M_goesOn 123 = .ok (.if_icmp .ne 7, 3) := by decide +kernel
theorem d_M_goesOn_126 : decode c_M_goesOn 126 = .ok (.aload_n 0, 1) := by decide +kernel
theorem d_M_goesOn_127 : decode c_M_goesOn 127 = .ok (.invokevirtual 247, 3) := by decide +kernel
theorem d_M_goesOn_130 : decode c_M_goesOn 130 = .ok (.return_, 1) := by decide +kernel
theorem d_M_partOf_0 : decode c_M_partOf 0 = .ok (.iload_n 2, 1) := by decide +kernel
theorem d_M_partOf_1 : decode c_M_partOf 1 = .ok (.istore_n 3, 1) := by decide +kernel
theorem d_M_partOf_2 : decode c_M_partOf 2 = .ok (.iload_n 3, 1) := by decide +kernel
theorem d_M_partOf_3 : decode c_M_partOf 3 = .ok (.aload_n 0, 1) := by decide +kernel
theorem d_M_partOf_4 : decode c_M_partOf 4 = .ok (.getfield 196, 3) := by decide +kernel
theorem d_M_partOf_7 : decode c_M_partOf 7 = .ok (.if_icmp .ge 21, 3) := by decide +kernel
theorem d_M_partOf_10 : decode c_M_partOf 10 = .ok (.aload_n 0, 1) := by decide +kernel
theorem d_M_partOf_11 : decode c_M_partOf 11 = .ok (.iload_n 3, 1) := by decide +kernel
theorem d_M_partOf_12 : decode c_M_partOf 12 = .ok (.iconst 2, 1) := by decide +kernel
theorem d_M_partOf_13 : decode c_M_partOf 13 = .ok (.invokevirtual 59, 3) := by decide +kernel
theorem d_M_partOf_16 : decode c_M_partOf 16 = .ok (.iload_n 1, 1) := by decide +kernel
theorem d_M_partOf_17 : decode c_M_partOf 17 = .ok (.if_icmp .ne 5, 3) := by decide +kernel
theorem d_M_partOf_20 : decode c_M_partOf 20 = .ok (.iload_n 3, 1) := by decide +kernel
theorem d_M_partOf_21 : decode c_M_partOf 21 = .ok (.ireturn, 1) := by decide +kernel
theorem d_M_partOf_22 : decode c_M_partOf 22 = .ok (.iinc 3 1, 3) := by decide +kernel
theorem d_M_partOf_25 : decode c_M_partOf 25 = .ok (.goto (-23), 3) := by decide +kernel
theorem d_M_partOf_28 : decode c_M_partOf 28 = .ok (.iconst (-1), 1) := by decide +kernel
theorem d_M_partOf_29 : decode c_M_partOf 29 = .ok (.ireturn, 1) := by decide +kernel
theorem d_M_putDelimiter_0 : decode c_M_putDelimiter 0 = .ok (.aload_n 0, 1) := by decide +kernel
theorem d_M_putDelimiter_1 : decode c_M_putDelimiter 1 = .ok (.bipush 45, 2) := by decide +kernel
theorem d_M_putDelimiter_3 : decode c_M_putDelimiter 3 = .ok (.invokevirtual 238, 3) := by decide +kernel
theorem d_M_putDelimiter_6 : decode c_M_putDelimiter 6 = .ok (.aload_n 0, 1) := by decide +kernel
theorem d_M_putDelimiter_7 : decode c_M_putDelimiter 7 = .ok (.bipush 45, 2) := by decide +kernel
theorem d_M_putDelimiter_9 : decode c_M_putDelimiter 9 = .ok (.invokevirtual 238, 3) := by decide +kernel
theorem d_M_putDelimiter_12 : decode c_M_putDelimiter 12 = .ok (.aload_n 0, 1) := by decide +kernel
theorem d_M_putDelimiter_13 : decode c_M_putDelimiter 13 = .ok (.aload_n 0, 1) := by decide +kernel
theorem d_M_putDelimiter_14 : decode c_M_putDelimiter 14 = .ok (.iload_n 1, 1) := by decide +kernel
theorem d_M_putDelimiter_15 : decode c_M_putDelimiter 15 = .ok (.bipush 11, 2) := by decide +kernel
theorem d_M_putDelimiter_17 : decode c_M_putDelimiter 17 = .ok (.invokevirtual 59, 3) := by decide +kernel
theorem d_M_putDelimiter_20 : decode c_M_putDelimiter 20 = .ok (.aload_n 0, 1) := by decide +kernel
theorem d_M_putDelimiter_21 : decode c_M_putDelimiter 21 = .ok (.iload_n 1, 1) := by decide +kernel
theorem d_M_putDelimiter_22 : decode c_M_putDelimiter 22 = .ok (.bipush 12, 2) := by decide +kernel
theorem d_M_putDelimiter_24 : decode c_M_putDelimiter 24 = .ok (.invokevirtual 59, 3) := by decide +kernel
theorem d_M_putDelimiter_27 : decode c_M_putDelimiter 27 = .ok (.invokevirtual 257, 3) := by decide +kernel
theorem d_M_putDelimiter_30 : decode c_M_putDelimiter 30 = .ok (.iload_n 2, 1) := by decide +kernel
theorem d_M_putDelimiter_31 : decode c_M_putDelimiter 31 = .ok (.ifCond .eq 15, 3) := by decide +kernel
theorem d_M_putDelimiter_34 : decode c_M_putDelimiter 34 = .ok (.aload_n 0, 1) := by decide +kernel
theorem d_M_putDelimiter_35 : decode c_M_putDelimiter 35 = .ok (.bipush 45, 2) := by decide +kernel
theorem d_M_putDelimiter_37 : decode c_M_putDelimiter 37 = .ok (.invokevirtual 238, 3) := by decide +kernel
theorem d_M_putDelimiter_40 : decode c_M_putDelimiter 40 = .ok (.aload_n 0, 1) := by decide +kernel
theorem d_M_putDelimiter_41 : decode c_M_putDelimiter 41 = .ok (.bipush 45, 2) := by decide +kernel
theorem d_M_putDelimiter_43 : decode c_M_putDelimiter 43 = .ok (.invokevirtual 238, 3) := by decide +kernel
theorem d_M_putDelimiter_46 : decode c_M_putDelimiter 46 = .ok (.aload_n 0, 1) := by decide +kernel
theorem d_M_putDelimiter_47 : decode c_M_putDelimiter 47 = .ok (.invokevirtual 247, 3) := by decide +kernel
theorem d_M_putDelimiter_50 : decode c_M_putDelimiter 50 = .ok (.return_, 1) := by decide +kernel
theorem d_M_written_0 : decode c_M_written 0 = .ok (.aload_n 0, 1) := by decide +kernel
theorem d_M_written_1 : decode c_M_written 1 = .ok (.iconst 0, 1) := by decide +kernel
theorem d_M_written_2 : decode c_M_written 2 = .ok (.putfield 43, 3) := by decide +kernel
theorem d_M_written_5 : decode c_M_written 5 = .ok (.iload_n 1, 1) := by decide +kernel
theorem d_M_written_6 : decode c_M_written 6 = .ok (.ifCond .lt 11, 3) := by decide +kernel
theorem d_M_written_9 : decode c_M_written 9 = .ok (.iload_n 1, 1) := by decide +kernel
theorem d_M_written_10 : decode c_M_written 10 = .ok (.aload_n 0, 1) := by decide +kernel
theorem d_M_written_11 : decode c_M_written 11 = .ok (.getfield 285, 3) := by decide +kernel
theorem d_M_written_14 : decode c_M_written 14 = .ok (.if_icmp .lt 7, 3) := by decide +kernel
theorem d_M_written_17 : decode c_M_written 17 = .ok (.iconst (-1), 1) := by decide +kernel
theorem d_M_written_18 : decode c_M_written 18 = .ok (.goto 9, 3) := by decide +kernel
theorem d_M_written_21 : decode c_M_written 21 = .ok (.aload_n 0, 1) := by decide +kernel
theorem d_M_written_22 : decode c_M_written 22 = .ok (.getfield 34, 3) := by decide +kernel
theorem d_M_written_25 : decode c_M_written 25 = .ok (.iload_n 1, 1) := by decide +kernel
theorem d_M_written_26 : decode c_M_written 26 = .ok (.iaload, 1) := by decide +kernel
theorem d_M_written_27 : decode c_M_written 27 = .ok (.ireturn, 1) := by decide +kernel
theorem d_M_again_0 : decode c_M_again 0 = .ok (.aload_n 0, 1) := by decide +kernel
theorem d_M_again_1 : decode c_M_again 1 = .ok (.iconst 0, 1) := by decide +kernel
theorem d_M_again_2 : decode c_M_again 2 = .ok (.putfield 43, 3) := by decide +kernel
theorem d_M_again_5 : decode c_M_again 5 = .ok (.aload_n 0, 1) := by decide +kernel
theorem d_M_again_6 : decode c_M_again 6 = .ok (.aload_n 0, 1) := by decide +kernel
theorem d_M_again_7 : decode c_M_again 7 = .ok (.getfield 285, 3) := by decide +kernel
theorem d_M_again_10 : decode c_M_again 10 = .ok (.sipush 320, 3) := by decide +kernel
theorem d_M_again_13 : decode c_M_again 13 = .ok (.if_icmp .ge 10, 3) := by decide +kernel
theorem d_M_again_16 : decode c_M_again 16 = .ok (.aload_n 0, 1) := by decide +kernel
theorem d_M_again_17 : decode c_M_again 17 = .ok (.getfield 285, 3) := by decide +kernel
theorem d_M_again_20 : decode c_M_again 20 = .ok (.goto 6, 3) := by decide +kernel
theorem d_M_again_23 : decode c_M_again 23 = .ok (.sipush 320, 3) := by decide +kernel
theorem d_M_again_26 : decode c_M_again 26 = .ok (.putfield 47, 3) := by decide +kernel
theorem d_M_again_29 : decode c_M_again 29 = .ok (.iconst 0, 1) := by decide +kernel
theorem d_M_again_30 : decode c_M_again 30 = .ok (.istore_n 1, 1) := by decide +kernel
theorem d_M_again_31 : decode c_M_again 31 = .ok (.iload_n 1, 1) := by decide +kernel
theorem d_M_again_32 : decode c_M_again 32 = .ok (.aload_n 0, 1) := by decide +kernel
theorem d_M_again_33 : decode c_M_again 33 = .ok (.getfield 47, 3) := by decide +kernel
theorem d_M_again_36 : decode c_M_again 36 = .ok (.if_icmp .ge 21, 3) := by decide +kernel
theorem d_M_again_39 : decode c_M_again 39 = .ok (.aload_n 0, 1) := by decide +kernel
theorem d_M_again_40 : decode c_M_again 40 = .ok (.getfield 7, 3) := by decide +kernel
theorem d_M_again_43 : decode c_M_again 43 = .ok (.iload_n 1, 1) := by decide +kernel
theorem d_M_again_44 : decode c_M_again 44 = .ok (.aload_n 0, 1) := by decide +kernel
theorem d_M_again_45 : decode c_M_again 45 = .ok (.getfield 34, 3) := by decide +kernel
theorem d_M_again_48 : decode c_M_again 48 = .ok (.iload_n 1, 1) := by decide +kernel
theorem d_M_again_49 : decode c_M_again 49 = .ok (.iaload, 1) := by decide +kernel
theorem d_M_again_50 : decode c_M_again 50 = .ok (.iastore, 1) := by decide +kernel
theorem d_M_again_51 : decode c_M_again 51 = .ok (.iinc 1 1, 3) := by decide +kernel
theorem d_M_again_54 : decode c_M_again 54 = .ok (.goto (-23), 3) := by decide +kernel
theorem d_M_again_57 : decode c_M_again 57 = .ok (.aload_n 0, 1) := by decide +kernel
theorem d_M_again_58 : decode c_M_again 58 = .ok (.getfield 47, 3) := by decide +kernel
theorem d_M_again_61 : decode c_M_again 61 = .ok (.ireturn, 1) := by decide +kernel
