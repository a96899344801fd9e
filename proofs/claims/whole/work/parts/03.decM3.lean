theorem d_M_letter1_26 : decode c_M_letter1 26 = .ok (.if_icmp .gt 8, 3) := by decide +kernel
theorem d_M_letter1_29 : decode c_M_letter1 29 = .ok (.iload_n 0, 1) := by decide +kernel
theorem d_M_letter1_30 : decode c_M_letter1 30 = .ok (.bipush 71, 2) := by decide +kernel
theorem d_M_letter1_32 : decode c_M_letter1 32 = .ok (.isub, 1) := by decide +kernel
theorem d_M_letter1_33 : decode c_M_letter1 33 = .ok (.ireturn, 1) := by decide +kernel
theorem d_M_letter1_34 : decode c_M_letter1 34 = .ok (.iload_n 0, 1) := by decide +kernel
theorem d_M_letter1_35 : decode c_M_letter1 35 = .ok (.bipush 48, 2) := by decide +kernel
theorem d_M_letter1_37 : decode c_M_letter1 37 = .ok (.if_icmp .lt 13, 3) := by decide +kernel
theorem d_M_letter1_40 : decode c_M_letter1 40 = .ok (.iload_n 0, 1) := by decide +kernel
theorem d_M_letter1_41 : decode c_M_letter1 41 = .ok (.bipush 57, 2) := by decide +kernel
theorem d_M_letter1_43 : decode c_M_letter1 43 = .ok (.if_icmp .gt 7, 3) := by decide +kernel
theorem d_M_letter1_46 : decode c_M_letter1 46 = .ok (.iload_n 0, 1) := by decide +kernel
theorem d_M_letter1_47 : decode c_M_letter1 47 = .ok (.iconst 4, 1) := by decide +kernel
theorem d_M_letter1_48 : decode c_M_letter1 48 = .ok (.iadd, 1) := by decide +kernel
theorem d_M_letter1_49 : decode c_M_letter1 49 = .ok (.ireturn, 1) := by decide +kernel
theorem d_M_letter1_50 : decode c_M_letter1 50 = .ok (.iload_n 0, 1) := by decide +kernel
theorem d_M_letter1_51 : decode c_M_letter1 51 = .ok (.bipush 43, 2) := by decide +kernel
theorem d_M_letter1_53 : decode c_M_letter1 53 = .ok (.if_icmp .ne 8, 3) := by decide +kernel
theorem d_M_letter1_56 : decode c_M_letter1 56 = .ok (.bipush 62, 2) := by decide +kernel
theorem d_M_letter1_58 : decode c_M_letter1 58 = .ok (.goto 15, 3) := by decide +kernel
theorem d_M_letter1_61 : decode c_M_letter1 61 = .ok (.iload_n 0, 1) := by decide +kernel
theorem d_M_letter1_62 : decode c_M_letter1 62 = .ok (.bipush 47, 2) := by decide +kernel
theorem d_M_letter1_64 : decode c_M_letter1 64 = .ok (.if_icmp .ne 8, 3) := by decide +kernel
theorem d_M_letter1_67 : decode c_M_letter1 67 = .ok (.bipush 63, 2) := by decide +kernel
theorem d_M_letter1_69 : decode c_M_letter1 69 = .ok (.goto 4, 3) := by decide +kernel
theorem d_M_letter1_72 : decode c_M_letter1 72 = .ok (.iconst (-1), 1) := by decide +kernel
theorem d_M_letter1_73 : decode c_M_letter1 73 = .ok (.ireturn, 1) := by decide +kernel
theorem d_M_fromQuoted_0 : decode c_M_fromQuoted 0 = .ok (.iload_n 1, 1) := by decide +kernel
theorem d_M_fromQuoted_1 : decode c_M_fromQuoted 1 = .ok (.istore_n 3, 1) := by decide +kernel
theorem d_M_fromQuoted_2 : decode c_M_fromQuoted 2 = .ok (.iload_n 3, 1) := by decide +kernel
theorem d_M_fromQuoted_3 : decode c_M_fromQuoted 3 = .ok (.iload_n 2, 1) := by decide +kernel
theorem d_M_fromQuoted_4 : decode c_M_fromQuoted 4 = .ok (.if_icmp .ge 177, 3) := by decide +kernel
theorem d_M_fromQuoted_7 : decode c_M_fromQuoted 7 = .ok (.aload_n 0, 1) := by decide +kernel
theorem d_M_fromQuoted_8 : decode c_M_fromQuoted 8 = .ok (.getfield 13, 3) := by decide +kernel
theorem d_M_fromQuoted_11 : decode c_M_fromQuoted 11 = .ok (.iload_n 3, 1) := by decide +kernel
theorem d_M_fromQuoted_12 : decode c_M_fromQuoted 12 = .ok (.iaload, 1) := by decide +kernel
theorem d_M_fromQuoted_13 : decode c_M_fromQuoted 13 = .ok (.istore 4, 2) := by decide +kernel
theorem d_M_fromQuoted_15 : decode c_M_fromQuoted 15 = .ok (.aload_n 0, 1) := by decide +kernel
theorem d_M_fromQuoted_16 : decode c_M_fromQuoted 16 = .ok (.iload 4, 2) := by decide +kernel
theorem d_M_fromQuoted_18 : decode c_M_fromQuoted 18 = .ok (.bipush 61, 2) := by decide +kernel
theorem d_M_fromQuoted_20 : decode c_M_fromQuoted 20 = .ok (.if_icmp .ne 9, 3) := by decide +kernel
theorem d_M_fromQuoted_23 : decode c_M_fromQuoted 23 = .ok (.iload_n 3, 1) := by decide +kernel
theorem d_M_fromQuoted_24 : decode c_M_fromQuoted 24 = .ok (.iconst 1, 1) := by decide +kernel
theorem d_M_fromQuoted_25 : decode c_M_fromQuoted 25 = .ok (.iadd, 1) := by decide +kernel
theorem d_M_fromQuoted_26 : decode c_M_fromQuoted 26 = .ok (.goto 4, 3) := by decide +kernel
theorem d_M_fromQuoted_29 : decode c_M_fromQuoted 29 = .ok (.iload_n 3, 1) := by decide +kernel
theorem d_M_fromQuoted_30 : decode c_M_fromQuoted 30 = .ok (.iload_n 2, 1) := by decide +kernel
theorem d_M_fromQuoted_31 : decode c_M_fromQuoted 31 = .ok (.invokevirtual 181, 3) := by decide +kernel
theorem d_M_fromQuoted_34 : decode c_M_fromQuoted 34 = .ok (.istore 5, 2) := by decide +kernel
theorem d_M_fromQuoted_36 : decode c_M_fromQuoted 36 = .ok (.aload_n 0, 1) := by decide +kernel
theorem d_M_fromQuoted_37 : decode c_M_fromQuoted 37 = .ok (.iload 5, 2) := by decide +kernel
theorem d_M_fromQuoted_39 : decode c_M_fromQuoted 39 = .ok (.iload_n 2, 1) := by decide +kernel
theorem d_M_fromQuoted_40 : decode c_M_fromQuoted 40 = .ok (.invokevirtual 184, 3) := by decide +kernel
theorem d_M_fromQuoted_43 : decode c_M_fromQuoted 43 = .ok (.istore 6, 2) := by decide +kernel
theorem d_M_fromQuoted_45 : decode c_M_fromQuoted 45 = .ok (.iload 4, 2) := by decide +kernel
theorem d_M_fromQuoted_47 : decode c_M_fromQuoted 47 = .ok (.bipush 61, 2) := by decide +kernel
theorem d_M_fromQuoted_49 : decode c_M_fromQuoted 49 = .ok (.if_icmp .ne 74, 3) := by decide +kernel
theorem d_M_fromQuoted_52 : decode c_M_fromQuoted 52 = .ok (.iload_n 3, 1) := by decide +kernel
theorem d_M_fromQuoted_53 : decode c_M_fromQuoted 53 = .ok (.iconst 2, 1) := by decide +kernel
theorem d_M_fromQuoted_54 : decode c_M_fromQuoted 54 = .ok (.iadd, 1) := by decide +kernel
theorem d_M_fromQuoted_55 : decode c_M_fromQuoted 55 = .ok (.iload_n 2, 1) := by decide +kernel
theorem d_M_fromQuoted_56 : decode c_M_fromQuoted 56 = .ok (.if_icmp .ge 67, 3) := by decide +kernel
theorem d_M_fromQuoted_59 : decode c_M_fromQuoted 59 = .ok (.aload_n 0, 1) := by decide +kernel
theorem d_M_fromQuoted_60 : decode c_M_fromQuoted 60 = .ok (.getfield 13, 3) := by decide +kernel
theorem d_M_fromQuoted_63 : decode c_M_fromQuoted 63 = .ok (.iload_n 3, 1) := by decide +kernel
theorem d_M_fromQuoted_64 : decode c_M_fromQuoted 64 = .ok (.iconst 1, 1) := by decide +kernel
theorem d_M_fromQuoted_65 : decode c_M_fromQuoted 65 = .ok (.iadd, 1) := by decide +kernel
theorem d_M_fromQuoted_66 : decode c_M_fromQuoted 66 = .ok (.iaload, 1) := by decide +kernel
theorem d_M_fromQuoted_67 : decode c_M_fromQuoted 67 = .ok (.invokestatic 187, 3) := by decide +kernel
theorem d_M_fromQuoted_70 : decode c_M_fromQuoted 70 = .ok (.ifCond .lt 53, 3) := by decide +kernel
theorem d_M_fromQuoted_73 : decode c_M_fromQuoted 73 = .ok (.aload_n 0, 1) := by decide +kernel
theorem d_M_fromQuoted_74 : decode c_M_fromQuoted 74 = .ok (.getfield 13, 3) := by decide +kernel
theorem d_M_fromQuoted_77 : decode c_M_fromQuoted 77 = .ok (.iload_n 3, 1) := by decide +kernel
theorem d_M_fromQuoted_78 : decode c_M_fromQuoted 78 = .ok (.iconst 2, 1) := by decide +kernel
theorem d_M_fromQuoted_79 : decode c_M_fromQuoted 79 = .ok (.iadd, 1) := by decide +kernel
theorem d_M_fromQuoted_80 : decode c_M_fromQuoted 80 = .ok (.iaload, 1) := by decide +kernel
theorem d_M_fromQuoted_81 : decode c_M_fromQuoted 81 = .ok (.invokestatic 187, 3) := by decide +kernel
theorem d_M_fromQuoted_84 : decode c_M_fromQuoted 84 = .ok (.ifCond .lt 39, 3) := by decide +kernel
theorem d_M_fromQuoted_87 : decode c_M_fromQuoted 87 = .ok (.aload_n 0, 1) := by decide +kernel
theorem d_M_fromQuoted_88 : decode c_M_fromQuoted 88 = .ok (.bipush 16, 2) := by decide +kernel
theorem d_M_fromQuoted_90 : decode c_M_fromQuoted 90 = .ok (.aload_n 0, 1) := by decide +kernel
theorem d_M_fromQuoted_91 : decode c_M_fromQuoted 91 = .ok (.getfield 13, 3) := by decide +kernel
theorem d_M_fromQuoted_94 : decode c_M_fromQuoted 94 = .ok (.iload_n 3, 1) := by decide +kernel
theorem d_M_fromQuoted_95 : decode c_M_fromQuoted 95 = .ok (.iconst 1, 1) := by decide +kernel
theorem d_M_fromQuoted_96 : decode c_M_fromQuoted 96 = .ok (.iadd, 1) := by decide +kernel
theorem d_M_fromQuoted_97 : decode c_M_fromQuoted 97 = .ok (.iaload, 1) := by decide +kernel
theorem d_M_fromQuoted_98 : decode c_M_fromQuoted 98 = .ok (.invokestatic 187, 3) := by decide +kernel
theorem d_M_fromQuoted_101 : decode c_M_fromQuoted 101 = .ok (.imul, 1) := by decide +kernel
theorem d_M_fromQuoted_102 : decode c_M_fromQuoted 102 = .ok (.aload_n 0, 1) := by decide +kernel
theorem d_M_fromQuoted_103 : decode c_M_fromQuoted 103 = .ok (.getfield 13, 3) := by decide +kernel
theorem d_M_fromQuoted_106 : decode c_M_fromQuoted 106 = .ok (.iload_n 3, 1) := by decide +kernel
theorem d_M_fromQuoted_107 : decode c_M_fromQuoted 107 = .ok (.iconst 2, 1) := by decide +kernel
theorem d_M_fromQuoted_108 : decode c_M_fromQuoted 108 = .ok (.iadd, 1) := by decide +kernel
theorem d_M_fromQuoted_109 : decode c_M_fromQuoted 109 = .ok (.iaload, 1) := by decide +kernel
theorem d_M_fromQuoted_110 : decode c_M_fromQuoted 110 = .ok (.invokestatic 187, 3) := by decide +kernel
theorem d_M_fromQuoted_113 : decode c_M_fromQuoted 113 = .ok (.iadd, 1) := by decide +kernel
theorem d_M_fromQuoted_114 : decode c_M_fromQuoted 114 = .ok (.invokevirtual 66, 3) := by decide +kernel
theorem d_M_fromQuoted_117 : decode c_M_fromQuoted 117 = .ok (.iinc 3 3, 3) := by decide +kernel
theorem d_M_fromQuoted_120 : decode c_M_fromQuoted 120 = .ok (.goto 58, 3) := by decide +kernel
theorem d_M_fromQuoted_123 : decode c_M_fromQuoted 123 = .ok (.iload 4, 2) := by decide +kernel
theorem d_M_fromQuoted_125 : decode c_M_fromQuoted 125 = .ok (.bipush 61, 2) := by decide +kernel
theorem d_M_fromQuoted_127 : decode c_M_fromQuoted 127 = .ok (.if_icmp .ne 17, 3) := by decide +kernel
theorem d_M_fromQuoted_130 : decode c_M_fromQuoted 130 = .ok (.iload 6, 2) := by decide +kernel
theorem d_M_fromQuoted_132 : decode c_M_fromQuoted 132 = .ok (.ifCond .le 12, 3) := by decide +kernel
theorem d_M_fromQuoted_135 : decode c_M_fromQuoted 135 = .ok (.iload 5, 2) := by decide +kernel
theorem d_M_fromQuoted_137 : decode c_M_fromQuoted 137 = .ok (.iload 6, 2) := by decide +kernel
theorem d_M_fromQuoted_139 : decode c_M_fromQuoted 139 = .ok (.iadd, 1) := by decide +kernel
theorem d_M_fromQuoted_140 : decode c_M_fromQuoted 140 = .ok (.istore_n 3, 1) := by decide +kernel
theorem d_M_fromQuoted_141 : decode c_M_fromQuoted 141 = .ok (.goto 37, 3) := by decide +kernel
theorem d_M_fromQuoted_144 : decode c_M_fromQuoted 144 = .ok (.iload 4, 2) := by decide +kernel
theorem d_M_fromQuoted_146 : decode c_M_fromQuoted 146 = .ok (.invokestatic 62, 3) := by decide +kernel
theorem d_M_fromQuoted_149 : decode c_M_fromQuoted 149 = .ok (.ifCond .eq 20, 3) := by decide +kernel
theorem d_M_fromQuoted_152 : decode c_M_fromQuoted 152 = .ok (.iload 6, 2) := by decide +kernel
theorem d_M_fromQuoted_154 : decode c_M_fromQuoted 154 = .ok (.ifCond .gt 9, 3) := by decide +kernel
theorem d_M_fromQuoted_157 : decode c_M_fromQuoted 157 = .ok (.iload 5, 2) := by decide +kernel
theorem d_M_fromQuoted_159 : decode c_M_fromQuoted 159 = .ok (.iload_n 2, 1) := by decide +kernel
theorem d_M_fromQuoted_160 : decode c_M_fromQuoted 160 = .ok (.if_icmp .ne 9, 3) := by decide +kernel
theorem d_M_fromQuoted_163 : decode c_M_fromQuoted 163 = .ok (.iload 5, 2) := by decide +kernel
theorem d_M_fromQuoted_165 : decode c_M_fromQuoted 165 = .ok (.istore_n 3, 1) := by decide +kernel
theorem d_M_fromQuoted_166 : decode c_M_fromQuoted 166 = .ok (.goto 12, 3) := by decide +kernel
theorem d_M_fromQuoted_169 : decode c_M_fromQuoted 169 = .ok (.aload_n 0, 1) := by decide +kernel
theorem d_M_fromQuoted_170 : decode c_M_fromQuoted 170 = .ok (.iload 4, 2) := by decide +kernel
theorem d_M_fromQuoted_172 : decode c_M_fromQuoted 172 = .ok (.invokevirtual 66, 3) := by decide +kernel
theorem d_M_fromQuoted_175 : decode c_M_fromQuoted 175 = .ok (.iinc 3 1, 3) := by decide +kernel
theorem d_M_fromQuoted_178 : decode c_M_fromQuoted 178 = .ok (.goto (-176), 3) := by decide +kernel
theorem d_M_fromQuoted_181 : decode c_M_fromQuoted 181 = .ok (.return_, 1) := by decide +kernel
theorem d_M_behindBlanks_0 : decode c_M_behindBlanks 0 = .ok (.iload_n 1, 1) := by decide +kernel
theorem d_M_behindBlanks_1 : decode c_M_behindBlanks 1 = .ok (.istore_n 3, 1) := by decide +kernel
theorem d_M_behindBlanks_2 : decode c_M_behindBlanks 2 = .ok (.iload_n 3, 1) := by decide +kernel
theorem d_M_behindBlanks_3 : decode c_M_behindBlanks 3 = .ok (.iload_n 2, 1) := by decide +kernel
theorem d_M_behindBlanks_4 : decode c_M_behindBlanks 4 = .ok (.if_icmp .ge 21, 3) := by decide +kernel
theorem d_M_behindBlanks_7 : decode c_M_behindBlanks 7 = .ok (.aload_n 0, 1) := by decide +kernel
theorem d_M_behindBlanks_8 : decode c_M_behindBlanks 8 = .ok (.getfield 13, 3) := by decide +kernel
theorem d_M_behindBlanks_11 : decode c_M_behindBlanks 11 = .ok (.iload_n 3, 1) := by decide +kernel
theorem d_M_behindBlanks_12 : decode c_M_behindBlanks 12 = .ok (.iaload, 1) := by decide +kernel
theorem d_M_behindBlanks_13 : decode c_M_behindBlanks 13 = .ok (.invokestatic 62, 3) := by decide +kernel
theorem d_M_behindBlanks_16 : decode c_M_behindBlanks 16 = .ok (.ifCond .eq 9, 3) := by decide +kernel
theorem d_M_behindBlanks_19 : decode c_M_behindBlanks 19 = .ok (.iinc 3 1, 3) := by decide +kernel
theorem d_M_behindBlanks_22 : decode c_M_behindBlanks 22 = .ok (.goto (-20), 3) := by decide +kernel
theorem d_M_behindBlanks_25 : decode c_M_behindBlanks 25 = .ok (.iload_n 3, 1) := by decide +kernel
theorem d_M_behindBlanks_26 : decode c_M_behindBlanks 26 = .ok (.ireturn, 1) := by decide +kernel
theorem d_M_lineBreak_0 : decode c_M_lineBreak 0 = .ok (.iload_n 1, 1) := by decide +kernel
theorem d_M_lineBreak_1 : decode c_M_lineBreak 1 = .ok (.iload_n 2, 1) := by decide +kernel
theorem d_M_lineBreak_2 : decode c_M_lineBreak 2 = .ok (.if_icmp .ge 16, 3) := by decide +kernel
theorem d_M_lineBreak_5 : decode c_M_lineBreak 5 = .ok (.aload_n 0, 1) := by decide +kernel
theorem d_M_lineBreak_6 : decode c_M_lineBreak 6 = .ok (.getfield 13, 3) := by decide +kernel
theorem d_M_lineBreak_9 : decode c_M_lineBreak 9 = .ok (.iload_n 1, 1) := by decide +kernel
theorem d_M_lineBreak_10 : decode c_M_lineBreak 10 = .ok (.iaload, 1) := by decide +kernel
theorem d_M_lineBreak_11 : decode c_M_lineBreak 11 = .ok (.bipush 10, 2) := by decide +kernel
theorem d_M_lineBreak_13 : decode c_M_lineBreak 13 = .ok (.if_icmp .ne 5, 3) := by decide +kernel
theorem d_M_lineBreak_16 : decode c_M_lineBreak 16 = .ok (.iconst 1, 1) := by decide +kernel
theorem d_M_lineBreak_17 : decode c_M_lineBreak 17 = .ok (.ireturn, 1) := by decide +kernel
theorem d_M_lineBreak_18 : decode c_M_lineBreak 18 = .ok (.iload_n 1, 1) := by decide +kernel
theorem d_M_lineBreak_19 : decode c_M_lineBreak 19 = .ok (.iconst 1, 1) := by decide +kernel
theorem d_M_lineBreak_20 : decode c_M_lineBreak 20 = .ok (.iadd, 1) := by decide +kernel
theorem d_M_lineBreak_21 : decode c_M_lineBreak 21 = .ok (.iload_n 2, 1) := by decide +kernel
theorem d_M_lineBreak_22 : decode c_M_lineBreak 22 = .ok (.if_icmp .ge 31, 3) := by decide +kernel
theorem d_M_lineBreak_25 : decode c_M_lineBreak 25 = .ok (.aload_n 0, 1) := by decide +kernel
theorem d_M_lineBreak_26 : decode c_M_lineBreak 26 = .ok (.getfield 13, 3) := by decide +kernel
theorem d_M_lineBreak_29 : decode c_M_lineBreak 29 = .ok (.iload_n 1, 1) := by decide +kernel
theorem d_M_lineBreak_30 : decode c_M_lineBreak 30 = .ok (.iaload, 1) := by decide +kernel
theorem d_M_lineBreak_31 : decode c_M_lineBreak 31 = .ok (.bipush 13, 2) := by decide +kernel
theorem d_M_lineBreak_33 : decode c_M_lineBreak 33 = .ok (.if_icmp .ne 20, 3) := by decide +kernel
theorem d_M_lineBreak_36 : decode c_M_lineBreak 36 = .ok (.aload_n 0, 1) := by decide +kernel
theorem d_M_lineBreak_37 : decode c_M_lineBreak 37 = .ok (.getfield 13, 3) := by decide +kernel
theorem d_M_lineBreak_40 : decode c_M_lineBreak 40 = .ok (.iload_n 1, 1) := by decide +kernel
theorem d_M_lineBreak_41 : decode c_M_lineBreak 41 = .ok (.iconst 1, 1) := by decide +kernel
theorem d_M_lineBreak_42 : decode c_M_lineBreak 42 = .ok (.iadd, 1) := by decide +kernel
theorem d_M_lineBreak_43 : decode c_M_lineBreak 43 = .ok (.iaload, 1) := by decide +kernel
theorem d_M_lineBreak_44 : decode c_M_lineBreak 44 = .ok (.bipush 10, 2) := by decide +kernel
theorem d_M_lineBreak_46 : decode c_M_lineBreak 46 = .ok (.if_icmp .ne 7, 3) := by decide +kernel
theorem d_M_lineBreak_49 : decode c_M_lineBreak 49 = .ok (.iconst 2, 1) := by decide +kernel
theorem d_M_lineBreak_50 : decode c_M_lineBreak 50 = .ok (.goto 4, 3) := by decide +kernel
theorem d_M_lineBreak_53 : decode c_M_lineBreak 53 = .ok (.iconst 0, 1) := by decide +kernel
theorem d_M_lineBreak_54 : decode c_M_lineBreak 54 = .ok (.ireturn, 1) := by decide +kernel
theorem d_M_hex_0 : decode c_M_hex 0 = .ok (.iload_n 0, 1) := by decide +kernel
theorem d_M_hex_1 : decode c_M_hex 1 = .ok (.bipush 48, 2) := by decide +kernel
theorem d_M_hex_3 : decode c_M_hex 3 = .ok (.if_icmp .lt 14, 3) := by decide +kernel
theorem d_M_hex_6 : decode c_M_hex 6 = .ok (.iload_n 0, 1) := by decide +kernel
theorem d_M_hex_7 : decode c_M_hex 7 = .ok (.bipush 57, 2) := by decide +kernel
theorem d_M_hex_9 : decode c_M_hex 9 = .ok (.if_icmp .gt 8, 3) := by decide +kernel
theorem d_M_hex_12 : decode c_M_hex 12 = .ok (.iload_n 0, 1) := by decide +kernel
theorem d_M_hex_13 : decode c_M_hex 13 = .ok (.bipush 48, 2) := by decide +kernel
theorem d_M_hex_15 : decode c_M_hex 15 = .ok (.isub, 1) := by decide +kernel
theorem d_M_hex_16 : decode c_M_hex 16 = .ok (.ireturn, 1) := by decide +kernel
theorem d_M_hex_17 : decode c_M_hex 17 = .ok (.iload_n 0, 1) := by decide +kernel
theorem d_M_hex_18 : decode c_M_hex 18 = .ok (.bipush 65, 2) := by decide +kernel
theorem d_M_hex_20 : decode c_M_hex 20 = .ok (.if_icmp .lt 14, 3) := by decide +kernel
theorem d_M_hex_23 : decode c_M_hex 23 = .ok (.iload_n 0, 1) := by decide +kernel
theorem d_M_hex_24 : decode c_M_hex 24 = .ok (.bipush 70, 2) := by decide +kernel
theorem d_M_hex_26 : decode c_M_hex 26 = .ok (.if_icmp .gt 8, 3) := by decide +kernel
theorem d_M_hex_29 : decode c_M_hex 29 = .ok (.iload_n 0, 1) := by decide +kernel
theorem d_M_hex_30 : decode c_M_hex 30 = .ok (.bipush 55, 2) := by decide +kernel
theorem d_M_hex_32 : decode c_M_hex 32 = .ok (.isub, 1) := by decide +kernel
theorem d_M_hex_33 : decode c_M_hex 33 = .ok (.ireturn, 1) := by decide +kernel
theorem d_M_hex_34 : decode c_M_hex 34 = .ok (.iload_n 0, 1) := by decide +kernel
theorem d_M_hex_35 : decode c_M_hex 35 = .ok (.bipush 97, 2) := by decide +kernel
theorem d_M_hex_37 : decode c_M_hex 37 = .ok (.if_icmp .lt 16, 3) := by decide +kernel
theorem d_M_hex_40 : decode c_M_hex 40 = .ok (.iload_n 0, 1) := by decide +kernel
theorem d_M_hex_41 : decode c_M_hex 41 = .ok (.bipush 102, 2) := by decide +kernel
theorem d_M_hex_43 : decode c_M_hex 43 = .ok (.if_icmp .gt 10, 3) := by decide +kernel
theorem d_M_hex_46 : decode c_M_hex 46 = .ok (.iload_n 0, 1) := by decide +kernel
theorem d_M_hex_47 : decode c_M_hex 47 = .ok (.bipush 87, 2) := by decide +kernel
theorem d_M_hex_49 : decode c_M_hex 49 = .ok (.isub, 1) := by decide +kernel
theorem d_M_hex_50 : decode c_M_hex 50 = .ok (.goto 4, 3) := by decide +kernel
theorem d_M_hex_53 : decode c_M_hex 53 = .ok (.iconst (-1), 1) := by decide +kernel
theorem d_M_hex_54 : decode c_M_hex 54 = .ok (.ireturn, 1) := by decide +kernel
theorem d_M_parts_0 : decode c_M_parts 0 = .ok (.iconst 0, 1) := by decide +kernel
theorem d_M_parts_1 : decode c_M_parts 1 = .ok (.istore_n 2, 1) := by decide +kernel
theorem d_M_parts_2 : decode c_M_parts 2 = .ok (.aload_n 0, 1) := by decide +kernel
theorem d_M_parts_3 : decode c_M_parts 3 = .ok (.iload_n 1, 1) := by decide +kernel
theorem d_M_parts_4 : decode c_M_parts 4 = .ok (.bipush 8, 2) := by decide +kernel
theorem d_M_parts_6 : decode c_M_parts 6 = .ok (.invokevirtual 59, 3) := by decide +kernel
theorem d_M_parts_9 : decode c_M_parts 9 = .ok (.istore_n 3, 1) := by decide +kernel
theorem d_M_parts_10 : decode c_M_parts 10 = .ok (.aload_n 0, 1) := by decide +kernel
theorem d_M_parts_11 : decode c_M_parts 11 = .ok (.iload_n 1, 1) := by decide +kernel
theorem d_M_parts_12 : decode c_M_parts 12 = .ok (.bipush 9, 2) := by decide +kernel
theorem d_M_parts_14 : decode c_M_parts 14 = .ok (.invokevirtual 59, 3) := by decide +kernel
theorem d_M_parts_17 : decode c_M_parts 17 = .ok (.istore 4, 2) := by decide +kernel
theorem d_M_parts_19 : decode c_M_parts 19 = .ok (.iconst 0, 1) := by decide +kernel
theorem d_M_parts_20 : decode c_M_parts 20 = .ok (.istore 5, 2) := by decide +kernel
theorem d_M_parts_22 : decode c_M_parts 22 = .ok (.iload_n 3, 1) := by decide +kernel
theorem d_M_parts_23 : decode c_M_parts 23 = .ok (.istore 6, 2) := by decide +kernel
theorem d_M_parts_25 : decode c_M_parts 25 = .ok (.iload_n 3, 1) := by decide +kernel
theorem d_M_parts_26 : decode c_M_parts 26 = .ok (.iload 4, 2) := by decide +kernel
theorem d_M_parts_28 : decode c_M_parts 28 = .ok (.if_icmp .ge 115, 3) := by decide +kernel
theorem d_M_parts_31 : decode c_M_parts 31 = .ok (.aload_n 0, 1) := by decide +kernel
theorem d_M_parts_32 : decode c_M_parts 32 = .ok (.iload_n 3, 1) := by decide +kernel
theorem d_M_parts_33 : decode c_M_parts 33 = .ok (.iload 4, 2) := by decide +kernel
theorem d_M_parts_35 : decode c_M_parts 35 = .ok (.invokevirtual 74, 3) := by decide +kernel
theorem d_M_parts_38 : decode c_M_parts 38 = .ok (.istore 7, 2) := by decide +kernel
theorem d_M_parts_40 : decode c_M_parts 40 = .ok (.aload_n 0, 1) := by decide +kernel
theorem d_M_parts_41 : decode c_M_parts 41 = .ok (.iload_n 1, 1) := by decide +kernel
theorem d_M_parts_42 : decode c_M_parts 42 = .ok (.iload_n 3, 1) := by decide +kernel
theorem d_M_parts_43 : decode c_M_parts 43 = .ok (.iload 7, 2) := by decide +kernel
theorem d_M_parts_45 : decode c_M_parts 45 = .ok (.invokevirtual 172, 3) := by decide +kernel
theorem d_M_parts_48 : decode c_M_parts 48 = .ok (.istore 8, 2) := by decide +kernel
theorem d_M_parts_50 : decode c_M_parts 50 = .ok (.iload 8, 2) := by decide +kernel
theorem d_M_parts_52 : decode c_M_parts 52 = .ok (.ifCond .le 23, 3) := by decide +kernel
theorem d_M_parts_55 : decode c_M_parts 55 = .ok (.iload 5, 2) := by decide +kernel
theorem d_M_parts_57 : decode c_M_parts 57 = .ok (.ifCond .eq 18, 3) := by decide +kernel
theorem d_M_parts_60 : decode c_M_parts 60 = .ok (.aload_n 0, 1) := by decide +kernel
theorem d_M_parts_61 : decode c_M_parts 61 = .ok (.getfield 28, 3) := by decide +kernel
theorem d_M_parts_64 : decode c_M_parts 64 = .ok (.iconst 2, 1) := by decide +kernel
theorem d_M_parts_65 : decode c_M_parts 65 = .ok (.iload_n 2, 1) := by decide +kernel
theorem d_M_parts_66 : decode c_M_parts 66 = .ok (.imul, 1) := by decide +kernel
theorem d_M_parts_67 : decode c_M_parts 67 = .ok (.iconst 1, 1) := by decide +kernel
theorem d_M_parts_68 : decode c_M_parts 68 = .ok (.isub, 1) := by decide +kernel
theorem d_M_parts_69 : decode c_M_parts 69 = .ok (.iload 6, 2) := by decide +kernel
theorem d_M_parts_71 : decode c_M_parts 71 = .ok (.iastore, 1) := by decide +kernel
theorem d_M_parts_72 : decode c_M_parts 72 = .ok (.iconst 0, 1) := by decide +kernel
theorem d_M_parts_73 : decode c_M_parts 73 = .ok (.istore 5, 2) := by decide +kernel
theorem d_M_parts_75 : decode c_M_parts 75 = .ok (.iload 8, 2) := by decide +kernel
theorem d_M_parts_77 : decode c_M_parts 77 = .ok (.iconst 2, 1) := by decide +kernel
theorem d_M_parts_78 : decode c_M_parts 78 = .ok (.if_icmp .ne 5, 3) := by decide +kernel
theorem d_M_parts_81 : decode c_M_parts 81 = .ok (.iload_n 2, 1) := by decide +kernel
theorem d_M_parts_82 : decode c_M_parts 82 = .ok (.ireturn, 1) := by decide +kernel
theorem d_M_parts_83 : decode c_M_parts 83 = .ok (.aload_n 0, 1) := by decide +kernel
theorem d_M_parts_84 : decode c_M_parts 84 = .ok (.iload_n 3, 1) := by decide +kernel
theorem d_M_parts_85 : decode c_M_parts 85 = .ok (.iload 4, 2) := by decide +kernel
theorem d_M_parts_87 : decode c_M_parts 87 = .ok (.invokevirtual 52, 3) := by decide +kernel
theorem d_M_parts_90 : decode c_M_parts 90 = .ok (.istore 9, 2) := by decide +kernel
theorem d_M_parts_92 : decode c_M_parts 92 = .ok (.iload 8, 2) := by decide +kernel
theorem d_M_parts_94 : decode c_M_parts 94 = .ok (.iconst 1, 1) := by decide +kernel
theorem d_M_parts_95 : decode c_M_parts 95 = .ok (.if_icmp .ne 38, 3) := by decide +kernel
theorem d_M_parts_98 : decode c_M_parts 98 = .ok (.aload_n 0, 1) := by decide +kernel
theorem d_M_parts_99 : decode c_M_parts 99 = .ok (.getfield 28, 3) := by decide +kernel
theorem d_M_parts_102 : decode c_M_parts 102 = .ok (.iconst 2, 1) := by decide +kernel
theorem d_M_parts_103 : decode c_M_parts 103 = .ok (.iload_n 2, 1) := by decide +kernel
theorem d_M_parts_104 : decode c_M_parts 104 = .ok (.imul, 1) := by decide +kernel
theorem d_M_parts_105 : decode c_M_parts 105 = .ok (.iload 9, 2) := by decide +kernel
theorem d_M_parts_107 : decode c_M_parts 107 = .ok (.iastore, 1) := by decide +kernel
theorem d_M_parts_108 : decode c_M_parts 108 = .ok (.aload_n 0, 1) := by decide +kernel
theorem d_M_parts_109 : decode c_M_parts 109 = .ok (.getfield 28, 3) := by decide +kernel
theorem d_M_parts_112 : decode c_M_parts 112 = .ok (.iconst 2, 1) := by decide +kernel
theorem d_M_parts_113 : decode c_M_parts 113 = .ok (.iload_n 2, 1) := by decide +kernel
theorem d_M_parts_114 : decode c_M_parts 114 = .ok (.imul, 1) := by decide +kernel
theorem d_M_parts_115 : decode c_M_parts 115 = .ok (.iconst 1, 1) := by decide +kernel
theorem d_M_parts_116 : decode c_M_parts 116 = .ok (.iadd, 1) := by decide +kernel
theorem d_M_parts_117 : decode c_M_parts 117 = .ok (.iload 4, 2) := by decide +kernel
theorem d_M_parts_119 : decode c_M_parts 119 = .ok (.iastore, 1) := by decide +kernel
theorem d_M_parts_120 : decode c_M_parts 120 = .ok (.iinc 2 1, 3) := by decide +kernel
theorem d_M_parts_123 : decode c_M_parts 123 = .ok (.iconst 1, 1) := by decide +kernel
theorem d_M_parts_124 : decode c_M_parts 124 = .ok (.istore 5, 2) := by decide +kernel
theorem d_M_parts_126 : decode c_M_parts 126 = .ok (.iload 9, 2) := by decide +kernel
theorem d_M_parts_128 : decode c_M_parts 128 = .ok (.istore 6, 2) := by decide +kernel
theorem d_M_parts_130 : decode c_M_parts 130 = .ok (.goto 7, 3) := by decide +kernel
theorem d_M_parts_133 : decode c_M_parts 133 = .ok (.iload 7, 2) := by decide +kernel
theorem d_M_parts_135 : decode c_M_parts 135 = .ok (.istore 6, 2) := by decide +kernel
theorem d_M_parts_137 : decode c_M_parts 137 = .ok (.iload 9, 2) := by decide +kernel
theorem d_M_parts_139 : decode c_M_parts 139 = .ok (.istore_n 3, 1) := by decide +kernel
theorem d_M_parts_140 : decode c_M_parts 140 = .ok (.goto (-115), 3) := by decide +kernel
theorem d_M_parts_143 : decode c_M_parts 143 = .ok (.iload_n 2, 1) := by decide +kernel
theorem d_M_parts_144 : decode c_M_parts 144 = .ok (.ireturn, 1) := by decide +kernel
theorem d_M_delimiter_0 : decode c_M_delimiter 0 = .ok (.aload_n 0, 1) := by decide +kernel
theorem d_M_delimiter_1 : decode c_M_delimiter 1 = .ok (.iload_n 1, 1) := by decide +kernel
theorem d_M_delimiter_2 : decode c_M_delimiter 2 = .ok (.bipush 12, 2) := by decide +kernel
theorem d_M_delimiter_4 : decode c_M_delimiter 4 = .ok (.invokevirtual 59, 3) := by decide +kernel
theorem d_M_delimiter_7 : decode c_M_delimiter 7 = .ok (.istore 4, 2) := by decide +kernel
theorem d_M_delimiter_9 : decode c_M_delimiter 9 = .ok (.iload_n 3, 1) := by decide +kernel
theorem d_M_delimiter_10 : decode c_M_delimiter 10 = .ok (.iload_n 2, 1) := by decide +kernel
theorem d_M_delimiter_11 : decode c_M_delimiter 11 = .ok (.isub, 1) := by decide +kernel
theorem d_M_delimiter_12 : decode c_M_delimiter 12 = .ok (.iload 4, 2) := by decide +kernel
theorem d_M_delimiter_14 : decode c_M_delimiter 14 = .ok (.iconst 2, 1) := by decide +kernel
theorem d_M_delimiter_15 : decode c_M_delimiter 15 = .ok (.iadd, 1) := by decide +kernel
theorem d_M_delimiter_16 : decode c_M_delimiter 16 = .ok (.if_icmp .lt 27, 3) := by decide +kernel
theorem d_M_delimiter_19 : decode c_M_delimiter 19 = .ok (.aload_n 0, 1) := by decide +kernel
theorem d_M_delimiter_20 : decode c_M_delimiter 20 = .ok (.getfield 13, 3) := by decide +kernel
theorem d_M_delimiter_23 : decode c_M_delimiter 23 = .ok (.iload_n 2, 1) := by decide +kernel
theorem d_M_delimiter_24 : decode c_M_delimiter 24 = .ok (.iaload, 1) := by decide +kernel
theorem d_M_delimiter_25 : decode c_M_delimiter 25 = .ok (.bipush 45, 2) := by decide +kernel
theorem d_M_delimiter_27 : decode c_M_delimiter 27 = .ok (.if_icmp .ne 16, 3) := by decide +kernel
theorem d_M_delimiter_30 : decode c_M_delimiter 30 = .ok (.aload_n 0, 1) := by decide +kernel
theorem d_M_delimiter_31 : decode c_M_delimiter 31 = .ok (.getfield 13, 3) := by decide +kernel
theorem d_M_delimiter_34 : decode c_M_delimiter 34 = .ok (.iload_n 2, 1) := by decide +kernel
theorem d_M_delimiter_35 : decode c_M_delimiter 35 = .ok (.iconst 1, 1) := by decide +kernel
theorem d_M_delimiter_36 : decode c_M_delimiter 36 = .ok (.iadd, 1) := by decide +kernel
theorem d_M_delimiter_37 : decode c_M_delimiter 37 = .ok (.iaload, 1) := by decide +kernel
theorem d_M_delimiter_38 : decode c_M_delimiter 38 = .ok (.bipush 45, 2) := by decide +kernel
theorem d_M_delimiter_40 : decode c_M_delimiter 40 = .ok (.if_icmp .eq 5, 3) := by decide +kernel
theorem d_M_delimiter_43 : decode c_M_delimiter 43 = .ok (.iconst 0, 1) := by decide +kernel
theorem d_M_delimiter_44 : decode c_M_delimiter 44 = .ok (.ireturn, 1) := by decide +kernel
theorem d_M_delimiter_45 : decode c_M_delimiter 45 = .ok (.iconst 0, 1) := by decide +kernel
theorem d_M_delimiter_46 : decode c_M_delimiter 46 = .ok (.istore 5, 2) := by decide +kernel
theorem d_M_delimiter_48 : decode c_M_delimiter 48 = .ok (.iload 5, 2) := by decide +kernel
theorem d_M_delimiter_50 : decode c_M_delimiter 50 = .ok (.iload 4, 2) := by decide +kernel
theorem d_M_delimiter_52 : decode c_M_delimiter 52 = .ok (.if_icmp .ge 40, 3) := by decide +kernel
theorem d_M_delimiter_55 : decode c_M_delimiter 55 = .ok (.aload_n 0, 1) := by decide +kernel
theorem d_M_delimiter_56 : decode c_M_delimiter 56 = .ok (.getfield 13, 3) := by decide +kernel
theorem d_M_delimiter_59 : decode c_M_delimiter 59 = .ok (.iload_n 2, 1) := by decide +kernel
theorem d_M_delimiter_60 : decode c_M_delimiter 60 = .ok (.iconst 2, 1) := by decide +kernel
theorem d_M_delimiter_61 : decode c_M_delimiter 61 = .ok (.iadd, 1) := by decide +kernel
theorem d_M_delimiter_62 : decode c_M_delimiter 62 = .ok (.iload 5, 2) := by decide +kernel
theorem d_M_delimiter_64 : decode c_M_delimiter 64 = .ok (.iadd, 1) := by decide +kernel
theorem d_M_delimiter_65 : decode c_M_delimiter 65 = .ok (.iaload, 1) := by decide +kernel
theorem d_M_delimiter_66 : decode c_M_delimiter 66 = .ok (.aload_n 0, 1) := by decide +kernel
theorem d_M_delimiter_67 : decode c_M_delimiter 67 = .ok (.getfield 22, 3) := by decide +kernel
theorem d_M_delimiter_70 : decode c_M_delimiter 70 = .ok (.aload_n 0, 1) := by decide +kernel
theorem d_M_delimiter_71 : decode c_M_delimiter 71 = .ok (.iload_n 1, 1) := by decide +kernel
theorem d_M_delimiter_72 : decode c_M_delimiter 72 = .ok (.bipush 11, 2) := by decide +kernel
theorem d_M_delimiter_74 : decode c_M_delimiter 74 = .ok (.invokevirtual 59, 3) := by decide +kernel
theorem d_M_delimiter_77 : decode c_M_delimiter 77 = .ok (.iload 5, 2) := by decide +kernel
theorem d_M_delimiter_79 : decode c_M_delimiter 79 = .ok (.iadd, 1) := by decide +kernel
theorem d_M_delimiter_80 : decode c_M_delimiter 80 = .ok (.iaload, 1) := by decide +kernel
theorem d_M_delimiter_81 : decode c_M_delimiter 81 = .ok (.if_icmp .eq 5, 3) := by decide +kernel
theorem d_M_delimiter_84 : decode c_M_delimiter 84 = .ok (.iconst 0, 1) := by decide +kernel
theorem d_M_delimiter_85 : decode c_M_delimiter 85 = .ok (.ireturn, 1) := by decide +kernel
theorem d_M_delimiter_86 : decode c_M_delimiter 86 = .ok (.iinc 5 1, 3) := by decide +kernel
theorem d_M_delimiter_89 : decode c_M_delimiter 89 = .ok (.goto (-41), 3) := by decide +kernel
theorem d_M_delimiter_92 : decode c_M_delimiter 92 = .ok (.iload_n 2, 1) := by decide +kernel
theorem d_M_delimiter_93 : decode c_M_delimiter 93 = .ok (.iconst 2, 1) := by decide +kernel
theorem d_M_delimiter_94 : decode c_M_delimiter 94 = .ok (.iadd, 1) := by decide +kernel
theorem d_M_delimiter_95 : decode c_M_delimiter 95 = .ok (.iload 4, 2) := by decide +kernel
theorem d_M_delimiter_97 : decode c_M_delimiter 97 = .ok (.iadd, 1) := by decide +kernel
theorem d_M_delimiter_98 : decode c_M_delimiter 98 = .ok (.istore 5, 2) := by decide +kernel
theorem d_M_delimiter_100 : decode c_M_delimiter 100 = .ok (.iload_n 3, 1) := by decide +kernel
theorem d_M_delimiter_101 : decode c_M_delimiter 101 = .ok (.iload 5, 2) := by decide +kernel
theorem d_M_delimiter_103 : decode c_M_delimiter 103 = .ok (.isub, 1) := by decide +kernel
theorem d_M_delimiter_104 : decode c_M_delimiter 104 = .ok (.iconst 2, 1) := by decide +kernel
theorem d_M_delimiter_105 : decode c_M_delimiter 105 = .ok (.if_icmp .lt 33, 3) := by decide +kernel
theorem d_M_delimiter_108 : decode c_M_delimiter 108 = .ok (.aload_n 0, 1) := by decide +kernel
theorem d_M_delimiter_109 : decode c_M_delimiter 109 = .ok (.getfield 13, 3) := by decide +kernel
theorem d_M_delimiter_112 : decode c_M_delimiter 112 = .ok (.iload 5, 2) := by decide +kernel
theorem d_M_delimiter_114 : decode c_M_delimiter 114 = .ok (.iaload, 1) := by decide +kernel
theorem d_M_delimiter_115 : decode c_M_delimiter 115 = .ok (.bipush 45, 2) := by decide +kernel
theorem d_M_delimiter_117 : decode c_M_delimiter 117 = .ok (.if_icmp .ne 21, 3) := by decide +kernel
theorem d_M_delimiter_120 : decode c_M_delimiter 120 = .ok (.aload_n 0, 1) := by decide +kernel
theorem d_M_delimiter_121 : decode c_M_delimiter 121 = .ok (.getfield 13, 3) := by decide +kernel
theorem d_M_delimiter_124 : decode c_M_delimiter 124 = .ok (.iload 5, 2) := by decide +kernel
theorem d_M_delimiter_126 : decode c_M_delimiter 126 = .ok (.iconst 1, 1) := by decide +kernel
theorem d_M_delimiter_127 : decode c_M_delimiter 127 = .ok (.iadd, 1) := by decide +kernel
theorem d_M_delimiter_128 : decode c_M_delimiter 128 = .ok (.iaload, 1) := by decide +kernel
theorem d_M_delimiter_129 : decode c_M_delimiter 129 = .ok (.bipush 45, 2) := by decide +kernel
theorem d_M_delimiter_131 : decode c_M_delimiter 131 = .ok (.if_icmp .ne 7, 3) := by decide +kernel
theorem d_M_delimiter_134 : decode c_M_delimiter 134 = .ok (.iconst 1, 1) := by decide +kernel
theorem d_M_delimiter_135 : decode c_M_delimiter 135 = .ok (.goto 4, 3) := by decide +kernel
theorem d_M_delimiter_138 : decode c_M_delimiter 138 = .ok (.iconst 0, 1) := by decide +kernel
theorem d_M_delimiter_139 : decode c_M_delimiter 139 = .ok (.istore 6, 2) := by decide +kernel
theorem d_M_delimiter_141 : decode c_M_delimiter 141 = .ok (.iload 6, 2) := by decide +kernel
theorem d_M_delimiter_143 : decode c_M_delimiter 143 = .ok (.ifCond .eq 6, 3) := by decide +kernel
theorem d_M_delimiter_146 : decode c_M_delimiter 146 = .ok (.iinc 5 2, 3) := by decide +kernel
theorem d_M_delimiter_149 : decode c_M_delimiter 149 = .ok (.iload 5, 2) := by decide +kernel
theorem d_M_delimiter_151 : decode c_M_delimiter 151 = .ok (.iload_n 3, 1) := by decide +kernel
theorem d_M_delimiter_152 : decode c_M_delimiter 152 = .ok (.if_icmp .ge 22, 3) := by decide +kernel
theorem d_M_delimiter_155 : decode c_M_delimiter 155 = .ok (.aload_n 0, 1) := by decide +kernel
theorem d_M_delimiter_156 : decode c_M_delimiter 156 = .ok (.getfield 13, 3) := by decide +kernel
theorem d_M_delimiter_159 : decode c_M_delimiter 159 = .ok (.iload 5, 2) := by decide +kernel
theorem d_M_delimiter_161 : decode c_M_delimiter 161 = .ok (.iaload, 1) := by decide +kernel
theorem d_M_delimiter_162 : decode c_M_delimiter 162 = .ok (.invokestatic 62, 3) := by decide +kernel
theorem d_M_delimiter_165 : decode c_M_delimiter 165 = .ok (.ifCond .eq 9, 3) := by decide +kernel
theorem d_M_delimiter_168 : decode c_M_delimiter 168 = .ok (.iinc 5 1, 3) := by decide +kernel
theorem d_M_delimiter_171 : decode c_M_delimiter 171 = .ok (.goto (-22), 3) := by decide +kernel
theorem d_M_delimiter_174 : decode c_M_delimiter 174 = .ok (.iload 5, 2) := by decide +kernel
theorem d_M_delimiter_176 : decode c_M_delimiter 176 = .ok (.iload_n 3, 1) := by decide +kernel
theorem d_M_delimiter_177 : decode c_M_delimiter 177 = .ok (.if_icmp .ge 7, 3) := by decide +kernel
theorem d_M_delimiter_180 : decode c_M_delimiter 180 = .ok (.iconst 0, 1) := by decide +kernel
theorem d_M_delimiter_181 : decode c_M_delimiter 181 = .ok (.goto 13, 3) := by decide +kernel
theorem d_M_delimiter_184 : decode c_M_delimiter 184 = .ok (.iload 6, 2) := by decide +kernel
theorem d_M_delimiter_186 : decode c_M_delimiter 186 = .ok (.ifCond .eq 7, 3) := by decide +kernel
theorem d_M_delimiter_189 : decode c_M_delimiter 189 = .ok (.iconst 2, 1) := by decide +kernel
theorem d_M_delimiter_190 : decode c_M_delimiter 190 = .ok (.goto 4, 3) := by decide +kernel
theorem d_M_delimiter_193 : decode c_M_delimiter 193 = .ok (.iconst 1, 1) := by decide +kernel
theorem d_M_delimiter_194 : decode c_M_delimiter 194 = .ok (.ireturn, 1) := by decide +kernel
theorem d_M_entities_0 : decode c_M_entities 0 = .ok (.aload_n 0, 1) := by decide +kernel
theorem d_M_entities_1 : decode c_M_entities 1 = .ok (.iconst 0, 1) := by decide +kernel
theorem d_M_entities_2 : decode c_M_entities 2 = .ok (.putfield 43, 3) := by decide +kernel
theorem d_M_entities_5 : decode c_M_entities 5 = .ok (.aload_n 0, 1) := by decide +kernel
theorem d_M_entities_6 : decode c_M_entities 6 = .ok (.getfield 196, 3) := by decide +kernel
theorem d_M_entities_9 : decode c_M_entities 9 = .ok (.ireturn, 1) := by decide +kernel
theorem d_M_look_0 : decode c_M_look 0 = .ok (.aload_n 0, 1) := by decide +kernel
theorem d_M_look_1 : decode c_M_look 1 = .ok (.iload_n 1, 1) := by decide +kernel
theorem d_M_look_2 : decode c_M_look 2 = .ok (.invokevirtual 224, 3) := by decide +kernel
theorem d_M_look_5 : decode c_M_look 5 = .ok (.ifCond .ne 7, 3) := by decide +kernel
theorem d_M_look_8 : decode c_M_look 8 = .ok (.iconst 1, 1) := by decide +kernel
theorem d_M_look_9 : decode c_M_look 9 = .ok (.goto 4, 3) := by decide +kernel
theorem d_M_look_12 : decode c_M_look 12 = .ok (.iconst 0, 1) := by decide +kernel
theorem d_M_look_13 : decode c_M_look 13 = .ok (.istore_n 3, 1) := by decide +kernel
theorem d_M_look_14 : decode c_M_look 14 = .ok (.aload_n 0, 1) := by decide +kernel
theorem d_M_look_15 : decode c_M_look 15 = .ok (.iload_n 3, 1) := by decide +kernel
theorem d_M_look_16 : decode c_M_look 16 = .ok (.iload_n 3, 1) := by decide +kernel
theorem d_M_look_17 : decode c_M_look 17 = .ok (.ifCond .ne 17, 3) := by decide +kernel
theorem d_M_look_20 : decode c_M_look 20 = .ok (.iload_n 2, 1) := by decide +kernel
theorem d_M_look_21 : decode c_M_look 21 = .ok (.ifCond .lt 9, 3) := by decide +kernel
theorem d_M_look_24 : decode c_M_look 24 = .ok (.iload_n 2, 1) := by decide +kernel
theorem d_M_look_25 : decode c_M_look 25 = .ok (.bipush 9, 2) := by decide +kernel
theorem d_M_look_27 : decode c_M_look 27 = .ok (.if_icmp .le 7, 3) := by decide +kernel
theorem d_M_look_30 : decode c_M_look 30 = .ok (.iconst 1, 1) := by decide +kernel
theorem d_M_look_31 : decode c_M_look 31 = .ok (.goto 4, 3) := by decide +kernel
theorem d_M_look_34 : decode c_M_look 34 = .ok (.iconst 0, 1) := by decide +kernel
theorem d_M_look_35 : decode c_M_look 35 = .ok (.invokevirtual 227, 3) := by decide +kernel
theorem d_M_look_38 : decode c_M_look 38 = .ok (.ifCond .eq 7, 3) := by decide +kernel
theorem d_M_look_41 : decode c_M_look 41 = .ok (.iconst 0, 1) := by decide +kernel
theorem d_M_look_42 : decode c_M_look 42 = .ok (.goto 9, 3) := by decide +kernel
theorem d_M_look_45 : decode c_M_look 45 = .ok (.aload_n 0, 1) := by decide +kernel
theorem d_M_look_46 : decode c_M_look 46 = .ok (.iload_n 1, 1) := by decide +kernel
theorem d_M_look_47 : decode c_M_look 47 = .ok (.iload_n 2, 1) := by decide +kernel
theorem d_M_look_48 : decode c_M_look 48 = .ok (.invokevirtual 59, 3) := by decide +kernel
theorem d_M_look_51 : decode c_M_look 51 = .ok (.ireturn, 1) := by decide +kernel
theorem d_M_isEntity_0 : decode c_M_isEntity 0 = .ok (.iload_n 1, 1) := by decide +kernel
theorem d_M_isEntity_1 : decode c_M_isEntity 1 = .ok (.ifCond .lt 15, 3) := by decide +kernel
theorem d_M_isEntity_4 : decode c_M_isEntity 4 = .ok (.iload_n 1, 1) := by decide +kernel
theorem d_M_isEntity_5 : decode c_M_isEntity 5 = .ok (.aload_n 0, 1) := by decide +kernel
theorem d_M_isEntity_6 : decode c_M_isEntity 6 = .ok (.getfield 196, 3) := by decide +kernel
theorem d_M_isEntity_9 : decode c_M_isEntity 9 = .ok (.if_icmp .ge 7, 3) := by decide +kernel
theorem d_M_isEntity_12 : decode c_M_isEntity 12 = .ok (.iconst 1, 1) := by decide +kernel
theorem d_M_isEntity_13 : decode c_M_isEntity 13 = .ok (.goto 4, 3) := by decide +kernel
theorem d_M_isEntity_16 : decode c_M_isEntity 16 = .ok (.iconst 0, 1) := by decide +kernel
theorem d_M_isEntity_17 : decode c_M_isEntity 17 = .ok (.ireturn, 1) := by decide +kernel
theorem d_M_fails_0 : decode c_M_fails 0 = .ok (.aload_n 0, 1) := by decide +kernel
theorem d_M_fails_1 : decode c_M_fails 1 = .ok (.iload_n 1, 1) := by decide +kernel
theorem d_M_fails_2 : decode c_M_fails 2 = .ok (.ifCond .eq 7, 3) := by decide +kernel
theorem d_M_fails_5 : decode c_M_fails 5 = .ok (.iconst 1, 1) := by decide +kernel
theorem d_M_fails_6 : decode c_M_fails 6 = .ok (.goto 12, 3) := by decide +kernel
theorem d_M_fails_9 : decode c_M_fails 9 = .ok (.iload_n 2, 1) := by decide +kernel
theorem d_M_fails_10 : decode c_M_fails 10 = .ok (.ifCond .eq 7, 3) := by decide +kernel
theorem d_M_fails_13 : decode c_M_fails 13 = .ok (.iconst 2, 1) := by decide +kernel
theorem d_M_fails_14 : decode c_M_fails 14 = .ok (.goto 4, 3) := by decide +kernel
theorem d_M_fails_17 : decode c_M_fails 17 = .ok (.iconst 0, 1) := by decide +kernel
theorem d_M_fails_18 : decode c_M_fails 18 = .ok (.putfield 43, 3) := by decide +kernel
theorem d_M_fails_21 : decode c_M_fails 21 = .ok (.aload_n 0, 1) := by decide +kernel
theorem d_M_fails_22 : decode c_M_fails 22 = .ok (.getfield 43, 3) := by decide +kernel
theorem d_M_fails_25 : decode c_M_fails 25 = .ok (.ifCond .le 7, 3) := by decide +kernel
theorem d_M_fails_28 : decode c_M_fails 28 = .ok (.iconst 1, 1) := by decide +kernel
theorem d_M_fails_29 : decode c_M_fails 29 = .ok (.goto 4, 3) := by decide +kernel
theorem d_M_fails_32 : decode c_M_fails 32 = .ok (.iconst 0, 1) := by decide +kernel
theorem d_M_fails_33 : decode c_M_fails 33 = .ok (.ireturn, 1) := by decide +kernel
theorem d_M_length_0 : decode c_M_length 0 = .ok (.aload_n 0, 1) := by decide +kernel
theorem d_M_length_1 : decode c_M_length 1 = .ok (.iload_n 1, 1) := by decide +kernel
theorem d_M_length_2 : decode c_M_length 2 = .ok (.iload_n 2, 1) := by decide +kernel
theorem d_M_length_3 : decode c_M_length 3 = .ok (.invokevirtual 231, 3) := by decide +kernel
theorem d_M_length_6 : decode c_M_length 6 = .ok (.ifCond .ne 7, 3) := by decide +kernel
theorem d_M_length_9 : decode c_M_length 9 = .ok (.iconst 1, 1) := by decide +kernel
theorem d_M_length_10 : decode c_M_length 10 = .ok (.goto 4, 3) := by decide +kernel
theorem d_M_length_13 : decode c_M_length 13 = .ok (.iconst 0, 1) := by decide +kernel
theorem d_M_length_14 : decode c_M_length 14 = .ok (.istore 4, 2) := by decide +kernel
theorem d_M_length_16 : decode c_M_length 16 = .ok (.aload_n 0, 1) := by decide +kernel
theorem d_M_length_17 : decode c_M_length 17 = .ok (.iload 4, 2) := by decide +kernel
theorem d_M_length_19 : decode c_M_length 19 = .ok (.iload 4, 2) := by decide +kernel
theorem d_M_length_21 : decode c_M_length 21 = .ok (.ifCond .ne 16, 3) := by decide +kernel
theorem d_M_length_24 : decode c_M_length 24 = .ok (.iload_n 3, 1) := by decide +kernel
theorem d_M_length_25 : decode c_M_length 25 = .ok (.ifCond .eq 12, 3) := by decide +kernel
theorem d_M_length_28 : decode c_M_length 28 = .ok (.iload_n 3, 1) := by decide +kernel
theorem d_M_length_29 : decode c_M_length 29 = .ok (.iconst 1, 1) := by decide +kernel
theorem d_M_length_30 : decode c_M_length 30 = .ok (.if_icmp .eq 7, 3) := by decide +kernel
theorem d_M_length_33 : decode c_M_length 33 = .ok (.iconst 1, 1) := by decide +kernel
theorem d_M_length_34 : decode c_M_length 34 = .ok (.goto 4, 3) := by decide +kernel
theorem d_M_length_37 : decode c_M_length 37 = .ok (.iconst 0, 1) := by decide +kernel
theorem d_M_length_38 : decode c_M_length 38 = .ok (.invokevirtual 227, 3) := by decide +kernel
theorem d_M_length_41 : decode c_M_length 41 = .ok (.ifCond .eq 7, 3) := by decide +kernel
theorem d_M_length_44 : decode c_M_length 44 = .ok (.iconst 0, 1) := by decide +kernel
theorem d_M_length_45 : decode c_M_length 45 = .ok (.goto 14, 3) := by decide +kernel
theorem d_M_length_48 : decode c_M_length 48 = .ok (.aload_n 0, 1) := by decide +kernel
theorem d_M_length_49 : decode c_M_length 49 = .ok (.iload_n 1, 1) := by decide +kernel
theorem d_M_length_50 : decode c_M_length 50 = .ok (.iload_n 2, 1) := by decide +kernel
theorem d_M_length_51 : decode c_M_length 51 = .ok (.iconst 1, 1) := by decide +kernel
theorem d_M_length_52 : decode c_M_length 52 = .ok (.iconst 2, 1) := by decide +kernel
theorem d_M_length_53 : decode c_M_length 53 = .ok (.iload_n 3, 1) := by decide +kernel
theorem d_M_length_54 : decode c_M_length 54 = .ok (.imul, 1) := by decide +kernel
theorem d_M_length_55 : decode c_M_length 55 = .ok (.iadd, 1) := by decide +kernel
theorem d_M_length_56 : decode c_M_length 56 = .ok (.invokevirtual 115, 3) := by decide +kernel
theorem d_M_length_59 : decode c_M_length 59 = .ok (.ireturn, 1) := by decide +kernel
theorem d_M_isField_0 : decode c_M_isField 0 = .ok (.aload_n 0, 1) := by decide +kernel
theorem d_M_isField_1 : decode c_M_isField 1 = .ok (.iload_n 1, 1) := by decide +kernel
theorem d_M_isField_2 : decode c_M_isField 2 = .ok (.invokevirtual 224, 3) := by decide +kernel
theorem d_M_isField_5 : decode c_M_isField 5 = .ok (.ifCond .eq 21, 3) := by decide +kernel
theorem d_M_isField_8 : decode c_M_isField 8 = .ok (.iload_n 2, 1) := by decide +kernel
theorem d_M_isField_9 : decode c_M_isField 9 = .ok (.ifCond .lt 17, 3) := by decide +kernel
theorem d_M_isField_12 : decode c_M_isField 12 = .ok (.iload_n 2, 1) := by decide +kernel
theorem d_M_isField_13 : decode c_M_isField 13 = .ok (.aload_n 0, 1) := by decide +kernel
theorem d_M_isField_14 : decode c_M_isField 14 = .ok (.iload_n 1, 1) := by decide +kernel
theorem d_M_isField_15 : decode c_M_isField 15 = .ok (.iconst 3, 1) := by decide +kernel
theorem d_M_isField_16 : decode c_M_isField 16 = .ok (.invokevirtual 59, 3) := by decide +kernel
theorem d_M_isField_19 : decode c_M_isField 19 = .ok (.if_icmp .ge 7, 3) := by decide +kernel
theorem d_M_isField_22 : decode c_M_isField 22 = .ok (.iconst 1, 1) := by decide +kernel
theorem d_M_isField_23 : decode c_M_isField 23 = .ok (.goto 4, 3) := by decide +kernel
theorem d_M_isField_26 : decode c_M_isField 26 = .ok (.iconst 0, 1) := by decide +kernel
theorem d_M_isField_27 : decode c_M_isField 27 = .ok (.ireturn, 1) := by decide +kernel
theorem d_M_letter_0 : decode c_M_letter 0 = .ok (.aload_n 0, 1) := by decide +kernel
theorem d_M_letter_1 : decode c_M_letter 1 = .ok (.iload_n 1, 1) := by decide +kernel
theorem d_M_letter_2 : decode c_M_letter 2 = .ok (.iload_n 2, 1) := by decide +kernel
theorem d_M_letter_3 : decode c_M_letter 3 = .ok (.invokevirtual 231, 3) := by decide +kernel
theorem d_M_letter_6 : decode c_M_letter 6 = .ok (.ifCond .ne 7, 3) := by decide +kernel
theorem d_M_letter_9 : decode c_M_letter 9 = .ok (.iconst 1, 1) := by decide +kernel
theorem d_M_letter_10 : decode c_M_letter 10 = .ok (.goto 4, 3) := by decide +kernel
theorem d_M_letter_13 : decode c_M_letter 13 = .ok (.iconst 0, 1) := by decide +kernel
theorem d_M_letter_14 : decode c_M_letter 14 = .ok (.istore 5, 2) := by decide +kernel
theorem d_M_letter_16 : decode c_M_letter 16 = .ok (.aload_n 0, 1) := by decide +kernel
theorem d_M_letter_17 : decode c_M_letter 17 = .ok (.iload 5, 2) := by decide +kernel
theorem d_M_letter_19 : decode c_M_letter 19 = .ok (.iload 5, 2) := by decide +kernel
theorem d_M_letter_21 : decode c_M_letter 21 = .ok (.ifCond .ne 16, 3) := by decide +kernel
theorem d_M_letter_24 : decode c_M_letter 24 = .ok (.iload_n 3, 1) := by decide +kernel
theorem d_M_letter_25 : decode c_M_letter 25 = .ok (.ifCond .eq 12, 3) := by decide +kernel
theorem d_M_letter_28 : decode c_M_letter 28 = .ok (.iload_n 3, 1) := by decide +kernel
theorem d_M_letter_29 : decode c_M_letter 29 = .ok (.iconst 1, 1) := by decide +kernel
theorem d_M_letter_30 : decode c_M_letter 30 = .ok (.if_icmp .eq 7, 3) := by decide +kernel
theorem d_M_letter_33 : decode c_M_letter 33 = .ok (.iconst 1, 1) := by decide +kernel
theorem d_M_letter_34 : decode c_M_letter 34 = .ok (.goto 4, 3) := by decide +kernel
theorem d_M_letter_37 : decode c_M_letter 37 = .ok (.iconst 0, 1) := by decide +kernel
theorem d_M_letter_38 : decode c_M_letter 38 = .ok (.invokevirtual 227, 3) := by decide +kernel
theorem d_M_letter_41 : decode c_M_letter 41 = .ok (.ifCond .eq 5, 3) := by decide +kernel
theorem d_M_letter_44 : decode c_M_letter 44 = .ok (.iconst 0, 1) := by decide +kernel
theorem d_M_letter_45 : decode c_M_letter 45 = .ok (.ireturn, 1) := by decide +kernel
theorem d_M_letter_46 : decode c_M_letter 46 = .ok (.aload_n 0, 1) := by decide +kernel
theorem d_M_letter_47 : decode c_M_letter 47 = .ok (.iload 4, 2) := by decide +kernel
theorem d_M_letter_49 : decode c_M_letter 49 = .ok (.ifCond .lt 19, 3) := by decide +kernel
theorem d_M_letter_52 : decode c_M_letter 52 = .ok (.iload 4, 2) := by decide +kernel
theorem d_M_letter_54 : decode c_M_letter 54 = .ok (.aload_n 0, 1) := by decide +kernel
theorem d_M_letter_55 : decode c_M_letter 55 = .ok (.iload_n 1, 1) := by decide +kernel
theorem d_M_letter_56 : decode c_M_letter 56 = .ok (.iload_n 2, 1) := by decide +kernel
theorem d_M_letter_57 : decode c_M_letter 57 = .ok (.iconst 1, 1) := by decide +kernel
theorem d_M_letter_58 : decode c_M_letter 58 = .ok (.iconst 2, 1) := by decide +kernel
theorem d_M_letter_59 : decode c_M_letter 59 = .ok (.iload_n 3, 1) := by decide +kernel
theorem d_M_letter_60 : decode c_M_letter 60 = .ok (.imul, 1) := by decide +kernel
theorem d_M_letter_61 : decode c_M_letter 61 = .ok (.iadd, 1) := by decide +kernel
theorem d_M_letter_62 : decode c_M_letter 62 = .ok (.invokevirtual 115, 3) := by decide +kernel
theorem d_M_letter_65 : decode c_M_letter 65 = .ok (.if_icmp .lt 7, 3) := by decide +kernel
theorem d_M_letter_68 : decode c_M_letter 68 = .ok (.iconst 1, 1) := by decide +kernel
theorem d_M_letter_69 : decode c_M_letter 69 = .ok (.goto 4, 3) := by decide +kernel
theorem d_M_letter_72 : decode c_M_letter 72 = .ok (.iconst 0, 1) := by decide +kernel
theorem d_M_letter_73 : decode c_M_letter 73 = .ok (.iconst 0, 1) := by decide +kernel
theorem d_M_letter_74 : decode c_M_letter 74 = .ok (.invokevirtual 227, 3) := by decide +kernel
theorem d_M_letter_77 : decode c_M_letter 77 = .ok (.ifCond .eq 5, 3) := by decide +kernel
theorem d_M_letter_80 : decode c_M_letter 80 = .ok (.iconst 0, 1) := by decide +kernel
theorem d_M_letter_81 : decode c_M_letter 81 = .ok (.ireturn, 1) := by decide +kernel
theorem d_M_letter_82 : decode c_M_letter 82 = .ok (.aload_n 0, 1) := by decide +kernel
theorem d_M_letter_83 : decode c_M_letter 83 = .ok (.getfield 22, 3) := by decide +kernel
theorem d_M_letter_86 : decode c_M_letter 86 = .ok (.aload_n 0, 1) := by decide +kernel
theorem d_M_letter_87 : decode c_M_letter 87 = .ok (.iload_n 1, 1) := by decide +kernel
theorem d_M_letter_88 : decode c_M_letter 88 = .ok (.iload_n 2, 1) := by decide +kernel
theorem d_M_letter_89 : decode c_M_letter 89 = .ok (.iconst 2, 1) := by decide +kernel
theorem d_M_letter_90 : decode c_M_letter 90 = .ok (.iload_n 3, 1) := by decide +kernel
theorem d_M_letter_91 : decode c_M_letter 91 = .ok (.imul, 1) := by decide +kernel
theorem d_M_letter_92 : decode c_M_letter 92 = .ok (.invokevirtual 115, 3) := by decide +kernel
theorem d_M_letter_95 : decode c_M_letter 95 = .ok (.iload 4, 2) := by decide +kernel
theorem d_M_letter_97 : decode c_M_letter 97 = .ok (.iadd, 1) := by decide +kernel
theorem d_M_letter_98 : decode c_M_letter 98 = .ok (.iaload, 1) := by decide +kernel
theorem d_M_letter_99 : decode c_M_letter 99 = .ok (.ireturn, 1) := by decide +kernel
theorem d_M_content_0 : decode c_M_content 0 = .ok (.aload_n 0, 1) := by decide +kernel
theorem d_M_content_1 : decode c_M_content 1 = .ok (.iload_n 1, 1) := by decide +kernel
theorem d_M_content_2 : decode c_M_content 2 = .ok (.invokevirtual 224, 3) := by decide +kernel
theorem d_M_content_5 : decode c_M_content 5 = .ok (.ifCond .eq 21, 3) := by decide +kernel
theorem d_M_content_8 : decode c_M_content 8 = .ok (.iload_n 2, 1) := by decide +kernel
theorem d_M_content_9 : decode c_M_content 9 = .ok (.ifCond .lt 17, 3) := by decide +kernel
theorem d_M_content_12 : decode c_M_content 12 = .ok (.iload_n 2, 1) := by decide +kernel
theorem d_M_content_13 : decode c_M_content 13 = .ok (.aload_n 0, 1) := by decide +kernel
theorem d_M_content_14 : decode c_M_content 14 = .ok (.iload_n 1, 1) := by decide +kernel
theorem d_M_content_15 : decode c_M_content 15 = .ok (.iconst 5, 1) := by decide +kernel
theorem d_M_content_16 : decode c_M_content 16 = .ok (.invokevirtual 59, 3) := by decide +kernel
theorem d_M_content_19 : decode c_M_content 19 = .ok (.if_icmp .ge 7, 3) := by decide +kernel
theorem d_M_content_22 : decode c_M_content 22 = .ok (.iconst 1, 1) := by decide +kernel
theorem d_M_content_23 : decode c_M_content 23 = .ok (.goto 4, 3) := by decide +kernel
theorem d_M_content_26 : decode c_M_content 26 = .ok (.iconst 0, 1) := by decide +kernel
theorem d_M_content_27 : decode c_M_content 27 = .ok (.istore_n 3, 1) := by decide +kernel
theorem d_M_content_28 : decode c_M_content 28 = .ok (.aload_n 0, 1) := by decide +kernel
theorem d_M_content_29 : decode c_M_content 29 = .ok (.iload_n 3, 1) := by decide +kernel
theorem d_M_content_30 : decode c_M_content 30 = .ok (.ifCond .ne 7, 3) := by decide +kernel
theorem d_M_content_33 : decode c_M_content 33 = .ok (.iconst 1, 1) := by decide +kernel
theorem d_M_content_34 : decode c_M_content 34 = .ok (.goto 4, 3) := by decide +kernel
theorem d_M_content_37 : decode c_M_content 37 = .ok (.iconst 0, 1) := by decide +kernel
theorem d_M_content_38 : decode c_M_content 38 = .ok (.iconst 0, 1) := by decide +kernel
theorem d_M_content_39 : decode c_M_content 39 = .ok (.invokevirtual 227, 3) := by decide +kernel
theorem d_M_content_42 : decode c_M_content 42 = .ok (.ifCond .eq 7, 3) := by decide +kernel
theorem d_M_content_45 : decode c_M_content 45 = .ok (.iconst 0, 1) := by decide +kernel
theorem d_M_content_46 : decode c_M_content 46 = .ok (.goto 17, 3) := by decide +kernel
theorem d_M_content_49 : decode c_M_content 49 = .ok (.aload_n 0, 1) := by decide +kernel
theorem d_M_content_50 : decode c_M_content 50 = .ok (.getfield 22, 3) := by decide +kernel
theorem d_M_content_53 : decode c_M_content 53 = .ok (.aload_n 0, 1) := by decide +kernel
theorem d_M_content_54 : decode c_M_content 54 = .ok (.iload_n 1, 1) := by decide +kernel
theorem d_M_content_55 : decode c_M_content 55 = .ok (.bipush 10, 2) := by decide +kernel
theorem d_M_content_57 : decode c_M_content 57 = .ok (.invokevirtual 59, 3) := by decide +kernel
theorem d_M_content_60 : decode c_M_content 60 = .ok (.iload_n 2, 1) := by decide +kernel
theorem d_M_content_61 : decode c_M_content 61 = .ok (.iadd, 1) := by decide +kernel
theorem d_M_content_62 : decode c_M_content 62 = .ok (.iaload, 1) := by decide +kernel
theorem d_M_content_63 : decode c_M_content 63 = .ok (.ireturn, 1) := by decide +kernel
theorem d_M_boundary_0 : decode c_M_boundary 0 = .ok (.aload_n 0, 1) := by decide +kernel
theorem d_M_boundary_1 : decode c_M_boundary 1 = .ok (.aload_n 0, 1) := by decide +kernel
theorem d_M_boundary_2 : decode c_M_boundary 2 = .ok (.iload_n 1, 1) := by decide +kernel
theorem d_M_boundary_3 : decode c_M_boundary 3 = .ok (.invokevirtual 224, 3) := by decide +kernel
theorem d_M_boundary_6 : decode c_M_boundary 6 = .ok (.ifCond .ne 7, 3) := by decide +kernel
theorem d_M_boundary_9 : decode c_M_boundary 9 = .ok (.iconst 1, 1) := by decide +kernel
theorem d_M_boundary_10 : decode c_M_boundary 10 = .ok (.goto 4, 3) := by decide +kernel
theorem d_M_boundary_13 : decode c_M_boundary 13 = .ok (.iconst 0, 1) := by decide +kernel
theorem d_M_boundary_14 : decode c_M_boundary 14 = .ok (.iconst 0, 1) := by decide +kernel
theorem d_M_boundary_15 : decode c_M_boundary 15 = .ok (.invokevirtual 227, 3) := by decide +kernel
theorem d_M_boundary_18 : decode c_M_boundary 18 = .ok (.ifCond .eq 5, 3) := by decide +kernel
theorem d_M_boundary_21 : decode c_M_boundary 21 = .ok (.iconst 0, 1) := by decide +kernel
theorem d_M_boundary_22 : decode c_M_boundary 22 = .ok (.ireturn, 1) := by decide +kernel
theorem d_M_boundary_23 : decode c_M_boundary 23 = .ok (.aload_n 0, 1) := by decide +kernel
theorem d_M_boundary_24 : decode c_M_boundary 24 = .ok (.iload_n 1, 1) := by decide +kernel
theorem d_M_boundary_25 : decode c_M_boundary 25 = .ok (.iconst 0, 1) := by decide +kernel
theorem d_M_boundary_26 : decode c_M_boundary 26 = .ok (.invokevirtual 59, 3) := by decide +kernel
theorem d_M_boundary_29 : decode c_M_boundary 29 = .ok (.iconst 1, 1) := by decide +kernel
theorem d_M_boundary_30 : decode c_M_boundary 30 = .ok (.if_icmp .ne 18, 3) := by decide +kernel
theorem d_M_boundary_33 : decode c_M_boundary 33 = .ok (.iload_n 2, 1) := by decide +kernel
theorem d_M_boundary_34 : decode c_M_boundary 34 = .ok (.ifCond .lt 14, 3) := by decide +kernel
theorem d_M_boundary_37 : decode c_M_boundary 37 = .ok (.iload_n 2, 1) := by decide +kernel
theorem d_M_boundary_38 : decode c_M_boundary 38 = .ok (.aload_n 0, 1) := by decide +kernel
theorem d_M_boundary_39 : decode c_M_boundary 39 = .ok (.iload_n 1, 1) := by decide +kernel
theorem d_M_boundary_40 : decode c_M_boundary 40 = .ok (.bipush 12, 2) := by decide +kernel
theorem d_M_boundary_42 : decode c_M_boundary 42 = .ok (.invokevirtual 59, 3) := by decide +kernel
theorem d_M_boundary_45 : decode c_M_boundary 45 = .ok (.if_icmp .lt 7, 3) := by decide +kernel
theorem d_M_boundary_48 : decode c_M_boundary 48 = .ok (.iconst (-1), 1) := by decide +kernel
theorem d_M_boundary_49 : decode c_M_boundary 49 = .ok (.goto 17, 3) := by decide +kernel
theorem d_M_boundary_52 : decode c_M_boundary 52 = .ok (.aload_n 0, 1) := by decide +kernel
theorem d_M_boundary_53 : decode c_M_boundary 53 = .ok (.getfield 22, 3) := by decide +kernel
theorem d_M_boundary_56 : decode c_M_boundary 56 = .ok (.aload_n 0, 1) := by decide +kernel
theorem d_M_boundary_57 : decode c_M_boundary 57 = .ok (.iload_n 1, 1) := by decide +kernel
theorem d_M_boundary_58 : decode c_M_boundary 58 = .ok (.bipush 11, 2) := by decide +kernel
theorem d_M_boundary_60 : decode c_M_boundary 60 = .ok (.invokevirtual 59, 3) := by decide +kernel
theorem d_M_boundary_63 : decode c_M_boundary 63 = .ok (.iload_n 2, 1) := by decide +kernel
theorem d_M_boundary_64 : decode c_M_boundary 64 = .ok (.iadd, 1) := by decide +kernel
theorem d_M_boundary_65 : decode c_M_boundary 65 = .ok (.iaload, 1) := by decide +kernel
theorem d_M_boundary_66 : decode c_M_boundary 66 = .ok (.ireturn, 1) := by decide +kernel
theorem d_M_write_0 : decode c_M_write 0 = .ok (.aload_n 0, 1) := by decide +kernel
theorem d_M_write_1 : decode c_M_write 1 = .ok (.aload_n 0, 1) := by decide +kernel
theorem d_M_write_2 : decode c_M_write 2 = .ok (.getfield 217, 3) := by decide +kernel
theorem d_M_write_5 : decode c_M_write 5 = .ok (.ifCond .ne 7, 3) := by decide +kernel
theorem d_M_write_8 : decode c_M_write 8 = .ok (.iconst 1, 1) := by decide +kernel
theorem d_M_write_9 : decode c_M_write 9 = .ok (.goto 4, 3) := by decide +kernel
theorem d_M_write_12 : decode c_M_write 12 = .ok (.iconst 0, 1) := by decide +kernel
theorem d_M_write_13 : decode c_M_write 13 = .ok (.iconst 0, 1) := by decide +kernel
theorem d_M_write_14 : decode c_M_write 14 = .ok (.invokevirtual 227, 3) := by decide +kernel
theorem d_M_write_17 : decode c_M_write 17 = .ok (.ifCond .eq 5, 3) := by decide +kernel
theorem d_M_write_20 : decode c_M_write 20 = .ok (.iconst 0, 1) := by decide +kernel
theorem d_M_write_21 : decode c_M_write 21 = .ok (.ireturn, 1) := by decide +kernel
theorem d_M_write_22 : decode c_M_write 22 = .ok (.aload_n 0, 1) := by decide +kernel
theorem d_M_write_23 : decode c_M_write 23 = .ok (.iconst 0, 1) := by decide +kernel
theorem d_M_write_24 : decode c_M_write 24 = .ok (.putfield 235, 3) := by decide +kernel
theorem d_M_write_27 : decode c_M_write 27 = .ok (.aload_n 0, 1) := by decide +kernel
theorem d_M_write_28 : decode c_M_write 28 = .ok (.iconst 0, 1) := by decide +kernel
theorem d_M_write_29 : decode c_M_write 29 = .ok (.putfield 269, 3) := by decide +kernel
theorem d_M_write_32 : decode c_M_write 32 = .ok (.aload_n 0, 1) := by decide +kernel
theorem d_M_write_33 : decode c_M_write 33 = .ok (.iconst 0, 1) := by decide +kernel
theorem d_M_write_34 : decode c_M_write 34 = .ok (.invokevirtual 279, 3) := by decide +kernel
theorem d_M_write_37 : decode c_M_write 37 = .ok (.aload_n 0, 1) := by decide +kernel
theorem d_M_write_38 : decode c_M_write 38 = .ok (.getfield 269, 3) := by decide +kernel
theorem d_M_write_41 : decode c_M_write 41 = .ok (.ifCond .le 10, 3) := by decide +kernel
theorem d_M_write_44 : decode c_M_write 44 = .ok (.aload_n 0, 1) := by decide +kernel
theorem d_M_write_45 : decode c_M_write 45 = .ok (.invokevirtual 282, 3) := by decide +kernel
theorem d_M_write_48 : decode c_M_write 48 = .ok (.goto (-11), 3) := by decide +kernel
theorem d_M_write_51 : decode c_M_write 51 = .ok (.aload_n 0, 1) := by decide +kernel
theorem d_M_write_52 : decode c_M_write 52 = .ok (.iconst 0, 1) := by decide +kernel
theorem d_M_write_53 : decode c_M_write 53 = .ok (.aload_n 0, 1) := by decide +kernel
theorem d_M_write_54 : decode c_M_write 54 = .ok (.getfield 235, 3) := by decide +kernel
theorem d_M_write_57 : decode c_M_write 57 = .ok (.sipush 700, 3) := by decide +kernel
theorem d_M_write_60 : decode c_M_write 60 = .ok (.if_icmp .le 7, 3) := by decide +kernel
theorem d_M_write_63 : decode c_M_write 63 = .ok (.iconst 1, 1) := by decide +kernel
theorem d_M_write_64 : decode c_M_write 64 = .ok (.goto 4, 3) := by decide +kernel
theorem d_M_write_67 : decode c_M_write 67 = .ok (.iconst 0, 1) := by decide +kernel
theorem d_M_write_68 : decode c_M_write 68 = .ok (.invokevirtual 227, 3) := by decide +kernel
theorem d_M_write_71 : decode c_M_write 71 = .ok (.ifCond .eq 5, 3) := by decide +kernel
theorem d_M_write_74 : decode c_M_write 74 = .ok (.iconst 0, 1) := by decide +kernel
theorem d_M_write_75 : decode c_M_write 75 = .ok (.ireturn, 1) := by decide +kernel
theorem d_M_write_76 : decode c_M_write 76 = .ok (.aload_n 0, 1) := by decide +kernel
theorem d_M_write_77 : decode c_M_write 77 = .ok (.aload_n 0, 1) := by decide +kernel
theorem d_M_write_78 : decode c_M_write 78 = .ok (.getfield 235, 3) := by decide +kernel
theorem d_M_write_81 : decode c_M_write 81 = .ok (.putfield 285, 3) := by decide +kernel
theorem d_M_write_84 : decode c_M_write 84 = .ok (.iconst 0, 1) := by decide +kernel
theorem d_M_write_85 : decode c_M_write 85 = .ok (.istore_n 1, 1) := by decide +kernel
theorem d_M_write_86 : decode c_M_write 86 = .ok (.iload_n 1, 1) := by decide +kernel
theorem d_M_write_87 : decode c_M_write 87 = .ok (.aload_n 0, 1) := by decide +kernel
theorem d_M_write_88 : decode c_M_write 88 = .ok (.getfield 235, 3) := by decide +kernel
theorem d_M_write_91 : decode c_M_write 91 = .ok (.if_icmp .ge 21, 3) := by decide +kernel
theorem d_M_write_94 : decode c_M_write 94 = .ok (.aload_n 0, 1) := by decide +kernel
theorem d_M_write_95 : decode c_M_write 95 = .ok (.getfield 34, 3) := by decide +kernel
theorem d_M_write_98 : decode c_M_write 98 = .ok (.iload_n 1, 1) := by decide +kernel
theorem d_M_write_99 : decode c_M_write 99 = .ok (.aload_n 0, 1) := by decide +kernel
theorem d_M_write_100 : decode c_M_write 100 = .ok (.getfield 31, 3) := by decide +kernel
theorem d_M_write_103 : decode c_M_write 103 = .ok (.iload_n 1, 1) := by decide +kernel
theorem d_M_write_104 : decode c_M_write 104 = .ok (.iaload, 1) := by decide +kernel
theorem d_M_write_105 : decode c_M_write 105 = .ok (.iastore, 1) := by decide +kernel
theorem d_M_write_106 : decode c_M_write 106 = .ok (.iinc 1 1, 3) := by decide +kernel
theorem d_M_write_109 : decode c_M_write 109 = .ok (.goto (-23), 3) := by decide +kernel
theorem d_M_write_112 : decode c_M_write 112 = .ok (.aload_n 0, 1) := by decide +kernel
theorem d_M_write_113 : decode c_M_write 113 = .ok (.getfield 235, 3) := by decide +kernel
theorem d_M_write_116 : decode c_M_write 116 = .ok (.ireturn, 1) := by decide +kernel
theorem d_M_opens_0 : decode c_M_opens 0 = .ok (.aload_n 0, 1) := by decide +kernel
theorem d_M_opens_1 : decode c_M_opens 1 = .ok (.iload_n 1, 1) := by decide +kernel
theorem d_M_opens_2 : decode c_M_opens 2 = .ok (.invokevirtual 266, 3) := by decide +kernel
theorem d_M_opens_5 : decode c_M_opens 5 = .ok (.aload_n 0, 1) := by decide +kernel
theorem d_M_opens_6 : decode c_M_opens 6 = .ok (.getfield 37, 3) := by decide +kernel
theorem d_M_opens_9 : decode c_M_opens 9 = .ok (.aload_n 0, 1) := by decide +kernel
theorem d_M_opens_10 : decode c_M_opens 10 = .ok (.getfield 269, 3) := by decide +kernel
theorem d_M_opens_13 : decode c_M_opens 13 = .ok (.iload_n 1, 1) := by decide +kernel
theorem d_M_opens_14 : decode c_M_opens 14 = .ok (.iastore, 1) := by decide +kernel
theorem d_M_opens_15 : decode c_M_opens 15 = .ok (.aload_n 0, 1) := by decide +kernel
theorem d_M_opens_16 : decode c_M_opens 16 = .ok (.getfield 40, 3) := by decide +kernel
theorem d_M_opens_19 : decode c_M_opens 19 = .ok (.aload_n 0, 1) := by decide +kernel
theorem d_M_opens_20 : decode c_M_opens 20 = .ok (.getfield 269, 3) := by decide +kernel
theorem d_M_opens_23 : decode c_M_opens 23 = .ok (.iload_n 1, 1) := by decide +kernel
theorem d_M_opens_24 : decode c_M_opens 24 = .ok (.iconst 1, 1) := by decide +kernel
theorem d_M_opens_25 : decode c_M_opens 25 = .ok (.iadd, 1) := by decide +kernel
theorem d_M_opens_26 : decode c_M_opens 26 = .ok (.iastore, 1) := by decide +kernel
theorem d_M_opens_27 : decode c_M_opens 27 = .ok (.aload_n 0, 1) := by decide +kernel
theorem d_M_opens_28 : decode c_M_opens 28 = .ok (.dup, 1) := by decide +kernel
theorem d_M_opens_29 : decode c_M_opens 29 = .ok (.getfield 269, 3) := by decide +kernel
theorem d_M_opens_32 : decode c_M_opens 32 = .ok (.iconst 1, 1) := by decide +kernel
theorem d_M_opens_33 : decode c_M_opens 33 = .ok (.iadd, 1) := by decide +kernel
theorem d_M_opens_34 : decode c_M_opens 34 = .ok (.putfield 269, 3) := by decide +kernel
theorem d_M_opens_37 : decode c_M_opens 37 = .ok (.return_, 1) := by decide +kernel
theorem d_M_putHead_0 : decode c_M_putHead 0 = .ok (.iconst 0, 1) := by decide +kernel
theorem d_M_putHead_1 : decode c_M_putHead 1 = .ok (.istore_n 2, 1) := by decide +kernel
theorem d_M_putHead_2 : decode c_M_putHead 2 = .ok (.iload_n 2, 1) := by decide +kernel
theorem d_M_putHead_3 : decode c_M_putHead 3 = .ok (.aload_n 0, 1) := by decide +kernel
theorem d_M_putHead_4 : decode c_M_putHead 4 = .ok (.iload_n 1, 1) := by decide +kernel
theorem d_M_putHead_5 : decode c_M_putHead 5 = .ok (.iconst 3, 1) := by decide +kernel
theorem d_M_putHead_6 : decode c_M_putHead 6 = .ok (.invokevirtual 59, 3) := by decide +kernel
theorem d_M_putHead_9 : decode c_M_putHead 9 = .ok (.if_icmp .ge 61, 3) := by decide +kernel
theorem d_M_putHead_12 : decode c_M_putHead 12 = .ok (.aload_n 0, 1) := by decide +kernel
theorem d_M_putHead_13 : decode c_M_putHead 13 = .ok (.aload_n 0, 1) := by decide +kernel
theorem d_M_putHead_14 : decode c_M_putHead 14 = .ok (.iload_n 1, 1) := by decide +kernel
theorem d_M_putHead_15 : decode c_M_putHead 15 = .ok (.iload_n 2, 1) := by decide +kernel
theorem d_M_putHead_16 : decode c_M_putHead 16 = .ok (.iconst 0, 1) := by decide +kernel
theorem d_M_putHead_17 : decode c_M_putHead 17 = .ok (.invokevirtual 115, 3) := by decide +kernel
theorem d_M_putHead_20 : decode c_M_putHead 20 = .ok (.aload_n 0, 1) := by decide +kernel
theorem d_M_putHead_21 : decode c_M_putHead 21 = .ok (.iload_n 1, 1) := by decide +kernel
theorem d_M_putHead_22 : decode c_M_putHead 22 = .ok (.iload_n 2, 1) := by decide +kernel
theorem d_M_putHead_23 : decode c_M_putHead 23 = .ok (.iconst 1, 1) := by decide +kernel
theorem d_M_putHead_24 : decode c_M_putHead 24 = .ok (.invokevirtual 115, 3) := by decide +kernel
theorem d_M_putHead_27 : decode c_M_putHead 27 = .ok (.invokevirtual 257, 3) := by decide +kernel
theorem d_M_putHead_30 : decode c_M_putHead 30 = .ok (.aload_n 0, 1) := by decide +kernel
theorem d_M_putHead_31 : decode c_M_putHead 31 = .ok (.bipush 58, 2) := by decide +kernel
theorem d_M_putHead_33 : decode c_M_putHead 33 = .ok (.invokevirtual 238, 3) := by decide +kernel
theorem d_M_putHead_36 : decode c_M_putHead 36 = .ok (.aload_n 0, 1) := by decide +kernel
theorem d_M_putHead_37 : decode c_M_putHead 37 = .ok (.bipush 32, 2) := by decide +kernel
theorem d_M_putHead_39 : decode c_M_putHead 39 = .ok (.invokevirtual 238, 3) := by decide +kernel
theorem d_M_putHead_42 : decode c_M_putHead 42 = .ok (.aload_n 0, 1) := by decide +kernel
theorem d_M_putHead_43 : decode c_M_putHead 43 = .ok (.aload_n 0, 1) := by decide +kernel
theorem d_M_putHead_44 : decode c_M_putHead 44 = .ok (.iload_n 1, 1) := by decide +kernel
theorem d_M_putHead_45 : decode c_M_putHead 45 = .ok (.iload_n 2, 1) := by decide +kernel
theorem d_M_putHead_46 : decode c_M_putHead 46 = .ok (.iconst 2, 1) := by decide +kernel
theorem d_M_putHead_47 : decode c_M_putHead 47 = .ok (.invokevirtual 115, 3) := by decide +kernel
theorem d_M_putHead_50 : decode c_M_putHead 50 = .ok (.aload_n 0, 1) := by decide +kernel
theorem d_M_putHead_51 : decode c_M_putHead 51 = .ok (.iload_n 1, 1) := by decide +kernel
theorem d_M_putHead_52 : decode c_M_putHead 52 = .ok (.iload_n 2, 1) := by decide +kernel
theorem d_M_putHead_53 : decode c_M_putHead 53 = .ok (.iconst 3, 1) := by decide +kernel
theorem d_M_putHead_54 : decode c_M_putHead 54 = .ok (.invokevirtual 115, 3) := by decide +kernel
theorem d_M_putHead_57 : decode c_M_putHead 57 = .ok (.invokevirtual 257, 3) := by decide +kernel
theorem d_M_putHead_60 : decode c_M_putHead 60 = .ok (.aload_n 0, 1) := by decide +kernel
theorem d_M_putHead_61 : decode c_M_putHead 61 = .ok (.invokevirtual 247, 3) := by decide +kernel
theorem d_M_putHead_64 : decode c_M_putHead 64 = .ok (.iinc 2 1, 3) := by decide +kernel
theorem d_M_putHead_67 : decode c_M_putHead 67 = .ok (.goto (-65), 3) := by decide +kernel
theorem d_M_putHead_70 : decode c_M_putHead 70 = .ok (.aload_n 0, 1) := by decide +kernel
theorem d_M_putHead_71 : decode c_M_putHead 71 = .ok (.invokevirtual 247, 3) := by decide +kernel
theorem d_M_putHead_74 : decode c_M_putHead 74 = .ok (.aload_n 0, 1) := by decide +kernel
theorem d_M_putHead_75 : decode c_M_putHead 75 = .ok (.iload_n 1, 1) := by decide +kernel
theorem d_M_putHead_76 : decode c_M_putHead 76 = .ok (.iconst 0, 1) := by decide +kernel
theorem d_M_putHead_77 : decode c_M_putHead 77 = .ok (.invokevirtual 59, 3) := by decide +kernel
theorem d_M_putHead_80 : decode c_M_putHead 80 = .ok (.ifCond .eq 4, 3) := by decide +kernel
theorem d_M_putHead_83 : decode c_M_putHead 83 = .ok (.return_, 1) := by decide +kernel
theorem d_M_putHead_84 : decode c_M_putHead 84 = .ok (.aload_n 0, 1) := by decide +kernel
theorem d_M_putHead_85 : decode c_M_putHead 85 = .ok (.iload_n 1, 1) := by decide +kernel
theorem d_M_putHead_86 : decode c_M_putHead 86 = .ok (.iconst 4, 1) := by decide +kernel
theorem d_M_putHead_87 : decode c_M_putHead 87 = .ok (.invokevirtual 59, 3) := by decide +kernel
theorem d_M_putHead_90 : decode c_M_putHead 90 = .ok (.iconst 1, 1) := by decide +kernel
theorem d_M_putHead_91 : decode c_M_putHead 91 = .ok (.if_icmp .ne 23, 3) := by decide +kernel
theorem d_M_putHead_94 : decode c_M_putHead 94 = .ok (.aload_n 0, 1) := by decide +kernel
theorem d_M_putHead_95 : decode c_M_putHead 95 = .ok (.aload_n 0, 1) := by decide +kernel
theorem d_M_putHead_96 : decode c_M_putHead 96 = .ok (.iload_n 1, 1) := by decide +kernel
theorem d_M_putHead_97 : decode c_M_putHead 97 = .ok (.bipush 10, 2) := by decide +kernel
