theorem d_T_readKind_82 : decode c_T_readKind 82 = .ok (.ireturn, 1) := by decide +kernel
theorem d_T_readKind_83 : decode c_T_readKind 83 = .ok (.aload_n 0, 1) := by decide +kernel
theorem d_T_readKind_84 : decode c_T_readKind 84 = .ok (.getfield 34, 3) := by decide +kernel
theorem d_T_readKind_87 : decode c_T_readKind 87 = .ok (.invokevirtual 184, 3) := by decide +kernel
theorem d_T_readKind_90 : decode c_T_readKind 90 = .ok (.aload_n 0, 1) := by decide +kernel
theorem d_T_readKind_91 : decode c_T_readKind 91 = .ok (.getfield 34, 3) := by decide +kernel
theorem d_T_readKind_94 : decode c_T_readKind 94 = .ok (.invokevirtual 187, 3) := by decide +kernel
theorem d_T_readKind_97 : decode c_T_readKind 97 = .ok (.ifCond .ne 5, 3) := by decide +kernel
theorem d_T_readKind_100 : decode c_T_readKind 100 = .ok (.iconst 0, 1) := by decide +kernel
theorem d_T_readKind_101 : decode c_T_readKind 101 = .ok (.ireturn, 1) := by decide +kernel
theorem d_T_readKind_102 : decode c_T_readKind 102 = .ok (.iload 4, 2) := by decide +kernel
theorem d_T_readKind_104 : decode c_T_readKind 104 = .ok (.ifCond .eq 20, 3) := by decide +kernel
theorem d_T_readKind_107 : decode c_T_readKind 107 = .ok (.aload_n 0, 1) := by decide +kernel
theorem d_T_readKind_108 : decode c_T_readKind 108 = .ok (.getfield 34, 3) := by decide +kernel
theorem d_T_readKind_111 : decode c_T_readKind 111 = .ok (.ldc 215, 2) := by decide +kernel
theorem d_T_readKind_113 : decode c_T_readKind 113 = .ok (.invokevirtual 197, 3) := by decide +kernel
theorem d_T_readKind_116 : decode c_T_readKind 116 = .ok (.ifCond .eq 8, 3) := by decide +kernel
theorem d_T_readKind_119 : decode c_T_readKind 119 = .ok (.aload_n 1, 1) := by decide +kernel
theorem d_T_readKind_120 : decode c_T_readKind 120 = .ok (.iconst 2, 1) := by decide +kernel
theorem d_T_readKind_121 : decode c_T_readKind 121 = .ok (.putfield 103, 3) := by decide +kernel
theorem d_T_readKind_124 : decode c_T_readKind 124 = .ok (.aload_n 0, 1) := by decide +kernel
theorem d_T_readKind_125 : decode c_T_readKind 125 = .ok (.getfield 34, 3) := by decide +kernel
theorem d_T_readKind_128 : decode c_T_readKind 128 = .ok (.invokevirtual 184, 3) := by decide +kernel
theorem d_T_readKind_131 : decode c_T_readKind 131 = .ok (.iload_n 3, 1) := by decide +kernel
theorem d_T_readKind_132 : decode c_T_readKind 132 = .ok (.ireturn, 1) := by decide +kernel
theorem d_T_readBoundary_0 : decode c_T_readBoundary 0 = .ok (.iconst 0, 1) := by decide +kernel
theorem d_T_readBoundary_1 : decode c_T_readBoundary 1 = .ok (.istore_n 2, 1) := by decide +kernel
theorem d_T_readBoundary_2 : decode c_T_readBoundary 2 = .ok (.iconst 0, 1) := by decide +kernel
theorem d_T_readBoundary_3 : decode c_T_readBoundary 3 = .ok (.istore_n 3, 1) := by decide +kernel
theorem d_T_readBoundary_4 : decode c_T_readBoundary 4 = .ok (.iload_n 3, 1) := by decide +kernel
theorem d_T_readBoundary_5 : decode c_T_readBoundary 5 = .ok (.sipush 320, 3) := by decide +kernel
theorem d_T_readBoundary_8 : decode c_T_readBoundary 8 = .ok (.if_icmp .ge 32, 3) := by decide +kernel
theorem d_T_readBoundary_11 : decode c_T_readBoundary 11 = .ok (.iload_n 2, 1) := by decide +kernel
theorem d_T_readBoundary_12 : decode c_T_readBoundary 12 = .ok (.ifCond .ne 28, 3) := by decide +kernel
theorem d_T_readBoundary_15 : decode c_T_readBoundary 15 = .ok (.aload_n 0, 1) := by decide +kernel
theorem d_T_readBoundary_16 : decode c_T_readBoundary 16 = .ok (.getfield 34, 3) := by decide +kernel
theorem d_T_readBoundary_19 : decode c_T_readBoundary 19 = .ok (.invokevirtual 217, 3) := by decide +kernel
theorem d_T_readBoundary_22 : decode c_T_readBoundary 22 = .ok (.ifCond .ne 4, 3) := by decide +kernel
theorem d_T_readBoundary_25 : decode c_T_readBoundary 25 = .ok (.return_, 1) := by decide +kernel
theorem d_T_readBoundary_26 : decode c_T_readBoundary 26 = .ok (.aload_n 0, 1) := by decide +kernel
theorem d_T_readBoundary_27 : decode c_T_readBoundary 27 = .ok (.getfield 34, 3) := by decide +kernel
theorem d_T_readBoundary_30 : decode c_T_readBoundary 30 = .ok (.getfield 220, 3) := by decide +kernel
theorem d_T_readBoundary_33 : decode c_T_readBoundary 33 = .ok (.istore_n 2, 1) := by decide +kernel
theorem d_T_readBoundary_34 : decode c_T_readBoundary 34 = .ok (.iinc 3 1, 3) := by decide +kernel
theorem d_T_readBoundary_37 : decode c_T_readBoundary 37 = .ok (.goto (-33), 3) := by decide +kernel
theorem d_T_readBoundary_40 : decode c_T_readBoundary 40 = .ok (.iload_n 2, 1) := by decide +kernel
theorem d_T_readBoundary_41 : decode c_T_readBoundary 41 = .ok (.ifCond .eq 68, 3) := by decide +kernel
theorem d_T_readBoundary_44 : decode c_T_readBoundary 44 = .ok (.aload_n 0, 1) := by decide +kernel
theorem d_T_readBoundary_45 : decode c_T_readBoundary 45 = .ok (.getfield 34, 3) := by decide +kernel
theorem d_T_readBoundary_48 : decode c_T_readBoundary 48 = .ok (.invokevirtual 224, 3) := by decide +kernel
theorem d_T_readBoundary_51 : decode c_T_readBoundary 51 = .ok (.ifCond .eq 58, 3) := by decide +kernel
theorem d_T_readBoundary_54 : decode c_T_readBoundary 54 = .ok (.aload_n 1, 1) := by decide +kernel
theorem d_T_readBoundary_55 : decode c_T_readBoundary 55 = .ok (.iconst 1, 1) := by decide +kernel
theorem d_T_readBoundary_56 : decode c_T_readBoundary 56 = .ok (.putfield 103, 3) := by decide +kernel
theorem d_T_readBoundary_59 : decode c_T_readBoundary 59 = .ok (.aload_n 1, 1) := by decide +kernel
theorem d_T_readBoundary_60 : decode c_T_readBoundary 60 = .ok (.aload_n 0, 1) := by decide +kernel
theorem d_T_readBoundary_61 : decode c_T_readBoundary 61 = .ok (.getfield 26, 3) := by decide +kernel
theorem d_T_readBoundary_64 : decode c_T_readBoundary 64 = .ok (.getfield 68, 3) := by decide +kernel
theorem d_T_readBoundary_67 : decode c_T_readBoundary 67 = .ok (.putfield 227, 3) := by decide +kernel
theorem d_T_readBoundary_70 : decode c_T_readBoundary 70 = .ok (.aload_n 1, 1) := by decide +kernel
theorem d_T_readBoundary_71 : decode c_T_readBoundary 71 = .ok (.aload_n 0, 1) := by decide +kernel
theorem d_T_readBoundary_72 : decode c_T_readBoundary 72 = .ok (.getfield 34, 3) := by decide +kernel
theorem d_T_readBoundary_75 : decode c_T_readBoundary 75 = .ok (.getfield 230, 3) := by decide +kernel
theorem d_T_readBoundary_78 : decode c_T_readBoundary 78 = .ok (.getfield 68, 3) := by decide +kernel
theorem d_T_readBoundary_81 : decode c_T_readBoundary 81 = .ok (.putfield 233, 3) := by decide +kernel
theorem d_T_readBoundary_84 : decode c_T_readBoundary 84 = .ok (.aload_n 0, 1) := by decide +kernel
theorem d_T_readBoundary_85 : decode c_T_readBoundary 85 = .ok (.getfield 26, 3) := by decide +kernel
theorem d_T_readBoundary_88 : decode c_T_readBoundary 88 = .ok (.aload_n 0, 1) := by decide +kernel
theorem d_T_readBoundary_89 : decode c_T_readBoundary 89 = .ok (.getfield 34, 3) := by decide +kernel
theorem d_T_readBoundary_92 : decode c_T_readBoundary 92 = .ok (.getfield 230, 3) := by decide +kernel
theorem d_T_readBoundary_95 : decode c_T_readBoundary 95 = .ok (.iconst 0, 1) := by decide +kernel
theorem d_T_readBoundary_96 : decode c_T_readBoundary 96 = .ok (.aload_n 0, 1) := by decide +kernel
theorem d_T_readBoundary_97 : decode c_T_readBoundary 97 = .ok (.getfield 34, 3) := by decide +kernel
theorem d_T_readBoundary_100 : decode c_T_readBoundary 100 = .ok (.getfield 230, 3) := by decide +kernel
theorem d_T_readBoundary_103 : decode c_T_readBoundary 103 = .ok (.getfield 68, 3) := by decide +kernel
theorem d_T_readBoundary_106 : decode c_T_readBoundary 106 = .ok (.invokevirtual 71, 3) := by decide +kernel
theorem d_T_readBoundary_109 : decode c_T_readBoundary 109 = .ok (.return_, 1) := by decide +kernel
theorem d_T_readParts_0 : decode c_T_readParts 0 = .ok (.iconst (-1), 1) := by decide +kernel
theorem d_T_readParts_1 : decode c_T_readParts 1 = .ok (.istore_n 3, 1) := by decide +kernel
theorem d_T_readParts_2 : decode c_T_readParts 2 = .ok (.aload_n 1, 1) := by decide +kernel
theorem d_T_readParts_3 : decode c_T_readParts 3 = .ok (.getfield 86, 3) := by decide +kernel
theorem d_T_readParts_6 : decode c_T_readParts 6 = .ok (.istore 4, 2) := by decide +kernel
theorem d_T_readParts_8 : decode c_T_readParts 8 = .ok (.aload_n 1, 1) := by decide +kernel
theorem d_T_readParts_9 : decode c_T_readParts 9 = .ok (.getfield 86, 3) := by decide +kernel
theorem d_T_readParts_12 : decode c_T_readParts 12 = .ok (.istore 5, 2) := by decide +kernel
theorem d_T_readParts_14 : decode c_T_readParts 14 = .ok (.iconst 0, 1) := by decide +kernel
theorem d_T_readParts_15 : decode c_T_readParts 15 = .ok (.istore 6, 2) := by decide +kernel
theorem d_T_readParts_17 : decode c_T_readParts 17 = .ok (.iload 6, 2) := by decide +kernel
theorem d_T_readParts_19 : decode c_T_readParts 19 = .ok (.sipush 320, 3) := by decide +kernel
theorem d_T_readParts_22 : decode c_T_readParts 22 = .ok (.if_icmp .ge 108, 3) := by decide +kernel
theorem d_T_readParts_25 : decode c_T_readParts 25 = .ok (.iload 5, 2) := by decide +kernel
theorem d_T_readParts_27 : decode c_T_readParts 27 = .ok (.aload_n 1, 1) := by decide +kernel
theorem d_T_readParts_28 : decode c_T_readParts 28 = .ok (.getfield 119, 3) := by decide +kernel
theorem d_T_readParts_31 : decode c_T_readParts 31 = .ok (.if_icmp .ge 99, 3) := by decide +kernel
theorem d_T_readParts_34 : decode c_T_readParts 34 = .ok (.aload_n 0, 1) := by decide +kernel
theorem d_T_readParts_35 : decode c_T_readParts 35 = .ok (.getfield 14, 3) := by decide +kernel
theorem d_T_readParts_38 : decode c_T_readParts 38 = .ok (.iload 5, 2) := by decide +kernel
theorem d_T_readParts_40 : decode c_T_readParts 40 = .ok (.aload_n 1, 1) := by decide +kernel
theorem d_T_readParts_41 : decode c_T_readParts 41 = .ok (.getfield 119, 3) := by decide +kernel
theorem d_T_readParts_44 : decode c_T_readParts 44 = .ok (.invokevirtual 122, 3) := by decide +kernel
theorem d_T_readParts_47 : decode c_T_readParts 47 = .ok (.istore 7, 2) := by decide +kernel
theorem d_T_readParts_49 : decode c_T_readParts 49 = .ok (.aload_n 0, 1) := by decide +kernel
theorem d_T_readParts_50 : decode c_T_readParts 50 = .ok (.getfield 14, 3) := by decide +kernel
theorem d_T_readParts_53 : decode c_T_readParts 53 = .ok (.iload 5, 2) := by decide +kernel
theorem d_T_readParts_55 : decode c_T_readParts 55 = .ok (.iload 7, 2) := by decide +kernel
theorem d_T_readParts_57 : decode c_T_readParts 57 = .ok (.invokevirtual 126, 3) := by decide +kernel
theorem d_T_readParts_60 : decode c_T_readParts 60 = .ok (.istore 8, 2) := by decide +kernel
theorem d_T_readParts_62 : decode c_T_readParts 62 = .ok (.aload_n 0, 1) := by decide +kernel
theorem d_T_readParts_63 : decode c_T_readParts 63 = .ok (.aload_n 1, 1) := by decide +kernel
theorem d_T_readParts_64 : decode c_T_readParts 64 = .ok (.iload 5, 2) := by decide +kernel
theorem d_T_readParts_66 : decode c_T_readParts 66 = .ok (.iload 8, 2) := by decide +kernel
theorem d_T_readParts_68 : decode c_T_readParts 68 = .ok (.invokevirtual 236, 3) := by decide +kernel
theorem d_T_readParts_71 : decode c_T_readParts 71 = .ok (.istore 9, 2) := by decide +kernel
theorem d_T_readParts_73 : decode c_T_readParts 73 = .ok (.iload 9, 2) := by decide +kernel
theorem d_T_readParts_75 : decode c_T_readParts 75 = .ok (.ifCond .eq 25, 3) := by decide +kernel
theorem d_T_readParts_78 : decode c_T_readParts 78 = .ok (.iload_n 3, 1) := by decide +kernel
theorem d_T_readParts_79 : decode c_T_readParts 79 = .ok (.ifCond .lt 21, 3) := by decide +kernel
theorem d_T_readParts_82 : decode c_T_readParts 82 = .ok (.aload_n 0, 1) := by decide +kernel
theorem d_T_readParts_83 : decode c_T_readParts 83 = .ok (.iload_n 3, 1) := by decide +kernel
theorem d_T_readParts_84 : decode c_T_readParts 84 = .ok (.iload_n 3, 1) := by decide +kernel
theorem d_T_readParts_85 : decode c_T_readParts 85 = .ok (.iload 4, 2) := by decide +kernel
theorem d_T_readParts_87 : decode c_T_readParts 87 = .ok (.invokestatic 240, 3) := by decide +kernel
theorem d_T_readParts_90 : decode c_T_readParts 90 = .ok (.aload_n 1, 1) := by decide +kernel
theorem d_T_readParts_91 : decode c_T_readParts 91 = .ok (.getfield 245, 3) := by decide +kernel
theorem d_T_readParts_94 : decode c_T_readParts 94 = .ok (.iconst 1, 1) := by decide +kernel
theorem d_T_readParts_95 : decode c_T_readParts 95 = .ok (.iadd, 1) := by decide +kernel
theorem d_T_readParts_96 : decode c_T_readParts 96 = .ok (.iload_n 2, 1) := by decide +kernel
theorem d_T_readParts_97 : decode c_T_readParts 97 = .ok (.invokevirtual 109, 3) := by decide +kernel
theorem d_T_readParts_100 : decode c_T_readParts 100 = .ok (.iload 9, 2) := by decide +kernel
theorem d_T_readParts_102 : decode c_T_readParts 102 = .ok (.iconst 2, 1) := by decide +kernel
theorem d_T_readParts_103 : decode c_T_readParts 103 = .ok (.if_icmp .ne 4, 3) := by decide +kernel
theorem d_T_readParts_106 : decode c_T_readParts 106 = .ok (.return_, 1) := by decide +kernel
theorem d_T_readParts_107 : decode c_T_readParts 107 = .ok (.iload 9, 2) := by decide +kernel
theorem d_T_readParts_109 : decode c_T_readParts 109 = .ok (.iconst 1, 1) := by decide +kernel
theorem d_T_readParts_110 : decode c_T_readParts 110 = .ok (.if_icmp .ne 6, 3) := by decide +kernel
theorem d_T_readParts_113 : decode c_T_readParts 113 = .ok (.iload 7, 2) := by decide +kernel
theorem d_T_readParts_115 : decode c_T_readParts 115 = .ok (.istore_n 3, 1) := by decide +kernel
theorem d_T_readParts_116 : decode c_T_readParts 116 = .ok (.iload 8, 2) := by decide +kernel
theorem d_T_readParts_118 : decode c_T_readParts 118 = .ok (.istore 4, 2) := by decide +kernel
theorem d_T_readParts_120 : decode c_T_readParts 120 = .ok (.iload 7, 2) := by decide +kernel
theorem d_T_readParts_122 : decode c_T_readParts 122 = .ok (.istore 5, 2) := by decide +kernel
theorem d_T_readParts_124 : decode c_T_readParts 124 = .ok (.iinc 6 1, 3) := by decide +kernel
theorem d_T_readParts_127 : decode c_T_readParts 127 = .ok (.goto (-110), 3) := by decide +kernel
theorem d_T_readParts_130 : decode c_T_readParts 130 = .ok (.iload_n 3, 1) := by decide +kernel
theorem d_T_readParts_131 : decode c_T_readParts 131 = .ok (.ifCond .lt 19, 3) := by decide +kernel
theorem d_T_readParts_134 : decode c_T_readParts 134 = .ok (.aload_n 0, 1) := by decide +kernel
theorem d_T_readParts_135 : decode c_T_readParts 135 = .ok (.iload_n 3, 1) := by decide +kernel
theorem d_T_readParts_136 : decode c_T_readParts 136 = .ok (.aload_n 1, 1) := by decide +kernel
theorem d_T_readParts_137 : decode c_T_readParts 137 = .ok (.getfield 119, 3) := by decide +kernel
theorem d_T_readParts_140 : decode c_T_readParts 140 = .ok (.aload_n 1, 1) := by decide +kernel
theorem d_T_readParts_141 : decode c_T_readParts 141 = .ok (.getfield 245, 3) := by decide +kernel
theorem d_T_readParts_144 : decode c_T_readParts 144 = .ok (.iconst 1, 1) := by decide +kernel
theorem d_T_readParts_145 : decode c_T_readParts 145 = .ok (.iadd, 1) := by decide +kernel
theorem d_T_readParts_146 : decode c_T_readParts 146 = .ok (.iload_n 2, 1) := by decide +kernel
theorem d_T_readParts_147 : decode c_T_readParts 147 = .ok (.invokevirtual 109, 3) := by decide +kernel
theorem d_T_readParts_150 : decode c_T_readParts 150 = .ok (.return_, 1) := by decide +kernel
theorem d_T_markOf_0 : decode c_T_markOf 0 = .ok (.iload_n 2, 1) := by decide +kernel
theorem d_T_markOf_1 : decode c_T_markOf 1 = .ok (.ldc 248, 2) := by decide +kernel
theorem d_T_markOf_3 : decode c_T_markOf 3 = .ok (.invokevirtual 250, 3) := by decide +kernel
theorem d_T_markOf_6 : decode c_T_markOf 6 = .ok (.iadd, 1) := by decide +kernel
theorem d_T_markOf_7 : decode c_T_markOf 7 = .ok (.aload_n 1, 1) := by decide +kernel
theorem d_T_markOf_8 : decode c_T_markOf 8 = .ok (.getfield 233, 3) := by decide +kernel
theorem d_T_markOf_11 : decode c_T_markOf 11 = .ok (.iadd, 1) := by decide +kernel
theorem d_T_markOf_12 : decode c_T_markOf 12 = .ok (.istore 4, 2) := by decide +kernel
theorem d_T_markOf_14 : decode c_T_markOf 14 = .ok (.iload 4, 2) := by decide +kernel
theorem d_T_markOf_16 : decode c_T_markOf 16 = .ok (.iload_n 3, 1) := by decide +kernel
theorem d_T_markOf_17 : decode c_T_markOf 17 = .ok (.if_icmp .gt 17, 3) := by decide +kernel
theorem d_T_markOf_20 : decode c_T_markOf 20 = .ok (.aload_n 0, 1) := by decide +kernel
theorem d_T_markOf_21 : decode c_T_markOf 21 = .ok (.getfield 14, 3) := by decide +kernel
theorem d_T_markOf_24 : decode c_T_markOf 24 = .ok (.ldc 248, 2) := by decide +kernel
theorem d_T_markOf_26 : decode c_T_markOf 26 = .ok (.iload_n 2, 1) := by decide +kernel
theorem d_T_markOf_27 : decode c_T_markOf 27 = .ok (.iload_n 3, 1) := by decide +kernel
theorem d_T_markOf_28 : decode c_T_markOf 28 = .ok (.invokevirtual 256, 3) := by decide +kernel
theorem d_T_markOf_31 : decode c_T_markOf 31 = .ok (.ifCond .ne 5, 3) := by decide +kernel
theorem d_T_markOf_34 : decode c_T_markOf 34 = .ok (.iconst 0, 1) := by decide +kernel
theorem d_T_markOf_35 : decode c_T_markOf 35 = .ok (.ireturn, 1) := by decide +kernel
theorem d_T_markOf_36 : decode c_T_markOf 36 = .ok (.iconst 0, 1) := by decide +kernel
theorem d_T_markOf_37 : decode c_T_markOf 37 = .ok (.istore 5, 2) := by decide +kernel
theorem d_T_markOf_39 : decode c_T_markOf 39 = .ok (.iload 5, 2) := by decide +kernel
theorem d_T_markOf_41 : decode c_T_markOf 41 = .ok (.aload_n 1, 1) := by decide +kernel
theorem d_T_markOf_42 : decode c_T_markOf 42 = .ok (.getfield 233, 3) := by decide +kernel
theorem d_T_markOf_45 : decode c_T_markOf 45 = .ok (.if_icmp .ge 45, 3) := by decide +kernel
theorem d_T_markOf_48 : decode c_T_markOf 48 = .ok (.aload_n 0, 1) := by decide +kernel
theorem d_T_markOf_49 : decode c_T_markOf 49 = .ok (.getfield 14, 3) := by decide +kernel
theorem d_T_markOf_52 : decode c_T_markOf 52 = .ok (.iload_n 2, 1) := by decide +kernel
theorem d_T_markOf_53 : decode c_T_markOf 53 = .ok (.ldc 248, 2) := by decide +kernel
theorem d_T_markOf_55 : decode c_T_markOf 55 = .ok (.invokevirtual 250, 3) := by decide +kernel
theorem d_T_markOf_58 : decode c_T_markOf 58 = .ok (.iadd, 1) := by decide +kernel
theorem d_T_markOf_59 : decode c_T_markOf 59 = .ok (.iload 5, 2) := by decide +kernel
theorem d_T_markOf_61 : decode c_T_markOf 61 = .ok (.iadd, 1) := by decide +kernel
theorem d_T_markOf_62 : decode c_T_markOf 62 = .ok (.invokevirtual 129, 3) := by decide +kernel
theorem d_T_markOf_65 : decode c_T_markOf 65 = .ok (.aload_n 0, 1) := by decide +kernel
theorem d_T_markOf_66 : decode c_T_markOf 66 = .ok (.getfield 26, 3) := by decide +kernel
theorem d_T_markOf_69 : decode c_T_markOf 69 = .ok (.aload_n 1, 1) := by decide +kernel
theorem d_T_markOf_70 : decode c_T_markOf 70 = .ok (.getfield 227, 3) := by decide +kernel
theorem d_T_markOf_73 : decode c_T_markOf 73 = .ok (.iload 5, 2) := by decide +kernel
theorem d_T_markOf_75 : decode c_T_markOf 75 = .ok (.iadd, 1) := by decide +kernel
theorem d_T_markOf_76 : decode c_T_markOf 76 = .ok (.invokevirtual 129, 3) := by decide +kernel
theorem d_T_markOf_79 : decode c_T_markOf 79 = .ok (.if_icmp .eq 5, 3) := by decide +kernel
theorem d_T_markOf_82 : decode c_T_markOf 82 = .ok (.iconst 0, 1) := by decide +kernel
theorem d_T_markOf_83 : decode c_T_markOf 83 = .ok (.ireturn, 1) := by decide +kernel
theorem d_T_markOf_84 : decode c_T_markOf 84 = .ok (.iinc 5 1, 3) := by decide +kernel
theorem d_T_markOf_87 : decode c_T_markOf 87 = .ok (.goto (-48), 3) := by decide +kernel
theorem d_T_markOf_90 : decode c_T_markOf 90 = .ok (.aload_n 0, 1) := by decide +kernel
theorem d_T_markOf_91 : decode c_T_markOf 91 = .ok (.getfield 14, 3) := by decide +kernel
theorem d_T_markOf_94 : decode c_T_markOf 94 = .ok (.iload 4, 2) := by decide +kernel
theorem d_T_markOf_96 : decode c_T_markOf 96 = .ok (.iload_n 3, 1) := by decide +kernel
theorem d_T_markOf_97 : decode c_T_markOf 97 = .ok (.invokevirtual 168, 3) := by decide +kernel
theorem d_T_markOf_100 : decode c_T_markOf 100 = .ok (.iload_n 3, 1) := by decide +kernel
theorem d_T_markOf_101 : decode c_T_markOf 101 = .ok (.if_icmp .ne 5, 3) := by decide +kernel
theorem d_T_markOf_104 : decode c_T_markOf 104 = .ok (.iconst 1, 1) := by decide +kernel
theorem d_T_markOf_105 : decode c_T_markOf 105 = .ok (.ireturn, 1) := by decide +kernel
theorem d_T_markOf_106 : decode c_T_markOf 106 = .ok (.aload_n 0, 1) := by decide +kernel
theorem d_T_markOf_107 : decode c_T_markOf 107 = .ok (.getfield 14, 3) := by decide +kernel
theorem d_T_markOf_110 : decode c_T_markOf 110 = .ok (.ldc 248, 2) := by decide +kernel
theorem d_T_markOf_112 : decode c_T_markOf 112 = .ok (.iload 4, 2) := by decide +kernel
theorem d_T_markOf_114 : decode c_T_markOf 114 = .ok (.iload_n 3, 1) := by decide +kernel
theorem d_T_markOf_115 : decode c_T_markOf 115 = .ok (.invokevirtual 256, 3) := by decide +kernel
theorem d_T_markOf_118 : decode c_T_markOf 118 = .ok (.ifCond .eq 27, 3) := by decide +kernel
theorem d_T_markOf_121 : decode c_T_markOf 121 = .ok (.aload_n 0, 1) := by decide +kernel
theorem d_T_markOf_122 : decode c_T_markOf 122 = .ok (.getfield 14, 3) := by decide +kernel
theorem d_T_markOf_125 : decode c_T_markOf 125 = .ok (.iload 4, 2) := by decide +kernel
theorem d_T_markOf_127 : decode c_T_markOf 127 = .ok (.ldc 248, 2) := by decide +kernel
theorem d_T_markOf_129 : decode c_T_markOf 129 = .ok (.invokevirtual 250, 3) := by decide +kernel
theorem d_T_markOf_132 : decode c_T_markOf 132 = .ok (.iadd, 1) := by decide +kernel
theorem d_T_markOf_133 : decode c_T_markOf 133 = .ok (.iload_n 3, 1) := by decide +kernel
theorem d_T_markOf_134 : decode c_T_markOf 134 = .ok (.invokevirtual 168, 3) := by decide +kernel
theorem d_T_markOf_137 : decode c_T_markOf 137 = .ok (.iload_n 3, 1) := by decide +kernel
theorem d_T_markOf_138 : decode c_T_markOf 138 = .ok (.if_icmp .ne 7, 3) := by decide +kernel
theorem d_T_markOf_141 : decode c_T_markOf 141 = .ok (.iconst 1, 1) := by decide +kernel
theorem d_T_markOf_142 : decode c_T_markOf 142 = .ok (.goto 4, 3) := by decide +kernel
theorem d_T_markOf_145 : decode c_T_markOf 145 = .ok (.iconst 0, 1) := by decide +kernel
theorem d_T_markOf_146 : decode c_T_markOf 146 = .ok (.istore 5, 2) := by decide +kernel
theorem d_T_markOf_148 : decode c_T_markOf 148 = .ok (.iload 5, 2) := by decide +kernel
theorem d_T_markOf_150 : decode c_T_markOf 150 = .ok (.ifCond .eq 7, 3) := by decide +kernel
theorem d_T_markOf_153 : decode c_T_markOf 153 = .ok (.iconst 2, 1) := by decide +kernel
theorem d_T_markOf_154 : decode c_T_markOf 154 = .ok (.goto 4, 3) := by decide +kernel
theorem d_T_markOf_157 : decode c_T_markOf 157 = .ok (.iconst 0, 1) := by decide +kernel
theorem d_T_markOf_158 : decode c_T_markOf 158 = .ok (.ireturn, 1) := by decide +kernel
theorem d_T_entityAt_0 : decode c_T_entityAt 0 = .ok (.iload_n 1, 1) := by decide +kernel
theorem d_T_entityAt_1 : decode c_T_entityAt 1 = .ok (.ifCond .lt 17, 3) := by decide +kernel
theorem d_T_entityAt_4 : decode c_T_entityAt 4 = .ok (.iload_n 1, 1) := by decide +kernel
theorem d_T_entityAt_5 : decode c_T_entityAt 5 = .ok (.aload_n 0, 1) := by decide +kernel
theorem d_T_entityAt_6 : decode c_T_entityAt 6 = .ok (.getfield 54, 3) := by decide +kernel
theorem d_T_entityAt_9 : decode c_T_entityAt 9 = .ok (.if_icmp .ge 9, 3) := by decide +kernel
theorem d_T_entityAt_12 : decode c_T_entityAt 12 = .ok (.iload_n 1, 1) := by decide +kernel
theorem d_T_entityAt_13 : decode c_T_entityAt 13 = .ok (.bipush 16, 2) := by decide +kernel
theorem d_T_entityAt_15 : decode c_T_entityAt 15 = .ok (.if_icmp .lt 13, 3) := by decide +kernel
theorem d_T_entityAt_18 : decode c_T_entityAt 18 = .ok (.new 58, 3) := by decide +kernel
theorem d_T_entityAt_21 : decode c_T_entityAt 21 = .ok (.dup, 1) := by decide +kernel
theorem d_T_entityAt_22 : decode c_T_entityAt 22 = .ok (.ldc 60, 2) := by decide +kernel
theorem d_T_entityAt_24 : decode c_T_entityAt 24 = .ok (.invokespecial 62, 3) := by decide +kernel
theorem d_T_entityAt_27 : decode c_T_entityAt 27 = .ok (.athrow, 1) := by decide +kernel
theorem d_T_entityAt_28 : decode c_T_entityAt 28 = .ok (.aload_n 0, 1) := by decide +kernel
theorem d_T_entityAt_29 : decode c_T_entityAt 29 = .ok (.getfield 49, 3) := by decide +kernel
theorem d_T_entityAt_32 : decode c_T_entityAt 32 = .ok (.iload_n 1, 1) := by decide +kernel
theorem d_T_entityAt_33 : decode c_T_entityAt 33 = .ok (.aaload, 1) := by decide +kernel
theorem d_T_entityAt_34 : decode c_T_entityAt 34 = .ok (.areturn, 1) := by decide +kernel
theorem d_X_init_0 : decode c_X_init 0 = .ok (.aload_n 0, 1) := by decide +kernel
theorem d_X_init_1 : decode c_X_init 1 = .ok (.invokespecial 1, 3) := by decide +kernel
theorem d_X_init_4 : decode c_X_init 4 = .ok (.aload_n 0, 1) := by decide +kernel
theorem d_X_init_5 : decode c_X_init 5 = .ok (.new 7, 3) := by decide +kernel
theorem d_X_init_8 : decode c_X_init 8 = .ok (.dup, 1) := by decide +kernel
theorem d_X_init_9 : decode c_X_init 9 = .ok (.sipush 320, 3) := by decide +kernel
theorem d_X_init_12 : decode c_X_init 12 = .ok (.invokespecial 11, 3) := by decide +kernel
theorem d_X_init_15 : decode c_X_init 15 = .ok (.putfield 14, 3) := by decide +kernel
theorem d_X_init_18 : decode c_X_init 18 = .ok (.aload_n 0, 1) := by decide +kernel
theorem d_X_init_19 : decode c_X_init 19 = .ok (.new 7, 3) := by decide +kernel
theorem d_X_init_22 : decode c_X_init 22 = .ok (.dup, 1) := by decide +kernel
theorem d_X_init_23 : decode c_X_init 23 = .ok (.sipush 700, 3) := by decide +kernel
theorem d_X_init_26 : decode c_X_init 26 = .ok (.invokespecial 11, 3) := by decide +kernel
theorem d_X_init_29 : decode c_X_init 29 = .ok (.putfield 18, 3) := by decide +kernel
theorem d_X_init_32 : decode c_X_init 32 = .ok (.aload_n 0, 1) := by decide +kernel
theorem d_X_init_33 : decode c_X_init 33 = .ok (.new 21, 3) := by decide +kernel
theorem d_X_init_36 : decode c_X_init 36 = .ok (.dup, 1) := by decide +kernel
theorem d_X_init_37 : decode c_X_init 37 = .ok (.invokespecial 23, 3) := by decide +kernel
theorem d_X_init_40 : decode c_X_init 40 = .ok (.putfield 24, 3) := by decide +kernel
theorem d_X_init_43 : decode c_X_init 43 = .ok (.aload_n 0, 1) := by decide +kernel
theorem d_X_init_44 : decode c_X_init 44 = .ok (.new 28, 3) := by decide +kernel
theorem d_X_init_47 : decode c_X_init 47 = .ok (.dup, 1) := by decide +kernel
theorem d_X_init_48 : decode c_X_init 48 = .ok (.aload_n 0, 1) := by decide +kernel
theorem d_X_init_49 : decode c_X_init 49 = .ok (.getfield 24, 3) := by decide +kernel
theorem d_X_init_52 : decode c_X_init 52 = .ok (.invokespecial 30, 3) := by decide +kernel
theorem d_X_init_55 : decode c_X_init 55 = .ok (.putfield 33, 3) := by decide +kernel
theorem d_X_init_58 : decode c_X_init 58 = .ok (.return_, 1) := by decide +kernel
theorem d_X_feed_0 : decode c_X_feed 0 = .ok (.iload_n 3, 1) := by decide +kernel
theorem d_X_feed_1 : decode c_X_feed 1 = .ok (.iconst 1, 1) := by decide +kernel
theorem d_X_feed_2 : decode c_X_feed 2 = .ok (.if_icmp .lt 24, 3) := by decide +kernel
theorem d_X_feed_5 : decode c_X_feed 5 = .ok (.iload_n 3, 1) := by decide +kernel
theorem d_X_feed_6 : decode c_X_feed 6 = .ok (.bipush 8, 2) := by decide +kernel
theorem d_X_feed_8 : decode c_X_feed 8 = .ok (.if_icmp .gt 18, 3) := by decide +kernel
theorem d_X_feed_11 : decode c_X_feed 11 = .ok (.aload_n 0, 1) := by decide +kernel
theorem d_X_feed_12 : decode c_X_feed 12 = .ok (.getfield 14, 3) := by decide +kernel
theorem d_X_feed_15 : decode c_X_feed 15 = .ok (.getfield 37, 3) := by decide +kernel
theorem d_X_feed_18 : decode c_X_feed 18 = .ok (.iload_n 3, 1) := by decide +kernel
theorem d_X_feed_19 : decode c_X_feed 19 = .ok (.iadd, 1) := by decide +kernel
theorem d_X_feed_20 : decode c_X_feed 20 = .ok (.sipush 320, 3) := by decide +kernel
theorem d_X_feed_23 : decode c_X_feed 23 = .ok (.if_icmp .le 5, 3) := by decide +kernel
theorem d_X_feed_26 : decode c_X_feed 26 = .ok (.iconst 0, 1) := by decide +kernel
theorem d_X_feed_27 : decode c_X_feed 27 = .ok (.ireturn, 1) := by decide +kernel
theorem d_X_feed_28 : decode c_X_feed 28 = .ok (.iconst 0, 1) := by decide +kernel
theorem d_X_feed_29 : decode c_X_feed 29 = .ok (.istore 4, 2) := by decide +kernel
theorem d_X_feed_31 : decode c_X_feed 31 = .ok (.iload 4, 2) := by decide +kernel
theorem d_X_feed_33 : decode c_X_feed 33 = .ok (.iload_n 3, 1) := by decide +kernel
theorem d_X_feed_34 : decode c_X_feed 34 = .ok (.if_icmp .ge 28, 3) := by decide +kernel
theorem d_X_feed_37 : decode c_X_feed 37 = .ok (.aload_n 0, 1) := by decide +kernel
theorem d_X_feed_38 : decode c_X_feed 38 = .ok (.getfield 14, 3) := by decide +kernel
theorem d_X_feed_41 : decode c_X_feed 41 = .ok (.lload_n 1, 1) := by decide +kernel
theorem d_X_feed_42 : decode c_X_feed 42 = .ok (.bipush 8, 2) := by decide +kernel
theorem d_X_feed_44 : decode c_X_feed 44 = .ok (.iload 4, 2) := by decide +kernel
theorem d_X_feed_46 : decode c_X_feed 46 = .ok (.imul, 1) := by decide +kernel
theorem d_X_feed_47 : decode c_X_feed 47 = .ok (.lushr, 1) := by decide +kernel
theorem d_X_feed_48 : decode c_X_feed 48 = .ok (.l2i, 1) := by decide +kernel
theorem d_X_feed_49 : decode c_X_feed 49 = .ok (.sipush 255, 3) := by decide +kernel
theorem d_X_feed_52 : decode c_X_feed 52 = .ok (.iand, 1) := by decide +kernel
theorem d_X_feed_53 : decode c_X_feed 53 = .ok (.invokevirtual 41, 3) := by decide +kernel
theorem d_X_feed_56 : decode c_X_feed 56 = .ok (.iinc 4 1, 3) := by decide +kernel
theorem d_X_feed_59 : decode c_X_feed 59 = .ok (.goto (-28), 3) := by decide +kernel
theorem d_X_feed_62 : decode c_X_feed 62 = .ok (.iconst 1, 1) := by decide +kernel
theorem d_X_feed_63 : decode c_X_feed 63 = .ok (.ireturn, 1) := by decide +kernel
theorem d_X_clear_0 : decode c_X_clear 0 = .ok (.aload_n 0, 1) := by decide +kernel
theorem d_X_clear_1 : decode c_X_clear 1 = .ok (.getfield 14, 3) := by decide +kernel
theorem d_X_clear_4 : decode c_X_clear 4 = .ok (.getfield 37, 3) := by decide +kernel
theorem d_X_clear_7 : decode c_X_clear 7 = .ok (.istore_n 1, 1) := by decide +kernel
theorem d_X_clear_8 : decode c_X_clear 8 = .ok (.aload_n 0, 1) := by decide +kernel
theorem d_X_clear_9 : decode c_X_clear 9 = .ok (.getfield 14, 3) := by decide +kernel
theorem d_X_clear_12 : decode c_X_clear 12 = .ok (.invokevirtual 44, 3) := by decide +kernel
theorem d_X_clear_15 : decode c_X_clear 15 = .ok (.iload_n 1, 1) := by decide +kernel
theorem d_X_clear_16 : decode c_X_clear 16 = .ok (.ireturn, 1) := by decide +kernel
theorem d_X_read_0 : decode c_X_read 0 = .ok (.aload_n 0, 1) := by decide +kernel
theorem d_X_read_1 : decode c_X_read 1 = .ok (.getfield 24, 3) := by decide +kernel
theorem d_X_read_4 : decode c_X_read 4 = .ok (.aload_n 0, 1) := by decide +kernel
theorem d_X_read_5 : decode c_X_read 5 = .ok (.getfield 14, 3) := by decide +kernel
theorem d_X_read_8 : decode c_X_read 8 = .ok (.invokevirtual 47, 3) := by decide +kernel
theorem d_X_read_11 : decode c_X_read 11 = .ok (.aload_n 0, 1) := by decide +kernel
theorem d_X_read_12 : decode c_X_read 12 = .ok (.getfield 24, 3) := by decide +kernel
theorem d_X_read_15 : decode c_X_read 15 = .ok (.iconst 0, 1) := by decide +kernel
theorem d_X_read_16 : decode c_X_read 16 = .ok (.aload_n 0, 1) := by decide +kernel
theorem d_X_read_17 : decode c_X_read 17 = .ok (.getfield 14, 3) := by decide +kernel
theorem d_X_read_20 : decode c_X_read 20 = .ok (.getfield 37, 3) := by decide +kernel
theorem d_X_read_23 : decode c_X_read 23 = .ok (.iconst 1, 1) := by decide +kernel
theorem d_X_read_24 : decode c_X_read 24 = .ok (.iconst (-1), 1) := by decide +kernel
theorem d_X_read_25 : decode c_X_read 25 = .ok (.invokevirtual 51, 3) := by decide +kernel
theorem d_X_read_28 : decode c_X_read 28 = .ok (.aload_n 0, 1) := by decide +kernel
theorem d_X_read_29 : decode c_X_read 29 = .ok (.getfield 24, 3) := by decide +kernel
theorem d_X_read_32 : decode c_X_read 32 = .ok (.getfield 55, 3) := by decide +kernel
theorem d_X_read_35 : decode c_X_read 35 = .ok (.ireturn, 1) := by decide +kernel
theorem d_X_isBlank_0 : decode c_X_isBlank 0 = .ok (.iload_n 0, 1) := by decide +kernel
theorem d_X_isBlank_1 : decode c_X_isBlank 1 = .ok (.bipush 32, 2) := by decide +kernel
theorem d_X_isBlank_3 : decode c_X_isBlank 3 = .ok (.if_icmp .eq 9, 3) := by decide +kernel
theorem d_X_isBlank_6 : decode c_X_isBlank 6 = .ok (.iload_n 0, 1) := by decide +kernel
theorem d_X_isBlank_7 : decode c_X_isBlank 7 = .ok (.bipush 9, 2) := by decide +kernel
theorem d_X_isBlank_9 : decode c_X_isBlank 9 = .ok (.if_icmp .ne 7, 3) := by decide +kernel
theorem d_X_isBlank_12 : decode c_X_isBlank 12 = .ok (.iconst 1, 1) := by decide +kernel
theorem d_X_isBlank_13 : decode c_X_isBlank 13 = .ok (.goto 4, 3) := by decide +kernel
theorem d_X_isBlank_16 : decode c_X_isBlank 16 = .ok (.iconst 0, 1) := by decide +kernel
theorem d_X_isBlank_17 : decode c_X_isBlank 17 = .ok (.ireturn, 1) := by decide +kernel
theorem d_X_isNameByte_0 : decode c_X_isNameByte 0 = .ok (.iload_n 0, 1) := by decide +kernel
theorem d_X_isNameByte_1 : decode c_X_isNameByte 1 = .ok (.bipush 33, 2) := by decide +kernel
theorem d_X_isNameByte_3 : decode c_X_isNameByte 3 = .ok (.if_icmp .lt 19, 3) := by decide +kernel
theorem d_X_isNameByte_6 : decode c_X_isNameByte 6 = .ok (.iload_n 0, 1) := by decide +kernel
theorem d_X_isNameByte_7 : decode c_X_isNameByte 7 = .ok (.bipush 126, 2) := by decide +kernel
theorem d_X_isNameByte_9 : decode c_X_isNameByte 9 = .ok (.if_icmp .gt 13, 3) := by decide +kernel
theorem d_X_isNameByte_12 : decode c_X_isNameByte 12 = .ok (.iload_n 0, 1) := by decide +kernel
theorem d_X_isNameByte_13 : decode c_X_isNameByte 13 = .ok (.bipush 58, 2) := by decide +kernel
theorem d_X_isNameByte_15 : decode c_X_isNameByte 15 = .ok (.if_icmp .eq 7, 3) := by decide +kernel
theorem d_X_isNameByte_18 : decode c_X_isNameByte 18 = .ok (.iconst 1, 1) := by decide +kernel
theorem d_X_isNameByte_19 : decode c_X_isNameByte 19 = .ok (.goto 4, 3) := by decide +kernel
theorem d_X_isNameByte_22 : decode c_X_isNameByte 22 = .ok (.iconst 0, 1) := by decide +kernel
theorem d_X_isNameByte_23 : decode c_X_isNameByte 23 = .ok (.ireturn, 1) := by decide +kernel
theorem d_X_small_0 : decode c_X_small 0 = .ok (.iload_n 0, 1) := by decide +kernel
theorem d_X_small_1 : decode c_X_small 1 = .ok (.bipush 65, 2) := by decide +kernel
theorem d_X_small_3 : decode c_X_small 3 = .ok (.if_icmp .lt 16, 3) := by decide +kernel
theorem d_X_small_6 : decode c_X_small 6 = .ok (.iload_n 0, 1) := by decide +kernel
theorem d_X_small_7 : decode c_X_small 7 = .ok (.bipush 90, 2) := by decide +kernel
theorem d_X_small_9 : decode c_X_small 9 = .ok (.if_icmp .gt 10, 3) := by decide +kernel
theorem d_X_small_12 : decode c_X_small 12 = .ok (.iload_n 0, 1) := by decide +kernel
theorem d_X_small_13 : decode c_X_small 13 = .ok (.bipush 32, 2) := by decide +kernel
theorem d_X_small_15 : decode c_X_small 15 = .ok (.iadd, 1) := by decide +kernel
theorem d_X_small_16 : decode c_X_small 16 = .ok (.goto 4, 3) := by decide +kernel
theorem d_X_small_19 : decode c_X_small 19 = .ok (.iload_n 0, 1) := by decide +kernel
theorem d_X_small_20 : decode c_X_small 20 = .ok (.ireturn, 1) := by decide +kernel
theorem d_X_isAtomByte_0 : decode c_X_isAtomByte 0 = .ok (.iload_n 0, 1) := by decide +kernel
theorem d_X_isAtomByte_1 : decode c_X_isAtomByte 1 = .ok (.bipush 33, 2) := by decide +kernel
theorem d_X_isAtomByte_3 : decode c_X_isAtomByte 3 = .ok (.if_icmp .lt 23, 3) := by decide +kernel
theorem d_X_isAtomByte_6 : decode c_X_isAtomByte 6 = .ok (.iload_n 0, 1) := by decide +kernel
theorem d_X_isAtomByte_7 : decode c_X_isAtomByte 7 = .ok (.bipush 126, 2) := by decide +kernel
theorem d_X_isAtomByte_9 : decode c_X_isAtomByte 9 = .ok (.if_icmp .gt 17, 3) := by decide +kernel
theorem d_X_isAtomByte_12 : decode c_X_isAtomByte 12 = .ok (.ldc 186, 2) := by decide +kernel
theorem d_X_isAtomByte_14 : decode c_X_isAtomByte 14 = .ok (.iload_n 0, 1) := by decide +kernel
theorem d_X_isAtomByte_15 : decode c_X_isAtomByte 15 = .ok (.i2c, 1) := by decide +kernel
theorem d_X_isAtomByte_16 : decode c_X_isAtomByte 16 = .ok (.invokevirtual 188, 3) := by decide +kernel
theorem d_X_isAtomByte_19 : decode c_X_isAtomByte 19 = .ok (.ifCond .ge 7, 3) := by decide +kernel
theorem d_X_isAtomByte_22 : decode c_X_isAtomByte 22 = .ok (.iconst 1, 1) := by decide +kernel
theorem d_X_isAtomByte_23 : decode c_X_isAtomByte 23 = .ok (.goto 4, 3) := by decide +kernel
theorem d_X_isAtomByte_26 : decode c_X_isAtomByte 26 = .ok (.iconst 0, 1) := by decide +kernel
theorem d_X_isAtomByte_27 : decode c_X_isAtomByte 27 = .ok (.ireturn, 1) := by decide +kernel
theorem d_X_base64Digit_0 : decode c_X_base64Digit 0 = .ok (.iload_n 0, 1) := by decide +kernel
theorem d_X_base64Digit_1 : decode c_X_base64Digit 1 = .ok (.ifCond .ge 7, 3) := by decide +kernel
theorem d_X_base64Digit_4 : decode c_X_base64Digit 4 = .ok (.iconst (-1), 1) := by decide +kernel
theorem d_X_base64Digit_5 : decode c_X_base64Digit 5 = .ok (.goto 10, 3) := by decide +kernel
theorem d_X_base64Digit_8 : decode c_X_base64Digit 8 = .ok (.ldc 196, 2) := by decide +kernel
theorem d_X_base64Digit_10 : decode c_X_base64Digit 10 = .ok (.iload_n 0, 1) := by decide +kernel
theorem d_X_base64Digit_11 : decode c_X_base64Digit 11 = .ok (.i2c, 1) := by decide +kernel
theorem d_X_base64Digit_12 : decode c_X_base64Digit 12 = .ok (.invokevirtual 188, 3) := by decide +kernel
theorem d_X_base64Digit_15 : decode c_X_base64Digit 15 = .ok (.ireturn, 1) := by decide +kernel
theorem d_X_hexDigit_0 : decode c_X_hexDigit 0 = .ok (.iload_n 0, 1) := by decide +kernel
theorem d_X_hexDigit_1 : decode c_X_hexDigit 1 = .ok (.bipush 48, 2) := by decide +kernel
theorem d_X_hexDigit_3 : decode c_X_hexDigit 3 = .ok (.if_icmp .lt 14, 3) := by decide +kernel
theorem d_X_hexDigit_6 : decode c_X_hexDigit 6 = .ok (.iload_n 0, 1) := by decide +kernel
theorem d_X_hexDigit_7 : decode c_X_hexDigit 7 = .ok (.bipush 57, 2) := by decide +kernel
theorem d_X_hexDigit_9 : decode c_X_hexDigit 9 = .ok (.if_icmp .gt 8, 3) := by decide +kernel
theorem d_X_hexDigit_12 : decode c_X_hexDigit 12 = .ok (.iload_n 0, 1) := by decide +kernel
theorem d_X_hexDigit_13 : decode c_X_hexDigit 13 = .ok (.bipush 48, 2) := by decide +kernel
theorem d_X_hexDigit_15 : decode c_X_hexDigit 15 = .ok (.isub, 1) := by decide +kernel
theorem d_X_hexDigit_16 : decode c_X_hexDigit 16 = .ok (.ireturn, 1) := by decide +kernel
theorem d_X_hexDigit_17 : decode c_X_hexDigit 17 = .ok (.iload_n 0, 1) := by decide +kernel
theorem d_X_hexDigit_18 : decode c_X_hexDigit 18 = .ok (.invokestatic 193, 3) := by decide +kernel
theorem d_X_hexDigit_21 : decode c_X_hexDigit 21 = .ok (.istore_n 1, 1) := by decide +kernel
theorem d_X_hexDigit_22 : decode c_X_hexDigit 22 = .ok (.iload_n 1, 1) := by decide +kernel
theorem d_X_hexDigit_23 : decode c_X_hexDigit 23 = .ok (.bipush 97, 2) := by decide +kernel
theorem d_X_hexDigit_25 : decode c_X_hexDigit 25 = .ok (.if_icmp .lt 19, 3) := by decide +kernel
theorem d_X_hexDigit_28 : decode c_X_hexDigit 28 = .ok (.iload_n 1, 1) := by decide +kernel
theorem d_X_hexDigit_29 : decode c_X_hexDigit 29 = .ok (.bipush 102, 2) := by decide +kernel
theorem d_X_hexDigit_31 : decode c_X_hexDigit 31 = .ok (.if_icmp .gt 13, 3) := by decide +kernel
theorem d_X_hexDigit_34 : decode c_X_hexDigit 34 = .ok (.iload_n 1, 1) := by decide +kernel
theorem d_X_hexDigit_35 : decode c_X_hexDigit 35 = .ok (.bipush 97, 2) := by decide +kernel
theorem d_X_hexDigit_37 : decode c_X_hexDigit 37 = .ok (.isub, 1) := by decide +kernel
theorem d_X_hexDigit_38 : decode c_X_hexDigit 38 = .ok (.bipush 10, 2) := by decide +kernel
theorem d_X_hexDigit_40 : decode c_X_hexDigit 40 = .ok (.iadd, 1) := by decide +kernel
theorem d_X_hexDigit_41 : decode c_X_hexDigit 41 = .ok (.goto 4, 3) := by decide +kernel
theorem d_X_hexDigit_44 : decode c_X_hexDigit 44 = .ok (.iconst (-1), 1) := by decide +kernel
theorem d_X_hexDigit_45 : decode c_X_hexDigit 45 = .ok (.ireturn, 1) := by decide +kernel
theorem d_X_entities_0 : decode c_X_entities 0 = .ok (.aload_n 0, 1) := by decide +kernel
theorem d_X_entities_1 : decode c_X_entities 1 = .ok (.getfield 24, 3) := by decide +kernel
theorem d_X_entities_4 : decode c_X_entities 4 = .ok (.getfield 55, 3) := by decide +kernel
theorem d_X_entities_7 : decode c_X_entities 7 = .ok (.ireturn, 1) := by decide +kernel
theorem d_X_written_0 : decode c_X_written 0 = .ok (.aload_n 0, 1) := by decide +kernel
theorem d_X_written_1 : decode c_X_written 1 = .ok (.getfield 18, 3) := by decide +kernel
theorem d_X_written_4 : decode c_X_written 4 = .ok (.iload_n 1, 1) := by decide +kernel
theorem d_X_written_5 : decode c_X_written 5 = .ok (.invokevirtual 146, 3) := by decide +kernel
theorem d_X_written_8 : decode c_X_written 8 = .ok (.ireturn, 1) := by decide +kernel
theorem d_X_again_0 : decode c_X_again 0 = .ok (.aload_n 0, 1) := by decide +kernel
theorem d_X_again_1 : decode c_X_again 1 = .ok (.getfield 14, 3) := by decide +kernel
theorem d_X_again_4 : decode c_X_again 4 = .ok (.invokevirtual 44, 3) := by decide +kernel
theorem d_X_again_7 : decode c_X_again 7 = .ok (.aload_n 0, 1) := by decide +kernel
theorem d_X_again_8 : decode c_X_again 8 = .ok (.getfield 14, 3) := by decide +kernel
theorem d_X_again_11 : decode c_X_again 11 = .ok (.aload_n 0, 1) := by decide +kernel
theorem d_X_again_12 : decode c_X_again 12 = .ok (.getfield 18, 3) := by decide +kernel
theorem d_X_again_15 : decode c_X_again 15 = .ok (.iconst 0, 1) := by decide +kernel
theorem d_X_again_16 : decode c_X_again 16 = .ok (.aload_n 0, 1) := by decide +kernel
theorem d_X_again_17 : decode c_X_again 17 = .ok (.getfield 18, 3) := by decide +kernel
theorem d_X_again_20 : decode c_X_again 20 = .ok (.getfield 37, 3) := by decide +kernel
theorem d_X_again_23 : decode c_X_again 23 = .ok (.sipush 320, 3) := by decide +kernel
theorem d_X_again_26 : decode c_X_again 26 = .ok (.invokestatic 175, 3) := by decide +kernel
theorem d_X_again_29 : decode c_X_again 29 = .ok (.invokevirtual 171, 3) := by decide +kernel
theorem d_X_again_32 : decode c_X_again 32 = .ok (.aload_n 0, 1) := by decide +kernel
theorem d_X_again_33 : decode c_X_again 33 = .ok (.getfield 14, 3) := by decide +kernel
theorem d_X_again_36 : decode c_X_again 36 = .ok (.getfield 37, 3) := by decide +kernel
theorem d_X_again_39 : decode c_X_again 39 = .ok (.ireturn, 1) := by decide +kernel
theorem d_X_look_0 : decode c_X_look 0 = .ok (.aload_n 0, 1) := by decide +kernel
theorem d_X_look_1 : decode c_X_look 1 = .ok (.getfield 24, 3) := by decide +kernel
theorem d_X_look_4 : decode c_X_look 4 = .ok (.iload_n 1, 1) := by decide +kernel
theorem d_X_look_5 : decode c_X_look 5 = .ok (.invokevirtual 58, 3) := by decide +kernel
theorem d_X_look_8 : decode c_X_look 8 = .ok (.astore_n 3, 1) := by decide +kernel
theorem d_X_look_9 : decode c_X_look 9 = .ok (.iload_n 2, 1) := by decide +kernel
theorem d_X_look_10 : decode c_X_look 10 = .ok (.tableswitch 104 0 9 #[54, 59, 64, 69, 74, 79, 84, 89, 94, 99], 54) := by decide +kernel
theorem d_X_look_64 : decode c_X_look 64 = .ok (.aload_n 3, 1) := by decide +kernel
theorem d_X_look_65 : decode c_X_look 65 = .ok (.getfield 62, 3) := by decide +kernel
theorem d_X_look_68 : decode c_X_look 68 = .ok (.ireturn, 1) := by decide +kernel
theorem d_X_look_69 : decode c_X_look 69 = .ok (.aload_n 3, 1) := by decide +kernel
theorem d_X_look_70 : decode c_X_look 70 = .ok (.getfield 67, 3) := by decide +kernel
theorem d_X_look_73 : decode c_X_look 73 = .ok (.ireturn, 1) := by decide +kernel
theorem d_X_look_74 : decode c_X_look 74 = .ok (.aload_n 3, 1) := by decide +kernel
theorem d_X_look_75 : decode c_X_look 75 = .ok (.getfield 70, 3) := by decide +kernel
theorem d_X_look_78 : decode c_X_look 78 = .ok (.ireturn, 1) := by decide +kernel
theorem d_X_look_79 : decode c_X_look 79 = .ok (.aload_n 3, 1) := by decide +kernel
theorem d_X_look_80 : decode c_X_look 80 = .ok (.getfield 73, 3) := by decide +kernel
theorem d_X_look_83 : decode c_X_look 83 = .ok (.ireturn, 1) := by decide +kernel
theorem d_X_look_84 : decode c_X_look 84 = .ok (.aload_n 3, 1) := by decide +kernel
theorem d_X_look_85 : decode c_X_look 85 = .ok (.getfield 76, 3) := by decide +kernel
theorem d_X_look_88 : decode c_X_look 88 = .ok (.ireturn, 1) := by decide +kernel
theorem d_X_look_89 : decode c_X_look 89 = .ok (.aload_n 3, 1) := by decide +kernel
theorem d_X_look_90 : decode c_X_look 90 = .ok (.getfield 79, 3) := by decide +kernel
theorem d_X_look_93 : decode c_X_look 93 = .ok (.ireturn, 1) := by decide +kernel
theorem d_X_look_94 : decode c_X_look 94 = .ok (.aload_n 3, 1) := by decide +kernel
theorem d_X_look_95 : decode c_X_look 95 = .ok (.getfield 82, 3) := by decide +kernel
theorem d_X_look_98 : decode c_X_look 98 = .ok (.ireturn, 1) := by decide +kernel
theorem d_X_look_99 : decode c_X_look 99 = .ok (.aload_n 3, 1) := by decide +kernel
theorem d_X_look_100 : decode c_X_look 100 = .ok (.getfield 85, 3) := by decide +kernel
theorem d_X_look_103 : decode c_X_look 103 = .ok (.ireturn, 1) := by decide +kernel
theorem d_X_look_104 : decode c_X_look 104 = .ok (.aload_n 3, 1) := by decide +kernel
theorem d_X_look_105 : decode c_X_look 105 = .ok (.getfield 88, 3) := by decide +kernel
theorem d_X_look_108 : decode c_X_look 108 = .ok (.ireturn, 1) := by decide +kernel
theorem d_X_look_109 : decode c_X_look 109 = .ok (.aload_n 3, 1) := by decide +kernel
theorem d_X_look_110 : decode c_X_look 110 = .ok (.getfield 91, 3) := by decide +kernel
theorem d_X_look_113 : decode c_X_look 113 = .ok (.ireturn, 1) := by decide +kernel
theorem d_X_look_114 : decode c_X_look 114 = .ok (.new 94, 3) := by decide +kernel
theorem d_X_look_117 : decode c_X_look 117 = .ok (.dup, 1) := by decide +kernel
theorem d_X_look_118 : decode c_X_look 118 = .ok (.ldc 96, 2) := by decide +kernel
theorem d_X_look_120 : decode c_X_look 120 = .ok (.invokespecial 98, 3) := by decide +kernel
theorem d_X_look_123 : decode c_X_look 123 = .ok (.athrow, 1) := by decide +kernel
theorem d_X_length_0 : decode c_X_length 0 = .ok (.aload_n 0, 1) := by decide +kernel
theorem d_X_length_1 : decode c_X_length 1 = .ok (.getfield 24, 3) := by decide +kernel
theorem d_X_length_4 : decode c_X_length 4 = .ok (.iload_n 1, 1) := by decide +kernel
theorem d_X_length_5 : decode c_X_length 5 = .ok (.invokevirtual 58, 3) := by decide +kernel
theorem d_X_length_8 : decode c_X_length 8 = .ok (.iload_n 2, 1) := by decide +kernel
theorem d_X_length_9 : decode c_X_length 9 = .ok (.invokevirtual 101, 3) := by decide +kernel
theorem d_X_length_12 : decode c_X_length 12 = .ok (.astore 4, 2) := by decide +kernel
theorem d_X_length_14 : decode c_X_length 14 = .ok (.iload_n 3, 1) := by decide +kernel
theorem d_X_length_15 : decode c_X_length 15 = .ok (.lookupswitch 37 #[(0, 25), (1, 31)], 25) := by decide +kernel
theorem d_X_length_40 : decode c_X_length 40 = .ok (.aload 4, 2) := by decide +kernel
theorem d_X_length_42 : decode c_X_length 42 = .ok (.getfield 105, 3) := by decide +kernel
theorem d_X_length_45 : decode c_X_length 45 = .ok (.ireturn, 1) := by decide +kernel
theorem d_X_length_46 : decode c_X_length 46 = .ok (.aload 4, 2) := by decide +kernel
theorem d_X_length_48 : decode c_X_length 48 = .ok (.getfield 110, 3) := by decide +kernel
theorem d_X_length_51 : decode c_X_length 51 = .ok (.ireturn, 1) := by decide +kernel
theorem d_X_length_52 : decode c_X_length 52 = .ok (.new 94, 3) := by decide +kernel
theorem d_X_length_55 : decode c_X_length 55 = .ok (.dup, 1) := by decide +kernel
theorem d_X_length_56 : decode c_X_length 56 = .ok (.ldc 113, 2) := by decide +kernel
theorem d_X_length_58 : decode c_X_length 58 = .ok (.invokespecial 98, 3) := by decide +kernel
theorem d_X_length_61 : decode c_X_length 61 = .ok (.athrow, 1) := by decide +kernel
theorem d_X_letter_0 : decode c_X_letter 0 = .ok (.aload_n 0, 1) := by decide +kernel
theorem d_X_letter_1 : decode c_X_letter 1 = .ok (.getfield 24, 3) := by decide +kernel
theorem d_X_letter_4 : decode c_X_letter 4 = .ok (.iload_n 1, 1) := by decide +kernel
theorem d_X_letter_5 : decode c_X_letter 5 = .ok (.invokevirtual 58, 3) := by decide +kernel
theorem d_X_letter_8 : decode c_X_letter 8 = .ok (.iload_n 2, 1) := by decide +kernel
theorem d_X_letter_9 : decode c_X_letter 9 = .ok (.invokevirtual 101, 3) := by decide +kernel
theorem d_X_letter_12 : decode c_X_letter 12 = .ok (.astore 5, 2) := by decide +kernel
theorem d_X_letter_14 : decode c_X_letter 14 = .ok (.iload_n 3, 1) := by decide +kernel
theorem d_X_letter_15 : decode c_X_letter 15 = .ok (.lookupswitch 71 #[(0, 25), (1, 48)], 25) := by decide +kernel
theorem d_X_letter_40 : decode c_X_letter 40 = .ok (.aload_n 0, 1) := by decide +kernel
theorem d_X_letter_41 : decode c_X_letter 41 = .ok (.getfield 24, 3) := by decide +kernel
theorem d_X_letter_44 : decode c_X_letter 44 = .ok (.getfield 115, 3) := by decide +kernel
theorem d_X_letter_47 : decode c_X_letter 47 = .ok (.aload 5, 2) := by decide +kernel
theorem d_X_letter_49 : decode c_X_letter 49 = .ok (.getfield 118, 3) := by decide +kernel
theorem d_X_letter_52 : decode c_X_letter 52 = .ok (.aload 5, 2) := by decide +kernel
theorem d_X_letter_54 : decode c_X_letter 54 = .ok (.getfield 105, 3) := by decide +kernel
theorem d_X_letter_57 : decode c_X_letter 57 = .ok (.iload 4, 2) := by decide +kernel
theorem d_X_letter_59 : decode c_X_letter 59 = .ok (.invokestatic 121, 3) := by decide +kernel
theorem d_X_letter_62 : decode c_X_letter 62 = .ok (.ireturn, 1) := by decide +kernel
theorem d_X_letter_63 : decode c_X_letter 63 = .ok (.aload_n 0, 1) := by decide +kernel
theorem d_X_letter_64 : decode c_X_letter 64 = .ok (.getfield 24, 3) := by decide +kernel
theorem d_X_letter_67 : decode c_X_letter 67 = .ok (.getfield 125, 3) := by decide +kernel
theorem d_X_letter_70 : decode c_X_letter 70 = .ok (.aload 5, 2) := by decide +kernel
theorem d_X_letter_72 : decode c_X_letter 72 = .ok (.getfield 128, 3) := by decide +kernel
theorem d_X_letter_75 : decode c_X_letter 75 = .ok (.aload 5, 2) := by decide +kernel
theorem d_X_letter_77 : decode c_X_letter 77 = .ok (.getfield 110, 3) := by decide +kernel
theorem d_X_letter_80 : decode c_X_letter 80 = .ok (.iload 4, 2) := by decide +kernel
theorem d_X_letter_82 : decode c_X_letter 82 = .ok (.invokestatic 121, 3) := by decide +kernel
theorem d_X_letter_85 : decode c_X_letter 85 = .ok (.ireturn, 1) := by decide +kernel
theorem d_X_letter_86 : decode c_X_letter 86 = .ok (.new 94, 3) := by decide +kernel
theorem d_X_letter_89 : decode c_X_letter 89 = .ok (.dup, 1) := by decide +kernel
theorem d_X_letter_90 : decode c_X_letter 90 = .ok (.ldc 113, 2) := by decide +kernel
theorem d_X_letter_92 : decode c_X_letter 92 = .ok (.invokespecial 98, 3) := by decide +kernel
theorem d_X_letter_95 : decode c_X_letter 95 = .ok (.athrow, 1) := by decide +kernel
theorem d_X_byteOf_0 : decode c_X_byteOf 0 = .ok (.iload_n 3, 1) := by decide +kernel
theorem d_X_byteOf_1 : decode c_X_byteOf 1 = .ok (.ifCond .lt 8, 3) := by decide +kernel
theorem d_X_byteOf_4 : decode c_X_byteOf 4 = .ok (.iload_n 3, 1) := by decide +kernel
theorem d_X_byteOf_5 : decode c_X_byteOf 5 = .ok (.iload_n 2, 1) := by decide +kernel
theorem d_X_byteOf_6 : decode c_X_byteOf 6 = .ok (.if_icmp .lt 13, 3) := by decide +kernel
theorem d_X_byteOf_9 : decode c_X_byteOf 9 = .ok (.new 181, 3) := by decide +kernel
theorem d_X_byteOf_12 : decode c_X_byteOf 12 = .ok (.dup, 1) := by decide +kernel
theorem d_X_byteOf_13 : decode c_X_byteOf 13 = .ok (.ldc 183, 2) := by decide +kernel
theorem d_X_byteOf_15 : decode c_X_byteOf 15 = .ok (.invokespecial 185, 3) := by decide +kernel
theorem d_X_byteOf_18 : decode c_X_byteOf 18 = .ok (.athrow, 1) := by decide +kernel
theorem d_X_byteOf_19 : decode c_X_byteOf 19 = .ok (.aload_n 0, 1) := by decide +kernel
theorem d_X_byteOf_20 : decode c_X_byteOf 20 = .ok (.iload_n 1, 1) := by decide +kernel
theorem d_X_byteOf_21 : decode c_X_byteOf 21 = .ok (.iload_n 3, 1) := by decide +kernel
theorem d_X_byteOf_22 : decode c_X_byteOf 22 = .ok (.iadd, 1) := by decide +kernel
theorem d_X_byteOf_23 : decode c_X_byteOf 23 = .ok (.invokevirtual 146, 3) := by decide +kernel
theorem d_X_byteOf_26 : decode c_X_byteOf 26 = .ok (.ireturn, 1) := by decide +kernel
theorem d_X_content_0 : decode c_X_content 0 = .ok (.aload_n 0, 1) := by decide +kernel
theorem d_X_content_1 : decode c_X_content 1 = .ok (.getfield 24, 3) := by decide +kernel
theorem d_X_content_4 : decode c_X_content 4 = .ok (.iload_n 1, 1) := by decide +kernel
theorem d_X_content_5 : decode c_X_content 5 = .ok (.invokevirtual 58, 3) := by decide +kernel
theorem d_X_content_8 : decode c_X_content 8 = .ok (.astore_n 3, 1) := by decide +kernel
theorem d_X_content_9 : decode c_X_content 9 = .ok (.aload_n 0, 1) := by decide +kernel
theorem d_X_content_10 : decode c_X_content 10 = .ok (.getfield 24, 3) := by decide +kernel
theorem d_X_content_13 : decode c_X_content 13 = .ok (.getfield 131, 3) := by decide +kernel
theorem d_X_content_16 : decode c_X_content 16 = .ok (.aload_n 3, 1) := by decide +kernel
theorem d_X_content_17 : decode c_X_content 17 = .ok (.getfield 134, 3) := by decide +kernel
theorem d_X_content_20 : decode c_X_content 20 = .ok (.aload_n 3, 1) := by decide +kernel
theorem d_X_content_21 : decode c_X_content 21 = .ok (.getfield 79, 3) := by decide +kernel
theorem d_X_content_24 : decode c_X_content 24 = .ok (.iload_n 2, 1) := by decide +kernel
theorem d_X_content_25 : decode c_X_content 25 = .ok (.invokestatic 121, 3) := by decide +kernel
theorem d_X_content_28 : decode c_X_content 28 = .ok (.ireturn, 1) := by decide +kernel
theorem d_X_boundary_0 : decode c_X_boundary 0 = .ok (.aload_n 0, 1) := by decide +kernel
theorem d_X_boundary_1 : decode c_X_boundary 1 = .ok (.getfield 24, 3) := by decide +kernel
theorem d_X_boundary_4 : decode c_X_boundary 4 = .ok (.iload_n 1, 1) := by decide +kernel
theorem d_X_boundary_5 : decode c_X_boundary 5 = .ok (.invokevirtual 58, 3) := by decide +kernel
theorem d_X_boundary_8 : decode c_X_boundary 8 = .ok (.astore_n 3, 1) := by decide +kernel
theorem d_X_boundary_9 : decode c_X_boundary 9 = .ok (.iload_n 2, 1) := by decide +kernel
theorem d_X_boundary_10 : decode c_X_boundary 10 = .ok (.ifCond .lt 11, 3) := by decide +kernel
theorem d_X_boundary_13 : decode c_X_boundary 13 = .ok (.iload_n 2, 1) := by decide +kernel
theorem d_X_boundary_14 : decode c_X_boundary 14 = .ok (.aload_n 3, 1) := by decide +kernel
theorem d_X_boundary_15 : decode c_X_boundary 15 = .ok (.getfield 137, 3) := by decide +kernel
theorem d_X_boundary_18 : decode c_X_boundary 18 = .ok (.if_icmp .lt 5, 3) := by decide +kernel
theorem d_X_boundary_21 : decode c_X_boundary 21 = .ok (.iconst (-1), 1) := by decide +kernel
theorem d_X_boundary_22 : decode c_X_boundary 22 = .ok (.ireturn, 1) := by decide +kernel
theorem d_X_boundary_23 : decode c_X_boundary 23 = .ok (.aload_n 0, 1) := by decide +kernel
theorem d_X_boundary_24 : decode c_X_boundary 24 = .ok (.getfield 24, 3) := by decide +kernel
theorem d_X_boundary_27 : decode c_X_boundary 27 = .ok (.getfield 140, 3) := by decide +kernel
theorem d_X_boundary_30 : decode c_X_boundary 30 = .ok (.aload_n 3, 1) := by decide +kernel
theorem d_X_boundary_31 : decode c_X_boundary 31 = .ok (.getfield 143, 3) := by decide +kernel
theorem d_X_boundary_34 : decode c_X_boundary 34 = .ok (.iload_n 2, 1) := by decide +kernel
theorem d_X_boundary_35 : decode c_X_boundary 35 = .ok (.iadd, 1) := by decide +kernel
theorem d_X_boundary_36 : decode c_X_boundary 36 = .ok (.invokevirtual 146, 3) := by decide +kernel
theorem d_X_boundary_39 : decode c_X_boundary 39 = .ok (.ireturn, 1) := by decide +kernel
theorem d_X_write_0 : decode c_X_write 0 = .ok (.aload_n 0, 1) := by decide +kernel
theorem d_X_write_1 : decode c_X_write 1 = .ok (.getfield 24, 3) := by decide +kernel
theorem d_X_write_4 : decode c_X_write 4 = .ok (.getfield 55, 3) := by decide +kernel
theorem d_X_write_7 : decode c_X_write 7 = .ok (.ifCond .ne 13, 3) := by decide +kernel
theorem d_X_write_10 : decode c_X_write 10 = .ok (.new 150, 3) := by decide +kernel
theorem d_X_write_13 : decode c_X_write 13 = .ok (.dup, 1) := by decide +kernel
theorem d_X_write_14 : decode c_X_write 14 = .ok (.ldc 152, 2) := by decide +kernel
theorem d_X_write_16 : decode c_X_write 16 = .ok (.invokespecial 154, 3) := by decide +kernel
theorem d_X_write_19 : decode c_X_write 19 = .ok (.athrow, 1) := by decide +kernel
theorem d_X_write_20 : decode c_X_write 20 = .ok (.aload_n 0, 1) := by decide +kernel
theorem d_X_write_21 : decode c_X_write 21 = .ok (.getfield 33, 3) := by decide +kernel
theorem d_X_write_24 : decode c_X_write 24 = .ok (.getfield 155, 3) := by decide +kernel
theorem d_X_write_27 : decode c_X_write 27 = .ok (.astore_n 1, 1) := by decide +kernel
theorem d_X_write_28 : decode c_X_write 28 = .ok (.aload_n 1, 1) := by decide +kernel
theorem d_X_write_29 : decode c_X_write 29 = .ok (.invokevirtual 44, 3) := by decide +kernel
theorem d_X_write_32 : decode c_X_write 32 = .ok (.aload_n 0, 1) := by decide +kernel
theorem d_X_write_33 : decode c_X_write 33 = .ok (.getfield 33, 3) := by decide +kernel
theorem d_X_write_36 : decode c_X_write 36 = .ok (.iconst 0, 1) := by decide +kernel
theorem d_X_write_37 : decode c_X_write 37 = .ok (.iconst 1, 1) := by decide +kernel
theorem d_X_write_38 : decode c_X_write 38 = .ok (.invokevirtual 158, 3) := by decide +kernel
theorem d_X_write_41 : decode c_X_write 41 = .ok (.aload_n 1, 1) := by decide +kernel
theorem d_X_write_42 : decode c_X_write 42 = .ok (.getfield 162, 3) := by decide +kernel
theorem d_X_write_45 : decode c_X_write 45 = .ok (.ifCond .eq 13, 3) := by decide +kernel
theorem d_X_write_48 : decode c_X_write 48 = .ok (.new 166, 3) := by decide +kernel
theorem d_X_write_51 : decode c_X_write 51 = .ok (.dup, 1) := by decide +kernel
theorem d_X_write_52 : decode c_X_write 52 = .ok (.ldc 168, 2) := by decide +kernel
theorem d_X_write_54 : decode c_X_write 54 = .ok (.invokespecial 170, 3) := by decide +kernel
theorem d_X_write_57 : decode c_X_write 57 = .ok (.athrow, 1) := by decide +kernel
theorem d_X_write_58 : decode c_X_write 58 = .ok (.aload_n 0, 1) := by decide +kernel
theorem d_X_write_59 : decode c_X_write 59 = .ok (.getfield 18, 3) := by decide +kernel
theorem d_X_write_62 : decode c_X_write 62 = .ok (.invokevirtual 44, 3) := by decide +kernel
theorem d_X_write_65 : decode c_X_write 65 = .ok (.aload_n 0, 1) := by decide +kernel
theorem d_X_write_66 : decode c_X_write 66 = .ok (.getfield 18, 3) := by decide +kernel
theorem d_X_write_69 : decode c_X_write 69 = .ok (.aload_n 1, 1) := by decide +kernel
theorem d_X_write_70 : decode c_X_write 70 = .ok (.iconst 0, 1) := by decide +kernel
theorem d_X_write_71 : decode c_X_write 71 = .ok (.aload_n 1, 1) := by decide +kernel
theorem d_X_write_72 : decode c_X_write 72 = .ok (.getfield 37, 3) := by decide +kernel
theorem d_X_write_75 : decode c_X_write 75 = .ok (.invokevirtual 171, 3) := by decide +kernel
theorem d_X_write_78 : decode c_X_write 78 = .ok (.aload_n 0, 1) := by decide +kernel
theorem d_X_write_79 : decode c_X_write 79 = .ok (.getfield 18, 3) := by decide +kernel
theorem d_X_write_82 : decode c_X_write 82 = .ok (.getfield 37, 3) := by decide +kernel
theorem d_X_write_85 : decode c_X_write 85 = .ok (.ireturn, 1) := by decide +kernel
