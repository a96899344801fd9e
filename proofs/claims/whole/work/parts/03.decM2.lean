theorem d_M_encoding_83 : decode c_M_encoding 83 = .ok (.iconst 1, 1) := by decide +kernel
theorem d_M_encoding_84 : decode c_M_encoding 84 = .ok (.goto 25, 3) := by decide +kernel
theorem d_M_encoding_87 : decode c_M_encoding 87 = .ok (.aload_n 0, 1) := by decide +kernel
theorem d_M_encoding_88 : decode c_M_encoding 88 = .ok (.iload_n 3, 1) := by decide +kernel
theorem d_M_encoding_89 : decode c_M_encoding 89 = .ok (.iload 4, 2) := by decide +kernel
theorem d_M_encoding_91 : decode c_M_encoding 91 = .ok (.ldc2_w 146, 3) := by decide +kernel
theorem d_M_encoding_94 : decode c_M_encoding 94 = .ok (.ldc2_w 148, 3) := by decide +kernel
theorem d_M_encoding_97 : decode c_M_encoding 97 = .ok (.lconst 0, 1) := by decide +kernel
theorem d_M_encoding_98 : decode c_M_encoding 98 = .ok (.invokevirtual 119, 3) := by decide +kernel
theorem d_M_encoding_101 : decode c_M_encoding 101 = .ok (.ifCond .eq 7, 3) := by decide +kernel
theorem d_M_encoding_104 : decode c_M_encoding 104 = .ok (.iconst 2, 1) := by decide +kernel
theorem d_M_encoding_105 : decode c_M_encoding 105 = .ok (.goto 4, 3) := by decide +kernel
theorem d_M_encoding_108 : decode c_M_encoding 108 = .ok (.iconst 0, 1) := by decide +kernel
theorem d_M_encoding_109 : decode c_M_encoding 109 = .ok (.ireturn, 1) := by decide +kernel
theorem d_M_firstField_0 : decode c_M_firstField 0 = .ok (.iconst 0, 1) := by decide +kernel
theorem d_M_firstField_1 : decode c_M_firstField 1 = .ok (.istore 8, 2) := by decide +kernel
theorem d_M_firstField_3 : decode c_M_firstField 3 = .ok (.iload 8, 2) := by decide +kernel
theorem d_M_firstField_5 : decode c_M_firstField 5 = .ok (.aload_n 0, 1) := by decide +kernel
theorem d_M_firstField_6 : decode c_M_firstField 6 = .ok (.iload_n 1, 1) := by decide +kernel
theorem d_M_firstField_7 : decode c_M_firstField 7 = .ok (.iconst 3, 1) := by decide +kernel
theorem d_M_firstField_8 : decode c_M_firstField 8 = .ok (.invokevirtual 59, 3) := by decide +kernel
theorem d_M_firstField_11 : decode c_M_firstField 11 = .ok (.if_icmp .ge 40, 3) := by decide +kernel
theorem d_M_firstField_14 : decode c_M_firstField 14 = .ok (.aload_n 0, 1) := by decide +kernel
theorem d_M_firstField_15 : decode c_M_firstField 15 = .ok (.aload_n 0, 1) := by decide +kernel
theorem d_M_firstField_16 : decode c_M_firstField 16 = .ok (.iload_n 1, 1) := by decide +kernel
theorem d_M_firstField_17 : decode c_M_firstField 17 = .ok (.iload 8, 2) := by decide +kernel
theorem d_M_firstField_19 : decode c_M_firstField 19 = .ok (.iconst 0, 1) := by decide +kernel
theorem d_M_firstField_20 : decode c_M_firstField 20 = .ok (.invokevirtual 115, 3) := by decide +kernel
theorem d_M_firstField_23 : decode c_M_firstField 23 = .ok (.aload_n 0, 1) := by decide +kernel
theorem d_M_firstField_24 : decode c_M_firstField 24 = .ok (.iload_n 1, 1) := by decide +kernel
theorem d_M_firstField_25 : decode c_M_firstField 25 = .ok (.iload 8, 2) := by decide +kernel
theorem d_M_firstField_27 : decode c_M_firstField 27 = .ok (.iconst 1, 1) := by decide +kernel
theorem d_M_firstField_28 : decode c_M_firstField 28 = .ok (.invokevirtual 115, 3) := by decide +kernel
theorem d_M_firstField_31 : decode c_M_firstField 31 = .ok (.lload_n 2, 1) := by decide +kernel
theorem d_M_firstField_32 : decode c_M_firstField 32 = .ok (.lload 4, 2) := by decide +kernel
theorem d_M_firstField_34 : decode c_M_firstField 34 = .ok (.lload 6, 2) := by decide +kernel
theorem d_M_firstField_36 : decode c_M_firstField 36 = .ok (.invokevirtual 119, 3) := by decide +kernel
theorem d_M_firstField_39 : decode c_M_firstField 39 = .ok (.ifCond .eq 6, 3) := by decide +kernel
theorem d_M_firstField_42 : decode c_M_firstField 42 = .ok (.iload 8, 2) := by decide +kernel
theorem d_M_firstField_44 : decode c_M_firstField 44 = .ok (.ireturn, 1) := by decide +kernel
theorem d_M_firstField_45 : decode c_M_firstField 45 = .ok (.iinc 8 1, 3) := by decide +kernel
theorem d_M_firstField_48 : decode c_M_firstField 48 = .ok (.goto (-45), 3) := by decide +kernel
theorem d_M_firstField_51 : decode c_M_firstField 51 = .ok (.iconst (-1), 1) := by decide +kernel
theorem d_M_firstField_52 : decode c_M_firstField 52 = .ok (.ireturn, 1) := by decide +kernel
theorem d_M_fieldOf_0 : decode c_M_fieldOf 0 = .ok (.aload_n 0, 1) := by decide +kernel
theorem d_M_fieldOf_1 : decode c_M_fieldOf 1 = .ok (.getfield 19, 3) := by decide +kernel
theorem d_M_fieldOf_4 : decode c_M_fieldOf 4 = .ok (.iconst 4, 1) := by decide +kernel
theorem d_M_fieldOf_5 : decode c_M_fieldOf 5 = .ok (.bipush 8, 2) := by decide +kernel
theorem d_M_fieldOf_7 : decode c_M_fieldOf 7 = .ok (.iload_n 1, 1) := by decide +kernel
theorem d_M_fieldOf_8 : decode c_M_fieldOf 8 = .ok (.imul, 1) := by decide +kernel
theorem d_M_fieldOf_9 : decode c_M_fieldOf 9 = .ok (.iload_n 2, 1) := by decide +kernel
theorem d_M_fieldOf_10 : decode c_M_fieldOf 10 = .ok (.iadd, 1) := by decide +kernel
theorem d_M_fieldOf_11 : decode c_M_fieldOf 11 = .ok (.imul, 1) := by decide +kernel
theorem d_M_fieldOf_12 : decode c_M_fieldOf 12 = .ok (.iload_n 3, 1) := by decide +kernel
theorem d_M_fieldOf_13 : decode c_M_fieldOf 13 = .ok (.iadd, 1) := by decide +kernel
theorem d_M_fieldOf_14 : decode c_M_fieldOf 14 = .ok (.iaload, 1) := by decide +kernel
theorem d_M_fieldOf_15 : decode c_M_fieldOf 15 = .ok (.ireturn, 1) := by decide +kernel
theorem d_M_isWord_0 : decode c_M_isWord 0 = .ok (.iconst 0, 1) := by decide +kernel
theorem d_M_isWord_1 : decode c_M_isWord 1 = .ok (.istore 9, 2) := by decide +kernel
theorem d_M_isWord_3 : decode c_M_isWord 3 = .ok (.iconst 1, 1) := by decide +kernel
theorem d_M_isWord_4 : decode c_M_isWord 4 = .ok (.istore 10, 2) := by decide +kernel
theorem d_M_isWord_6 : decode c_M_isWord 6 = .ok (.iconst 0, 1) := by decide +kernel
theorem d_M_isWord_7 : decode c_M_isWord 7 = .ok (.istore 11, 2) := by decide +kernel
theorem d_M_isWord_9 : decode c_M_isWord 9 = .ok (.iload 11, 2) := by decide +kernel
theorem d_M_isWord_11 : decode c_M_isWord 11 = .ok (.bipush 27, 2) := by decide +kernel
theorem d_M_isWord_13 : decode c_M_isWord 13 = .ok (.if_icmp .ge 100, 3) := by decide +kernel
theorem d_M_isWord_16 : decode c_M_isWord 16 = .ok (.iload 11, 2) := by decide +kernel
theorem d_M_isWord_18 : decode c_M_isWord 18 = .ok (.bipush 9, 2) := by decide +kernel
theorem d_M_isWord_20 : decode c_M_isWord 20 = .ok (.if_icmp .ge 7, 3) := by decide +kernel
theorem d_M_isWord_23 : decode c_M_isWord 23 = .ok (.lload_n 3, 1) := by decide +kernel
theorem d_M_isWord_24 : decode c_M_isWord 24 = .ok (.goto 17, 3) := by decide +kernel
theorem d_M_isWord_27 : decode c_M_isWord 27 = .ok (.iload 11, 2) := by decide +kernel
theorem d_M_isWord_29 : decode c_M_isWord 29 = .ok (.bipush 18, 2) := by decide +kernel
theorem d_M_isWord_31 : decode c_M_isWord 31 = .ok (.if_icmp .ge 8, 3) := by decide +kernel
theorem d_M_isWord_34 : decode c_M_isWord 34 = .ok (.lload 5, 2) := by decide +kernel
theorem d_M_isWord_36 : decode c_M_isWord 36 = .ok (.goto 5, 3) := by decide +kernel
theorem d_M_isWord_39 : decode c_M_isWord 39 = .ok (.lload 7, 2) := by decide +kernel
theorem d_M_isWord_41 : decode c_M_isWord 41 = .ok (.lstore 12, 2) := by decide +kernel
theorem d_M_isWord_43 : decode c_M_isWord 43 = .ok (.lload 12, 2) := by decide +kernel
theorem d_M_isWord_45 : decode c_M_isWord 45 = .ok (.bipush 56, 2) := by decide +kernel
theorem d_M_isWord_47 : decode c_M_isWord 47 = .ok (.bipush 7, 2) := by decide +kernel
theorem d_M_isWord_49 : decode c_M_isWord 49 = .ok (.iload 11, 2) := by decide +kernel
theorem d_M_isWord_51 : decode c_M_isWord 51 = .ok (.bipush 9, 2) := by decide +kernel
theorem d_M_isWord_53 : decode c_M_isWord 53 = .ok (.irem, 1) := by decide +kernel
theorem d_M_isWord_54 : decode c_M_isWord 54 = .ok (.imul, 1) := by decide +kernel
theorem d_M_isWord_55 : decode c_M_isWord 55 = .ok (.isub, 1) := by decide +kernel
theorem d_M_isWord_56 : decode c_M_isWord 56 = .ok (.lshr, 1) := by decide +kernel
theorem d_M_isWord_57 : decode c_M_isWord 57 = .ok (.ldc2_w 87, 3) := by decide +kernel
theorem d_M_isWord_60 : decode c_M_isWord 60 = .ok (.land, 1) := by decide +kernel
theorem d_M_isWord_61 : decode c_M_isWord 61 = .ok (.l2i, 1) := by decide +kernel
theorem d_M_isWord_62 : decode c_M_isWord 62 = .ok (.istore 14, 2) := by decide +kernel
theorem d_M_isWord_64 : decode c_M_isWord 64 = .ok (.iload 14, 2) := by decide +kernel
theorem d_M_isWord_66 : decode c_M_isWord 66 = .ok (.ifCond .le 41, 3) := by decide +kernel
theorem d_M_isWord_69 : decode c_M_isWord 69 = .ok (.iload 10, 2) := by decide +kernel
theorem d_M_isWord_71 : decode c_M_isWord 71 = .ok (.ifCond .eq 30, 3) := by decide +kernel
theorem d_M_isWord_74 : decode c_M_isWord 74 = .ok (.iload 9, 2) := by decide +kernel
theorem d_M_isWord_76 : decode c_M_isWord 76 = .ok (.iload_n 2, 1) := by decide +kernel
theorem d_M_isWord_77 : decode c_M_isWord 77 = .ok (.if_icmp .ge 24, 3) := by decide +kernel
theorem d_M_isWord_80 : decode c_M_isWord 80 = .ok (.aload_n 0, 1) := by decide +kernel
theorem d_M_isWord_81 : decode c_M_isWord 81 = .ok (.getfield 22, 3) := by decide +kernel
theorem d_M_isWord_84 : decode c_M_isWord 84 = .ok (.iload_n 1, 1) := by decide +kernel
theorem d_M_isWord_85 : decode c_M_isWord 85 = .ok (.iload 9, 2) := by decide +kernel
theorem d_M_isWord_87 : decode c_M_isWord 87 = .ok (.iadd, 1) := by decide +kernel
theorem d_M_isWord_88 : decode c_M_isWord 88 = .ok (.iaload, 1) := by decide +kernel
theorem d_M_isWord_89 : decode c_M_isWord 89 = .ok (.invokestatic 89, 3) := by decide +kernel
theorem d_M_isWord_92 : decode c_M_isWord 92 = .ok (.iload 14, 2) := by decide +kernel
theorem d_M_isWord_94 : decode c_M_isWord 94 = .ok (.if_icmp .ne 7, 3) := by decide +kernel
theorem d_M_isWord_97 : decode c_M_isWord 97 = .ok (.iconst 1, 1) := by decide +kernel
theorem d_M_isWord_98 : decode c_M_isWord 98 = .ok (.goto 4, 3) := by decide +kernel
theorem d_M_isWord_101 : decode c_M_isWord 101 = .ok (.iconst 0, 1) := by decide +kernel
theorem d_M_isWord_102 : decode c_M_isWord 102 = .ok (.istore 10, 2) := by decide +kernel
theorem d_M_isWord_104 : decode c_M_isWord 104 = .ok (.iinc 9 1, 3) := by decide +kernel
theorem d_M_isWord_107 : decode c_M_isWord 107 = .ok (.iinc 11 1, 3) := by decide +kernel
theorem d_M_isWord_110 : decode c_M_isWord 110 = .ok (.goto (-101), 3) := by decide +kernel
theorem d_M_isWord_113 : decode c_M_isWord 113 = .ok (.iload 10, 2) := by decide +kernel
theorem d_M_isWord_115 : decode c_M_isWord 115 = .ok (.ifCond .eq 13, 3) := by decide +kernel
theorem d_M_isWord_118 : decode c_M_isWord 118 = .ok (.iload 9, 2) := by decide +kernel
theorem d_M_isWord_120 : decode c_M_isWord 120 = .ok (.iload_n 2, 1) := by decide +kernel
theorem d_M_isWord_121 : decode c_M_isWord 121 = .ok (.if_icmp .ne 7, 3) := by decide +kernel
theorem d_M_isWord_124 : decode c_M_isWord 124 = .ok (.iconst 1, 1) := by decide +kernel
theorem d_M_isWord_125 : decode c_M_isWord 125 = .ok (.goto 4, 3) := by decide +kernel
theorem d_M_isWord_128 : decode c_M_isWord 128 = .ok (.iconst 0, 1) := by decide +kernel
theorem d_M_isWord_129 : decode c_M_isWord 129 = .ok (.ireturn, 1) := by decide +kernel
theorem d_M_small_0 : decode c_M_small 0 = .ok (.iload_n 0, 1) := by decide +kernel
theorem d_M_small_1 : decode c_M_small 1 = .ok (.bipush 65, 2) := by decide +kernel
theorem d_M_small_3 : decode c_M_small 3 = .ok (.if_icmp .lt 16, 3) := by decide +kernel
theorem d_M_small_6 : decode c_M_small 6 = .ok (.iload_n 0, 1) := by decide +kernel
theorem d_M_small_7 : decode c_M_small 7 = .ok (.bipush 90, 2) := by decide +kernel
theorem d_M_small_9 : decode c_M_small 9 = .ok (.if_icmp .gt 10, 3) := by decide +kernel
theorem d_M_small_12 : decode c_M_small 12 = .ok (.iload_n 0, 1) := by decide +kernel
theorem d_M_small_13 : decode c_M_small 13 = .ok (.bipush 32, 2) := by decide +kernel
theorem d_M_small_15 : decode c_M_small 15 = .ok (.iadd, 1) := by decide +kernel
theorem d_M_small_16 : decode c_M_small 16 = .ok (.goto 4, 3) := by decide +kernel
theorem d_M_small_19 : decode c_M_small 19 = .ok (.iload_n 0, 1) := by decide +kernel
theorem d_M_small_20 : decode c_M_small 20 = .ok (.ireturn, 1) := by decide +kernel
theorem d_M_enter_0 : decode c_M_enter 0 = .ok (.aload_n 0, 1) := by decide +kernel
theorem d_M_enter_1 : decode c_M_enter 1 = .ok (.aload_n 0, 1) := by decide +kernel
theorem d_M_enter_2 : decode c_M_enter 2 = .ok (.iload_n 1, 1) := by decide +kernel
theorem d_M_enter_3 : decode c_M_enter 3 = .ok (.iload_n 2, 1) := by decide +kernel
theorem d_M_enter_4 : decode c_M_enter 4 = .ok (.iconst 2, 1) := by decide +kernel
theorem d_M_enter_5 : decode c_M_enter 5 = .ok (.invokevirtual 115, 3) := by decide +kernel
theorem d_M_enter_8 : decode c_M_enter 8 = .ok (.putfield 93, 3) := by decide +kernel
theorem d_M_enter_11 : decode c_M_enter 11 = .ok (.aload_n 0, 1) := by decide +kernel
theorem d_M_enter_12 : decode c_M_enter 12 = .ok (.aload_n 0, 1) := by decide +kernel
theorem d_M_enter_13 : decode c_M_enter 13 = .ok (.getfield 93, 3) := by decide +kernel
theorem d_M_enter_16 : decode c_M_enter 16 = .ok (.aload_n 0, 1) := by decide +kernel
theorem d_M_enter_17 : decode c_M_enter 17 = .ok (.iload_n 1, 1) := by decide +kernel
theorem d_M_enter_18 : decode c_M_enter 18 = .ok (.iload_n 2, 1) := by decide +kernel
theorem d_M_enter_19 : decode c_M_enter 19 = .ok (.iconst 3, 1) := by decide +kernel
theorem d_M_enter_20 : decode c_M_enter 20 = .ok (.invokevirtual 115, 3) := by decide +kernel
theorem d_M_enter_23 : decode c_M_enter 23 = .ok (.iadd, 1) := by decide +kernel
theorem d_M_enter_24 : decode c_M_enter 24 = .ok (.putfield 96, 3) := by decide +kernel
theorem d_M_enter_27 : decode c_M_enter 27 = .ok (.return_, 1) := by decide +kernel
theorem d_M_space_0 : decode c_M_space 0 = .ok (.iconst 1, 1) := by decide +kernel
theorem d_M_space_1 : decode c_M_space 1 = .ok (.istore_n 1, 1) := by decide +kernel
theorem d_M_space_2 : decode c_M_space 2 = .ok (.iload_n 1, 1) := by decide +kernel
theorem d_M_space_3 : decode c_M_space 3 = .ok (.ifCond .eq 47, 3) := by decide +kernel
theorem d_M_space_6 : decode c_M_space 6 = .ok (.aload_n 0, 1) := by decide +kernel
theorem d_M_space_7 : decode c_M_space 7 = .ok (.invokevirtual 99, 3) := by decide +kernel
theorem d_M_space_10 : decode c_M_space 10 = .ok (.invokestatic 62, 3) := by decide +kernel
theorem d_M_space_13 : decode c_M_space 13 = .ok (.ifCond .eq 16, 3) := by decide +kernel
theorem d_M_space_16 : decode c_M_space 16 = .ok (.aload_n 0, 1) := by decide +kernel
theorem d_M_space_17 : decode c_M_space 17 = .ok (.dup, 1) := by decide +kernel
theorem d_M_space_18 : decode c_M_space 18 = .ok (.getfield 93, 3) := by decide +kernel
theorem d_M_space_21 : decode c_M_space 21 = .ok (.iconst 1, 1) := by decide +kernel
theorem d_M_space_22 : decode c_M_space 22 = .ok (.iadd, 1) := by decide +kernel
theorem d_M_space_23 : decode c_M_space 23 = .ok (.putfield 93, 3) := by decide +kernel
theorem d_M_space_26 : decode c_M_space 26 = .ok (.goto (-24), 3) := by decide +kernel
theorem d_M_space_29 : decode c_M_space 29 = .ok (.aload_n 0, 1) := by decide +kernel
theorem d_M_space_30 : decode c_M_space 30 = .ok (.invokevirtual 99, 3) := by decide +kernel
theorem d_M_space_33 : decode c_M_space 33 = .ok (.bipush 40, 2) := by decide +kernel
theorem d_M_space_35 : decode c_M_space 35 = .ok (.if_icmp .ne 10, 3) := by decide +kernel
theorem d_M_space_38 : decode c_M_space 38 = .ok (.aload_n 0, 1) := by decide +kernel
theorem d_M_space_39 : decode c_M_space 39 = .ok (.invokevirtual 103, 3) := by decide +kernel
theorem d_M_space_42 : decode c_M_space 42 = .ok (.goto (-40), 3) := by decide +kernel
theorem d_M_space_45 : decode c_M_space 45 = .ok (.iconst 0, 1) := by decide +kernel
theorem d_M_space_46 : decode c_M_space 46 = .ok (.istore_n 1, 1) := by decide +kernel
theorem d_M_space_47 : decode c_M_space 47 = .ok (.goto (-45), 3) := by decide +kernel
theorem d_M_space_50 : decode c_M_space 50 = .ok (.return_, 1) := by decide +kernel
theorem d_M_now_0 : decode c_M_now 0 = .ok (.aload_n 0, 1) := by decide +kernel
theorem d_M_now_1 : decode c_M_now 1 = .ok (.getfield 93, 3) := by decide +kernel
theorem d_M_now_4 : decode c_M_now 4 = .ok (.aload_n 0, 1) := by decide +kernel
theorem d_M_now_5 : decode c_M_now 5 = .ok (.getfield 96, 3) := by decide +kernel
theorem d_M_now_8 : decode c_M_now 8 = .ok (.if_icmp .ge 15, 3) := by decide +kernel
theorem d_M_now_11 : decode c_M_now 11 = .ok (.aload_n 0, 1) := by decide +kernel
theorem d_M_now_12 : decode c_M_now 12 = .ok (.getfield 22, 3) := by decide +kernel
theorem d_M_now_15 : decode c_M_now 15 = .ok (.aload_n 0, 1) := by decide +kernel
theorem d_M_now_16 : decode c_M_now 16 = .ok (.getfield 93, 3) := by decide +kernel
theorem d_M_now_19 : decode c_M_now 19 = .ok (.iaload, 1) := by decide +kernel
theorem d_M_now_20 : decode c_M_now 20 = .ok (.goto 4, 3) := by decide +kernel
theorem d_M_now_23 : decode c_M_now 23 = .ok (.iconst (-1), 1) := by decide +kernel
theorem d_M_now_24 : decode c_M_now 24 = .ok (.ireturn, 1) := by decide +kernel
theorem d_M_comment_0 : decode c_M_comment 0 = .ok (.iconst 0, 1) := by decide +kernel
theorem d_M_comment_1 : decode c_M_comment 1 = .ok (.istore_n 1, 1) := by decide +kernel
theorem d_M_comment_2 : decode c_M_comment 2 = .ok (.aload_n 0, 1) := by decide +kernel
theorem d_M_comment_3 : decode c_M_comment 3 = .ok (.getfield 93, 3) := by decide +kernel
theorem d_M_comment_6 : decode c_M_comment 6 = .ok (.aload_n 0, 1) := by decide +kernel
theorem d_M_comment_7 : decode c_M_comment 7 = .ok (.getfield 96, 3) := by decide +kernel
theorem d_M_comment_10 : decode c_M_comment 10 = .ok (.if_icmp .ge 71, 3) := by decide +kernel
theorem d_M_comment_13 : decode c_M_comment 13 = .ok (.aload_n 0, 1) := by decide +kernel
theorem d_M_comment_14 : decode c_M_comment 14 = .ok (.getfield 22, 3) := by decide +kernel
theorem d_M_comment_17 : decode c_M_comment 17 = .ok (.aload_n 0, 1) := by decide +kernel
theorem d_M_comment_18 : decode c_M_comment 18 = .ok (.getfield 93, 3) := by decide +kernel
theorem d_M_comment_21 : decode c_M_comment 21 = .ok (.iaload, 1) := by decide +kernel
theorem d_M_comment_22 : decode c_M_comment 22 = .ok (.istore_n 2, 1) := by decide +kernel
theorem d_M_comment_23 : decode c_M_comment 23 = .ok (.aload_n 0, 1) := by decide +kernel
theorem d_M_comment_24 : decode c_M_comment 24 = .ok (.dup, 1) := by decide +kernel
theorem d_M_comment_25 : decode c_M_comment 25 = .ok (.getfield 93, 3) := by decide +kernel
theorem d_M_comment_28 : decode c_M_comment 28 = .ok (.iconst 1, 1) := by decide +kernel
theorem d_M_comment_29 : decode c_M_comment 29 = .ok (.iadd, 1) := by decide +kernel
theorem d_M_comment_30 : decode c_M_comment 30 = .ok (.putfield 93, 3) := by decide +kernel
theorem d_M_comment_33 : decode c_M_comment 33 = .ok (.iload_n 2, 1) := by decide +kernel
theorem d_M_comment_34 : decode c_M_comment 34 = .ok (.bipush 92, 2) := by decide +kernel
theorem d_M_comment_36 : decode c_M_comment 36 = .ok (.if_icmp .ne 16, 3) := by decide +kernel
theorem d_M_comment_39 : decode c_M_comment 39 = .ok (.aload_n 0, 1) := by decide +kernel
theorem d_M_comment_40 : decode c_M_comment 40 = .ok (.dup, 1) := by decide +kernel
theorem d_M_comment_41 : decode c_M_comment 41 = .ok (.getfield 93, 3) := by decide +kernel
theorem d_M_comment_44 : decode c_M_comment 44 = .ok (.iconst 1, 1) := by decide +kernel
theorem d_M_comment_45 : decode c_M_comment 45 = .ok (.iadd, 1) := by decide +kernel
theorem d_M_comment_46 : decode c_M_comment 46 = .ok (.putfield 93, 3) := by decide +kernel
theorem d_M_comment_49 : decode c_M_comment 49 = .ok (.goto 24, 3) := by decide +kernel
theorem d_M_comment_52 : decode c_M_comment 52 = .ok (.iload_n 2, 1) := by decide +kernel
theorem d_M_comment_53 : decode c_M_comment 53 = .ok (.bipush 40, 2) := by decide +kernel
theorem d_M_comment_55 : decode c_M_comment 55 = .ok (.if_icmp .ne 9, 3) := by decide +kernel
theorem d_M_comment_58 : decode c_M_comment 58 = .ok (.iinc 1 1, 3) := by decide +kernel
theorem d_M_comment_61 : decode c_M_comment 61 = .ok (.goto 12, 3) := by decide +kernel
theorem d_M_comment_64 : decode c_M_comment 64 = .ok (.iload_n 2, 1) := by decide +kernel
theorem d_M_comment_65 : decode c_M_comment 65 = .ok (.bipush 41, 2) := by decide +kernel
theorem d_M_comment_67 : decode c_M_comment 67 = .ok (.if_icmp .ne 6, 3) := by decide +kernel
theorem d_M_comment_70 : decode c_M_comment 70 = .ok (.iinc 1 (-1), 3) := by decide +kernel
theorem d_M_comment_73 : decode c_M_comment 73 = .ok (.iload_n 1, 1) := by decide +kernel
theorem d_M_comment_74 : decode c_M_comment 74 = .ok (.ifCond .ne 4, 3) := by decide +kernel
theorem d_M_comment_77 : decode c_M_comment 77 = .ok (.return_, 1) := by decide +kernel
theorem d_M_comment_78 : decode c_M_comment 78 = .ok (.goto (-76), 3) := by decide +kernel
theorem d_M_comment_81 : decode c_M_comment 81 = .ok (.aload_n 0, 1) := by decide +kernel
theorem d_M_comment_82 : decode c_M_comment 82 = .ok (.aload_n 0, 1) := by decide +kernel
theorem d_M_comment_83 : decode c_M_comment 83 = .ok (.getfield 96, 3) := by decide +kernel
theorem d_M_comment_86 : decode c_M_comment 86 = .ok (.putfield 93, 3) := by decide +kernel
theorem d_M_comment_89 : decode c_M_comment 89 = .ok (.return_, 1) := by decide +kernel
theorem d_M_atom_0 : decode c_M_atom 0 = .ok (.aload_n 0, 1) := by decide +kernel
theorem d_M_atom_1 : decode c_M_atom 1 = .ok (.aload_n 0, 1) := by decide +kernel
theorem d_M_atom_2 : decode c_M_atom 2 = .ok (.getfield 93, 3) := by decide +kernel
theorem d_M_atom_5 : decode c_M_atom 5 = .ok (.putfield 106, 3) := by decide +kernel
theorem d_M_atom_8 : decode c_M_atom 8 = .ok (.aload_n 0, 1) := by decide +kernel
theorem d_M_atom_9 : decode c_M_atom 9 = .ok (.invokevirtual 99, 3) := by decide +kernel
theorem d_M_atom_12 : decode c_M_atom 12 = .ok (.invokestatic 109, 3) := by decide +kernel
theorem d_M_atom_15 : decode c_M_atom 15 = .ok (.ifCond .eq 16, 3) := by decide +kernel
theorem d_M_atom_18 : decode c_M_atom 18 = .ok (.aload_n 0, 1) := by decide +kernel
theorem d_M_atom_19 : decode c_M_atom 19 = .ok (.dup, 1) := by decide +kernel
theorem d_M_atom_20 : decode c_M_atom 20 = .ok (.getfield 93, 3) := by decide +kernel
theorem d_M_atom_23 : decode c_M_atom 23 = .ok (.iconst 1, 1) := by decide +kernel
theorem d_M_atom_24 : decode c_M_atom 24 = .ok (.iadd, 1) := by decide +kernel
theorem d_M_atom_25 : decode c_M_atom 25 = .ok (.putfield 93, 3) := by decide +kernel
theorem d_M_atom_28 : decode c_M_atom 28 = .ok (.goto (-20), 3) := by decide +kernel
theorem d_M_atom_31 : decode c_M_atom 31 = .ok (.aload_n 0, 1) := by decide +kernel
theorem d_M_atom_32 : decode c_M_atom 32 = .ok (.aload_n 0, 1) := by decide +kernel
theorem d_M_atom_33 : decode c_M_atom 33 = .ok (.getfield 93, 3) := by decide +kernel
theorem d_M_atom_36 : decode c_M_atom 36 = .ok (.aload_n 0, 1) := by decide +kernel
theorem d_M_atom_37 : decode c_M_atom 37 = .ok (.getfield 106, 3) := by decide +kernel
theorem d_M_atom_40 : decode c_M_atom 40 = .ok (.isub, 1) := by decide +kernel
theorem d_M_atom_41 : decode c_M_atom 41 = .ok (.putfield 112, 3) := by decide +kernel
theorem d_M_atom_44 : decode c_M_atom 44 = .ok (.aload_n 0, 1) := by decide +kernel
theorem d_M_atom_45 : decode c_M_atom 45 = .ok (.getfield 112, 3) := by decide +kernel
theorem d_M_atom_48 : decode c_M_atom 48 = .ok (.ifCond .le 7, 3) := by decide +kernel
theorem d_M_atom_51 : decode c_M_atom 51 = .ok (.iconst 1, 1) := by decide +kernel
theorem d_M_atom_52 : decode c_M_atom 52 = .ok (.goto 4, 3) := by decide +kernel
theorem d_M_atom_55 : decode c_M_atom 55 = .ok (.iconst 0, 1) := by decide +kernel
theorem d_M_atom_56 : decode c_M_atom 56 = .ok (.ireturn, 1) := by decide +kernel
theorem d_M_isAtom_0 : decode c_M_isAtom 0 = .ok (.iload_n 0, 1) := by decide +kernel
theorem d_M_isAtom_1 : decode c_M_isAtom 1 = .ok (.bipush 33, 2) := by decide +kernel
theorem d_M_isAtom_3 : decode c_M_isAtom 3 = .ok (.if_icmp .lt 9, 3) := by decide +kernel
theorem d_M_isAtom_6 : decode c_M_isAtom 6 = .ok (.iload_n 0, 1) := by decide +kernel
theorem d_M_isAtom_7 : decode c_M_isAtom 7 = .ok (.bipush 126, 2) := by decide +kernel
theorem d_M_isAtom_9 : decode c_M_isAtom 9 = .ok (.if_icmp .le 5, 3) := by decide +kernel
theorem d_M_isAtom_12 : decode c_M_isAtom 12 = .ok (.iconst 0, 1) := by decide +kernel
theorem d_M_isAtom_13 : decode c_M_isAtom 13 = .ok (.ireturn, 1) := by decide +kernel
theorem d_M_isAtom_14 : decode c_M_isAtom 14 = .ok (.iload_n 0, 1) := by decide +kernel
theorem d_M_isAtom_15 : decode c_M_isAtom 15 = .ok (.tableswitch 255 34 93 #[253, 255, 255, 255, 255, 255, 253, 253, 255, 255, 253, 255, 255, 253, 255, 255, 255, 255, 255, 255, 255, 255, 255, 255, 253, 253, 253, 253, 253, 253, 253, 255, 255, 255, 255, 255, 255, 255, 255, 255, 255, 255, 255, 255, 255, 255, 255, 255, 255, 255, 255, 255, 255, 255, 255, 255, 255, 253, 253, 253], 253) := by decide +kernel
theorem d_M_isAtom_268 : decode c_M_isAtom 268 = .ok (.iconst 0, 1) := by decide +kernel
theorem d_M_isAtom_269 : decode c_M_isAtom 269 = .ok (.ireturn, 1) := by decide +kernel
theorem d_M_isAtom_270 : decode c_M_isAtom 270 = .ok (.iconst 1, 1) := by decide +kernel
theorem d_M_isAtom_271 : decode c_M_isAtom 271 = .ok (.ireturn, 1) := by decide +kernel
theorem d_M_kind_0 : decode c_M_kind 0 = .ok (.aload_n 0, 1) := by decide +kernel
theorem d_M_kind_1 : decode c_M_kind 1 = .ok (.iload_n 1, 1) := by decide +kernel
theorem d_M_kind_2 : decode c_M_kind 2 = .ok (.ldc2_w 123, 3) := by decide +kernel
theorem d_M_kind_5 : decode c_M_kind 5 = .ok (.ldc2_w 158, 3) := by decide +kernel
theorem d_M_kind_8 : decode c_M_kind 8 = .ok (.lconst 0, 1) := by decide +kernel
theorem d_M_kind_9 : decode c_M_kind 9 = .ok (.invokevirtual 129, 3) := by decide +kernel
theorem d_M_kind_12 : decode c_M_kind 12 = .ok (.istore_n 2, 1) := by decide +kernel
theorem d_M_kind_13 : decode c_M_kind 13 = .ok (.iload_n 2, 1) := by decide +kernel
theorem d_M_kind_14 : decode c_M_kind 14 = .ok (.ifCond .lt 13, 3) := by decide +kernel
theorem d_M_kind_17 : decode c_M_kind 17 = .ok (.aload_n 0, 1) := by decide +kernel
theorem d_M_kind_18 : decode c_M_kind 18 = .ok (.iload_n 1, 1) := by decide +kernel
theorem d_M_kind_19 : decode c_M_kind 19 = .ok (.iconst 1, 1) := by decide +kernel
theorem d_M_kind_20 : decode c_M_kind 20 = .ok (.invokevirtual 59, 3) := by decide +kernel
theorem d_M_kind_23 : decode c_M_kind 23 = .ok (.iconst 4, 1) := by decide +kernel
theorem d_M_kind_24 : decode c_M_kind 24 = .ok (.if_icmp .ne 5, 3) := by decide +kernel
theorem d_M_kind_27 : decode c_M_kind 27 = .ok (.iconst 0, 1) := by decide +kernel
theorem d_M_kind_28 : decode c_M_kind 28 = .ok (.ireturn, 1) := by decide +kernel
theorem d_M_kind_29 : decode c_M_kind 29 = .ok (.aload_n 0, 1) := by decide +kernel
theorem d_M_kind_30 : decode c_M_kind 30 = .ok (.iload_n 1, 1) := by decide +kernel
theorem d_M_kind_31 : decode c_M_kind 31 = .ok (.iload_n 2, 1) := by decide +kernel
theorem d_M_kind_32 : decode c_M_kind 32 = .ok (.invokevirtual 133, 3) := by decide +kernel
theorem d_M_kind_35 : decode c_M_kind 35 = .ok (.aload_n 0, 1) := by decide +kernel
theorem d_M_kind_36 : decode c_M_kind 36 = .ok (.invokevirtual 137, 3) := by decide +kernel
theorem d_M_kind_39 : decode c_M_kind 39 = .ok (.aload_n 0, 1) := by decide +kernel
theorem d_M_kind_40 : decode c_M_kind 40 = .ok (.invokevirtual 140, 3) := by decide +kernel
theorem d_M_kind_43 : decode c_M_kind 43 = .ok (.ifCond .ne 5, 3) := by decide +kernel
theorem d_M_kind_46 : decode c_M_kind 46 = .ok (.iconst 0, 1) := by decide +kernel
theorem d_M_kind_47 : decode c_M_kind 47 = .ok (.ireturn, 1) := by decide +kernel
theorem d_M_kind_48 : decode c_M_kind 48 = .ok (.aload_n 0, 1) := by decide +kernel
theorem d_M_kind_49 : decode c_M_kind 49 = .ok (.getfield 106, 3) := by decide +kernel
theorem d_M_kind_52 : decode c_M_kind 52 = .ok (.istore_n 3, 1) := by decide +kernel
theorem d_M_kind_53 : decode c_M_kind 53 = .ok (.aload_n 0, 1) := by decide +kernel
theorem d_M_kind_54 : decode c_M_kind 54 = .ok (.getfield 112, 3) := by decide +kernel
theorem d_M_kind_57 : decode c_M_kind 57 = .ok (.istore 4, 2) := by decide +kernel
theorem d_M_kind_59 : decode c_M_kind 59 = .ok (.aload_n 0, 1) := by decide +kernel
theorem d_M_kind_60 : decode c_M_kind 60 = .ok (.invokevirtual 137, 3) := by decide +kernel
theorem d_M_kind_63 : decode c_M_kind 63 = .ok (.aload_n 0, 1) := by decide +kernel
theorem d_M_kind_64 : decode c_M_kind 64 = .ok (.bipush 47, 2) := by decide +kernel
theorem d_M_kind_66 : decode c_M_kind 66 = .ok (.invokevirtual 150, 3) := by decide +kernel
theorem d_M_kind_69 : decode c_M_kind 69 = .ok (.ifCond .ne 5, 3) := by decide +kernel
theorem d_M_kind_72 : decode c_M_kind 72 = .ok (.iconst 0, 1) := by decide +kernel
theorem d_M_kind_73 : decode c_M_kind 73 = .ok (.ireturn, 1) := by decide +kernel
theorem d_M_kind_74 : decode c_M_kind 74 = .ok (.aload_n 0, 1) := by decide +kernel
theorem d_M_kind_75 : decode c_M_kind 75 = .ok (.invokevirtual 137, 3) := by decide +kernel
theorem d_M_kind_78 : decode c_M_kind 78 = .ok (.aload_n 0, 1) := by decide +kernel
theorem d_M_kind_79 : decode c_M_kind 79 = .ok (.invokevirtual 140, 3) := by decide +kernel
theorem d_M_kind_82 : decode c_M_kind 82 = .ok (.ifCond .ne 5, 3) := by decide +kernel
theorem d_M_kind_85 : decode c_M_kind 85 = .ok (.iconst 0, 1) := by decide +kernel
theorem d_M_kind_86 : decode c_M_kind 86 = .ok (.ireturn, 1) := by decide +kernel
theorem d_M_kind_87 : decode c_M_kind 87 = .ok (.aload_n 0, 1) := by decide +kernel
theorem d_M_kind_88 : decode c_M_kind 88 = .ok (.iload_n 3, 1) := by decide +kernel
theorem d_M_kind_89 : decode c_M_kind 89 = .ok (.iload 4, 2) := by decide +kernel
theorem d_M_kind_91 : decode c_M_kind 91 = .ok (.ldc2_w 160, 3) := by decide +kernel
theorem d_M_kind_94 : decode c_M_kind 94 = .ok (.lconst 0, 1) := by decide +kernel
theorem d_M_kind_95 : decode c_M_kind 95 = .ok (.lconst 0, 1) := by decide +kernel
theorem d_M_kind_96 : decode c_M_kind 96 = .ok (.invokevirtual 119, 3) := by decide +kernel
theorem d_M_kind_99 : decode c_M_kind 99 = .ok (.ifCond .eq 25, 3) := by decide +kernel
theorem d_M_kind_102 : decode c_M_kind 102 = .ok (.aload_n 0, 1) := by decide +kernel
theorem d_M_kind_103 : decode c_M_kind 103 = .ok (.aload_n 0, 1) := by decide +kernel
theorem d_M_kind_104 : decode c_M_kind 104 = .ok (.getfield 106, 3) := by decide +kernel
theorem d_M_kind_107 : decode c_M_kind 107 = .ok (.aload_n 0, 1) := by decide +kernel
theorem d_M_kind_108 : decode c_M_kind 108 = .ok (.getfield 112, 3) := by decide +kernel
theorem d_M_kind_111 : decode c_M_kind 111 = .ok (.ldc2_w 162, 3) := by decide +kernel
theorem d_M_kind_114 : decode c_M_kind 114 = .ok (.lconst 0, 1) := by decide +kernel
theorem d_M_kind_115 : decode c_M_kind 115 = .ok (.lconst 0, 1) := by decide +kernel
theorem d_M_kind_116 : decode c_M_kind 116 = .ok (.invokevirtual 119, 3) := by decide +kernel
theorem d_M_kind_119 : decode c_M_kind 119 = .ok (.ifCond .eq 5, 3) := by decide +kernel
theorem d_M_kind_122 : decode c_M_kind 122 = .ok (.iconst 2, 1) := by decide +kernel
theorem d_M_kind_123 : decode c_M_kind 123 = .ok (.ireturn, 1) := by decide +kernel
theorem d_M_kind_124 : decode c_M_kind 124 = .ok (.aload_n 0, 1) := by decide +kernel
theorem d_M_kind_125 : decode c_M_kind 125 = .ok (.iload_n 3, 1) := by decide +kernel
theorem d_M_kind_126 : decode c_M_kind 126 = .ok (.iload 4, 2) := by decide +kernel
theorem d_M_kind_128 : decode c_M_kind 128 = .ok (.ldc2_w 164, 3) := by decide +kernel
theorem d_M_kind_131 : decode c_M_kind 131 = .ok (.lconst 0, 1) := by decide +kernel
theorem d_M_kind_132 : decode c_M_kind 132 = .ok (.lconst 0, 1) := by decide +kernel
theorem d_M_kind_133 : decode c_M_kind 133 = .ok (.invokevirtual 119, 3) := by decide +kernel
theorem d_M_kind_136 : decode c_M_kind 136 = .ok (.ifCond .ne 5, 3) := by decide +kernel
theorem d_M_kind_139 : decode c_M_kind 139 = .ok (.iconst 0, 1) := by decide +kernel
theorem d_M_kind_140 : decode c_M_kind 140 = .ok (.ireturn, 1) := by decide +kernel
theorem d_M_kind_141 : decode c_M_kind 141 = .ok (.aload_n 0, 1) := by decide +kernel
theorem d_M_kind_142 : decode c_M_kind 142 = .ok (.invokevirtual 137, 3) := by decide +kernel
theorem d_M_kind_145 : decode c_M_kind 145 = .ok (.iconst 1, 1) := by decide +kernel
theorem d_M_kind_146 : decode c_M_kind 146 = .ok (.istore 5, 2) := by decide +kernel
theorem d_M_kind_148 : decode c_M_kind 148 = .ok (.iload 5, 2) := by decide +kernel
theorem d_M_kind_150 : decode c_M_kind 150 = .ok (.iconst 1, 1) := by decide +kernel
theorem d_M_kind_151 : decode c_M_kind 151 = .ok (.if_icmp .ne 12, 3) := by decide +kernel
theorem d_M_kind_154 : decode c_M_kind 154 = .ok (.aload_n 0, 1) := by decide +kernel
theorem d_M_kind_155 : decode c_M_kind 155 = .ok (.invokevirtual 166, 3) := by decide +kernel
theorem d_M_kind_158 : decode c_M_kind 158 = .ok (.istore 5, 2) := by decide +kernel
theorem d_M_kind_160 : decode c_M_kind 160 = .ok (.goto (-12), 3) := by decide +kernel
theorem d_M_kind_163 : decode c_M_kind 163 = .ok (.iload 5, 2) := by decide +kernel
theorem d_M_kind_165 : decode c_M_kind 165 = .ok (.iconst 2, 1) := by decide +kernel
theorem d_M_kind_166 : decode c_M_kind 166 = .ok (.if_icmp .ne 10, 3) := by decide +kernel
theorem d_M_kind_169 : decode c_M_kind 169 = .ok (.aload_n 0, 1) := by decide +kernel
theorem d_M_kind_170 : decode c_M_kind 170 = .ok (.invokevirtual 169, 3) := by decide +kernel
theorem d_M_kind_173 : decode c_M_kind 173 = .ok (.ifCond .ne 5, 3) := by decide +kernel
theorem d_M_kind_176 : decode c_M_kind 176 = .ok (.iconst 0, 1) := by decide +kernel
theorem d_M_kind_177 : decode c_M_kind 177 = .ok (.ireturn, 1) := by decide +kernel
theorem d_M_kind_178 : decode c_M_kind 178 = .ok (.aload_n 0, 1) := by decide +kernel
theorem d_M_kind_179 : decode c_M_kind 179 = .ok (.getfield 106, 3) := by decide +kernel
theorem d_M_kind_182 : decode c_M_kind 182 = .ok (.istore 6, 2) := by decide +kernel
theorem d_M_kind_184 : decode c_M_kind 184 = .ok (.aload_n 0, 1) := by decide +kernel
theorem d_M_kind_185 : decode c_M_kind 185 = .ok (.iload_n 1, 1) := by decide +kernel
theorem d_M_kind_186 : decode c_M_kind 186 = .ok (.bipush 11, 2) := by decide +kernel
theorem d_M_kind_188 : decode c_M_kind 188 = .ok (.aload_n 0, 1) := by decide +kernel
theorem d_M_kind_189 : decode c_M_kind 189 = .ok (.getfield 56, 3) := by decide +kernel
theorem d_M_kind_192 : decode c_M_kind 192 = .ok (.invokevirtual 70, 3) := by decide +kernel
theorem d_M_kind_195 : decode c_M_kind 195 = .ok (.aload_n 0, 1) := by decide +kernel
theorem d_M_kind_196 : decode c_M_kind 196 = .ok (.iload_n 1, 1) := by decide +kernel
theorem d_M_kind_197 : decode c_M_kind 197 = .ok (.bipush 12, 2) := by decide +kernel
theorem d_M_kind_199 : decode c_M_kind 199 = .ok (.aload_n 0, 1) := by decide +kernel
theorem d_M_kind_200 : decode c_M_kind 200 = .ok (.getfield 112, 3) := by decide +kernel
theorem d_M_kind_203 : decode c_M_kind 203 = .ok (.invokevirtual 70, 3) := by decide +kernel
theorem d_M_kind_206 : decode c_M_kind 206 = .ok (.iconst 0, 1) := by decide +kernel
theorem d_M_kind_207 : decode c_M_kind 207 = .ok (.istore 7, 2) := by decide +kernel
theorem d_M_kind_209 : decode c_M_kind 209 = .ok (.iload 7, 2) := by decide +kernel
theorem d_M_kind_211 : decode c_M_kind 211 = .ok (.aload_n 0, 1) := by decide +kernel
theorem d_M_kind_212 : decode c_M_kind 212 = .ok (.getfield 112, 3) := by decide +kernel
theorem d_M_kind_215 : decode c_M_kind 215 = .ok (.if_icmp .ge 23, 3) := by decide +kernel
theorem d_M_kind_218 : decode c_M_kind 218 = .ok (.aload_n 0, 1) := by decide +kernel
theorem d_M_kind_219 : decode c_M_kind 219 = .ok (.aload_n 0, 1) := by decide +kernel
theorem d_M_kind_220 : decode c_M_kind 220 = .ok (.getfield 22, 3) := by decide +kernel
theorem d_M_kind_223 : decode c_M_kind 223 = .ok (.iload 6, 2) := by decide +kernel
theorem d_M_kind_225 : decode c_M_kind 225 = .ok (.iload 7, 2) := by decide +kernel
theorem d_M_kind_227 : decode c_M_kind 227 = .ok (.iadd, 1) := by decide +kernel
theorem d_M_kind_228 : decode c_M_kind 228 = .ok (.iaload, 1) := by decide +kernel
theorem d_M_kind_229 : decode c_M_kind 229 = .ok (.invokevirtual 66, 3) := by decide +kernel
theorem d_M_kind_232 : decode c_M_kind 232 = .ok (.iinc 7 1, 3) := by decide +kernel
theorem d_M_kind_235 : decode c_M_kind 235 = .ok (.goto (-26), 3) := by decide +kernel
theorem d_M_kind_238 : decode c_M_kind 238 = .ok (.iconst 1, 1) := by decide +kernel
theorem d_M_kind_239 : decode c_M_kind 239 = .ok (.ireturn, 1) := by decide +kernel
theorem d_M_takes_0 : decode c_M_takes 0 = .ok (.aload_n 0, 1) := by decide +kernel
theorem d_M_takes_1 : decode c_M_takes 1 = .ok (.invokevirtual 99, 3) := by decide +kernel
theorem d_M_takes_4 : decode c_M_takes 4 = .ok (.iload_n 1, 1) := by decide +kernel
theorem d_M_takes_5 : decode c_M_takes 5 = .ok (.if_icmp .eq 5, 3) := by decide +kernel
theorem d_M_takes_8 : decode c_M_takes 8 = .ok (.iconst 0, 1) := by decide +kernel
theorem d_M_takes_9 : decode c_M_takes 9 = .ok (.ireturn, 1) := by decide +kernel
theorem d_M_takes_10 : decode c_M_takes 10 = .ok (.aload_n 0, 1) := by decide +kernel
theorem d_M_takes_11 : decode c_M_takes 11 = .ok (.dup, 1) := by decide +kernel
theorem d_M_takes_12 : decode c_M_takes 12 = .ok (.getfield 93, 3) := by decide +kernel
theorem d_M_takes_15 : decode c_M_takes 15 = .ok (.iconst 1, 1) := by decide +kernel
theorem d_M_takes_16 : decode c_M_takes 16 = .ok (.iadd, 1) := by decide +kernel
theorem d_M_takes_17 : decode c_M_takes 17 = .ok (.putfield 93, 3) := by decide +kernel
theorem d_M_takes_20 : decode c_M_takes 20 = .ok (.iconst 1, 1) := by decide +kernel
theorem d_M_takes_21 : decode c_M_takes 21 = .ok (.ireturn, 1) := by decide +kernel
theorem d_M_parameter_0 : decode c_M_parameter 0 = .ok (.aload_n 0, 1) := by decide +kernel
theorem d_M_parameter_1 : decode c_M_parameter 1 = .ok (.bipush 59, 2) := by decide +kernel
theorem d_M_parameter_3 : decode c_M_parameter 3 = .ok (.invokevirtual 150, 3) := by decide +kernel
theorem d_M_parameter_6 : decode c_M_parameter 6 = .ok (.ifCond .ne 5, 3) := by decide +kernel
theorem d_M_parameter_9 : decode c_M_parameter 9 = .ok (.iconst 0, 1) := by decide +kernel
theorem d_M_parameter_10 : decode c_M_parameter 10 = .ok (.ireturn, 1) := by decide +kernel
theorem d_M_parameter_11 : decode c_M_parameter 11 = .ok (.aload_n 0, 1) := by decide +kernel
theorem d_M_parameter_12 : decode c_M_parameter 12 = .ok (.invokevirtual 137, 3) := by decide +kernel
theorem d_M_parameter_15 : decode c_M_parameter 15 = .ok (.aload_n 0, 1) := by decide +kernel
theorem d_M_parameter_16 : decode c_M_parameter 16 = .ok (.invokevirtual 140, 3) := by decide +kernel
theorem d_M_parameter_19 : decode c_M_parameter 19 = .ok (.ifCond .ne 5, 3) := by decide +kernel
theorem d_M_parameter_22 : decode c_M_parameter 22 = .ok (.iconst 0, 1) := by decide +kernel
theorem d_M_parameter_23 : decode c_M_parameter 23 = .ok (.ireturn, 1) := by decide +kernel
theorem d_M_parameter_24 : decode c_M_parameter 24 = .ok (.aload_n 0, 1) := by decide +kernel
theorem d_M_parameter_25 : decode c_M_parameter 25 = .ok (.aload_n 0, 1) := by decide +kernel
theorem d_M_parameter_26 : decode c_M_parameter 26 = .ok (.getfield 106, 3) := by decide +kernel
theorem d_M_parameter_29 : decode c_M_parameter 29 = .ok (.aload_n 0, 1) := by decide +kernel
theorem d_M_parameter_30 : decode c_M_parameter 30 = .ok (.getfield 112, 3) := by decide +kernel
theorem d_M_parameter_33 : decode c_M_parameter 33 = .ok (.ldc2_w 153, 3) := by decide +kernel
theorem d_M_parameter_36 : decode c_M_parameter 36 = .ok (.lconst 0, 1) := by decide +kernel
theorem d_M_parameter_37 : decode c_M_parameter 37 = .ok (.lconst 0, 1) := by decide +kernel
theorem d_M_parameter_38 : decode c_M_parameter 38 = .ok (.invokevirtual 119, 3) := by decide +kernel
theorem d_M_parameter_41 : decode c_M_parameter 41 = .ok (.istore_n 1, 1) := by decide +kernel
theorem d_M_parameter_42 : decode c_M_parameter 42 = .ok (.aload_n 0, 1) := by decide +kernel
theorem d_M_parameter_43 : decode c_M_parameter 43 = .ok (.invokevirtual 137, 3) := by decide +kernel
theorem d_M_parameter_46 : decode c_M_parameter 46 = .ok (.aload_n 0, 1) := by decide +kernel
theorem d_M_parameter_47 : decode c_M_parameter 47 = .ok (.bipush 61, 2) := by decide +kernel
theorem d_M_parameter_49 : decode c_M_parameter 49 = .ok (.invokevirtual 150, 3) := by decide +kernel
theorem d_M_parameter_52 : decode c_M_parameter 52 = .ok (.ifCond .ne 5, 3) := by decide +kernel
theorem d_M_parameter_55 : decode c_M_parameter 55 = .ok (.iconst 0, 1) := by decide +kernel
theorem d_M_parameter_56 : decode c_M_parameter 56 = .ok (.ireturn, 1) := by decide +kernel
theorem d_M_parameter_57 : decode c_M_parameter 57 = .ok (.aload_n 0, 1) := by decide +kernel
theorem d_M_parameter_58 : decode c_M_parameter 58 = .ok (.invokevirtual 137, 3) := by decide +kernel
theorem d_M_parameter_61 : decode c_M_parameter 61 = .ok (.aload_n 0, 1) := by decide +kernel
theorem d_M_parameter_62 : decode c_M_parameter 62 = .ok (.invokevirtual 99, 3) := by decide +kernel
theorem d_M_parameter_65 : decode c_M_parameter 65 = .ok (.bipush 34, 2) := by decide +kernel
theorem d_M_parameter_67 : decode c_M_parameter 67 = .ok (.if_icmp .ne 13, 3) := by decide +kernel
theorem d_M_parameter_70 : decode c_M_parameter 70 = .ok (.aload_n 0, 1) := by decide +kernel
theorem d_M_parameter_71 : decode c_M_parameter 71 = .ok (.invokevirtual 155, 3) := by decide +kernel
theorem d_M_parameter_74 : decode c_M_parameter 74 = .ok (.ifCond .ne 15, 3) := by decide +kernel
theorem d_M_parameter_77 : decode c_M_parameter 77 = .ok (.goto 10, 3) := by decide +kernel
theorem d_M_parameter_80 : decode c_M_parameter 80 = .ok (.aload_n 0, 1) := by decide +kernel
theorem d_M_parameter_81 : decode c_M_parameter 81 = .ok (.invokevirtual 140, 3) := by decide +kernel
theorem d_M_parameter_84 : decode c_M_parameter 84 = .ok (.ifCond .ne 5, 3) := by decide +kernel
theorem d_M_parameter_87 : decode c_M_parameter 87 = .ok (.iconst 0, 1) := by decide +kernel
theorem d_M_parameter_88 : decode c_M_parameter 88 = .ok (.ireturn, 1) := by decide +kernel
theorem d_M_parameter_89 : decode c_M_parameter 89 = .ok (.aload_n 0, 1) := by decide +kernel
theorem d_M_parameter_90 : decode c_M_parameter 90 = .ok (.getfield 106, 3) := by decide +kernel
theorem d_M_parameter_93 : decode c_M_parameter 93 = .ok (.istore_n 2, 1) := by decide +kernel
theorem d_M_parameter_94 : decode c_M_parameter 94 = .ok (.aload_n 0, 1) := by decide +kernel
theorem d_M_parameter_95 : decode c_M_parameter 95 = .ok (.getfield 112, 3) := by decide +kernel
theorem d_M_parameter_98 : decode c_M_parameter 98 = .ok (.istore_n 3, 1) := by decide +kernel
theorem d_M_parameter_99 : decode c_M_parameter 99 = .ok (.aload_n 0, 1) := by decide +kernel
theorem d_M_parameter_100 : decode c_M_parameter 100 = .ok (.invokevirtual 137, 3) := by decide +kernel
theorem d_M_parameter_103 : decode c_M_parameter 103 = .ok (.aload_n 0, 1) := by decide +kernel
theorem d_M_parameter_104 : decode c_M_parameter 104 = .ok (.iload_n 2, 1) := by decide +kernel
theorem d_M_parameter_105 : decode c_M_parameter 105 = .ok (.putfield 106, 3) := by decide +kernel
theorem d_M_parameter_108 : decode c_M_parameter 108 = .ok (.aload_n 0, 1) := by decide +kernel
theorem d_M_parameter_109 : decode c_M_parameter 109 = .ok (.iload_n 3, 1) := by decide +kernel
theorem d_M_parameter_110 : decode c_M_parameter 110 = .ok (.putfield 112, 3) := by decide +kernel
theorem d_M_parameter_113 : decode c_M_parameter 113 = .ok (.iload_n 1, 1) := by decide +kernel
theorem d_M_parameter_114 : decode c_M_parameter 114 = .ok (.ifCond .eq 7, 3) := by decide +kernel
theorem d_M_parameter_117 : decode c_M_parameter 117 = .ok (.iconst 2, 1) := by decide +kernel
theorem d_M_parameter_118 : decode c_M_parameter 118 = .ok (.goto 4, 3) := by decide +kernel
theorem d_M_parameter_121 : decode c_M_parameter 121 = .ok (.iconst 1, 1) := by decide +kernel
theorem d_M_parameter_122 : decode c_M_parameter 122 = .ok (.ireturn, 1) := by decide +kernel
theorem d_M_quoted_0 : decode c_M_quoted 0 = .ok (.aload_n 0, 1) := by decide +kernel
theorem d_M_quoted_1 : decode c_M_quoted 1 = .ok (.invokevirtual 99, 3) := by decide +kernel
theorem d_M_quoted_4 : decode c_M_quoted 4 = .ok (.bipush 34, 2) := by decide +kernel
theorem d_M_quoted_6 : decode c_M_quoted 6 = .ok (.if_icmp .eq 5, 3) := by decide +kernel
theorem d_M_quoted_9 : decode c_M_quoted 9 = .ok (.iconst 0, 1) := by decide +kernel
theorem d_M_quoted_10 : decode c_M_quoted 10 = .ok (.ireturn, 1) := by decide +kernel
theorem d_M_quoted_11 : decode c_M_quoted 11 = .ok (.aload_n 0, 1) := by decide +kernel
theorem d_M_quoted_12 : decode c_M_quoted 12 = .ok (.aload_n 0, 1) := by decide +kernel
theorem d_M_quoted_13 : decode c_M_quoted 13 = .ok (.getfield 56, 3) := by decide +kernel
theorem d_M_quoted_16 : decode c_M_quoted 16 = .ok (.putfield 106, 3) := by decide +kernel
theorem d_M_quoted_19 : decode c_M_quoted 19 = .ok (.aload_n 0, 1) := by decide +kernel
theorem d_M_quoted_20 : decode c_M_quoted 20 = .ok (.dup, 1) := by decide +kernel
theorem d_M_quoted_21 : decode c_M_quoted 21 = .ok (.getfield 93, 3) := by decide +kernel
theorem d_M_quoted_24 : decode c_M_quoted 24 = .ok (.iconst 1, 1) := by decide +kernel
theorem d_M_quoted_25 : decode c_M_quoted 25 = .ok (.iadd, 1) := by decide +kernel
theorem d_M_quoted_26 : decode c_M_quoted 26 = .ok (.putfield 93, 3) := by decide +kernel
theorem d_M_quoted_29 : decode c_M_quoted 29 = .ok (.aload_n 0, 1) := by decide +kernel
theorem d_M_quoted_30 : decode c_M_quoted 30 = .ok (.getfield 93, 3) := by decide +kernel
theorem d_M_quoted_33 : decode c_M_quoted 33 = .ok (.aload_n 0, 1) := by decide +kernel
theorem d_M_quoted_34 : decode c_M_quoted 34 = .ok (.getfield 96, 3) := by decide +kernel
theorem d_M_quoted_37 : decode c_M_quoted 37 = .ok (.if_icmp .ge 78, 3) := by decide +kernel
theorem d_M_quoted_40 : decode c_M_quoted 40 = .ok (.aload_n 0, 1) := by decide +kernel
theorem d_M_quoted_41 : decode c_M_quoted 41 = .ok (.getfield 22, 3) := by decide +kernel
theorem d_M_quoted_44 : decode c_M_quoted 44 = .ok (.aload_n 0, 1) := by decide +kernel
theorem d_M_quoted_45 : decode c_M_quoted 45 = .ok (.getfield 93, 3) := by decide +kernel
theorem d_M_quoted_48 : decode c_M_quoted 48 = .ok (.iaload, 1) := by decide +kernel
theorem d_M_quoted_49 : decode c_M_quoted 49 = .ok (.bipush 34, 2) := by decide +kernel
theorem d_M_quoted_51 : decode c_M_quoted 51 = .ok (.if_icmp .eq 64, 3) := by decide +kernel
theorem d_M_quoted_54 : decode c_M_quoted 54 = .ok (.aload_n 0, 1) := by decide +kernel
theorem d_M_quoted_55 : decode c_M_quoted 55 = .ok (.getfield 22, 3) := by decide +kernel
theorem d_M_quoted_58 : decode c_M_quoted 58 = .ok (.aload_n 0, 1) := by decide +kernel
theorem d_M_quoted_59 : decode c_M_quoted 59 = .ok (.getfield 93, 3) := by decide +kernel
theorem d_M_quoted_62 : decode c_M_quoted 62 = .ok (.iaload, 1) := by decide +kernel
theorem d_M_quoted_63 : decode c_M_quoted 63 = .ok (.bipush 92, 2) := by decide +kernel
theorem d_M_quoted_65 : decode c_M_quoted 65 = .ok (.if_icmp .ne 13, 3) := by decide +kernel
theorem d_M_quoted_68 : decode c_M_quoted 68 = .ok (.aload_n 0, 1) := by decide +kernel
theorem d_M_quoted_69 : decode c_M_quoted 69 = .ok (.dup, 1) := by decide +kernel
theorem d_M_quoted_70 : decode c_M_quoted 70 = .ok (.getfield 93, 3) := by decide +kernel
theorem d_M_quoted_73 : decode c_M_quoted 73 = .ok (.iconst 1, 1) := by decide +kernel
theorem d_M_quoted_74 : decode c_M_quoted 74 = .ok (.iadd, 1) := by decide +kernel
theorem d_M_quoted_75 : decode c_M_quoted 75 = .ok (.putfield 93, 3) := by decide +kernel
theorem d_M_quoted_78 : decode c_M_quoted 78 = .ok (.aload_n 0, 1) := by decide +kernel
theorem d_M_quoted_79 : decode c_M_quoted 79 = .ok (.getfield 93, 3) := by decide +kernel
theorem d_M_quoted_82 : decode c_M_quoted 82 = .ok (.aload_n 0, 1) := by decide +kernel
theorem d_M_quoted_83 : decode c_M_quoted 83 = .ok (.getfield 96, 3) := by decide +kernel
theorem d_M_quoted_86 : decode c_M_quoted 86 = .ok (.if_icmp .ge (-57), 3) := by decide +kernel
theorem d_M_quoted_89 : decode c_M_quoted 89 = .ok (.aload_n 0, 1) := by decide +kernel
theorem d_M_quoted_90 : decode c_M_quoted 90 = .ok (.aload_n 0, 1) := by decide +kernel
theorem d_M_quoted_91 : decode c_M_quoted 91 = .ok (.getfield 22, 3) := by decide +kernel
theorem d_M_quoted_94 : decode c_M_quoted 94 = .ok (.aload_n 0, 1) := by decide +kernel
theorem d_M_quoted_95 : decode c_M_quoted 95 = .ok (.getfield 93, 3) := by decide +kernel
theorem d_M_quoted_98 : decode c_M_quoted 98 = .ok (.iaload, 1) := by decide +kernel
theorem d_M_quoted_99 : decode c_M_quoted 99 = .ok (.invokevirtual 66, 3) := by decide +kernel
theorem d_M_quoted_102 : decode c_M_quoted 102 = .ok (.aload_n 0, 1) := by decide +kernel
theorem d_M_quoted_103 : decode c_M_quoted 103 = .ok (.dup, 1) := by decide +kernel
theorem d_M_quoted_104 : decode c_M_quoted 104 = .ok (.getfield 93, 3) := by decide +kernel
theorem d_M_quoted_107 : decode c_M_quoted 107 = .ok (.iconst 1, 1) := by decide +kernel
theorem d_M_quoted_108 : decode c_M_quoted 108 = .ok (.iadd, 1) := by decide +kernel
theorem d_M_quoted_109 : decode c_M_quoted 109 = .ok (.putfield 93, 3) := by decide +kernel
theorem d_M_quoted_112 : decode c_M_quoted 112 = .ok (.goto (-83), 3) := by decide +kernel
theorem d_M_quoted_115 : decode c_M_quoted 115 = .ok (.aload_n 0, 1) := by decide +kernel
theorem d_M_quoted_116 : decode c_M_quoted 116 = .ok (.aload_n 0, 1) := by decide +kernel
theorem d_M_quoted_117 : decode c_M_quoted 117 = .ok (.getfield 56, 3) := by decide +kernel
theorem d_M_quoted_120 : decode c_M_quoted 120 = .ok (.aload_n 0, 1) := by decide +kernel
theorem d_M_quoted_121 : decode c_M_quoted 121 = .ok (.getfield 106, 3) := by decide +kernel
theorem d_M_quoted_124 : decode c_M_quoted 124 = .ok (.isub, 1) := by decide +kernel
theorem d_M_quoted_125 : decode c_M_quoted 125 = .ok (.putfield 112, 3) := by decide +kernel
theorem d_M_quoted_128 : decode c_M_quoted 128 = .ok (.aload_n 0, 1) := by decide +kernel
theorem d_M_quoted_129 : decode c_M_quoted 129 = .ok (.getfield 93, 3) := by decide +kernel
theorem d_M_quoted_132 : decode c_M_quoted 132 = .ok (.aload_n 0, 1) := by decide +kernel
theorem d_M_quoted_133 : decode c_M_quoted 133 = .ok (.getfield 96, 3) := by decide +kernel
theorem d_M_quoted_136 : decode c_M_quoted 136 = .ok (.if_icmp .lt 5, 3) := by decide +kernel
theorem d_M_quoted_139 : decode c_M_quoted 139 = .ok (.iconst 0, 1) := by decide +kernel
theorem d_M_quoted_140 : decode c_M_quoted 140 = .ok (.ireturn, 1) := by decide +kernel
theorem d_M_quoted_141 : decode c_M_quoted 141 = .ok (.aload_n 0, 1) := by decide +kernel
theorem d_M_quoted_142 : decode c_M_quoted 142 = .ok (.dup, 1) := by decide +kernel
theorem d_M_quoted_143 : decode c_M_quoted 143 = .ok (.getfield 93, 3) := by decide +kernel
theorem d_M_quoted_146 : decode c_M_quoted 146 = .ok (.iconst 1, 1) := by decide +kernel
theorem d_M_quoted_147 : decode c_M_quoted 147 = .ok (.iadd, 1) := by decide +kernel
theorem d_M_quoted_148 : decode c_M_quoted 148 = .ok (.putfield 93, 3) := by decide +kernel
theorem d_M_quoted_151 : decode c_M_quoted 151 = .ok (.iconst 1, 1) := by decide +kernel
theorem d_M_quoted_152 : decode c_M_quoted 152 = .ok (.ireturn, 1) := by decide +kernel
theorem d_M_isBoundary_0 : decode c_M_isBoundary 0 = .ok (.aload_n 0, 1) := by decide +kernel
theorem d_M_isBoundary_1 : decode c_M_isBoundary 1 = .ok (.getfield 112, 3) := by decide +kernel
theorem d_M_isBoundary_4 : decode c_M_isBoundary 4 = .ok (.ifCond .le 16, 3) := by decide +kernel
theorem d_M_isBoundary_7 : decode c_M_isBoundary 7 = .ok (.aload_n 0, 1) := by decide +kernel
theorem d_M_isBoundary_8 : decode c_M_isBoundary 8 = .ok (.getfield 112, 3) := by decide +kernel
theorem d_M_isBoundary_11 : decode c_M_isBoundary 11 = .ok (.bipush 21, 2) := by decide +kernel
theorem d_M_isBoundary_13 : decode c_M_isBoundary 13 = .ok (.if_icmp .ge 7, 3) := by decide +kernel
theorem d_M_isBoundary_16 : decode c_M_isBoundary 16 = .ok (.iconst 1, 1) := by decide +kernel
theorem d_M_isBoundary_17 : decode c_M_isBoundary 17 = .ok (.goto 4, 3) := by decide +kernel
theorem d_M_isBoundary_20 : decode c_M_isBoundary 20 = .ok (.iconst 0, 1) := by decide +kernel
theorem d_M_isBoundary_21 : decode c_M_isBoundary 21 = .ok (.istore_n 1, 1) := by decide +kernel
theorem d_M_isBoundary_22 : decode c_M_isBoundary 22 = .ok (.iconst 0, 1) := by decide +kernel
theorem d_M_isBoundary_23 : decode c_M_isBoundary 23 = .ok (.istore_n 2, 1) := by decide +kernel
theorem d_M_isBoundary_24 : decode c_M_isBoundary 24 = .ok (.iload_n 2, 1) := by decide +kernel
theorem d_M_isBoundary_25 : decode c_M_isBoundary 25 = .ok (.aload_n 0, 1) := by decide +kernel
theorem d_M_isBoundary_26 : decode c_M_isBoundary 26 = .ok (.getfield 112, 3) := by decide +kernel
theorem d_M_isBoundary_29 : decode c_M_isBoundary 29 = .ok (.if_icmp .ge 51, 3) := by decide +kernel
theorem d_M_isBoundary_32 : decode c_M_isBoundary 32 = .ok (.iload_n 1, 1) := by decide +kernel
theorem d_M_isBoundary_33 : decode c_M_isBoundary 33 = .ok (.ifCond .eq 47, 3) := by decide +kernel
theorem d_M_isBoundary_36 : decode c_M_isBoundary 36 = .ok (.aload_n 0, 1) := by decide +kernel
theorem d_M_isBoundary_37 : decode c_M_isBoundary 37 = .ok (.getfield 22, 3) := by decide +kernel
theorem d_M_isBoundary_40 : decode c_M_isBoundary 40 = .ok (.aload_n 0, 1) := by decide +kernel
theorem d_M_isBoundary_41 : decode c_M_isBoundary 41 = .ok (.getfield 106, 3) := by decide +kernel
theorem d_M_isBoundary_44 : decode c_M_isBoundary 44 = .ok (.iload_n 2, 1) := by decide +kernel
theorem d_M_isBoundary_45 : decode c_M_isBoundary 45 = .ok (.iadd, 1) := by decide +kernel
theorem d_M_isBoundary_46 : decode c_M_isBoundary 46 = .ok (.iaload, 1) := by decide +kernel
theorem d_M_isBoundary_47 : decode c_M_isBoundary 47 = .ok (.bipush 31, 2) := by decide +kernel
theorem d_M_isBoundary_49 : decode c_M_isBoundary 49 = .ok (.if_icmp .le 23, 3) := by decide +kernel
theorem d_M_isBoundary_52 : decode c_M_isBoundary 52 = .ok (.aload_n 0, 1) := by decide +kernel
theorem d_M_isBoundary_53 : decode c_M_isBoundary 53 = .ok (.getfield 22, 3) := by decide +kernel
theorem d_M_isBoundary_56 : decode c_M_isBoundary 56 = .ok (.aload_n 0, 1) := by decide +kernel
theorem d_M_isBoundary_57 : decode c_M_isBoundary 57 = .ok (.getfield 106, 3) := by decide +kernel
theorem d_M_isBoundary_60 : decode c_M_isBoundary 60 = .ok (.iload_n 2, 1) := by decide +kernel
theorem d_M_isBoundary_61 : decode c_M_isBoundary 61 = .ok (.iadd, 1) := by decide +kernel
theorem d_M_isBoundary_62 : decode c_M_isBoundary 62 = .ok (.iaload, 1) := by decide +kernel
theorem d_M_isBoundary_63 : decode c_M_isBoundary 63 = .ok (.bipush 127, 2) := by decide +kernel
theorem d_M_isBoundary_65 : decode c_M_isBoundary 65 = .ok (.if_icmp .ge 7, 3) := by decide +kernel
theorem d_M_isBoundary_68 : decode c_M_isBoundary 68 = .ok (.iconst 1, 1) := by decide +kernel
theorem d_M_isBoundary_69 : decode c_M_isBoundary 69 = .ok (.goto 4, 3) := by decide +kernel
theorem d_M_isBoundary_72 : decode c_M_isBoundary 72 = .ok (.iconst 0, 1) := by decide +kernel
theorem d_M_isBoundary_73 : decode c_M_isBoundary 73 = .ok (.istore_n 1, 1) := by decide +kernel
theorem d_M_isBoundary_74 : decode c_M_isBoundary 74 = .ok (.iinc 2 1, 3) := by decide +kernel
theorem d_M_isBoundary_77 : decode c_M_isBoundary 77 = .ok (.goto (-53), 3) := by decide +kernel
theorem d_M_isBoundary_80 : decode c_M_isBoundary 80 = .ok (.iload_n 1, 1) := by decide +kernel
theorem d_M_isBoundary_81 : decode c_M_isBoundary 81 = .ok (.ifCond .eq 28, 3) := by decide +kernel
theorem d_M_isBoundary_84 : decode c_M_isBoundary 84 = .ok (.aload_n 0, 1) := by decide +kernel
theorem d_M_isBoundary_85 : decode c_M_isBoundary 85 = .ok (.getfield 22, 3) := by decide +kernel
theorem d_M_isBoundary_88 : decode c_M_isBoundary 88 = .ok (.aload_n 0, 1) := by decide +kernel
theorem d_M_isBoundary_89 : decode c_M_isBoundary 89 = .ok (.getfield 106, 3) := by decide +kernel
theorem d_M_isBoundary_92 : decode c_M_isBoundary 92 = .ok (.aload_n 0, 1) := by decide +kernel
theorem d_M_isBoundary_93 : decode c_M_isBoundary 93 = .ok (.getfield 112, 3) := by decide +kernel
theorem d_M_isBoundary_96 : decode c_M_isBoundary 96 = .ok (.iadd, 1) := by decide +kernel
theorem d_M_isBoundary_97 : decode c_M_isBoundary 97 = .ok (.iconst 1, 1) := by decide +kernel
theorem d_M_isBoundary_98 : decode c_M_isBoundary 98 = .ok (.isub, 1) := by decide +kernel
theorem d_M_isBoundary_99 : decode c_M_isBoundary 99 = .ok (.iaload, 1) := by decide +kernel
theorem d_M_isBoundary_100 : decode c_M_isBoundary 100 = .ok (.bipush 32, 2) := by decide +kernel
theorem d_M_isBoundary_102 : decode c_M_isBoundary 102 = .ok (.if_icmp .eq 7, 3) := by decide +kernel
theorem d_M_isBoundary_105 : decode c_M_isBoundary 105 = .ok (.iconst 1, 1) := by decide +kernel
theorem d_M_isBoundary_106 : decode c_M_isBoundary 106 = .ok (.goto 4, 3) := by decide +kernel
theorem d_M_isBoundary_109 : decode c_M_isBoundary 109 = .ok (.iconst 0, 1) := by decide +kernel
theorem d_M_isBoundary_110 : decode c_M_isBoundary 110 = .ok (.ireturn, 1) := by decide +kernel
theorem d_M_contents_0 : decode c_M_contents 0 = .ok (.aload_n 0, 1) := by decide +kernel
theorem d_M_contents_1 : decode c_M_contents 1 = .ok (.iload_n 1, 1) := by decide +kernel
theorem d_M_contents_2 : decode c_M_contents 2 = .ok (.bipush 10, 2) := by decide +kernel
theorem d_M_contents_4 : decode c_M_contents 4 = .ok (.aload_n 0, 1) := by decide +kernel
theorem d_M_contents_5 : decode c_M_contents 5 = .ok (.getfield 56, 3) := by decide +kernel
theorem d_M_contents_8 : decode c_M_contents 8 = .ok (.invokevirtual 70, 3) := by decide +kernel
theorem d_M_contents_11 : decode c_M_contents 11 = .ok (.aload_n 0, 1) := by decide +kernel
theorem d_M_contents_12 : decode c_M_contents 12 = .ok (.iload_n 1, 1) := by decide +kernel
theorem d_M_contents_13 : decode c_M_contents 13 = .ok (.bipush 8, 2) := by decide +kernel
theorem d_M_contents_15 : decode c_M_contents 15 = .ok (.invokevirtual 59, 3) := by decide +kernel
theorem d_M_contents_18 : decode c_M_contents 18 = .ok (.istore_n 2, 1) := by decide +kernel
theorem d_M_contents_19 : decode c_M_contents 19 = .ok (.aload_n 0, 1) := by decide +kernel
theorem d_M_contents_20 : decode c_M_contents 20 = .ok (.iload_n 1, 1) := by decide +kernel
theorem d_M_contents_21 : decode c_M_contents 21 = .ok (.bipush 9, 2) := by decide +kernel
theorem d_M_contents_23 : decode c_M_contents 23 = .ok (.invokevirtual 59, 3) := by decide +kernel
theorem d_M_contents_26 : decode c_M_contents 26 = .ok (.istore_n 3, 1) := by decide +kernel
theorem d_M_contents_27 : decode c_M_contents 27 = .ok (.aload_n 0, 1) := by decide +kernel
theorem d_M_contents_28 : decode c_M_contents 28 = .ok (.iload_n 1, 1) := by decide +kernel
theorem d_M_contents_29 : decode c_M_contents 29 = .ok (.iconst 4, 1) := by decide +kernel
theorem d_M_contents_30 : decode c_M_contents 30 = .ok (.invokevirtual 59, 3) := by decide +kernel
theorem d_M_contents_33 : decode c_M_contents 33 = .ok (.iconst 1, 1) := by decide +kernel
theorem d_M_contents_34 : decode c_M_contents 34 = .ok (.if_icmp .ne 12, 3) := by decide +kernel
theorem d_M_contents_37 : decode c_M_contents 37 = .ok (.aload_n 0, 1) := by decide +kernel
theorem d_M_contents_38 : decode c_M_contents 38 = .ok (.iload_n 2, 1) := by decide +kernel
theorem d_M_contents_39 : decode c_M_contents 39 = .ok (.iload_n 3, 1) := by decide +kernel
theorem d_M_contents_40 : decode c_M_contents 40 = .ok (.invokevirtual 190, 3) := by decide +kernel
theorem d_M_contents_43 : decode c_M_contents 43 = .ok (.goto 48, 3) := by decide +kernel
theorem d_M_contents_46 : decode c_M_contents 46 = .ok (.aload_n 0, 1) := by decide +kernel
theorem d_M_contents_47 : decode c_M_contents 47 = .ok (.iload_n 1, 1) := by decide +kernel
theorem d_M_contents_48 : decode c_M_contents 48 = .ok (.iconst 4, 1) := by decide +kernel
theorem d_M_contents_49 : decode c_M_contents 49 = .ok (.invokevirtual 59, 3) := by decide +kernel
theorem d_M_contents_52 : decode c_M_contents 52 = .ok (.iconst 2, 1) := by decide +kernel
theorem d_M_contents_53 : decode c_M_contents 53 = .ok (.if_icmp .ne 12, 3) := by decide +kernel
theorem d_M_contents_56 : decode c_M_contents 56 = .ok (.aload_n 0, 1) := by decide +kernel
theorem d_M_contents_57 : decode c_M_contents 57 = .ok (.iload_n 2, 1) := by decide +kernel
theorem d_M_contents_58 : decode c_M_contents 58 = .ok (.iload_n 3, 1) := by decide +kernel
theorem d_M_contents_59 : decode c_M_contents 59 = .ok (.invokevirtual 193, 3) := by decide +kernel
theorem d_M_contents_62 : decode c_M_contents 62 = .ok (.goto 29, 3) := by decide +kernel
theorem d_M_contents_65 : decode c_M_contents 65 = .ok (.iload_n 2, 1) := by decide +kernel
theorem d_M_contents_66 : decode c_M_contents 66 = .ok (.istore 4, 2) := by decide +kernel
theorem d_M_contents_68 : decode c_M_contents 68 = .ok (.iload 4, 2) := by decide +kernel
theorem d_M_contents_70 : decode c_M_contents 70 = .ok (.iload_n 3, 1) := by decide +kernel
theorem d_M_contents_71 : decode c_M_contents 71 = .ok (.if_icmp .ge 20, 3) := by decide +kernel
theorem d_M_contents_74 : decode c_M_contents 74 = .ok (.aload_n 0, 1) := by decide +kernel
theorem d_M_contents_75 : decode c_M_contents 75 = .ok (.aload_n 0, 1) := by decide +kernel
theorem d_M_contents_76 : decode c_M_contents 76 = .ok (.getfield 13, 3) := by decide +kernel
theorem d_M_contents_79 : decode c_M_contents 79 = .ok (.iload 4, 2) := by decide +kernel
theorem d_M_contents_81 : decode c_M_contents 81 = .ok (.iaload, 1) := by decide +kernel
theorem d_M_contents_82 : decode c_M_contents 82 = .ok (.invokevirtual 66, 3) := by decide +kernel
theorem d_M_contents_85 : decode c_M_contents 85 = .ok (.iinc 4 1, 3) := by decide +kernel
theorem d_M_contents_88 : decode c_M_contents 88 = .ok (.goto (-20), 3) := by decide +kernel
theorem d_M_contents_91 : decode c_M_contents 91 = .ok (.aload_n 0, 1) := by decide +kernel
theorem d_M_contents_92 : decode c_M_contents 92 = .ok (.iload_n 1, 1) := by decide +kernel
theorem d_M_contents_93 : decode c_M_contents 93 = .ok (.iconst 5, 1) := by decide +kernel
theorem d_M_contents_94 : decode c_M_contents 94 = .ok (.aload_n 0, 1) := by decide +kernel
theorem d_M_contents_95 : decode c_M_contents 95 = .ok (.getfield 56, 3) := by decide +kernel
theorem d_M_contents_98 : decode c_M_contents 98 = .ok (.aload_n 0, 1) := by decide +kernel
theorem d_M_contents_99 : decode c_M_contents 99 = .ok (.iload_n 1, 1) := by decide +kernel
theorem d_M_contents_100 : decode c_M_contents 100 = .ok (.bipush 10, 2) := by decide +kernel
theorem d_M_contents_102 : decode c_M_contents 102 = .ok (.invokevirtual 59, 3) := by decide +kernel
theorem d_M_contents_105 : decode c_M_contents 105 = .ok (.isub, 1) := by decide +kernel
theorem d_M_contents_106 : decode c_M_contents 106 = .ok (.invokevirtual 70, 3) := by decide +kernel
theorem d_M_contents_109 : decode c_M_contents 109 = .ok (.return_, 1) := by decide +kernel
theorem d_M_fromLetters_0 : decode c_M_fromLetters 0 = .ok (.iconst 0, 1) := by decide +kernel
theorem d_M_fromLetters_1 : decode c_M_fromLetters 1 = .ok (.istore_n 3, 1) := by decide +kernel
theorem d_M_fromLetters_2 : decode c_M_fromLetters 2 = .ok (.iconst 0, 1) := by decide +kernel
theorem d_M_fromLetters_3 : decode c_M_fromLetters 3 = .ok (.istore 4, 2) := by decide +kernel
theorem d_M_fromLetters_5 : decode c_M_fromLetters 5 = .ok (.iload_n 1, 1) := by decide +kernel
theorem d_M_fromLetters_6 : decode c_M_fromLetters 6 = .ok (.istore 5, 2) := by decide +kernel
theorem d_M_fromLetters_8 : decode c_M_fromLetters 8 = .ok (.iload 5, 2) := by decide +kernel
theorem d_M_fromLetters_10 : decode c_M_fromLetters 10 = .ok (.iload_n 2, 1) := by decide +kernel
theorem d_M_fromLetters_11 : decode c_M_fromLetters 11 = .ok (.if_icmp .ge 93, 3) := by decide +kernel
theorem d_M_fromLetters_14 : decode c_M_fromLetters 14 = .ok (.aload_n 0, 1) := by decide +kernel
theorem d_M_fromLetters_15 : decode c_M_fromLetters 15 = .ok (.getfield 13, 3) := by decide +kernel
theorem d_M_fromLetters_18 : decode c_M_fromLetters 18 = .ok (.iload 5, 2) := by decide +kernel
theorem d_M_fromLetters_20 : decode c_M_fromLetters 20 = .ok (.iaload, 1) := by decide +kernel
theorem d_M_fromLetters_21 : decode c_M_fromLetters 21 = .ok (.bipush 61, 2) := by decide +kernel
theorem d_M_fromLetters_23 : decode c_M_fromLetters 23 = .ok (.if_icmp .eq 81, 3) := by decide +kernel
theorem d_M_fromLetters_26 : decode c_M_fromLetters 26 = .ok (.aload_n 0, 1) := by decide +kernel
theorem d_M_fromLetters_27 : decode c_M_fromLetters 27 = .ok (.getfield 13, 3) := by decide +kernel
theorem d_M_fromLetters_30 : decode c_M_fromLetters 30 = .ok (.iload 5, 2) := by decide +kernel
theorem d_M_fromLetters_32 : decode c_M_fromLetters 32 = .ok (.iaload, 1) := by decide +kernel
theorem d_M_fromLetters_33 : decode c_M_fromLetters 33 = .ok (.invokestatic 178, 3) := by decide +kernel
theorem d_M_fromLetters_36 : decode c_M_fromLetters 36 = .ok (.istore 6, 2) := by decide +kernel
theorem d_M_fromLetters_38 : decode c_M_fromLetters 38 = .ok (.iload 6, 2) := by decide +kernel
theorem d_M_fromLetters_40 : decode c_M_fromLetters 40 = .ok (.ifCond .lt 58, 3) := by decide +kernel
theorem d_M_fromLetters_43 : decode c_M_fromLetters 43 = .ok (.iload_n 3, 1) := by decide +kernel
theorem d_M_fromLetters_44 : decode c_M_fromLetters 44 = .ok (.bipush 6, 2) := by decide +kernel
theorem d_M_fromLetters_46 : decode c_M_fromLetters 46 = .ok (.ishl, 1) := by decide +kernel
theorem d_M_fromLetters_47 : decode c_M_fromLetters 47 = .ok (.iload 6, 2) := by decide +kernel
theorem d_M_fromLetters_49 : decode c_M_fromLetters 49 = .ok (.ior, 1) := by decide +kernel
theorem d_M_fromLetters_50 : decode c_M_fromLetters 50 = .ok (.istore_n 3, 1) := by decide +kernel
theorem d_M_fromLetters_51 : decode c_M_fromLetters 51 = .ok (.iinc 4 1, 3) := by decide +kernel
theorem d_M_fromLetters_54 : decode c_M_fromLetters 54 = .ok (.iload 4, 2) := by decide +kernel
theorem d_M_fromLetters_56 : decode c_M_fromLetters 56 = .ok (.iconst 4, 1) := by decide +kernel
theorem d_M_fromLetters_57 : decode c_M_fromLetters 57 = .ok (.if_icmp .ne 41, 3) := by decide +kernel
theorem d_M_fromLetters_60 : decode c_M_fromLetters 60 = .ok (.aload_n 0, 1) := by decide +kernel
theorem d_M_fromLetters_61 : decode c_M_fromLetters 61 = .ok (.iload_n 3, 1) := by decide +kernel
theorem d_M_fromLetters_62 : decode c_M_fromLetters 62 = .ok (.bipush 16, 2) := by decide +kernel
theorem d_M_fromLetters_64 : decode c_M_fromLetters 64 = .ok (.ishr, 1) := by decide +kernel
theorem d_M_fromLetters_65 : decode c_M_fromLetters 65 = .ok (.sipush 255, 3) := by decide +kernel
theorem d_M_fromLetters_68 : decode c_M_fromLetters 68 = .ok (.iand, 1) := by decide +kernel
theorem d_M_fromLetters_69 : decode c_M_fromLetters 69 = .ok (.invokevirtual 66, 3) := by decide +kernel
theorem d_M_fromLetters_72 : decode c_M_fromLetters 72 = .ok (.aload_n 0, 1) := by decide +kernel
theorem d_M_fromLetters_73 : decode c_M_fromLetters 73 = .ok (.iload_n 3, 1) := by decide +kernel
theorem d_M_fromLetters_74 : decode c_M_fromLetters 74 = .ok (.bipush 8, 2) := by decide +kernel
theorem d_M_fromLetters_76 : decode c_M_fromLetters 76 = .ok (.ishr, 1) := by decide +kernel
theorem d_M_fromLetters_77 : decode c_M_fromLetters 77 = .ok (.sipush 255, 3) := by decide +kernel
theorem d_M_fromLetters_80 : decode c_M_fromLetters 80 = .ok (.iand, 1) := by decide +kernel
theorem d_M_fromLetters_81 : decode c_M_fromLetters 81 = .ok (.invokevirtual 66, 3) := by decide +kernel
theorem d_M_fromLetters_84 : decode c_M_fromLetters 84 = .ok (.aload_n 0, 1) := by decide +kernel
theorem d_M_fromLetters_85 : decode c_M_fromLetters 85 = .ok (.iload_n 3, 1) := by decide +kernel
theorem d_M_fromLetters_86 : decode c_M_fromLetters 86 = .ok (.sipush 255, 3) := by decide +kernel
theorem d_M_fromLetters_89 : decode c_M_fromLetters 89 = .ok (.iand, 1) := by decide +kernel
theorem d_M_fromLetters_90 : decode c_M_fromLetters 90 = .ok (.invokevirtual 66, 3) := by decide +kernel
theorem d_M_fromLetters_93 : decode c_M_fromLetters 93 = .ok (.iconst 0, 1) := by decide +kernel
theorem d_M_fromLetters_94 : decode c_M_fromLetters 94 = .ok (.istore_n 3, 1) := by decide +kernel
theorem d_M_fromLetters_95 : decode c_M_fromLetters 95 = .ok (.iconst 0, 1) := by decide +kernel
theorem d_M_fromLetters_96 : decode c_M_fromLetters 96 = .ok (.istore 4, 2) := by decide +kernel
theorem d_M_fromLetters_98 : decode c_M_fromLetters 98 = .ok (.iinc 5 1, 3) := by decide +kernel
theorem d_M_fromLetters_101 : decode c_M_fromLetters 101 = .ok (.goto (-93), 3) := by decide +kernel
theorem d_M_fromLetters_104 : decode c_M_fromLetters 104 = .ok (.iload 4, 2) := by decide +kernel
theorem d_M_fromLetters_106 : decode c_M_fromLetters 106 = .ok (.iconst 3, 1) := by decide +kernel
theorem d_M_fromLetters_107 : decode c_M_fromLetters 107 = .ok (.if_icmp .ne 26, 3) := by decide +kernel
theorem d_M_fromLetters_110 : decode c_M_fromLetters 110 = .ok (.aload_n 0, 1) := by decide +kernel
theorem d_M_fromLetters_111 : decode c_M_fromLetters 111 = .ok (.iload_n 3, 1) := by decide +kernel
theorem d_M_fromLetters_112 : decode c_M_fromLetters 112 = .ok (.bipush 10, 2) := by decide +kernel
theorem d_M_fromLetters_114 : decode c_M_fromLetters 114 = .ok (.ishr, 1) := by decide +kernel
theorem d_M_fromLetters_115 : decode c_M_fromLetters 115 = .ok (.sipush 255, 3) := by decide +kernel
theorem d_M_fromLetters_118 : decode c_M_fromLetters 118 = .ok (.iand, 1) := by decide +kernel
theorem d_M_fromLetters_119 : decode c_M_fromLetters 119 = .ok (.invokevirtual 66, 3) := by decide +kernel
theorem d_M_fromLetters_122 : decode c_M_fromLetters 122 = .ok (.aload_n 0, 1) := by decide +kernel
theorem d_M_fromLetters_123 : decode c_M_fromLetters 123 = .ok (.iload_n 3, 1) := by decide +kernel
theorem d_M_fromLetters_124 : decode c_M_fromLetters 124 = .ok (.iconst 2, 1) := by decide +kernel
theorem d_M_fromLetters_125 : decode c_M_fromLetters 125 = .ok (.ishr, 1) := by decide +kernel
theorem d_M_fromLetters_126 : decode c_M_fromLetters 126 = .ok (.sipush 255, 3) := by decide +kernel
theorem d_M_fromLetters_129 : decode c_M_fromLetters 129 = .ok (.iand, 1) := by decide +kernel
theorem d_M_fromLetters_130 : decode c_M_fromLetters 130 = .ok (.invokevirtual 66, 3) := by decide +kernel
theorem d_M_fromLetters_133 : decode c_M_fromLetters 133 = .ok (.iload 4, 2) := by decide +kernel
theorem d_M_fromLetters_135 : decode c_M_fromLetters 135 = .ok (.iconst 2, 1) := by decide +kernel
theorem d_M_fromLetters_136 : decode c_M_fromLetters 136 = .ok (.if_icmp .ne 14, 3) := by decide +kernel
theorem d_M_fromLetters_139 : decode c_M_fromLetters 139 = .ok (.aload_n 0, 1) := by decide +kernel
theorem d_M_fromLetters_140 : decode c_M_fromLetters 140 = .ok (.iload_n 3, 1) := by decide +kernel
theorem d_M_fromLetters_141 : decode c_M_fromLetters 141 = .ok (.iconst 4, 1) := by decide +kernel
theorem d_M_fromLetters_142 : decode c_M_fromLetters 142 = .ok (.ishr, 1) := by decide +kernel
theorem d_M_fromLetters_143 : decode c_M_fromLetters 143 = .ok (.sipush 255, 3) := by decide +kernel
theorem d_M_fromLetters_146 : decode c_M_fromLetters 146 = .ok (.iand, 1) := by decide +kernel
theorem d_M_fromLetters_147 : decode c_M_fromLetters 147 = .ok (.invokevirtual 66, 3) := by decide +kernel
theorem d_M_fromLetters_150 : decode c_M_fromLetters 150 = .ok (.return_, 1) := by decide +kernel
theorem d_M_letter1_0 : decode c_M_letter1 0 = .ok (.iload_n 0, 1) := by decide +kernel
theorem d_M_letter1_1 : decode c_M_letter1 1 = .ok (.bipush 65, 2) := by decide +kernel
theorem d_M_letter1_3 : decode c_M_letter1 3 = .ok (.if_icmp .lt 14, 3) := by decide +kernel
theorem d_M_letter1_6 : decode c_M_letter1 6 = .ok (.iload_n 0, 1) := by decide +kernel
theorem d_M_letter1_7 : decode c_M_letter1 7 = .ok (.bipush 90, 2) := by decide +kernel
theorem d_M_letter1_9 : decode c_M_letter1 9 = .ok (.if_icmp .gt 8, 3) := by decide +kernel
theorem d_M_letter1_12 : decode c_M_letter1 12 = .ok (.iload_n 0, 1) := by decide +kernel
theorem d_M_letter1_13 : decode c_M_letter1 13 = .ok (.bipush 65, 2) := by decide +kernel
theorem d_M_letter1_15 : decode c_M_letter1 15 = .ok (.isub, 1) := by decide +kernel
theorem d_M_letter1_16 : decode c_M_letter1 16 = .ok (.ireturn, 1) := by decide +kernel
theorem d_M_letter1_17 : decode c_M_letter1 17 = .ok (.iload_n 0, 1) := by decide +kernel
theorem d_M_letter1_18 : decode c_M_letter1 18 = .ok (.bipush 97, 2) := by decide +kernel
theorem d_M_letter1_20 : decode c_M_letter1 20 = .ok (.if_icmp .lt 14, 3) := by decide +kernel
theorem d_M_letter1_23 : decode c_M_letter1 23 = .ok (.iload_n 0, 1) := by decide +kernel
theorem d_M_letter1_24 : decode c_M_letter1 24 = .ok (.bipush 122, 2) := by decide +kernel
