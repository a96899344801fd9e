theorem d_B_init_0 : decode c_B_init 0 = .ok (.aload_n 0, 1) := by decide +kernel
theorem d_B_init_1 : decode c_B_init 1 = .ok (.invokespecial 3, 3) := by decide +kernel
theorem d_B_init_4 : decode c_B_init 4 = .ok (.aload_n 0, 1) := by decide +kernel
theorem d_B_init_5 : decode c_B_init 5 = .ok (.iload_n 1, 1) := by decide +kernel
theorem d_B_init_6 : decode c_B_init 6 = .ok (.newarray .int, 2) := by decide +kernel
theorem d_B_init_8 : decode c_B_init 8 = .ok (.putfield 9, 3) := by decide +kernel
theorem d_B_init_11 : decode c_B_init 11 = .ok (.aload_n 0, 1) := by decide +kernel
theorem d_B_init_12 : decode c_B_init 12 = .ok (.iconst 0, 1) := by decide +kernel
theorem d_B_init_13 : decode c_B_init 13 = .ok (.putfield 15, 3) := by decide +kernel
theorem d_B_init_16 : decode c_B_init 16 = .ok (.aload_n 0, 1) := by decide +kernel
theorem d_B_init_17 : decode c_B_init 17 = .ok (.iconst 0, 1) := by decide +kernel
theorem d_B_init_18 : decode c_B_init 18 = .ok (.putfield 19, 3) := by decide +kernel
theorem d_B_init_21 : decode c_B_init 21 = .ok (.return_, 1) := by decide +kernel
theorem d_B_put_0 : decode c_B_put 0 = .ok (.aload_n 0, 1) := by decide +kernel
theorem d_B_put_1 : decode c_B_put 1 = .ok (.getfield 15, 3) := by decide +kernel
theorem d_B_put_4 : decode c_B_put 4 = .ok (.ifCond .lt 15, 3) := by decide +kernel
theorem d_B_put_7 : decode c_B_put 7 = .ok (.aload_n 0, 1) := by decide +kernel
theorem d_B_put_8 : decode c_B_put 8 = .ok (.getfield 15, 3) := by decide +kernel
theorem d_B_put_11 : decode c_B_put 11 = .ok (.aload_n 0, 1) := by decide +kernel
theorem d_B_put_12 : decode c_B_put 12 = .ok (.getfield 9, 3) := by decide +kernel
theorem d_B_put_15 : decode c_B_put 15 = .ok (.arraylength, 1) := by decide +kernel
theorem d_B_put_16 : decode c_B_put 16 = .ok (.if_icmp .lt 9, 3) := by decide +kernel
theorem d_B_put_19 : decode c_B_put 19 = .ok (.aload_n 0, 1) := by decide +kernel
theorem d_B_put_20 : decode c_B_put 20 = .ok (.iconst 1, 1) := by decide +kernel
theorem d_B_put_21 : decode c_B_put 21 = .ok (.putfield 19, 3) := by decide +kernel
theorem d_B_put_24 : decode c_B_put 24 = .ok (.return_, 1) := by decide +kernel
theorem d_B_put_25 : decode c_B_put 25 = .ok (.aload_n 0, 1) := by decide +kernel
theorem d_B_put_26 : decode c_B_put 26 = .ok (.getfield 9, 3) := by decide +kernel
theorem d_B_put_29 : decode c_B_put 29 = .ok (.aload_n 0, 1) := by decide +kernel
theorem d_B_put_30 : decode c_B_put 30 = .ok (.getfield 15, 3) := by decide +kernel
theorem d_B_put_33 : decode c_B_put 33 = .ok (.iload_n 1, 1) := by decide +kernel
theorem d_B_put_34 : decode c_B_put 34 = .ok (.iastore, 1) := by decide +kernel
theorem d_B_put_35 : decode c_B_put 35 = .ok (.aload_n 0, 1) := by decide +kernel
theorem d_B_put_36 : decode c_B_put 36 = .ok (.dup, 1) := by decide +kernel
theorem d_B_put_37 : decode c_B_put 37 = .ok (.getfield 15, 3) := by decide +kernel
theorem d_B_put_40 : decode c_B_put 40 = .ok (.iconst 1, 1) := by decide +kernel
theorem d_B_put_41 : decode c_B_put 41 = .ok (.iadd, 1) := by decide +kernel
theorem d_B_put_42 : decode c_B_put 42 = .ok (.putfield 15, 3) := by decide +kernel
theorem d_B_put_45 : decode c_B_put 45 = .ok (.return_, 1) := by decide +kernel
theorem d_B_empty_0 : decode c_B_empty 0 = .ok (.aload_n 0, 1) := by decide +kernel
theorem d_B_empty_1 : decode c_B_empty 1 = .ok (.iconst 0, 1) := by decide +kernel
theorem d_B_empty_2 : decode c_B_empty 2 = .ok (.putfield 15, 3) := by decide +kernel
theorem d_B_empty_5 : decode c_B_empty 5 = .ok (.aload_n 0, 1) := by decide +kernel
theorem d_B_empty_6 : decode c_B_empty 6 = .ok (.iconst 0, 1) := by decide +kernel
theorem d_B_empty_7 : decode c_B_empty 7 = .ok (.putfield 19, 3) := by decide +kernel
theorem d_B_empty_10 : decode c_B_empty 10 = .ok (.return_, 1) := by decide +kernel
theorem d_B_putRange_0 : decode c_B_putRange 0 = .ok (.iload_n 2, 1) := by decide +kernel
theorem d_B_putRange_1 : decode c_B_putRange 1 = .ok (.istore 4, 2) := by decide +kernel
theorem d_B_putRange_3 : decode c_B_putRange 3 = .ok (.iload 4, 2) := by decide +kernel
theorem d_B_putRange_5 : decode c_B_putRange 5 = .ok (.iload_n 3, 1) := by decide +kernel
theorem d_B_putRange_6 : decode c_B_putRange 6 = .ok (.if_icmp .ge 19, 3) := by decide +kernel
theorem d_B_putRange_9 : decode c_B_putRange 9 = .ok (.aload_n 0, 1) := by decide +kernel
theorem d_B_putRange_10 : decode c_B_putRange 10 = .ok (.aload_n 1, 1) := by decide +kernel
theorem d_B_putRange_11 : decode c_B_putRange 11 = .ok (.iload 4, 2) := by decide +kernel
theorem d_B_putRange_13 : decode c_B_putRange 13 = .ok (.invokevirtual 23, 3) := by decide +kernel
theorem d_B_putRange_16 : decode c_B_putRange 16 = .ok (.invokevirtual 27, 3) := by decide +kernel
theorem d_B_putRange_19 : decode c_B_putRange 19 = .ok (.iinc 4 1, 3) := by decide +kernel
theorem d_B_putRange_22 : decode c_B_putRange 22 = .ok (.goto (-19), 3) := by decide +kernel
theorem d_B_putRange_25 : decode c_B_putRange 25 = .ok (.return_, 1) := by decide +kernel
theorem d_B_at_0 : decode c_B_at 0 = .ok (.iload_n 1, 1) := by decide +kernel
theorem d_B_at_1 : decode c_B_at 1 = .ok (.ifCond .lt 29, 3) := by decide +kernel
theorem d_B_at_4 : decode c_B_at 4 = .ok (.iload_n 1, 1) := by decide +kernel
theorem d_B_at_5 : decode c_B_at 5 = .ok (.aload_n 0, 1) := by decide +kernel
theorem d_B_at_6 : decode c_B_at 6 = .ok (.getfield 15, 3) := by decide +kernel
theorem d_B_at_9 : decode c_B_at 9 = .ok (.if_icmp .ge 21, 3) := by decide +kernel
theorem d_B_at_12 : decode c_B_at 12 = .ok (.iload_n 1, 1) := by decide +kernel
theorem d_B_at_13 : decode c_B_at 13 = .ok (.aload_n 0, 1) := by decide +kernel
theorem d_B_at_14 : decode c_B_at 14 = .ok (.getfield 9, 3) := by decide +kernel
theorem d_B_at_17 : decode c_B_at 17 = .ok (.arraylength, 1) := by decide +kernel
theorem d_B_at_18 : decode c_B_at 18 = .ok (.if_icmp .ge 12, 3) := by decide +kernel
theorem d_B_at_21 : decode c_B_at 21 = .ok (.aload_n 0, 1) := by decide +kernel
theorem d_B_at_22 : decode c_B_at 22 = .ok (.getfield 9, 3) := by decide +kernel
theorem d_B_at_25 : decode c_B_at 25 = .ok (.iload_n 1, 1) := by decide +kernel
theorem d_B_at_26 : decode c_B_at 26 = .ok (.iaload, 1) := by decide +kernel
theorem d_B_at_27 : decode c_B_at 27 = .ok (.goto 4, 3) := by decide +kernel
theorem d_B_at_30 : decode c_B_at 30 = .ok (.iconst (-1), 1) := by decide +kernel
theorem d_B_at_31 : decode c_B_at 31 = .ok (.ireturn, 1) := by decide +kernel
theorem d_B_lineEnd_0 : decode c_B_lineEnd 0 = .ok (.iload_n 1, 1) := by decide +kernel
theorem d_B_lineEnd_1 : decode c_B_lineEnd 1 = .ok (.istore_n 3, 1) := by decide +kernel
theorem d_B_lineEnd_2 : decode c_B_lineEnd 2 = .ok (.iload_n 3, 1) := by decide +kernel
theorem d_B_lineEnd_3 : decode c_B_lineEnd 3 = .ok (.iload_n 2, 1) := by decide +kernel
theorem d_B_lineEnd_4 : decode c_B_lineEnd 4 = .ok (.if_icmp .ge 23, 3) := by decide +kernel
theorem d_B_lineEnd_7 : decode c_B_lineEnd 7 = .ok (.aload_n 0, 1) := by decide +kernel
theorem d_B_lineEnd_8 : decode c_B_lineEnd 8 = .ok (.iload_n 3, 1) := by decide +kernel
theorem d_B_lineEnd_9 : decode c_B_lineEnd 9 = .ok (.invokevirtual 23, 3) := by decide +kernel
theorem d_B_lineEnd_12 : decode c_B_lineEnd 12 = .ok (.bipush 10, 2) := by decide +kernel
theorem d_B_lineEnd_14 : decode c_B_lineEnd 14 = .ok (.if_icmp .ne 7, 3) := by decide +kernel
theorem d_B_lineEnd_17 : decode c_B_lineEnd 17 = .ok (.iload_n 3, 1) := by decide +kernel
theorem d_B_lineEnd_18 : decode c_B_lineEnd 18 = .ok (.iconst 1, 1) := by decide +kernel
theorem d_B_lineEnd_19 : decode c_B_lineEnd 19 = .ok (.iadd, 1) := by decide +kernel
theorem d_B_lineEnd_20 : decode c_B_lineEnd 20 = .ok (.ireturn, 1) := by decide +kernel
theorem d_B_lineEnd_21 : decode c_B_lineEnd 21 = .ok (.iinc 3 1, 3) := by decide +kernel
theorem d_B_lineEnd_24 : decode c_B_lineEnd 24 = .ok (.goto (-22), 3) := by decide +kernel
theorem d_B_lineEnd_27 : decode c_B_lineEnd 27 = .ok (.iload_n 2, 1) := by decide +kernel
theorem d_B_lineEnd_28 : decode c_B_lineEnd 28 = .ok (.ireturn, 1) := by decide +kernel
theorem d_B_textEnd_0 : decode c_B_textEnd 0 = .ok (.iload_n 2, 1) := by decide +kernel
theorem d_B_textEnd_1 : decode c_B_textEnd 1 = .ok (.iload_n 1, 1) := by decide +kernel
theorem d_B_textEnd_2 : decode c_B_textEnd 2 = .ok (.if_icmp .le 15, 3) := by decide +kernel
theorem d_B_textEnd_5 : decode c_B_textEnd 5 = .ok (.aload_n 0, 1) := by decide +kernel
theorem d_B_textEnd_6 : decode c_B_textEnd 6 = .ok (.iload_n 2, 1) := by decide +kernel
theorem d_B_textEnd_7 : decode c_B_textEnd 7 = .ok (.iconst 1, 1) := by decide +kernel
theorem d_B_textEnd_8 : decode c_B_textEnd 8 = .ok (.isub, 1) := by decide +kernel
theorem d_B_textEnd_9 : decode c_B_textEnd 9 = .ok (.invokevirtual 23, 3) := by decide +kernel
theorem d_B_textEnd_12 : decode c_B_textEnd 12 = .ok (.bipush 10, 2) := by decide +kernel
theorem d_B_textEnd_14 : decode c_B_textEnd 14 = .ok (.if_icmp .eq 5, 3) := by decide +kernel
theorem d_B_textEnd_17 : decode c_B_textEnd 17 = .ok (.iload_n 2, 1) := by decide +kernel
theorem d_B_textEnd_18 : decode c_B_textEnd 18 = .ok (.ireturn, 1) := by decide +kernel
theorem d_B_textEnd_19 : decode c_B_textEnd 19 = .ok (.iload_n 2, 1) := by decide +kernel
theorem d_B_textEnd_20 : decode c_B_textEnd 20 = .ok (.iconst 2, 1) := by decide +kernel
theorem d_B_textEnd_21 : decode c_B_textEnd 21 = .ok (.isub, 1) := by decide +kernel
theorem d_B_textEnd_22 : decode c_B_textEnd 22 = .ok (.iload_n 1, 1) := by decide +kernel
theorem d_B_textEnd_23 : decode c_B_textEnd 23 = .ok (.if_icmp .lt 19, 3) := by decide +kernel
theorem d_B_textEnd_26 : decode c_B_textEnd 26 = .ok (.aload_n 0, 1) := by decide +kernel
theorem d_B_textEnd_27 : decode c_B_textEnd 27 = .ok (.iload_n 2, 1) := by decide +kernel
theorem d_B_textEnd_28 : decode c_B_textEnd 28 = .ok (.iconst 2, 1) := by decide +kernel
theorem d_B_textEnd_29 : decode c_B_textEnd 29 = .ok (.isub, 1) := by decide +kernel
theorem d_B_textEnd_30 : decode c_B_textEnd 30 = .ok (.invokevirtual 23, 3) := by decide +kernel
theorem d_B_textEnd_33 : decode c_B_textEnd 33 = .ok (.bipush 13, 2) := by decide +kernel
theorem d_B_textEnd_35 : decode c_B_textEnd 35 = .ok (.if_icmp .ne 7, 3) := by decide +kernel
theorem d_B_textEnd_38 : decode c_B_textEnd 38 = .ok (.iconst 1, 1) := by decide +kernel
theorem d_B_textEnd_39 : decode c_B_textEnd 39 = .ok (.goto 4, 3) := by decide +kernel
theorem d_B_textEnd_42 : decode c_B_textEnd 42 = .ok (.iconst 0, 1) := by decide +kernel
theorem d_B_textEnd_43 : decode c_B_textEnd 43 = .ok (.istore_n 3, 1) := by decide +kernel
theorem d_B_textEnd_44 : decode c_B_textEnd 44 = .ok (.iload_n 3, 1) := by decide +kernel
theorem d_B_textEnd_45 : decode c_B_textEnd 45 = .ok (.ifCond .eq 9, 3) := by decide +kernel
theorem d_B_textEnd_48 : decode c_B_textEnd 48 = .ok (.iload_n 2, 1) := by decide +kernel
theorem d_B_textEnd_49 : decode c_B_textEnd 49 = .ok (.iconst 2, 1) := by decide +kernel
theorem d_B_textEnd_50 : decode c_B_textEnd 50 = .ok (.isub, 1) := by decide +kernel
theorem d_B_textEnd_51 : decode c_B_textEnd 51 = .ok (.goto 6, 3) := by decide +kernel
theorem d_B_textEnd_54 : decode c_B_textEnd 54 = .ok (.iload_n 2, 1) := by decide +kernel
theorem d_B_textEnd_55 : decode c_B_textEnd 55 = .ok (.iconst 1, 1) := by decide +kernel
theorem d_B_textEnd_56 : decode c_B_textEnd 56 = .ok (.isub, 1) := by decide +kernel
theorem d_B_textEnd_57 : decode c_B_textEnd 57 = .ok (.ireturn, 1) := by decide +kernel
theorem d_B_skipBlanks_0 : decode c_B_skipBlanks 0 = .ok (.iload_n 1, 1) := by decide +kernel
theorem d_B_skipBlanks_1 : decode c_B_skipBlanks 1 = .ok (.istore_n 3, 1) := by decide +kernel
theorem d_B_skipBlanks_2 : decode c_B_skipBlanks 2 = .ok (.iload_n 3, 1) := by decide +kernel
theorem d_B_skipBlanks_3 : decode c_B_skipBlanks 3 = .ok (.iload_n 2, 1) := by decide +kernel
theorem d_B_skipBlanks_4 : decode c_B_skipBlanks 4 = .ok (.if_icmp .ge 22, 3) := by decide +kernel
theorem d_B_skipBlanks_7 : decode c_B_skipBlanks 7 = .ok (.aload_n 0, 1) := by decide +kernel
theorem d_B_skipBlanks_8 : decode c_B_skipBlanks 8 = .ok (.iload_n 3, 1) := by decide +kernel
theorem d_B_skipBlanks_9 : decode c_B_skipBlanks 9 = .ok (.invokevirtual 23, 3) := by decide +kernel
theorem d_B_skipBlanks_12 : decode c_B_skipBlanks 12 = .ok (.invokestatic 44, 3) := by decide +kernel
theorem d_B_skipBlanks_15 : decode c_B_skipBlanks 15 = .ok (.ifCond .ne 5, 3) := by decide +kernel
theorem d_B_skipBlanks_18 : decode c_B_skipBlanks 18 = .ok (.iload_n 3, 1) := by decide +kernel
theorem d_B_skipBlanks_19 : decode c_B_skipBlanks 19 = .ok (.ireturn, 1) := by decide +kernel
theorem d_B_skipBlanks_20 : decode c_B_skipBlanks 20 = .ok (.iinc 3 1, 3) := by decide +kernel
theorem d_B_skipBlanks_23 : decode c_B_skipBlanks 23 = .ok (.goto (-21), 3) := by decide +kernel
theorem d_B_skipBlanks_26 : decode c_B_skipBlanks 26 = .ok (.iload_n 2, 1) := by decide +kernel
theorem d_B_skipBlanks_27 : decode c_B_skipBlanks 27 = .ok (.ireturn, 1) := by decide +kernel
theorem d_B_spells_0 : decode c_B_spells 0 = .ok (.iload_n 3, 1) := by decide +kernel
theorem d_B_spells_1 : decode c_B_spells 1 = .ok (.iload_n 2, 1) := by decide +kernel
theorem d_B_spells_2 : decode c_B_spells 2 = .ok (.isub, 1) := by decide +kernel
theorem d_B_spells_3 : decode c_B_spells 3 = .ok (.aload_n 1, 1) := by decide +kernel
theorem d_B_spells_4 : decode c_B_spells 4 = .ok (.invokevirtual 31, 3) := by decide +kernel
theorem d_B_spells_7 : decode c_B_spells 7 = .ok (.if_icmp .eq 5, 3) := by decide +kernel
theorem d_B_spells_10 : decode c_B_spells 10 = .ok (.iconst 0, 1) := by decide +kernel
theorem d_B_spells_11 : decode c_B_spells 11 = .ok (.ireturn, 1) := by decide +kernel
theorem d_B_spells_12 : decode c_B_spells 12 = .ok (.iconst 0, 1) := by decide +kernel
theorem d_B_spells_13 : decode c_B_spells 13 = .ok (.istore 4, 2) := by decide +kernel
theorem d_B_spells_15 : decode c_B_spells 15 = .ok (.iload 4, 2) := by decide +kernel
theorem d_B_spells_17 : decode c_B_spells 17 = .ok (.aload_n 1, 1) := by decide +kernel
theorem d_B_spells_18 : decode c_B_spells 18 = .ok (.invokevirtual 31, 3) := by decide +kernel
theorem d_B_spells_21 : decode c_B_spells 21 = .ok (.if_icmp .ge 31, 3) := by decide +kernel
theorem d_B_spells_24 : decode c_B_spells 24 = .ok (.aload_n 0, 1) := by decide +kernel
theorem d_B_spells_25 : decode c_B_spells 25 = .ok (.iload_n 2, 1) := by decide +kernel
theorem d_B_spells_26 : decode c_B_spells 26 = .ok (.iload 4, 2) := by decide +kernel
theorem d_B_spells_28 : decode c_B_spells 28 = .ok (.iadd, 1) := by decide +kernel
theorem d_B_spells_29 : decode c_B_spells 29 = .ok (.invokevirtual 23, 3) := by decide +kernel
theorem d_B_spells_32 : decode c_B_spells 32 = .ok (.invokestatic 41, 3) := by decide +kernel
theorem d_B_spells_35 : decode c_B_spells 35 = .ok (.aload_n 1, 1) := by decide +kernel
theorem d_B_spells_36 : decode c_B_spells 36 = .ok (.iload 4, 2) := by decide +kernel
theorem d_B_spells_38 : decode c_B_spells 38 = .ok (.invokevirtual 37, 3) := by decide +kernel
theorem d_B_spells_41 : decode c_B_spells 41 = .ok (.if_icmp .eq 5, 3) := by decide +kernel
theorem d_B_spells_44 : decode c_B_spells 44 = .ok (.iconst 0, 1) := by decide +kernel
theorem d_B_spells_45 : decode c_B_spells 45 = .ok (.ireturn, 1) := by decide +kernel
theorem d_B_spells_46 : decode c_B_spells 46 = .ok (.iinc 4 1, 3) := by decide +kernel
theorem d_B_spells_49 : decode c_B_spells 49 = .ok (.goto (-34), 3) := by decide +kernel
theorem d_B_spells_52 : decode c_B_spells 52 = .ok (.iconst 1, 1) := by decide +kernel
theorem d_B_spells_53 : decode c_B_spells 53 = .ok (.ireturn, 1) := by decide +kernel
theorem d_B_lineEndSize_0 : decode c_B_lineEndSize 0 = .ok (.iload_n 1, 1) := by decide +kernel
theorem d_B_lineEndSize_1 : decode c_B_lineEndSize 1 = .ok (.iload_n 2, 1) := by decide +kernel
theorem d_B_lineEndSize_2 : decode c_B_lineEndSize 2 = .ok (.if_icmp .ge 15, 3) := by decide +kernel
theorem d_B_lineEndSize_5 : decode c_B_lineEndSize 5 = .ok (.aload_n 0, 1) := by decide +kernel
theorem d_B_lineEndSize_6 : decode c_B_lineEndSize 6 = .ok (.iload_n 1, 1) := by decide +kernel
theorem d_B_lineEndSize_7 : decode c_B_lineEndSize 7 = .ok (.invokevirtual 23, 3) := by decide +kernel
theorem d_B_lineEndSize_10 : decode c_B_lineEndSize 10 = .ok (.bipush 10, 2) := by decide +kernel
theorem d_B_lineEndSize_12 : decode c_B_lineEndSize 12 = .ok (.if_icmp .ne 5, 3) := by decide +kernel
theorem d_B_lineEndSize_15 : decode c_B_lineEndSize 15 = .ok (.iconst 1, 1) := by decide +kernel
theorem d_B_lineEndSize_16 : decode c_B_lineEndSize 16 = .ok (.ireturn, 1) := by decide +kernel
theorem d_B_lineEndSize_17 : decode c_B_lineEndSize 17 = .ok (.iload_n 1, 1) := by decide +kernel
theorem d_B_lineEndSize_18 : decode c_B_lineEndSize 18 = .ok (.iconst 1, 1) := by decide +kernel
theorem d_B_lineEndSize_19 : decode c_B_lineEndSize 19 = .ok (.iadd, 1) := by decide +kernel
theorem d_B_lineEndSize_20 : decode c_B_lineEndSize 20 = .ok (.iload_n 2, 1) := by decide +kernel
theorem d_B_lineEndSize_21 : decode c_B_lineEndSize 21 = .ok (.if_icmp .ge 29, 3) := by decide +kernel
theorem d_B_lineEndSize_24 : decode c_B_lineEndSize 24 = .ok (.aload_n 0, 1) := by decide +kernel
theorem d_B_lineEndSize_25 : decode c_B_lineEndSize 25 = .ok (.iload_n 1, 1) := by decide +kernel
theorem d_B_lineEndSize_26 : decode c_B_lineEndSize 26 = .ok (.invokevirtual 23, 3) := by decide +kernel
theorem d_B_lineEndSize_29 : decode c_B_lineEndSize 29 = .ok (.bipush 13, 2) := by decide +kernel
theorem d_B_lineEndSize_31 : decode c_B_lineEndSize 31 = .ok (.if_icmp .ne 19, 3) := by decide +kernel
theorem d_B_lineEndSize_34 : decode c_B_lineEndSize 34 = .ok (.aload_n 0, 1) := by decide +kernel
theorem d_B_lineEndSize_35 : decode c_B_lineEndSize 35 = .ok (.iload_n 1, 1) := by decide +kernel
theorem d_B_lineEndSize_36 : decode c_B_lineEndSize 36 = .ok (.iconst 1, 1) := by decide +kernel
theorem d_B_lineEndSize_37 : decode c_B_lineEndSize 37 = .ok (.iadd, 1) := by decide +kernel
theorem d_B_lineEndSize_38 : decode c_B_lineEndSize 38 = .ok (.invokevirtual 23, 3) := by decide +kernel
theorem d_B_lineEndSize_41 : decode c_B_lineEndSize 41 = .ok (.bipush 10, 2) := by decide +kernel
theorem d_B_lineEndSize_43 : decode c_B_lineEndSize 43 = .ok (.if_icmp .ne 7, 3) := by decide +kernel
theorem d_B_lineEndSize_46 : decode c_B_lineEndSize 46 = .ok (.iconst 1, 1) := by decide +kernel
theorem d_B_lineEndSize_47 : decode c_B_lineEndSize 47 = .ok (.goto 4, 3) := by decide +kernel
theorem d_B_lineEndSize_50 : decode c_B_lineEndSize 50 = .ok (.iconst 0, 1) := by decide +kernel
theorem d_B_lineEndSize_51 : decode c_B_lineEndSize 51 = .ok (.istore_n 3, 1) := by decide +kernel
theorem d_B_lineEndSize_52 : decode c_B_lineEndSize 52 = .ok (.iload_n 3, 1) := by decide +kernel
theorem d_B_lineEndSize_53 : decode c_B_lineEndSize 53 = .ok (.ifCond .eq 7, 3) := by decide +kernel
theorem d_B_lineEndSize_56 : decode c_B_lineEndSize 56 = .ok (.iconst 2, 1) := by decide +kernel
theorem d_B_lineEndSize_57 : decode c_B_lineEndSize 57 = .ok (.goto 4, 3) := by decide +kernel
theorem d_B_lineEndSize_60 : decode c_B_lineEndSize 60 = .ok (.iconst 0, 1) := by decide +kernel
theorem d_B_lineEndSize_61 : decode c_B_lineEndSize 61 = .ok (.ireturn, 1) := by decide +kernel
theorem d_B_has_0 : decode c_B_has 0 = .ok (.iload_n 3, 1) := by decide +kernel
theorem d_B_has_1 : decode c_B_has 1 = .ok (.iload_n 2, 1) := by decide +kernel
theorem d_B_has_2 : decode c_B_has 2 = .ok (.isub, 1) := by decide +kernel
theorem d_B_has_3 : decode c_B_has 3 = .ok (.aload_n 1, 1) := by decide +kernel
theorem d_B_has_4 : decode c_B_has 4 = .ok (.invokevirtual 31, 3) := by decide +kernel
theorem d_B_has_7 : decode c_B_has 7 = .ok (.if_icmp .ge 5, 3) := by decide +kernel
theorem d_B_has_10 : decode c_B_has 10 = .ok (.iconst 0, 1) := by decide +kernel
theorem d_B_has_11 : decode c_B_has 11 = .ok (.ireturn, 1) := by decide +kernel
theorem d_B_has_12 : decode c_B_has 12 = .ok (.iconst 0, 1) := by decide +kernel
theorem d_B_has_13 : decode c_B_has 13 = .ok (.istore 4, 2) := by decide +kernel
theorem d_B_has_15 : decode c_B_has 15 = .ok (.iload 4, 2) := by decide +kernel
theorem d_B_has_17 : decode c_B_has 17 = .ok (.aload_n 1, 1) := by decide +kernel
theorem d_B_has_18 : decode c_B_has 18 = .ok (.invokevirtual 31, 3) := by decide +kernel
theorem d_B_has_21 : decode c_B_has 21 = .ok (.if_icmp .ge 28, 3) := by decide +kernel
theorem d_B_has_24 : decode c_B_has 24 = .ok (.aload_n 0, 1) := by decide +kernel
theorem d_B_has_25 : decode c_B_has 25 = .ok (.iload_n 2, 1) := by decide +kernel
theorem d_B_has_26 : decode c_B_has 26 = .ok (.iload 4, 2) := by decide +kernel
theorem d_B_has_28 : decode c_B_has 28 = .ok (.iadd, 1) := by decide +kernel
theorem d_B_has_29 : decode c_B_has 29 = .ok (.invokevirtual 23, 3) := by decide +kernel
theorem d_B_has_32 : decode c_B_has 32 = .ok (.aload_n 1, 1) := by decide +kernel
theorem d_B_has_33 : decode c_B_has 33 = .ok (.iload 4, 2) := by decide +kernel
theorem d_B_has_35 : decode c_B_has 35 = .ok (.invokevirtual 37, 3) := by decide +kernel
theorem d_B_has_38 : decode c_B_has 38 = .ok (.if_icmp .eq 5, 3) := by decide +kernel
theorem d_B_has_41 : decode c_B_has 41 = .ok (.iconst 0, 1) := by decide +kernel
theorem d_B_has_42 : decode c_B_has 42 = .ok (.ireturn, 1) := by decide +kernel
theorem d_B_has_43 : decode c_B_has 43 = .ok (.iinc 4 1, 3) := by decide +kernel
theorem d_B_has_46 : decode c_B_has 46 = .ok (.goto (-31), 3) := by decide +kernel
theorem d_B_has_49 : decode c_B_has 49 = .ok (.iconst 1, 1) := by decide +kernel
theorem d_B_has_50 : decode c_B_has 50 = .ok (.ireturn, 1) := by decide +kernel
theorem d_B_putText_0 : decode c_B_putText 0 = .ok (.iconst 0, 1) := by decide +kernel
theorem d_B_putText_1 : decode c_B_putText 1 = .ok (.istore_n 2, 1) := by decide +kernel
theorem d_B_putText_2 : decode c_B_putText 2 = .ok (.iload_n 2, 1) := by decide +kernel
theorem d_B_putText_3 : decode c_B_putText 3 = .ok (.aload_n 1, 1) := by decide +kernel
theorem d_B_putText_4 : decode c_B_putText 4 = .ok (.invokevirtual 31, 3) := by decide +kernel
theorem d_B_putText_7 : decode c_B_putText 7 = .ok (.if_icmp .ge 18, 3) := by decide +kernel
theorem d_B_putText_10 : decode c_B_putText 10 = .ok (.aload_n 0, 1) := by decide +kernel
theorem d_B_putText_11 : decode c_B_putText 11 = .ok (.aload_n 1, 1) := by decide +kernel
theorem d_B_putText_12 : decode c_B_putText 12 = .ok (.iload_n 2, 1) := by decide +kernel
theorem d_B_putText_13 : decode c_B_putText 13 = .ok (.invokevirtual 37, 3) := by decide +kernel
theorem d_B_putText_16 : decode c_B_putText 16 = .ok (.invokevirtual 27, 3) := by decide +kernel
theorem d_B_putText_19 : decode c_B_putText 19 = .ok (.iinc 2 1, 3) := by decide +kernel
theorem d_B_putText_22 : decode c_B_putText 22 = .ok (.goto (-20), 3) := by decide +kernel
theorem d_B_putText_25 : decode c_B_putText 25 = .ok (.return_, 1) := by decide +kernel
