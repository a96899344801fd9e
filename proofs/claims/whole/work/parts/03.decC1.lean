theorem d_D_init_0 : decode c_D_init 0 = .ok (.aload_n 0, 1) := by decide +kernel
theorem d_D_init_1 : decode c_D_init 1 = .ok (.invokespecial 3, 3) := by decide +kernel
theorem d_D_init_4 : decode c_D_init 4 = .ok (.aload_n 0, 1) := by decide +kernel
theorem d_D_init_5 : decode c_D_init 5 = .ok (.aload_n 1, 1) := by decide +kernel
theorem d_D_init_6 : decode c_D_init 6 = .ok (.putfield 9, 3) := by decide +kernel
theorem d_D_init_9 : decode c_D_init 9 = .ok (.aload_n 0, 1) := by decide +kernel
theorem d_D_init_10 : decode c_D_init 10 = .ok (.aload_n 2, 1) := by decide +kernel
theorem d_D_init_11 : decode c_D_init 11 = .ok (.putfield 15, 3) := by decide +kernel
theorem d_D_init_14 : decode c_D_init 14 = .ok (.return_, 1) := by decide +kernel
theorem d_D_decode_0 : decode c_D_decode 0 = .ok (.aload_n 1, 1) := by decide +kernel
theorem d_D_decode_1 : decode c_D_decode 1 = .ok (.aload_n 0, 1) := by decide +kernel
theorem d_D_decode_2 : decode c_D_decode 2 = .ok (.getfield 15, 3) := by decide +kernel
theorem d_D_decode_5 : decode c_D_decode 5 = .ok (.getfield 18, 3) := by decide +kernel
theorem d_D_decode_8 : decode c_D_decode 8 = .ok (.putfield 24, 3) := by decide +kernel
theorem d_D_decode_11 : decode c_D_decode 11 = .ok (.aload_n 1, 1) := by decide +kernel
theorem d_D_decode_12 : decode c_D_decode 12 = .ok (.getfield 29, 3) := by decide +kernel
theorem d_D_decode_15 : decode c_D_decode 15 = .ok (.iconst 1, 1) := by decide +kernel
theorem d_D_decode_16 : decode c_D_decode 16 = .ok (.if_icmp .ne 18, 3) := by decide +kernel
theorem d_D_decode_19 : decode c_D_decode 19 = .ok (.aload_n 0, 1) := by decide +kernel
theorem d_D_decode_20 : decode c_D_decode 20 = .ok (.aload_n 1, 1) := by decide +kernel
theorem d_D_decode_21 : decode c_D_decode 21 = .ok (.getfield 32, 3) := by decide +kernel
theorem d_D_decode_24 : decode c_D_decode 24 = .ok (.aload_n 1, 1) := by decide +kernel
theorem d_D_decode_25 : decode c_D_decode 25 = .ok (.getfield 35, 3) := by decide +kernel
theorem d_D_decode_28 : decode c_D_decode 28 = .ok (.invokevirtual 38, 3) := by decide +kernel
theorem d_D_decode_31 : decode c_D_decode 31 = .ok (.goto 45, 3) := by decide +kernel
theorem d_D_decode_34 : decode c_D_decode 34 = .ok (.aload_n 1, 1) := by decide +kernel
theorem d_D_decode_35 : decode c_D_decode 35 = .ok (.getfield 29, 3) := by decide +kernel
theorem d_D_decode_38 : decode c_D_decode 38 = .ok (.iconst 2, 1) := by decide +kernel
theorem d_D_decode_39 : decode c_D_decode 39 = .ok (.if_icmp .ne 18, 3) := by decide +kernel
theorem d_D_decode_42 : decode c_D_decode 42 = .ok (.aload_n 0, 1) := by decide +kernel
theorem d_D_decode_43 : decode c_D_decode 43 = .ok (.aload_n 1, 1) := by decide +kernel
theorem d_D_decode_44 : decode c_D_decode 44 = .ok (.getfield 32, 3) := by decide +kernel
theorem d_D_decode_47 : decode c_D_decode 47 = .ok (.aload_n 1, 1) := by decide +kernel
theorem d_D_decode_48 : decode c_D_decode 48 = .ok (.getfield 35, 3) := by decide +kernel
theorem d_D_decode_51 : decode c_D_decode 51 = .ok (.invokevirtual 42, 3) := by decide +kernel
theorem d_D_decode_54 : decode c_D_decode 54 = .ok (.goto 22, 3) := by decide +kernel
theorem d_D_decode_57 : decode c_D_decode 57 = .ok (.aload_n 0, 1) := by decide +kernel
theorem d_D_decode_58 : decode c_D_decode 58 = .ok (.getfield 15, 3) := by decide +kernel
theorem d_D_decode_61 : decode c_D_decode 61 = .ok (.aload_n 0, 1) := by decide +kernel
theorem d_D_decode_62 : decode c_D_decode 62 = .ok (.getfield 9, 3) := by decide +kernel
theorem d_D_decode_65 : decode c_D_decode 65 = .ok (.aload_n 1, 1) := by decide +kernel
theorem d_D_decode_66 : decode c_D_decode 66 = .ok (.getfield 32, 3) := by decide +kernel
theorem d_D_decode_69 : decode c_D_decode 69 = .ok (.aload_n 1, 1) := by decide +kernel
theorem d_D_decode_70 : decode c_D_decode 70 = .ok (.getfield 35, 3) := by decide +kernel
theorem d_D_decode_73 : decode c_D_decode 73 = .ok (.invokevirtual 45, 3) := by decide +kernel
theorem d_D_decode_76 : decode c_D_decode 76 = .ok (.aload_n 1, 1) := by decide +kernel
theorem d_D_decode_77 : decode c_D_decode 77 = .ok (.aload_n 0, 1) := by decide +kernel
theorem d_D_decode_78 : decode c_D_decode 78 = .ok (.getfield 15, 3) := by decide +kernel
theorem d_D_decode_81 : decode c_D_decode 81 = .ok (.getfield 18, 3) := by decide +kernel
theorem d_D_decode_84 : decode c_D_decode 84 = .ok (.aload_n 1, 1) := by decide +kernel
theorem d_D_decode_85 : decode c_D_decode 85 = .ok (.getfield 24, 3) := by decide +kernel
theorem d_D_decode_88 : decode c_D_decode 88 = .ok (.isub, 1) := by decide +kernel
theorem d_D_decode_89 : decode c_D_decode 89 = .ok (.putfield 49, 3) := by decide +kernel
theorem d_D_decode_92 : decode c_D_decode 92 = .ok (.return_, 1) := by decide +kernel
theorem d_D_decodeBase64_0 : decode c_D_decodeBase64 0 = .ok (.iconst 0, 1) := by decide +kernel
theorem d_D_decodeBase64_1 : decode c_D_decodeBase64 1 = .ok (.istore_n 3, 1) := by decide +kernel
theorem d_D_decodeBase64_2 : decode c_D_decodeBase64 2 = .ok (.iconst 0, 1) := by decide +kernel
theorem d_D_decodeBase64_3 : decode c_D_decodeBase64 3 = .ok (.istore 4, 2) := by decide +kernel
theorem d_D_decodeBase64_5 : decode c_D_decodeBase64 5 = .ok (.iload_n 1, 1) := by decide +kernel
theorem d_D_decodeBase64_6 : decode c_D_decodeBase64 6 = .ok (.istore 5, 2) := by decide +kernel
theorem d_D_decodeBase64_8 : decode c_D_decodeBase64 8 = .ok (.iload 5, 2) := by decide +kernel
theorem d_D_decodeBase64_10 : decode c_D_decodeBase64 10 = .ok (.iload_n 2, 1) := by decide +kernel
theorem d_D_decodeBase64_11 : decode c_D_decodeBase64 11 = .ok (.if_icmp .ge 81, 3) := by decide +kernel
theorem d_D_decodeBase64_14 : decode c_D_decodeBase64 14 = .ok (.aload_n 0, 1) := by decide +kernel
theorem d_D_decodeBase64_15 : decode c_D_decodeBase64 15 = .ok (.getfield 9, 3) := by decide +kernel
theorem d_D_decodeBase64_18 : decode c_D_decodeBase64 18 = .ok (.iload 5, 2) := by decide +kernel
theorem d_D_decodeBase64_20 : decode c_D_decodeBase64 20 = .ok (.invokevirtual 52, 3) := by decide +kernel
theorem d_D_decodeBase64_23 : decode c_D_decodeBase64 23 = .ok (.bipush 61, 2) := by decide +kernel
theorem d_D_decodeBase64_25 : decode c_D_decodeBase64 25 = .ok (.if_icmp .eq 67, 3) := by decide +kernel
theorem d_D_decodeBase64_28 : decode c_D_decodeBase64 28 = .ok (.aload_n 0, 1) := by decide +kernel
theorem d_D_decodeBase64_29 : decode c_D_decodeBase64 29 = .ok (.getfield 9, 3) := by decide +kernel
theorem d_D_decodeBase64_32 : decode c_D_decodeBase64 32 = .ok (.iload 5, 2) := by decide +kernel
theorem d_D_decodeBase64_34 : decode c_D_decodeBase64 34 = .ok (.invokevirtual 52, 3) := by decide +kernel
theorem d_D_decodeBase64_37 : decode c_D_decodeBase64 37 = .ok (.invokestatic 56, 3) := by decide +kernel
theorem d_D_decodeBase64_40 : decode c_D_decodeBase64 40 = .ok (.istore 6, 2) := by decide +kernel
theorem d_D_decodeBase64_42 : decode c_D_decodeBase64 42 = .ok (.iload 6, 2) := by decide +kernel
theorem d_D_decodeBase64_44 : decode c_D_decodeBase64 44 = .ok (.ifCond .lt 17, 3) := by decide +kernel
theorem d_D_decodeBase64_47 : decode c_D_decodeBase64 47 = .ok (.iload_n 3, 1) := by decide +kernel
theorem d_D_decodeBase64_48 : decode c_D_decodeBase64 48 = .ok (.bipush 6, 2) := by decide +kernel
theorem d_D_decodeBase64_50 : decode c_D_decodeBase64 50 = .ok (.ishl, 1) := by decide +kernel
theorem d_D_decodeBase64_51 : decode c_D_decodeBase64 51 = .ok (.iload 6, 2) := by decide +kernel
theorem d_D_decodeBase64_53 : decode c_D_decodeBase64 53 = .ok (.ior, 1) := by decide +kernel
theorem d_D_decodeBase64_54 : decode c_D_decodeBase64 54 = .ok (.ldc 59, 2) := by decide +kernel
theorem d_D_decodeBase64_56 : decode c_D_decodeBase64 56 = .ok (.iand, 1) := by decide +kernel
theorem d_D_decodeBase64_57 : decode c_D_decodeBase64 57 = .ok (.istore_n 3, 1) := by decide +kernel
theorem d_D_decodeBase64_58 : decode c_D_decodeBase64 58 = .ok (.iinc 4 6, 3) := by decide +kernel
theorem d_D_decodeBase64_61 : decode c_D_decodeBase64 61 = .ok (.iload 4, 2) := by decide +kernel
theorem d_D_decodeBase64_63 : decode c_D_decodeBase64 63 = .ok (.bipush 8, 2) := by decide +kernel
theorem d_D_decodeBase64_65 : decode c_D_decodeBase64 65 = .ok (.if_icmp .lt 21, 3) := by decide +kernel
theorem d_D_decodeBase64_68 : decode c_D_decodeBase64 68 = .ok (.iinc 4 (-8), 3) := by decide +kernel
theorem d_D_decodeBase64_71 : decode c_D_decodeBase64 71 = .ok (.aload_n 0, 1) := by decide +kernel
theorem d_D_decodeBase64_72 : decode c_D_decodeBase64 72 = .ok (.getfield 15, 3) := by decide +kernel
theorem d_D_decodeBase64_75 : decode c_D_decodeBase64 75 = .ok (.iload_n 3, 1) := by decide +kernel
theorem d_D_decodeBase64_76 : decode c_D_decodeBase64 76 = .ok (.iload 4, 2) := by decide +kernel
theorem d_D_decodeBase64_78 : decode c_D_decodeBase64 78 = .ok (.ishr, 1) := by decide +kernel
theorem d_D_decodeBase64_79 : decode c_D_decodeBase64 79 = .ok (.sipush 255, 3) := by decide +kernel
theorem d_D_decodeBase64_82 : decode c_D_decodeBase64 82 = .ok (.iand, 1) := by decide +kernel
theorem d_D_decodeBase64_83 : decode c_D_decodeBase64 83 = .ok (.invokevirtual 60, 3) := by decide +kernel
theorem d_D_decodeBase64_86 : decode c_D_decodeBase64 86 = .ok (.iinc 5 1, 3) := by decide +kernel
theorem d_D_decodeBase64_89 : decode c_D_decodeBase64 89 = .ok (.goto (-81), 3) := by decide +kernel
theorem d_D_decodeBase64_92 : decode c_D_decodeBase64 92 = .ok (.return_, 1) := by decide +kernel
theorem d_D_decodeQuotedPrintable_0 : decode c_D_decodeQuotedPrintable 0 = .ok (.iload_n 1, 1) := by decide +kernel
theorem d_D_decodeQuotedPrintable_1 : decode c_D_decodeQuotedPrintable 1 = .ok (.istore_n 3, 1) := by decide +kernel
theorem d_D_decodeQuotedPrintable_2 : decode c_D_decodeQuotedPrintable 2 = .ok (.iconst 0, 1) := by decide +kernel
theorem d_D_decodeQuotedPrintable_3 : decode c_D_decodeQuotedPrintable 3 = .ok (.istore 4, 2) := by decide +kernel
theorem d_D_decodeQuotedPrintable_5 : decode c_D_decodeQuotedPrintable 5 = .ok (.iload 4, 2) := by decide +kernel
theorem d_D_decodeQuotedPrintable_7 : decode c_D_decodeQuotedPrintable 7 = .ok (.sipush 320, 3) := by decide +kernel
theorem d_D_decodeQuotedPrintable_10 : decode c_D_decodeQuotedPrintable 10 = .ok (.if_icmp .ge 71, 3) := by decide +kernel
theorem d_D_decodeQuotedPrintable_13 : decode c_D_decodeQuotedPrintable 13 = .ok (.iload_n 3, 1) := by decide +kernel
theorem d_D_decodeQuotedPrintable_14 : decode c_D_decodeQuotedPrintable 14 = .ok (.iload_n 2, 1) := by decide +kernel
theorem d_D_decodeQuotedPrintable_15 : decode c_D_decodeQuotedPrintable 15 = .ok (.if_icmp .ge 66, 3) := by decide +kernel
theorem d_D_decodeQuotedPrintable_18 : decode c_D_decodeQuotedPrintable 18 = .ok (.aload_n 0, 1) := by decide +kernel
theorem d_D_decodeQuotedPrintable_19 : decode c_D_decodeQuotedPrintable 19 = .ok (.getfield 9, 3) := by decide +kernel
theorem d_D_decodeQuotedPrintable_22 : decode c_D_decodeQuotedPrintable 22 = .ok (.iload_n 3, 1) := by decide +kernel
theorem d_D_decodeQuotedPrintable_23 : decode c_D_decodeQuotedPrintable 23 = .ok (.invokevirtual 52, 3) := by decide +kernel
theorem d_D_decodeQuotedPrintable_26 : decode c_D_decodeQuotedPrintable 26 = .ok (.istore 5, 2) := by decide +kernel
theorem d_D_decodeQuotedPrintable_28 : decode c_D_decodeQuotedPrintable 28 = .ok (.iload 5, 2) := by decide +kernel
theorem d_D_decodeQuotedPrintable_30 : decode c_D_decodeQuotedPrintable 30 = .ok (.bipush 61, 2) := by decide +kernel
theorem d_D_decodeQuotedPrintable_32 : decode c_D_decodeQuotedPrintable 32 = .ok (.if_icmp .ne 13, 3) := by decide +kernel
theorem d_D_decodeQuotedPrintable_35 : decode c_D_decodeQuotedPrintable 35 = .ok (.aload_n 0, 1) := by decide +kernel
theorem d_D_decodeQuotedPrintable_36 : decode c_D_decodeQuotedPrintable 36 = .ok (.iload_n 3, 1) := by decide +kernel
theorem d_D_decodeQuotedPrintable_37 : decode c_D_decodeQuotedPrintable 37 = .ok (.iload_n 2, 1) := by decide +kernel
theorem d_D_decodeQuotedPrintable_38 : decode c_D_decodeQuotedPrintable 38 = .ok (.invokevirtual 64, 3) := by decide +kernel
theorem d_D_decodeQuotedPrintable_41 : decode c_D_decodeQuotedPrintable 41 = .ok (.istore_n 3, 1) := by decide +kernel
theorem d_D_decodeQuotedPrintable_42 : decode c_D_decodeQuotedPrintable 42 = .ok (.goto 33, 3) := by decide +kernel
theorem d_D_decodeQuotedPrintable_45 : decode c_D_decodeQuotedPrintable 45 = .ok (.iload 5, 2) := by decide +kernel
theorem d_D_decodeQuotedPrintable_47 : decode c_D_decodeQuotedPrintable 47 = .ok (.invokestatic 68, 3) := by decide +kernel
theorem d_D_decodeQuotedPrintable_50 : decode c_D_decodeQuotedPrintable 50 = .ok (.ifCond .eq 13, 3) := by decide +kernel
theorem d_D_decodeQuotedPrintable_53 : decode c_D_decodeQuotedPrintable 53 = .ok (.aload_n 0, 1) := by decide +kernel
theorem d_D_decodeQuotedPrintable_54 : decode c_D_decodeQuotedPrintable 54 = .ok (.iload_n 3, 1) := by decide +kernel
theorem d_D_decodeQuotedPrintable_55 : decode c_D_decodeQuotedPrintable 55 = .ok (.iload_n 2, 1) := by decide +kernel
theorem d_D_decodeQuotedPrintable_56 : decode c_D_decodeQuotedPrintable 56 = .ok (.invokevirtual 72, 3) := by decide +kernel
theorem d_D_decodeQuotedPrintable_59 : decode c_D_decodeQuotedPrintable 59 = .ok (.istore_n 3, 1) := by decide +kernel
theorem d_D_decodeQuotedPrintable_60 : decode c_D_decodeQuotedPrintable 60 = .ok (.goto 15, 3) := by decide +kernel
theorem d_D_decodeQuotedPrintable_63 : decode c_D_decodeQuotedPrintable 63 = .ok (.aload_n 0, 1) := by decide +kernel
theorem d_D_decodeQuotedPrintable_64 : decode c_D_decodeQuotedPrintable 64 = .ok (.getfield 15, 3) := by decide +kernel
theorem d_D_decodeQuotedPrintable_67 : decode c_D_decodeQuotedPrintable 67 = .ok (.iload 5, 2) := by decide +kernel
theorem d_D_decodeQuotedPrintable_69 : decode c_D_decodeQuotedPrintable 69 = .ok (.invokevirtual 60, 3) := by decide +kernel
theorem d_D_decodeQuotedPrintable_72 : decode c_D_decodeQuotedPrintable 72 = .ok (.iinc 3 1, 3) := by decide +kernel
theorem d_D_decodeQuotedPrintable_75 : decode c_D_decodeQuotedPrintable 75 = .ok (.iinc 4 1, 3) := by decide +kernel
theorem d_D_decodeQuotedPrintable_78 : decode c_D_decodeQuotedPrintable 78 = .ok (.goto (-73), 3) := by decide +kernel
theorem d_D_decodeQuotedPrintable_81 : decode c_D_decodeQuotedPrintable 81 = .ok (.return_, 1) := by decide +kernel
theorem d_D_decodeEqualSign_0 : decode c_D_decodeEqualSign 0 = .ok (.iload_n 1, 1) := by decide +kernel
theorem d_D_decodeEqualSign_1 : decode c_D_decodeEqualSign 1 = .ok (.iconst 2, 1) := by decide +kernel
theorem d_D_decodeEqualSign_2 : decode c_D_decodeEqualSign 2 = .ok (.iadd, 1) := by decide +kernel
theorem d_D_decodeEqualSign_3 : decode c_D_decodeEqualSign 3 = .ok (.iload_n 2, 1) := by decide +kernel
theorem d_D_decodeEqualSign_4 : decode c_D_decodeEqualSign 4 = .ok (.if_icmp .ge 59, 3) := by decide +kernel
theorem d_D_decodeEqualSign_7 : decode c_D_decodeEqualSign 7 = .ok (.aload_n 0, 1) := by decide +kernel
theorem d_D_decodeEqualSign_8 : decode c_D_decodeEqualSign 8 = .ok (.getfield 9, 3) := by decide +kernel
theorem d_D_decodeEqualSign_11 : decode c_D_decodeEqualSign 11 = .ok (.iload_n 1, 1) := by decide +kernel
theorem d_D_decodeEqualSign_12 : decode c_D_decodeEqualSign 12 = .ok (.iconst 1, 1) := by decide +kernel
theorem d_D_decodeEqualSign_13 : decode c_D_decodeEqualSign 13 = .ok (.iadd, 1) := by decide +kernel
theorem d_D_decodeEqualSign_14 : decode c_D_decodeEqualSign 14 = .ok (.invokevirtual 52, 3) := by decide +kernel
theorem d_D_decodeEqualSign_17 : decode c_D_decodeEqualSign 17 = .ok (.invokestatic 75, 3) := by decide +kernel
theorem d_D_decodeEqualSign_20 : decode c_D_decodeEqualSign 20 = .ok (.istore_n 3, 1) := by decide +kernel
theorem d_D_decodeEqualSign_21 : decode c_D_decodeEqualSign 21 = .ok (.aload_n 0, 1) := by decide +kernel
theorem d_D_decodeEqualSign_22 : decode c_D_decodeEqualSign 22 = .ok (.getfield 9, 3) := by decide +kernel
theorem d_D_decodeEqualSign_25 : decode c_D_decodeEqualSign 25 = .ok (.iload_n 1, 1) := by decide +kernel
theorem d_D_decodeEqualSign_26 : decode c_D_decodeEqualSign 26 = .ok (.iconst 2, 1) := by decide +kernel
theorem d_D_decodeEqualSign_27 : decode c_D_decodeEqualSign 27 = .ok (.iadd, 1) := by decide +kernel
theorem d_D_decodeEqualSign_28 : decode c_D_decodeEqualSign 28 = .ok (.invokevirtual 52, 3) := by decide +kernel
theorem d_D_decodeEqualSign_31 : decode c_D_decodeEqualSign 31 = .ok (.invokestatic 75, 3) := by decide +kernel
theorem d_D_decodeEqualSign_34 : decode c_D_decodeEqualSign 34 = .ok (.istore 4, 2) := by decide +kernel
theorem d_D_decodeEqualSign_36 : decode c_D_decodeEqualSign 36 = .ok (.iload_n 3, 1) := by decide +kernel
theorem d_D_decodeEqualSign_37 : decode c_D_decodeEqualSign 37 = .ok (.ifCond .lt 26, 3) := by decide +kernel
theorem d_D_decodeEqualSign_40 : decode c_D_decodeEqualSign 40 = .ok (.iload 4, 2) := by decide +kernel
theorem d_D_decodeEqualSign_42 : decode c_D_decodeEqualSign 42 = .ok (.ifCond .lt 21, 3) := by decide +kernel
theorem d_D_decodeEqualSign_45 : decode c_D_decodeEqualSign 45 = .ok (.aload_n 0, 1) := by decide +kernel
theorem d_D_decodeEqualSign_46 : decode c_D_decodeEqualSign 46 = .ok (.getfield 15, 3) := by decide +kernel
theorem d_D_decodeEqualSign_49 : decode c_D_decodeEqualSign 49 = .ok (.bipush 16, 2) := by decide +kernel
theorem d_D_decodeEqualSign_51 : decode c_D_decodeEqualSign 51 = .ok (.iload_n 3, 1) := by decide +kernel
theorem d_D_decodeEqualSign_52 : decode c_D_decodeEqualSign 52 = .ok (.imul, 1) := by decide +kernel
theorem d_D_decodeEqualSign_53 : decode c_D_decodeEqualSign 53 = .ok (.iload 4, 2) := by decide +kernel
theorem d_D_decodeEqualSign_55 : decode c_D_decodeEqualSign 55 = .ok (.iadd, 1) := by decide +kernel
theorem d_D_decodeEqualSign_56 : decode c_D_decodeEqualSign 56 = .ok (.invokevirtual 60, 3) := by decide +kernel
theorem d_D_decodeEqualSign_59 : decode c_D_decodeEqualSign 59 = .ok (.iload_n 1, 1) := by decide +kernel
theorem d_D_decodeEqualSign_60 : decode c_D_decodeEqualSign 60 = .ok (.iconst 3, 1) := by decide +kernel
theorem d_D_decodeEqualSign_61 : decode c_D_decodeEqualSign 61 = .ok (.iadd, 1) := by decide +kernel
theorem d_D_decodeEqualSign_62 : decode c_D_decodeEqualSign 62 = .ok (.ireturn, 1) := by decide +kernel
theorem d_D_decodeEqualSign_63 : decode c_D_decodeEqualSign 63 = .ok (.aload_n 0, 1) := by decide +kernel
theorem d_D_decodeEqualSign_64 : decode c_D_decodeEqualSign 64 = .ok (.getfield 9, 3) := by decide +kernel
theorem d_D_decodeEqualSign_67 : decode c_D_decodeEqualSign 67 = .ok (.iload_n 1, 1) := by decide +kernel
theorem d_D_decodeEqualSign_68 : decode c_D_decodeEqualSign 68 = .ok (.iconst 1, 1) := by decide +kernel
theorem d_D_decodeEqualSign_69 : decode c_D_decodeEqualSign 69 = .ok (.iadd, 1) := by decide +kernel
theorem d_D_decodeEqualSign_70 : decode c_D_decodeEqualSign 70 = .ok (.iload_n 2, 1) := by decide +kernel
theorem d_D_decodeEqualSign_71 : decode c_D_decodeEqualSign 71 = .ok (.invokevirtual 78, 3) := by decide +kernel
theorem d_D_decodeEqualSign_74 : decode c_D_decodeEqualSign 74 = .ok (.istore_n 3, 1) := by decide +kernel
theorem d_D_decodeEqualSign_75 : decode c_D_decodeEqualSign 75 = .ok (.aload_n 0, 1) := by decide +kernel
theorem d_D_decodeEqualSign_76 : decode c_D_decodeEqualSign 76 = .ok (.getfield 9, 3) := by decide +kernel
theorem d_D_decodeEqualSign_79 : decode c_D_decodeEqualSign 79 = .ok (.iload_n 3, 1) := by decide +kernel
theorem d_D_decodeEqualSign_80 : decode c_D_decodeEqualSign 80 = .ok (.iload_n 2, 1) := by decide +kernel
theorem d_D_decodeEqualSign_81 : decode c_D_decodeEqualSign 81 = .ok (.invokevirtual 81, 3) := by decide +kernel
theorem d_D_decodeEqualSign_84 : decode c_D_decodeEqualSign 84 = .ok (.istore 4, 2) := by decide +kernel
theorem d_D_decodeEqualSign_86 : decode c_D_decodeEqualSign 86 = .ok (.iload 4, 2) := by decide +kernel
theorem d_D_decodeEqualSign_88 : decode c_D_decodeEqualSign 88 = .ok (.ifCond .le 8, 3) := by decide +kernel
theorem d_D_decodeEqualSign_91 : decode c_D_decodeEqualSign 91 = .ok (.iload_n 3, 1) := by decide +kernel
theorem d_D_decodeEqualSign_92 : decode c_D_decodeEqualSign 92 = .ok (.iload 4, 2) := by decide +kernel
theorem d_D_decodeEqualSign_94 : decode c_D_decodeEqualSign 94 = .ok (.iadd, 1) := by decide +kernel
theorem d_D_decodeEqualSign_95 : decode c_D_decodeEqualSign 95 = .ok (.ireturn, 1) := by decide +kernel
theorem d_D_decodeEqualSign_96 : decode c_D_decodeEqualSign 96 = .ok (.aload_n 0, 1) := by decide +kernel
theorem d_D_decodeEqualSign_97 : decode c_D_decodeEqualSign 97 = .ok (.getfield 15, 3) := by decide +kernel
theorem d_D_decodeEqualSign_100 : decode c_D_decodeEqualSign 100 = .ok (.bipush 61, 2) := by decide +kernel
theorem d_D_decodeEqualSign_102 : decode c_D_decodeEqualSign 102 = .ok (.invokevirtual 60, 3) := by decide +kernel
theorem d_D_decodeEqualSign_105 : decode c_D_decodeEqualSign 105 = .ok (.iload_n 1, 1) := by decide +kernel
theorem d_D_decodeEqualSign_106 : decode c_D_decodeEqualSign 106 = .ok (.iconst 1, 1) := by decide +kernel
theorem d_D_decodeEqualSign_107 : decode c_D_decodeEqualSign 107 = .ok (.iadd, 1) := by decide +kernel
theorem d_D_decodeEqualSign_108 : decode c_D_decodeEqualSign 108 = .ok (.ireturn, 1) := by decide +kernel
theorem d_D_decodeBlanks_0 : decode c_D_decodeBlanks 0 = .ok (.aload_n 0, 1) := by decide +kernel
theorem d_D_decodeBlanks_1 : decode c_D_decodeBlanks 1 = .ok (.getfield 9, 3) := by decide +kernel
theorem d_D_decodeBlanks_4 : decode c_D_decodeBlanks 4 = .ok (.iload_n 1, 1) := by decide +kernel
theorem d_D_decodeBlanks_5 : decode c_D_decodeBlanks 5 = .ok (.iload_n 2, 1) := by decide +kernel
theorem d_D_decodeBlanks_6 : decode c_D_decodeBlanks 6 = .ok (.invokevirtual 78, 3) := by decide +kernel
theorem d_D_decodeBlanks_9 : decode c_D_decodeBlanks 9 = .ok (.istore_n 3, 1) := by decide +kernel
theorem d_D_decodeBlanks_10 : decode c_D_decodeBlanks 10 = .ok (.iload_n 3, 1) := by decide +kernel
theorem d_D_decodeBlanks_11 : decode c_D_decodeBlanks 11 = .ok (.iload_n 2, 1) := by decide +kernel
theorem d_D_decodeBlanks_12 : decode c_D_decodeBlanks 12 = .ok (.if_icmp .ge 28, 3) := by decide +kernel
theorem d_D_decodeBlanks_15 : decode c_D_decodeBlanks 15 = .ok (.aload_n 0, 1) := by decide +kernel
theorem d_D_decodeBlanks_16 : decode c_D_decodeBlanks 16 = .ok (.getfield 9, 3) := by decide +kernel
theorem d_D_decodeBlanks_19 : decode c_D_decodeBlanks 19 = .ok (.iload_n 3, 1) := by decide +kernel
theorem d_D_decodeBlanks_20 : decode c_D_decodeBlanks 20 = .ok (.iload_n 2, 1) := by decide +kernel
theorem d_D_decodeBlanks_21 : decode c_D_decodeBlanks 21 = .ok (.invokevirtual 81, 3) := by decide +kernel
theorem d_D_decodeBlanks_24 : decode c_D_decodeBlanks 24 = .ok (.ifCond .ne 16, 3) := by decide +kernel
theorem d_D_decodeBlanks_27 : decode c_D_decodeBlanks 27 = .ok (.aload_n 0, 1) := by decide +kernel
theorem d_D_decodeBlanks_28 : decode c_D_decodeBlanks 28 = .ok (.getfield 15, 3) := by decide +kernel
theorem d_D_decodeBlanks_31 : decode c_D_decodeBlanks 31 = .ok (.aload_n 0, 1) := by decide +kernel
theorem d_D_decodeBlanks_32 : decode c_D_decodeBlanks 32 = .ok (.getfield 9, 3) := by decide +kernel
theorem d_D_decodeBlanks_35 : decode c_D_decodeBlanks 35 = .ok (.iload_n 1, 1) := by decide +kernel
theorem d_D_decodeBlanks_36 : decode c_D_decodeBlanks 36 = .ok (.iload_n 3, 1) := by decide +kernel
theorem d_D_decodeBlanks_37 : decode c_D_decodeBlanks 37 = .ok (.invokevirtual 45, 3) := by decide +kernel
theorem d_D_decodeBlanks_40 : decode c_D_decodeBlanks 40 = .ok (.iload_n 3, 1) := by decide +kernel
theorem d_D_decodeBlanks_41 : decode c_D_decodeBlanks 41 = .ok (.ireturn, 1) := by decide +kernel
theorem d_E_init_0 : decode c_E_init 0 = .ok (.aload_n 0, 1) := by decide +kernel
theorem d_E_init_1 : decode c_E_init 1 = .ok (.invokespecial 3, 3) := by decide +kernel
theorem d_E_init_4 : decode c_E_init 4 = .ok (.aload_n 0, 1) := by decide +kernel
theorem d_E_init_5 : decode c_E_init 5 = .ok (.bipush 8, 2) := by decide +kernel
theorem d_E_init_7 : decode c_E_init 7 = .ok (.anewarray 9, 3) := by decide +kernel
theorem d_E_init_10 : decode c_E_init 10 = .ok (.putfield 11, 3) := by decide +kernel
theorem d_E_init_13 : decode c_E_init 13 = .ok (.iconst 0, 1) := by decide +kernel
theorem d_E_init_14 : decode c_E_init 14 = .ok (.istore_n 1, 1) := by decide +kernel
theorem d_E_init_15 : decode c_E_init 15 = .ok (.iload_n 1, 1) := by decide +kernel
theorem d_E_init_16 : decode c_E_init 16 = .ok (.bipush 8, 2) := by decide +kernel
theorem d_E_init_18 : decode c_E_init 18 = .ok (.if_icmp .ge 22, 3) := by decide +kernel
theorem d_E_init_21 : decode c_E_init 21 = .ok (.aload_n 0, 1) := by decide +kernel
theorem d_E_init_22 : decode c_E_init 22 = .ok (.getfield 11, 3) := by decide +kernel
theorem d_E_init_25 : decode c_E_init 25 = .ok (.iload_n 1, 1) := by decide +kernel
theorem d_E_init_26 : decode c_E_init 26 = .ok (.new 9, 3) := by decide +kernel
theorem d_E_init_29 : decode c_E_init 29 = .ok (.dup, 1) := by decide +kernel
theorem d_E_init_30 : decode c_E_init 30 = .ok (.invokespecial 17, 3) := by decide +kernel
theorem d_E_init_33 : decode c_E_init 33 = .ok (.aastore, 1) := by decide +kernel
theorem d_E_init_34 : decode c_E_init 34 = .ok (.iinc 1 1, 3) := by decide +kernel
theorem d_E_init_37 : decode c_E_init 37 = .ok (.goto (-22), 3) := by decide +kernel
theorem d_E_init_40 : decode c_E_init 40 = .ok (.return_, 1) := by decide +kernel
theorem d_E_start_0 : decode c_E_start 0 = .ok (.aload_n 0, 1) := by decide +kernel
theorem d_E_start_1 : decode c_E_start 1 = .ok (.iconst 0, 1) := by decide +kernel
theorem d_E_start_2 : decode c_E_start 2 = .ok (.putfield 18, 3) := by decide +kernel
theorem d_E_start_5 : decode c_E_start 5 = .ok (.aload_n 0, 1) := by decide +kernel
theorem d_E_start_6 : decode c_E_start 6 = .ok (.iload_n 3, 1) := by decide +kernel
theorem d_E_start_7 : decode c_E_start 7 = .ok (.putfield 22, 3) := by decide +kernel
theorem d_E_start_10 : decode c_E_start 10 = .ok (.aload_n 0, 1) := by decide +kernel
theorem d_E_start_11 : decode c_E_start 11 = .ok (.iload 4, 2) := by decide +kernel
theorem d_E_start_13 : decode c_E_start 13 = .ok (.putfield 25, 3) := by decide +kernel
theorem d_E_start_16 : decode c_E_start 16 = .ok (.aload_n 0, 1) := by decide +kernel
theorem d_E_start_17 : decode c_E_start 17 = .ok (.iconst 0, 1) := by decide +kernel
theorem d_E_start_18 : decode c_E_start 18 = .ok (.putfield 28, 3) := by decide +kernel
theorem d_E_start_21 : decode c_E_start 21 = .ok (.aload_n 0, 1) := by decide +kernel
theorem d_E_start_22 : decode c_E_start 22 = .ok (.iconst 0, 1) := by decide +kernel
theorem d_E_start_23 : decode c_E_start 23 = .ok (.putfield 31, 3) := by decide +kernel
theorem d_E_start_26 : decode c_E_start 26 = .ok (.aload_n 0, 1) := by decide +kernel
theorem d_E_start_27 : decode c_E_start 27 = .ok (.iload_n 1, 1) := by decide +kernel
theorem d_E_start_28 : decode c_E_start 28 = .ok (.putfield 34, 3) := by decide +kernel
theorem d_E_start_31 : decode c_E_start 31 = .ok (.aload_n 0, 1) := by decide +kernel
theorem d_E_start_32 : decode c_E_start 32 = .ok (.iload_n 1, 1) := by decide +kernel
theorem d_E_start_33 : decode c_E_start 33 = .ok (.putfield 37, 3) := by decide +kernel
theorem d_E_start_36 : decode c_E_start 36 = .ok (.aload_n 0, 1) := by decide +kernel
theorem d_E_start_37 : decode c_E_start 37 = .ok (.iload_n 2, 1) := by decide +kernel
theorem d_E_start_38 : decode c_E_start 38 = .ok (.putfield 40, 3) := by decide +kernel
theorem d_E_start_41 : decode c_E_start 41 = .ok (.aload_n 0, 1) := by decide +kernel
theorem d_E_start_42 : decode c_E_start 42 = .ok (.iconst 0, 1) := by decide +kernel
theorem d_E_start_43 : decode c_E_start 43 = .ok (.putfield 43, 3) := by decide +kernel
theorem d_E_start_46 : decode c_E_start 46 = .ok (.aload_n 0, 1) := by decide +kernel
theorem d_E_start_47 : decode c_E_start 47 = .ok (.iconst 0, 1) := by decide +kernel
theorem d_E_start_48 : decode c_E_start 48 = .ok (.putfield 46, 3) := by decide +kernel
theorem d_E_start_51 : decode c_E_start 51 = .ok (.aload_n 0, 1) := by decide +kernel
theorem d_E_start_52 : decode c_E_start 52 = .ok (.iconst 0, 1) := by decide +kernel
theorem d_E_start_53 : decode c_E_start 53 = .ok (.putfield 49, 3) := by decide +kernel
theorem d_E_start_56 : decode c_E_start 56 = .ok (.aload_n 0, 1) := by decide +kernel
theorem d_E_start_57 : decode c_E_start 57 = .ok (.iconst 0, 1) := by decide +kernel
theorem d_E_start_58 : decode c_E_start 58 = .ok (.putfield 52, 3) := by decide +kernel
theorem d_E_start_61 : decode c_E_start 61 = .ok (.aload_n 0, 1) := by decide +kernel
theorem d_E_start_62 : decode c_E_start 62 = .ok (.iconst 0, 1) := by decide +kernel
theorem d_E_start_63 : decode c_E_start 63 = .ok (.putfield 55, 3) := by decide +kernel
theorem d_E_start_66 : decode c_E_start 66 = .ok (.return_, 1) := by decide +kernel
theorem d_E_fieldAt_0 : decode c_E_fieldAt 0 = .ok (.iload_n 1, 1) := by decide +kernel
theorem d_E_fieldAt_1 : decode c_E_fieldAt 1 = .ok (.ifCond .lt 17, 3) := by decide +kernel
theorem d_E_fieldAt_4 : decode c_E_fieldAt 4 = .ok (.iload_n 1, 1) := by decide +kernel
theorem d_E_fieldAt_5 : decode c_E_fieldAt 5 = .ok (.aload_n 0, 1) := by decide +kernel
theorem d_E_fieldAt_6 : decode c_E_fieldAt 6 = .ok (.getfield 55, 3) := by decide +kernel
theorem d_E_fieldAt_9 : decode c_E_fieldAt 9 = .ok (.if_icmp .ge 9, 3) := by decide +kernel
theorem d_E_fieldAt_12 : decode c_E_fieldAt 12 = .ok (.iload_n 1, 1) := by decide +kernel
theorem d_E_fieldAt_13 : decode c_E_fieldAt 13 = .ok (.bipush 8, 2) := by decide +kernel
theorem d_E_fieldAt_15 : decode c_E_fieldAt 15 = .ok (.if_icmp .lt 13, 3) := by decide +kernel
theorem d_E_fieldAt_18 : decode c_E_fieldAt 18 = .ok (.new 58, 3) := by decide +kernel
theorem d_E_fieldAt_21 : decode c_E_fieldAt 21 = .ok (.dup, 1) := by decide +kernel
theorem d_E_fieldAt_22 : decode c_E_fieldAt 22 = .ok (.ldc 60, 2) := by decide +kernel
theorem d_E_fieldAt_24 : decode c_E_fieldAt 24 = .ok (.invokespecial 62, 3) := by decide +kernel
theorem d_E_fieldAt_27 : decode c_E_fieldAt 27 = .ok (.athrow, 1) := by decide +kernel
theorem d_E_fieldAt_28 : decode c_E_fieldAt 28 = .ok (.aload_n 0, 1) := by decide +kernel
theorem d_E_fieldAt_29 : decode c_E_fieldAt 29 = .ok (.getfield 11, 3) := by decide +kernel
theorem d_E_fieldAt_32 : decode c_E_fieldAt 32 = .ok (.iload_n 1, 1) := by decide +kernel
theorem d_E_fieldAt_33 : decode c_E_fieldAt 33 = .ok (.aaload, 1) := by decide +kernel
theorem d_E_fieldAt_34 : decode c_E_fieldAt 34 = .ok (.areturn, 1) := by decide +kernel
theorem d_F_init_0 : decode c_F_init 0 = .ok (.aload_n 0, 1) := by decide +kernel
theorem d_F_init_1 : decode c_F_init 1 = .ok (.invokespecial 1, 3) := by decide +kernel
theorem d_F_init_4 : decode c_F_init 4 = .ok (.return_, 1) := by decide +kernel
theorem d_P_init_0 : decode c_P_init 0 = .ok (.aload_n 0, 1) := by decide +kernel
theorem d_P_init_1 : decode c_P_init 1 = .ok (.invokespecial 3, 3) := by decide +kernel
theorem d_P_init_4 : decode c_P_init 4 = .ok (.aload_n 0, 1) := by decide +kernel
theorem d_P_init_5 : decode c_P_init 5 = .ok (.aload_n 1, 1) := by decide +kernel
theorem d_P_init_6 : decode c_P_init 6 = .ok (.putfield 9, 3) := by decide +kernel
theorem d_P_init_9 : decode c_P_init 9 = .ok (.aload_n 0, 1) := by decide +kernel
theorem d_P_init_10 : decode c_P_init 10 = .ok (.new 15, 3) := by decide +kernel
theorem d_P_init_13 : decode c_P_init 13 = .ok (.dup, 1) := by decide +kernel
theorem d_P_init_14 : decode c_P_init 14 = .ok (.sipush 700, 3) := by decide +kernel
theorem d_P_init_17 : decode c_P_init 17 = .ok (.invokespecial 17, 3) := by decide +kernel
theorem d_P_init_20 : decode c_P_init 20 = .ok (.putfield 20, 3) := by decide +kernel
theorem d_P_init_23 : decode c_P_init 23 = .ok (.return_, 1) := by decide +kernel
theorem d_P_printEntity_0 : decode c_P_printEntity 0 = .ok (.iload_n 1, 1) := by decide +kernel
theorem d_P_printEntity_1 : decode c_P_printEntity 1 = .ok (.ifCond .lt 25, 3) := by decide +kernel
theorem d_P_printEntity_4 : decode c_P_printEntity 4 = .ok (.iload_n 1, 1) := by decide +kernel
theorem d_P_printEntity_5 : decode c_P_printEntity 5 = .ok (.aload_n 0, 1) := by decide +kernel
theorem d_P_printEntity_6 : decode c_P_printEntity 6 = .ok (.getfield 9, 3) := by decide +kernel
theorem d_P_printEntity_9 : decode c_P_printEntity 9 = .ok (.getfield 24, 3) := by decide +kernel
theorem d_P_printEntity_12 : decode c_P_printEntity 12 = .ok (.if_icmp .ge 14, 3) := by decide +kernel
theorem d_P_printEntity_15 : decode c_P_printEntity 15 = .ok (.iload_n 1, 1) := by decide +kernel
theorem d_P_printEntity_16 : decode c_P_printEntity 16 = .ok (.bipush 16, 2) := by decide +kernel
theorem d_P_printEntity_18 : decode c_P_printEntity 18 = .ok (.if_icmp .ge 8, 3) := by decide +kernel
theorem d_P_printEntity_21 : decode c_P_printEntity 21 = .ok (.iload_n 2, 1) := by decide +kernel
theorem d_P_printEntity_22 : decode c_P_printEntity 22 = .ok (.iconst 4, 1) := by decide +kernel
theorem d_P_printEntity_23 : decode c_P_printEntity 23 = .ok (.if_icmp .le 4, 3) := by decide +kernel
theorem d_P_printEntity_26 : decode c_P_printEntity 26 = .ok (.return_, 1) := by decide +kernel
theorem d_P_printEntity_27 : decode c_P_printEntity 27 = .ok (.aload_n 0, 1) := by decide +kernel
theorem d_P_printEntity_28 : decode c_P_printEntity 28 = .ok (.getfield 9, 3) := by decide +kernel
theorem d_P_printEntity_31 : decode c_P_printEntity 31 = .ok (.getfield 30, 3) := by decide +kernel
theorem d_P_printEntity_34 : decode c_P_printEntity 34 = .ok (.iload_n 1, 1) := by decide +kernel
theorem d_P_printEntity_35 : decode c_P_printEntity 35 = .ok (.aaload, 1) := by decide +kernel
theorem d_P_printEntity_36 : decode c_P_printEntity 36 = .ok (.astore_n 3, 1) := by decide +kernel
theorem d_P_printEntity_37 : decode c_P_printEntity 37 = .ok (.aload_n 0, 1) := by decide +kernel
theorem d_P_printEntity_38 : decode c_P_printEntity 38 = .ok (.aload_n 3, 1) := by decide +kernel
theorem d_P_printEntity_39 : decode c_P_printEntity 39 = .ok (.invokevirtual 34, 3) := by decide +kernel
theorem d_P_printEntity_42 : decode c_P_printEntity 42 = .ok (.aload_n 0, 1) := by decide +kernel
theorem d_P_printEntity_43 : decode c_P_printEntity 43 = .ok (.getfield 20, 3) := by decide +kernel
theorem d_P_printEntity_46 : decode c_P_printEntity 46 = .ok (.ldc 38, 2) := by decide +kernel
theorem d_P_printEntity_48 : decode c_P_printEntity 48 = .ok (.invokevirtual 40, 3) := by decide +kernel
theorem d_P_printEntity_51 : decode c_P_printEntity 51 = .ok (.aload_n 3, 1) := by decide +kernel
theorem d_P_printEntity_52 : decode c_P_printEntity 52 = .ok (.getfield 44, 3) := by decide +kernel
theorem d_P_printEntity_55 : decode c_P_printEntity 55 = .ok (.ifCond .ne 9, 3) := by decide +kernel
theorem d_P_printEntity_58 : decode c_P_printEntity 58 = .ok (.aload_n 0, 1) := by decide +kernel
theorem d_P_printEntity_59 : decode c_P_printEntity 59 = .ok (.aload_n 3, 1) := by decide +kernel
theorem d_P_printEntity_60 : decode c_P_printEntity 60 = .ok (.invokevirtual 49, 3) := by decide +kernel
theorem d_P_printEntity_63 : decode c_P_printEntity 63 = .ok (.return_, 1) := by decide +kernel
theorem d_P_printEntity_64 : decode c_P_printEntity 64 = .ok (.aload_n 3, 1) := by decide +kernel
theorem d_P_printEntity_65 : decode c_P_printEntity 65 = .ok (.getfield 44, 3) := by decide +kernel
theorem d_P_printEntity_68 : decode c_P_printEntity 68 = .ok (.iconst 1, 1) := by decide +kernel
theorem d_P_printEntity_69 : decode c_P_printEntity 69 = .ok (.if_icmp .ne 7, 3) := by decide +kernel
theorem d_P_printEntity_72 : decode c_P_printEntity 72 = .ok (.iconst 1, 1) := by decide +kernel
theorem d_P_printEntity_73 : decode c_P_printEntity 73 = .ok (.goto 4, 3) := by decide +kernel
theorem d_P_printEntity_76 : decode c_P_printEntity 76 = .ok (.iconst 0, 1) := by decide +kernel
theorem d_P_printEntity_77 : decode c_P_printEntity 77 = .ok (.istore 4, 2) := by decide +kernel
theorem d_P_printEntity_79 : decode c_P_printEntity 79 = .ok (.iload_n 1, 1) := by decide +kernel
theorem d_P_printEntity_80 : decode c_P_printEntity 80 = .ok (.iconst 1, 1) := by decide +kernel
theorem d_P_printEntity_81 : decode c_P_printEntity 81 = .ok (.iadd, 1) := by decide +kernel
theorem d_P_printEntity_82 : decode c_P_printEntity 82 = .ok (.istore 5, 2) := by decide +kernel
theorem d_P_printEntity_84 : decode c_P_printEntity 84 = .ok (.iload 5, 2) := by decide +kernel
theorem d_P_printEntity_86 : decode c_P_printEntity 86 = .ok (.aload_n 0, 1) := by decide +kernel
theorem d_P_printEntity_87 : decode c_P_printEntity 87 = .ok (.getfield 9, 3) := by decide +kernel
theorem d_P_printEntity_90 : decode c_P_printEntity 90 = .ok (.getfield 24, 3) := by decide +kernel
theorem d_P_printEntity_93 : decode c_P_printEntity 93 = .ok (.if_icmp .ge 71, 3) := by decide +kernel
theorem d_P_printEntity_96 : decode c_P_printEntity 96 = .ok (.iload 5, 2) := by decide +kernel
theorem d_P_printEntity_98 : decode c_P_printEntity 98 = .ok (.bipush 16, 2) := by decide +kernel
theorem d_P_printEntity_100 : decode c_P_printEntity 100 = .ok (.if_icmp .ge 64, 3) := by decide +kernel
theorem d_P_printEntity_103 : decode c_P_printEntity 103 = .ok (.aload_n 0, 1) := by decide +kernel
theorem d_P_printEntity_104 : decode c_P_printEntity 104 = .ok (.getfield 9, 3) := by decide +kernel
theorem d_P_printEntity_107 : decode c_P_printEntity 107 = .ok (.getfield 30, 3) := by decide +kernel
theorem d_P_printEntity_110 : decode c_P_printEntity 110 = .ok (.iload 5, 2) := by decide +kernel
theorem d_P_printEntity_112 : decode c_P_printEntity 112 = .ok (.aaload, 1) := by decide +kernel
theorem d_P_printEntity_113 : decode c_P_printEntity 113 = .ok (.getfield 52, 3) := by decide +kernel
theorem d_P_printEntity_116 : decode c_P_printEntity 116 = .ok (.iload_n 1, 1) := by decide +kernel
theorem d_P_printEntity_117 : decode c_P_printEntity 117 = .ok (.if_icmp .eq 6, 3) := by decide +kernel
theorem d_P_printEntity_120 : decode c_P_printEntity 120 = .ok (.goto 38, 3) := by decide +kernel
theorem d_P_printEntity_123 : decode c_P_printEntity 123 = .ok (.iload 4, 2) := by decide +kernel
theorem d_P_printEntity_125 : decode c_P_printEntity 125 = .ok (.ifCond .eq 10, 3) := by decide +kernel
theorem d_P_printEntity_128 : decode c_P_printEntity 128 = .ok (.aload_n 0, 1) := by decide +kernel
theorem d_P_printEntity_129 : decode c_P_printEntity 129 = .ok (.aload_n 3, 1) := by decide +kernel
theorem d_P_printEntity_130 : decode c_P_printEntity 130 = .ok (.ldc 38, 2) := by decide +kernel
theorem d_P_printEntity_132 : decode c_P_printEntity 132 = .ok (.invokevirtual 55, 3) := by decide +kernel
theorem d_P_printEntity_135 : decode c_P_printEntity 135 = .ok (.aload_n 0, 1) := by decide +kernel
theorem d_P_printEntity_136 : decode c_P_printEntity 136 = .ok (.iload 5, 2) := by decide +kernel
theorem d_P_printEntity_138 : decode c_P_printEntity 138 = .ok (.iload_n 2, 1) := by decide +kernel
theorem d_P_printEntity_139 : decode c_P_printEntity 139 = .ok (.iconst 1, 1) := by decide +kernel
theorem d_P_printEntity_140 : decode c_P_printEntity 140 = .ok (.iadd, 1) := by decide +kernel
theorem d_P_printEntity_141 : decode c_P_printEntity 141 = .ok (.invokevirtual 59, 3) := by decide +kernel
theorem d_P_printEntity_144 : decode c_P_printEntity 144 = .ok (.iload 4, 2) := by decide +kernel
theorem d_P_printEntity_146 : decode c_P_printEntity 146 = .ok (.ifCond .eq 12, 3) := by decide +kernel
theorem d_P_printEntity_149 : decode c_P_printEntity 149 = .ok (.aload_n 0, 1) := by decide +kernel
theorem d_P_printEntity_150 : decode c_P_printEntity 150 = .ok (.getfield 20, 3) := by decide +kernel
theorem d_P_printEntity_153 : decode c_P_printEntity 153 = .ok (.ldc 38, 2) := by decide +kernel
theorem d_P_printEntity_155 : decode c_P_printEntity 155 = .ok (.invokevirtual 40, 3) := by decide +kernel
theorem d_P_printEntity_158 : decode c_P_printEntity 158 = .ok (.iinc 5 1, 3) := by decide +kernel
theorem d_P_printEntity_161 : decode c_P_printEntity 161 = .ok (.goto (-77), 3) := by decide +kernel
theorem d_P_printEntity_164 : decode c_P_printEntity 164 = .ok (.iload 4, 2) := by decide +kernel
theorem d_P_printEntity_166 : decode c_P_printEntity 166 = .ok (.ifCond .eq 19, 3) := by decide +kernel
theorem d_P_printEntity_169 : decode c_P_printEntity 169 = .ok (.aload_n 0, 1) := by decide +kernel
theorem d_P_printEntity_170 : decode c_P_printEntity 170 = .ok (.aload_n 3, 1) := by decide +kernel
theorem d_P_printEntity_171 : decode c_P_printEntity 171 = .ok (.ldc 63, 2) := by decide +kernel
theorem d_P_printEntity_173 : decode c_P_printEntity 173 = .ok (.invokevirtual 55, 3) := by decide +kernel
theorem d_P_printEntity_176 : decode c_P_printEntity 176 = .ok (.aload_n 0, 1) := by decide +kernel
theorem d_P_printEntity_177 : decode c_P_printEntity 177 = .ok (.getfield 20, 3) := by decide +kernel
theorem d_P_printEntity_180 : decode c_P_printEntity 180 = .ok (.ldc 38, 2) := by decide +kernel
theorem d_P_printEntity_182 : decode c_P_printEntity 182 = .ok (.invokevirtual 40, 3) := by decide +kernel
theorem d_P_printEntity_185 : decode c_P_printEntity 185 = .ok (.return_, 1) := by decide +kernel
theorem d_P_printFields_0 : decode c_P_printFields 0 = .ok (.iconst 0, 1) := by decide +kernel
theorem d_P_printFields_1 : decode c_P_printFields 1 = .ok (.istore_n 2, 1) := by decide +kernel
theorem d_P_printFields_2 : decode c_P_printFields 2 = .ok (.iload_n 2, 1) := by decide +kernel
theorem d_P_printFields_3 : decode c_P_printFields 3 = .ok (.aload_n 1, 1) := by decide +kernel
theorem d_P_printFields_4 : decode c_P_printFields 4 = .ok (.getfield 65, 3) := by decide +kernel
theorem d_P_printFields_7 : decode c_P_printFields 7 = .ok (.if_icmp .ge 94, 3) := by decide +kernel
theorem d_P_printFields_10 : decode c_P_printFields 10 = .ok (.iload_n 2, 1) := by decide +kernel
theorem d_P_printFields_11 : decode c_P_printFields 11 = .ok (.bipush 8, 2) := by decide +kernel
theorem d_P_printFields_13 : decode c_P_printFields 13 = .ok (.if_icmp .ge 88, 3) := by decide +kernel
theorem d_P_printFields_16 : decode c_P_printFields 16 = .ok (.aload_n 1, 1) := by decide +kernel
theorem d_P_printFields_17 : decode c_P_printFields 17 = .ok (.getfield 68, 3) := by decide +kernel
theorem d_P_printFields_20 : decode c_P_printFields 20 = .ok (.iload_n 2, 1) := by decide +kernel
theorem d_P_printFields_21 : decode c_P_printFields 21 = .ok (.aaload, 1) := by decide +kernel
theorem d_P_printFields_22 : decode c_P_printFields 22 = .ok (.astore_n 3, 1) := by decide +kernel
theorem d_P_printFields_23 : decode c_P_printFields 23 = .ok (.aload_n 0, 1) := by decide +kernel
theorem d_P_printFields_24 : decode c_P_printFields 24 = .ok (.getfield 20, 3) := by decide +kernel
theorem d_P_printFields_27 : decode c_P_printFields 27 = .ok (.aload_n 0, 1) := by decide +kernel
theorem d_P_printFields_28 : decode c_P_printFields 28 = .ok (.getfield 9, 3) := by decide +kernel
theorem d_P_printFields_31 : decode c_P_printFields 31 = .ok (.getfield 72, 3) := by decide +kernel
theorem d_P_printFields_34 : decode c_P_printFields 34 = .ok (.aload_n 3, 1) := by decide +kernel
theorem d_P_printFields_35 : decode c_P_printFields 35 = .ok (.getfield 75, 3) := by decide +kernel
theorem d_P_printFields_38 : decode c_P_printFields 38 = .ok (.aload_n 3, 1) := by decide +kernel
theorem d_P_printFields_39 : decode c_P_printFields 39 = .ok (.getfield 75, 3) := by decide +kernel
theorem d_P_printFields_42 : decode c_P_printFields 42 = .ok (.aload_n 3, 1) := by decide +kernel
theorem d_P_printFields_43 : decode c_P_printFields 43 = .ok (.getfield 80, 3) := by decide +kernel
theorem d_P_printFields_46 : decode c_P_printFields 46 = .ok (.iadd, 1) := by decide +kernel
theorem d_P_printFields_47 : decode c_P_printFields 47 = .ok (.invokevirtual 83, 3) := by decide +kernel
theorem d_P_printFields_50 : decode c_P_printFields 50 = .ok (.aload_n 0, 1) := by decide +kernel
theorem d_P_printFields_51 : decode c_P_printFields 51 = .ok (.getfield 20, 3) := by decide +kernel
theorem d_P_printFields_54 : decode c_P_printFields 54 = .ok (.ldc 87, 2) := by decide +kernel
theorem d_P_printFields_56 : decode c_P_printFields 56 = .ok (.invokevirtual 40, 3) := by decide +kernel
theorem d_P_printFields_59 : decode c_P_printFields 59 = .ok (.aload_n 0, 1) := by decide +kernel
theorem d_P_printFields_60 : decode c_P_printFields 60 = .ok (.getfield 20, 3) := by decide +kernel
theorem d_P_printFields_63 : decode c_P_printFields 63 = .ok (.aload_n 0, 1) := by decide +kernel
theorem d_P_printFields_64 : decode c_P_printFields 64 = .ok (.getfield 9, 3) := by decide +kernel
theorem d_P_printFields_67 : decode c_P_printFields 67 = .ok (.getfield 89, 3) := by decide +kernel
theorem d_P_printFields_70 : decode c_P_printFields 70 = .ok (.aload_n 3, 1) := by decide +kernel
theorem d_P_printFields_71 : decode c_P_printFields 71 = .ok (.getfield 92, 3) := by decide +kernel
theorem d_P_printFields_74 : decode c_P_printFields 74 = .ok (.aload_n 3, 1) := by decide +kernel
theorem d_P_printFields_75 : decode c_P_printFields 75 = .ok (.getfield 92, 3) := by decide +kernel
theorem d_P_printFields_78 : decode c_P_printFields 78 = .ok (.aload_n 3, 1) := by decide +kernel
theorem d_P_printFields_79 : decode c_P_printFields 79 = .ok (.getfield 95, 3) := by decide +kernel
theorem d_P_printFields_82 : decode c_P_printFields 82 = .ok (.iadd, 1) := by decide +kernel
theorem d_P_printFields_83 : decode c_P_printFields 83 = .ok (.invokevirtual 83, 3) := by decide +kernel
theorem d_P_printFields_86 : decode c_P_printFields 86 = .ok (.aload_n 0, 1) := by decide +kernel
theorem d_P_printFields_87 : decode c_P_printFields 87 = .ok (.getfield 20, 3) := by decide +kernel
theorem d_P_printFields_90 : decode c_P_printFields 90 = .ok (.ldc 38, 2) := by decide +kernel
theorem d_P_printFields_92 : decode c_P_printFields 92 = .ok (.invokevirtual 40, 3) := by decide +kernel
theorem d_P_printFields_95 : decode c_P_printFields 95 = .ok (.iinc 2 1, 3) := by decide +kernel
theorem d_P_printFields_98 : decode c_P_printFields 98 = .ok (.goto (-96), 3) := by decide +kernel
theorem d_P_printFields_101 : decode c_P_printFields 101 = .ok (.return_, 1) := by decide +kernel
theorem d_P_printContent_0 : decode c_P_printContent 0 = .ok (.aload_n 1, 1) := by decide +kernel
theorem d_P_printContent_1 : decode c_P_printContent 1 = .ok (.getfield 107, 3) := by decide +kernel
theorem d_P_printContent_4 : decode c_P_printContent 4 = .ok (.istore_n 2, 1) := by decide +kernel
theorem d_P_printContent_5 : decode c_P_printContent 5 = .ok (.aload_n 1, 1) := by decide +kernel
theorem d_P_printContent_6 : decode c_P_printContent 6 = .ok (.getfield 107, 3) := by decide +kernel
theorem d_P_printContent_9 : decode c_P_printContent 9 = .ok (.aload_n 1, 1) := by decide +kernel
theorem d_P_printContent_10 : decode c_P_printContent 10 = .ok (.getfield 110, 3) := by decide +kernel
theorem d_P_printContent_13 : decode c_P_printContent 13 = .ok (.iadd, 1) := by decide +kernel
theorem d_P_printContent_14 : decode c_P_printContent 14 = .ok (.istore_n 3, 1) := by decide +kernel
theorem d_P_printContent_15 : decode c_P_printContent 15 = .ok (.aload_n 1, 1) := by decide +kernel
theorem d_P_printContent_16 : decode c_P_printContent 16 = .ok (.getfield 113, 3) := by decide +kernel
theorem d_P_printContent_19 : decode c_P_printContent 19 = .ok (.iconst 1, 1) := by decide +kernel
theorem d_P_printContent_20 : decode c_P_printContent 20 = .ok (.if_icmp .ne 12, 3) := by decide +kernel
theorem d_P_printContent_23 : decode c_P_printContent 23 = .ok (.aload_n 0, 1) := by decide +kernel
theorem d_P_printContent_24 : decode c_P_printContent 24 = .ok (.iload_n 2, 1) := by decide +kernel
theorem d_P_printContent_25 : decode c_P_printContent 25 = .ok (.iload_n 3, 1) := by decide +kernel
theorem d_P_printContent_26 : decode c_P_printContent 26 = .ok (.invokevirtual 116, 3) := by decide +kernel
theorem d_P_printContent_29 : decode c_P_printContent 29 = .ok (.goto 36, 3) := by decide +kernel
theorem d_P_printContent_32 : decode c_P_printContent 32 = .ok (.aload_n 1, 1) := by decide +kernel
theorem d_P_printContent_33 : decode c_P_printContent 33 = .ok (.getfield 113, 3) := by decide +kernel
theorem d_P_printContent_36 : decode c_P_printContent 36 = .ok (.iconst 2, 1) := by decide +kernel
theorem d_P_printContent_37 : decode c_P_printContent 37 = .ok (.if_icmp .ne 12, 3) := by decide +kernel
theorem d_P_printContent_40 : decode c_P_printContent 40 = .ok (.aload_n 0, 1) := by decide +kernel
theorem d_P_printContent_41 : decode c_P_printContent 41 = .ok (.iload_n 2, 1) := by decide +kernel
theorem d_P_printContent_42 : decode c_P_printContent 42 = .ok (.iload_n 3, 1) := by decide +kernel
theorem d_P_printContent_43 : decode c_P_printContent 43 = .ok (.invokevirtual 119, 3) := by decide +kernel
theorem d_P_printContent_46 : decode c_P_printContent 46 = .ok (.goto 19, 3) := by decide +kernel
theorem d_P_printContent_49 : decode c_P_printContent 49 = .ok (.aload_n 0, 1) := by decide +kernel
theorem d_P_printContent_50 : decode c_P_printContent 50 = .ok (.getfield 20, 3) := by decide +kernel
theorem d_P_printContent_53 : decode c_P_printContent 53 = .ok (.aload_n 0, 1) := by decide +kernel
theorem d_P_printContent_54 : decode c_P_printContent 54 = .ok (.getfield 9, 3) := by decide +kernel
theorem d_P_printContent_57 : decode c_P_printContent 57 = .ok (.getfield 122, 3) := by decide +kernel
theorem d_P_printContent_60 : decode c_P_printContent 60 = .ok (.iload_n 2, 1) := by decide +kernel
theorem d_P_printContent_61 : decode c_P_printContent 61 = .ok (.iload_n 3, 1) := by decide +kernel
theorem d_P_printContent_62 : decode c_P_printContent 62 = .ok (.invokevirtual 83, 3) := by decide +kernel
theorem d_P_printContent_65 : decode c_P_printContent 65 = .ok (.return_, 1) := by decide +kernel
theorem d_P_printBase64_0 : decode c_P_printBase64 0 = .ok (.iconst 0, 1) := by decide +kernel
theorem d_P_printBase64_1 : decode c_P_printBase64 1 = .ok (.istore_n 3, 1) := by decide +kernel
theorem d_P_printBase64_2 : decode c_P_printBase64 2 = .ok (.iload_n 1, 1) := by decide +kernel
theorem d_P_printBase64_3 : decode c_P_printBase64 3 = .ok (.istore 4, 2) := by decide +kernel
theorem d_P_printBase64_5 : decode c_P_printBase64 5 = .ok (.iload 4, 2) := by decide +kernel
theorem d_P_printBase64_7 : decode c_P_printBase64 7 = .ok (.iload_n 2, 1) := by decide +kernel
theorem d_P_printBase64_8 : decode c_P_printBase64 8 = .ok (.if_icmp .ge 51, 3) := by decide +kernel
theorem d_P_printBase64_11 : decode c_P_printBase64 11 = .ok (.aload_n 0, 1) := by decide +kernel
theorem d_P_printBase64_12 : decode c_P_printBase64 12 = .ok (.iload 4, 2) := by decide +kernel
theorem d_P_printBase64_14 : decode c_P_printBase64 14 = .ok (.iconst 3, 1) := by decide +kernel
theorem d_P_printBase64_15 : decode c_P_printBase64 15 = .ok (.iload_n 2, 1) := by decide +kernel
theorem d_P_printBase64_16 : decode c_P_printBase64 16 = .ok (.iload 4, 2) := by decide +kernel
theorem d_P_printBase64_18 : decode c_P_printBase64 18 = .ok (.isub, 1) := by decide +kernel
theorem d_P_printBase64_19 : decode c_P_printBase64 19 = .ok (.invokestatic 125, 3) := by decide +kernel
theorem d_P_printBase64_22 : decode c_P_printBase64 22 = .ok (.invokevirtual 131, 3) := by decide +kernel
theorem d_P_printBase64_25 : decode c_P_printBase64 25 = .ok (.iinc 3 4, 3) := by decide +kernel
theorem d_P_printBase64_28 : decode c_P_printBase64 28 = .ok (.iload_n 3, 1) := by decide +kernel
theorem d_P_printBase64_29 : decode c_P_printBase64 29 = .ok (.bipush 24, 2) := by decide +kernel
theorem d_P_printBase64_31 : decode c_P_printBase64 31 = .ok (.if_icmp .eq 11, 3) := by decide +kernel
theorem d_P_printBase64_34 : decode c_P_printBase64 34 = .ok (.iload 4, 2) := by decide +kernel
theorem d_P_printBase64_36 : decode c_P_printBase64 36 = .ok (.iconst 3, 1) := by decide +kernel
theorem d_P_printBase64_37 : decode c_P_printBase64 37 = .ok (.iadd, 1) := by decide +kernel
theorem d_P_printBase64_38 : decode c_P_printBase64 38 = .ok (.iload_n 2, 1) := by decide +kernel
theorem d_P_printBase64_39 : decode c_P_printBase64 39 = .ok (.if_icmp .lt 14, 3) := by decide +kernel
theorem d_P_printBase64_42 : decode c_P_printBase64 42 = .ok (.aload_n 0, 1) := by decide +kernel
theorem d_P_printBase64_43 : decode c_P_printBase64 43 = .ok (.getfield 20, 3) := by decide +kernel
theorem d_P_printBase64_46 : decode c_P_printBase64 46 = .ok (.ldc 38, 2) := by decide +kernel
theorem d_P_printBase64_48 : decode c_P_printBase64 48 = .ok (.invokevirtual 40, 3) := by decide +kernel
theorem d_P_printBase64_51 : decode c_P_printBase64 51 = .ok (.iconst 0, 1) := by decide +kernel
theorem d_P_printBase64_52 : decode c_P_printBase64 52 = .ok (.istore_n 3, 1) := by decide +kernel
theorem d_P_printBase64_53 : decode c_P_printBase64 53 = .ok (.iinc 4 3, 3) := by decide +kernel
theorem d_P_printBase64_56 : decode c_P_printBase64 56 = .ok (.goto (-51), 3) := by decide +kernel
theorem d_P_printBase64_59 : decode c_P_printBase64 59 = .ok (.return_, 1) := by decide +kernel
theorem d_P_printThreeBytes_0 : decode c_P_printThreeBytes 0 = .ok (.iconst 0, 1) := by decide +kernel
theorem d_P_printThreeBytes_1 : decode c_P_printThreeBytes 1 = .ok (.istore_n 3, 1) := by decide +kernel
theorem d_P_printThreeBytes_2 : decode c_P_printThreeBytes 2 = .ok (.iconst 0, 1) := by decide +kernel
theorem d_P_printThreeBytes_3 : decode c_P_printThreeBytes 3 = .ok (.istore 4, 2) := by decide +kernel
theorem d_P_printThreeBytes_5 : decode c_P_printThreeBytes 5 = .ok (.iload 4, 2) := by decide +kernel
theorem d_P_printThreeBytes_7 : decode c_P_printThreeBytes 7 = .ok (.iconst 3, 1) := by decide +kernel
theorem d_P_printThreeBytes_8 : decode c_P_printThreeBytes 8 = .ok (.if_icmp .ge 39, 3) := by decide +kernel
theorem d_P_printThreeBytes_11 : decode c_P_printThreeBytes 11 = .ok (.iload_n 3, 1) := by decide +kernel
theorem d_P_printThreeBytes_12 : decode c_P_printThreeBytes 12 = .ok (.bipush 8, 2) := by decide +kernel
theorem d_P_printThreeBytes_14 : decode c_P_printThreeBytes 14 = .ok (.ishl, 1) := by decide +kernel
theorem d_P_printThreeBytes_15 : decode c_P_printThreeBytes 15 = .ok (.iload 4, 2) := by decide +kernel
theorem d_P_printThreeBytes_17 : decode c_P_printThreeBytes 17 = .ok (.iload_n 2, 1) := by decide +kernel
theorem d_P_printThreeBytes_18 : decode c_P_printThreeBytes 18 = .ok (.if_icmp .ge 20, 3) := by decide +kernel
theorem d_P_printThreeBytes_21 : decode c_P_printThreeBytes 21 = .ok (.aload_n 0, 1) := by decide +kernel
theorem d_P_printThreeBytes_22 : decode c_P_printThreeBytes 22 = .ok (.getfield 9, 3) := by decide +kernel
theorem d_P_printThreeBytes_25 : decode c_P_printThreeBytes 25 = .ok (.getfield 122, 3) := by decide +kernel
theorem d_P_printThreeBytes_28 : decode c_P_printThreeBytes 28 = .ok (.iload_n 1, 1) := by decide +kernel
theorem d_P_printThreeBytes_29 : decode c_P_printThreeBytes 29 = .ok (.iload 4, 2) := by decide +kernel
theorem d_P_printThreeBytes_31 : decode c_P_printThreeBytes 31 = .ok (.iadd, 1) := by decide +kernel
theorem d_P_printThreeBytes_32 : decode c_P_printThreeBytes 32 = .ok (.invokevirtual 134, 3) := by decide +kernel
theorem d_P_printThreeBytes_35 : decode c_P_printThreeBytes 35 = .ok (.goto 4, 3) := by decide +kernel
theorem d_P_printThreeBytes_38 : decode c_P_printThreeBytes 38 = .ok (.iconst 0, 1) := by decide +kernel
theorem d_P_printThreeBytes_39 : decode c_P_printThreeBytes 39 = .ok (.ior, 1) := by decide +kernel
theorem d_P_printThreeBytes_40 : decode c_P_printThreeBytes 40 = .ok (.istore_n 3, 1) := by decide +kernel
theorem d_P_printThreeBytes_41 : decode c_P_printThreeBytes 41 = .ok (.iinc 4 1, 3) := by decide +kernel
theorem d_P_printThreeBytes_44 : decode c_P_printThreeBytes 44 = .ok (.goto (-39), 3) := by decide +kernel
theorem d_P_printThreeBytes_47 : decode c_P_printThreeBytes 47 = .ok (.iconst 0, 1) := by decide +kernel
theorem d_P_printThreeBytes_48 : decode c_P_printThreeBytes 48 = .ok (.istore 4, 2) := by decide +kernel
theorem d_P_printThreeBytes_50 : decode c_P_printThreeBytes 50 = .ok (.iload 4, 2) := by decide +kernel
theorem d_P_printThreeBytes_52 : decode c_P_printThreeBytes 52 = .ok (.iconst 4, 1) := by decide +kernel
theorem d_P_printThreeBytes_53 : decode c_P_printThreeBytes 53 = .ok (.if_icmp .ge 49, 3) := by decide +kernel
theorem d_P_printThreeBytes_56 : decode c_P_printThreeBytes 56 = .ok (.iload_n 3, 1) := by decide +kernel
theorem d_P_printThreeBytes_57 : decode c_P_printThreeBytes 57 = .ok (.bipush 18, 2) := by decide +kernel
theorem d_P_printThreeBytes_59 : decode c_P_printThreeBytes 59 = .ok (.bipush 6, 2) := by decide +kernel
theorem d_P_printThreeBytes_61 : decode c_P_printThreeBytes 61 = .ok (.iload 4, 2) := by decide +kernel
theorem d_P_printThreeBytes_63 : decode c_P_printThreeBytes 63 = .ok (.imul, 1) := by decide +kernel
theorem d_P_printThreeBytes_64 : decode c_P_printThreeBytes 64 = .ok (.isub, 1) := by decide +kernel
theorem d_P_printThreeBytes_65 : decode c_P_printThreeBytes 65 = .ok (.ishr, 1) := by decide +kernel
theorem d_P_printThreeBytes_66 : decode c_P_printThreeBytes 66 = .ok (.bipush 63, 2) := by decide +kernel
theorem d_P_printThreeBytes_68 : decode c_P_printThreeBytes 68 = .ok (.iand, 1) := by decide +kernel
theorem d_P_printThreeBytes_69 : decode c_P_printThreeBytes 69 = .ok (.istore 5, 2) := by decide +kernel
theorem d_P_printThreeBytes_71 : decode c_P_printThreeBytes 71 = .ok (.aload_n 0, 1) := by decide +kernel
theorem d_P_printThreeBytes_72 : decode c_P_printThreeBytes 72 = .ok (.getfield 20, 3) := by decide +kernel
theorem d_P_printThreeBytes_75 : decode c_P_printThreeBytes 75 = .ok (.iload 4, 2) := by decide +kernel
theorem d_P_printThreeBytes_77 : decode c_P_printThreeBytes 77 = .ok (.iload_n 2, 1) := by decide +kernel
theorem d_P_printThreeBytes_78 : decode c_P_printThreeBytes 78 = .ok (.if_icmp .gt 13, 3) := by decide +kernel
theorem d_P_printThreeBytes_81 : decode c_P_printThreeBytes 81 = .ok (.ldc 138, 2) := by decide +kernel
theorem d_P_printThreeBytes_83 : decode c_P_printThreeBytes 83 = .ok (.iload 5, 2) := by decide +kernel
theorem d_P_printThreeBytes_85 : decode c_P_printThreeBytes 85 = .ok (.invokevirtual 140, 3) := by decide +kernel
theorem d_P_printThreeBytes_88 : decode c_P_printThreeBytes 88 = .ok (.goto 5, 3) := by decide +kernel
theorem d_P_printThreeBytes_91 : decode c_P_printThreeBytes 91 = .ok (.bipush 61, 2) := by decide +kernel
theorem d_P_printThreeBytes_93 : decode c_P_printThreeBytes 93 = .ok (.invokevirtual 146, 3) := by decide +kernel
theorem d_P_printThreeBytes_96 : decode c_P_printThreeBytes 96 = .ok (.iinc 4 1, 3) := by decide +kernel
theorem d_P_printThreeBytes_99 : decode c_P_printThreeBytes 99 = .ok (.goto (-49), 3) := by decide +kernel
theorem d_P_printThreeBytes_102 : decode c_P_printThreeBytes 102 = .ok (.return_, 1) := by decide +kernel
theorem d_P_printQuotedPrintable_0 : decode c_P_printQuotedPrintable 0 = .ok (.iconst 0, 1) := by decide +kernel
theorem d_P_printQuotedPrintable_1 : decode c_P_printQuotedPrintable 1 = .ok (.istore_n 3, 1) := by decide +kernel
theorem d_P_printQuotedPrintable_2 : decode c_P_printQuotedPrintable 2 = .ok (.iload_n 1, 1) := by decide +kernel
theorem d_P_printQuotedPrintable_3 : decode c_P_printQuotedPrintable 3 = .ok (.istore 4, 2) := by decide +kernel
theorem d_P_printQuotedPrintable_5 : decode c_P_printQuotedPrintable 5 = .ok (.iconst 0, 1) := by decide +kernel
theorem d_P_printQuotedPrintable_6 : decode c_P_printQuotedPrintable 6 = .ok (.istore 5, 2) := by decide +kernel
theorem d_P_printQuotedPrintable_8 : decode c_P_printQuotedPrintable 8 = .ok (.iload 5, 2) := by decide +kernel
theorem d_P_printQuotedPrintable_10 : decode c_P_printQuotedPrintable 10 = .ok (.sipush 320, 3) := by decide +kernel
theorem d_P_printQuotedPrintable_13 : decode c_P_printQuotedPrintable 13 = .ok (.if_icmp .ge 153, 3) := by decide +kernel
theorem d_P_printQuotedPrintable_16 : decode c_P_printQuotedPrintable 16 = .ok (.iload 4, 2) := by decide +kernel
theorem d_P_printQuotedPrintable_18 : decode c_P_printQuotedPrintable 18 = .ok (.iload_n 2, 1) := by decide +kernel
theorem d_P_printQuotedPrintable_19 : decode c_P_printQuotedPrintable 19 = .ok (.if_icmp .ge 147, 3) := by decide +kernel
theorem d_P_printQuotedPrintable_22 : decode c_P_printQuotedPrintable 22 = .ok (.aload_n 0, 1) := by decide +kernel
theorem d_P_printQuotedPrintable_23 : decode c_P_printQuotedPrintable 23 = .ok (.getfield 9, 3) := by decide +kernel
theorem d_P_printQuotedPrintable_26 : decode c_P_printQuotedPrintable 26 = .ok (.getfield 122, 3) := by decide +kernel
theorem d_P_printQuotedPrintable_29 : decode c_P_printQuotedPrintable 29 = .ok (.ldc 38, 2) := by decide +kernel
theorem d_P_printQuotedPrintable_31 : decode c_P_printQuotedPrintable 31 = .ok (.iload 4, 2) := by decide +kernel
theorem d_P_printQuotedPrintable_33 : decode c_P_printQuotedPrintable 33 = .ok (.iload_n 2, 1) := by decide +kernel
theorem d_P_printQuotedPrintable_34 : decode c_P_printQuotedPrintable 34 = .ok (.invokevirtual 149, 3) := by decide +kernel
theorem d_P_printQuotedPrintable_37 : decode c_P_printQuotedPrintable 37 = .ok (.ifCond .eq 20, 3) := by decide +kernel
theorem d_P_printQuotedPrintable_40 : decode c_P_printQuotedPrintable 40 = .ok (.aload_n 0, 1) := by decide +kernel
theorem d_P_printQuotedPrintable_41 : decode c_P_printQuotedPrintable 41 = .ok (.getfield 20, 3) := by decide +kernel
theorem d_P_printQuotedPrintable_44 : decode c_P_printQuotedPrintable 44 = .ok (.ldc 38, 2) := by decide +kernel
theorem d_P_printQuotedPrintable_46 : decode c_P_printQuotedPrintable 46 = .ok (.invokevirtual 40, 3) := by decide +kernel
theorem d_P_printQuotedPrintable_49 : decode c_P_printQuotedPrintable 49 = .ok (.iconst 0, 1) := by decide +kernel
theorem d_P_printQuotedPrintable_50 : decode c_P_printQuotedPrintable 50 = .ok (.istore_n 3, 1) := by decide +kernel
theorem d_P_printQuotedPrintable_51 : decode c_P_printQuotedPrintable 51 = .ok (.iinc 4 2, 3) := by decide +kernel
theorem d_P_printQuotedPrintable_54 : decode c_P_printQuotedPrintable 54 = .ok (.goto 106, 3) := by decide +kernel
theorem d_P_printQuotedPrintable_57 : decode c_P_printQuotedPrintable 57 = .ok (.aload_n 0, 1) := by decide +kernel
theorem d_P_printQuotedPrintable_58 : decode c_P_printQuotedPrintable 58 = .ok (.getfield 9, 3) := by decide +kernel
theorem d_P_printQuotedPrintable_61 : decode c_P_printQuotedPrintable 61 = .ok (.getfield 122, 3) := by decide +kernel
theorem d_P_printQuotedPrintable_64 : decode c_P_printQuotedPrintable 64 = .ok (.iload 4, 2) := by decide +kernel
theorem d_P_printQuotedPrintable_66 : decode c_P_printQuotedPrintable 66 = .ok (.invokevirtual 134, 3) := by decide +kernel
theorem d_P_printQuotedPrintable_69 : decode c_P_printQuotedPrintable 69 = .ok (.istore 6, 2) := by decide +kernel
theorem d_P_printQuotedPrintable_71 : decode c_P_printQuotedPrintable 71 = .ok (.aload_n 0, 1) := by decide +kernel
theorem d_P_printQuotedPrintable_72 : decode c_P_printQuotedPrintable 72 = .ok (.iload 4, 2) := by decide +kernel
theorem d_P_printQuotedPrintable_74 : decode c_P_printQuotedPrintable 74 = .ok (.iload_n 2, 1) := by decide +kernel
theorem d_P_printQuotedPrintable_75 : decode c_P_printQuotedPrintable 75 = .ok (.invokevirtual 153, 3) := by decide +kernel
theorem d_P_printQuotedPrintable_78 : decode c_P_printQuotedPrintable 78 = .ok (.istore 7, 2) := by decide +kernel
theorem d_P_printQuotedPrintable_80 : decode c_P_printQuotedPrintable 80 = .ok (.iload_n 3, 1) := by decide +kernel
theorem d_P_printQuotedPrintable_81 : decode c_P_printQuotedPrintable 81 = .ok (.iload 7, 2) := by decide +kernel
theorem d_P_printQuotedPrintable_83 : decode c_P_printQuotedPrintable 83 = .ok (.ifCond .eq 7, 3) := by decide +kernel
theorem d_P_printQuotedPrintable_86 : decode c_P_printQuotedPrintable 86 = .ok (.iconst 1, 1) := by decide +kernel
theorem d_P_printQuotedPrintable_87 : decode c_P_printQuotedPrintable 87 = .ok (.goto 4, 3) := by decide +kernel
theorem d_P_printQuotedPrintable_90 : decode c_P_printQuotedPrintable 90 = .ok (.iconst 3, 1) := by decide +kernel
theorem d_P_printQuotedPrintable_91 : decode c_P_printQuotedPrintable 91 = .ok (.iadd, 1) := by decide +kernel
theorem d_P_printQuotedPrintable_92 : decode c_P_printQuotedPrintable 92 = .ok (.bipush 30, 2) := by decide +kernel
theorem d_P_printQuotedPrintable_94 : decode c_P_printQuotedPrintable 94 = .ok (.if_icmp .le 23, 3) := by decide +kernel
theorem d_P_printQuotedPrintable_97 : decode c_P_printQuotedPrintable 97 = .ok (.aload_n 0, 1) := by decide +kernel
theorem d_P_printQuotedPrintable_98 : decode c_P_printQuotedPrintable 98 = .ok (.getfield 20, 3) := by decide +kernel
theorem d_P_printQuotedPrintable_101 : decode c_P_printQuotedPrintable 101 = .ok (.bipush 61, 2) := by decide +kernel
theorem d_P_printQuotedPrintable_103 : decode c_P_printQuotedPrintable 103 = .ok (.invokevirtual 146, 3) := by decide +kernel
theorem d_P_printQuotedPrintable_106 : decode c_P_printQuotedPrintable 106 = .ok (.aload_n 0, 1) := by decide +kernel
theorem d_P_printQuotedPrintable_107 : decode c_P_printQuotedPrintable 107 = .ok (.getfield 20, 3) := by decide +kernel
theorem d_P_printQuotedPrintable_110 : decode c_P_printQuotedPrintable 110 = .ok (.ldc 38, 2) := by decide +kernel
theorem d_P_printQuotedPrintable_112 : decode c_P_printQuotedPrintable 112 = .ok (.invokevirtual 40, 3) := by decide +kernel
theorem d_P_printQuotedPrintable_115 : decode c_P_printQuotedPrintable 115 = .ok (.iconst 0, 1) := by decide +kernel
theorem d_P_printQuotedPrintable_116 : decode c_P_printQuotedPrintable 116 = .ok (.istore_n 3, 1) := by decide +kernel
theorem d_P_printQuotedPrintable_117 : decode c_P_printQuotedPrintable 117 = .ok (.iload 7, 2) := by decide +kernel
theorem d_P_printQuotedPrintable_119 : decode c_P_printQuotedPrintable 119 = .ok (.ifCond .eq 29, 3) := by decide +kernel
theorem d_P_printQuotedPrintable_122 : decode c_P_printQuotedPrintable 122 = .ok (.iload 6, 2) := by decide +kernel
theorem d_P_printQuotedPrintable_124 : decode c_P_printQuotedPrintable 124 = .ok (.bipush 45, 2) := by decide +kernel
theorem d_P_printQuotedPrintable_126 : decode c_P_printQuotedPrintable 126 = .ok (.if_icmp .ne 7, 3) := by decide +kernel
theorem d_P_printQuotedPrintable_129 : decode c_P_printQuotedPrintable 129 = .ok (.iload_n 3, 1) := by decide +kernel
theorem d_P_printQuotedPrintable_130 : decode c_P_printQuotedPrintable 130 = .ok (.ifCond .le 18, 3) := by decide +kernel
theorem d_P_printQuotedPrintable_133 : decode c_P_printQuotedPrintable 133 = .ok (.aload_n 0, 1) := by decide +kernel
theorem d_P_printQuotedPrintable_134 : decode c_P_printQuotedPrintable 134 = .ok (.getfield 20, 3) := by decide +kernel
theorem d_P_printQuotedPrintable_137 : decode c_P_printQuotedPrintable 137 = .ok (.iload 6, 2) := by decide +kernel
theorem d_P_printQuotedPrintable_139 : decode c_P_printQuotedPrintable 139 = .ok (.invokevirtual 146, 3) := by decide +kernel
theorem d_P_printQuotedPrintable_142 : decode c_P_printQuotedPrintable 142 = .ok (.iinc 3 1, 3) := by decide +kernel
theorem d_P_printQuotedPrintable_145 : decode c_P_printQuotedPrintable 145 = .ok (.goto 12, 3) := by decide +kernel
theorem d_P_printQuotedPrintable_148 : decode c_P_printQuotedPrintable 148 = .ok (.aload_n 0, 1) := by decide +kernel
theorem d_P_printQuotedPrintable_149 : decode c_P_printQuotedPrintable 149 = .ok (.iload 6, 2) := by decide +kernel
theorem d_P_printQuotedPrintable_151 : decode c_P_printQuotedPrintable 151 = .ok (.invokevirtual 157, 3) := by decide +kernel
theorem d_P_printQuotedPrintable_154 : decode c_P_printQuotedPrintable 154 = .ok (.iinc 3 3, 3) := by decide +kernel
theorem d_P_printQuotedPrintable_157 : decode c_P_printQuotedPrintable 157 = .ok (.iinc 4 1, 3) := by decide +kernel
theorem d_P_printQuotedPrintable_160 : decode c_P_printQuotedPrintable 160 = .ok (.iinc 5 1, 3) := by decide +kernel
theorem d_P_printQuotedPrintable_163 : decode c_P_printQuotedPrintable 163 = .ok (.goto (-155), 3) := by decide +kernel
theorem d_P_printQuotedPrintable_166 : decode c_P_printQuotedPrintable 166 = .ok (.return_, 1) := by decide +kernel
theorem d_P_isPlain_0 : decode c_P_isPlain 0 = .ok (.aload_n 0, 1) := by decide +kernel
theorem d_P_isPlain_1 : decode c_P_isPlain 1 = .ok (.getfield 9, 3) := by decide +kernel
theorem d_P_isPlain_4 : decode c_P_isPlain 4 = .ok (.getfield 122, 3) := by decide +kernel
theorem d_P_isPlain_7 : decode c_P_isPlain 7 = .ok (.iload_n 1, 1) := by decide +kernel
theorem d_P_isPlain_8 : decode c_P_isPlain 8 = .ok (.invokevirtual 134, 3) := by decide +kernel
theorem d_P_isPlain_11 : decode c_P_isPlain 11 = .ok (.istore_n 3, 1) := by decide +kernel
theorem d_P_isPlain_12 : decode c_P_isPlain 12 = .ok (.iload_n 3, 1) := by decide +kernel
theorem d_P_isPlain_13 : decode c_P_isPlain 13 = .ok (.invokestatic 160, 3) := by decide +kernel
theorem d_P_isPlain_16 : decode c_P_isPlain 16 = .ok (.ifCond .eq 35, 3) := by decide +kernel
theorem d_P_isPlain_19 : decode c_P_isPlain 19 = .ok (.iload_n 1, 1) := by decide +kernel
theorem d_P_isPlain_20 : decode c_P_isPlain 20 = .ok (.iconst 1, 1) := by decide +kernel
theorem d_P_isPlain_21 : decode c_P_isPlain 21 = .ok (.iadd, 1) := by decide +kernel
theorem d_P_isPlain_22 : decode c_P_isPlain 22 = .ok (.iload_n 2, 1) := by decide +kernel
theorem d_P_isPlain_23 : decode c_P_isPlain 23 = .ok (.if_icmp .ge 26, 3) := by decide +kernel
theorem d_P_isPlain_26 : decode c_P_isPlain 26 = .ok (.aload_n 0, 1) := by decide +kernel
theorem d_P_isPlain_27 : decode c_P_isPlain 27 = .ok (.getfield 9, 3) := by decide +kernel
theorem d_P_isPlain_30 : decode c_P_isPlain 30 = .ok (.getfield 122, 3) := by decide +kernel
theorem d_P_isPlain_33 : decode c_P_isPlain 33 = .ok (.ldc 38, 2) := by decide +kernel
theorem d_P_isPlain_35 : decode c_P_isPlain 35 = .ok (.iload_n 1, 1) := by decide +kernel
theorem d_P_isPlain_36 : decode c_P_isPlain 36 = .ok (.iconst 1, 1) := by decide +kernel
theorem d_P_isPlain_37 : decode c_P_isPlain 37 = .ok (.iadd, 1) := by decide +kernel
theorem d_P_isPlain_38 : decode c_P_isPlain 38 = .ok (.iload_n 2, 1) := by decide +kernel
theorem d_P_isPlain_39 : decode c_P_isPlain 39 = .ok (.invokevirtual 149, 3) := by decide +kernel
theorem d_P_isPlain_42 : decode c_P_isPlain 42 = .ok (.ifCond .ne 7, 3) := by decide +kernel
theorem d_P_isPlain_45 : decode c_P_isPlain 45 = .ok (.iconst 1, 1) := by decide +kernel
theorem d_P_isPlain_46 : decode c_P_isPlain 46 = .ok (.goto 4, 3) := by decide +kernel
theorem d_P_isPlain_49 : decode c_P_isPlain 49 = .ok (.iconst 0, 1) := by decide +kernel
theorem d_P_isPlain_50 : decode c_P_isPlain 50 = .ok (.ireturn, 1) := by decide +kernel
theorem d_P_isPlain_51 : decode c_P_isPlain 51 = .ok (.iload_n 3, 1) := by decide +kernel
theorem d_P_isPlain_52 : decode c_P_isPlain 52 = .ok (.bipush 33, 2) := by decide +kernel
theorem d_P_isPlain_54 : decode c_P_isPlain 54 = .ok (.if_icmp .lt 19, 3) := by decide +kernel
theorem d_P_isPlain_57 : decode c_P_isPlain 57 = .ok (.iload_n 3, 1) := by decide +kernel
theorem d_P_isPlain_58 : decode c_P_isPlain 58 = .ok (.bipush 126, 2) := by decide +kernel
theorem d_P_isPlain_60 : decode c_P_isPlain 60 = .ok (.if_icmp .gt 13, 3) := by decide +kernel
theorem d_P_isPlain_63 : decode c_P_isPlain 63 = .ok (.iload_n 3, 1) := by decide +kernel
theorem d_P_isPlain_64 : decode c_P_isPlain 64 = .ok (.bipush 61, 2) := by decide +kernel
theorem d_P_isPlain_66 : decode c_P_isPlain 66 = .ok (.if_icmp .eq 7, 3) := by decide +kernel
theorem d_P_isPlain_69 : decode c_P_isPlain 69 = .ok (.iconst 1, 1) := by decide +kernel
theorem d_P_isPlain_70 : decode c_P_isPlain 70 = .ok (.goto 4, 3) := by decide +kernel
theorem d_P_isPlain_73 : decode c_P_isPlain 73 = .ok (.iconst 0, 1) := by decide +kernel
theorem d_P_isPlain_74 : decode c_P_isPlain 74 = .ok (.ireturn, 1) := by decide +kernel
theorem d_P_printEscaped_0 : decode c_P_printEscaped 0 = .ok (.aload_n 0, 1) := by decide +kernel
theorem d_P_printEscaped_1 : decode c_P_printEscaped 1 = .ok (.getfield 20, 3) := by decide +kernel
theorem d_P_printEscaped_4 : decode c_P_printEscaped 4 = .ok (.bipush 61, 2) := by decide +kernel
theorem d_P_printEscaped_6 : decode c_P_printEscaped 6 = .ok (.invokevirtual 146, 3) := by decide +kernel
theorem d_P_printEscaped_9 : decode c_P_printEscaped 9 = .ok (.aload_n 0, 1) := by decide +kernel
theorem d_P_printEscaped_10 : decode c_P_printEscaped 10 = .ok (.getfield 20, 3) := by decide +kernel
theorem d_P_printEscaped_13 : decode c_P_printEscaped 13 = .ok (.ldc 164, 2) := by decide +kernel
theorem d_P_printEscaped_15 : decode c_P_printEscaped 15 = .ok (.iload_n 1, 1) := by decide +kernel
theorem d_P_printEscaped_16 : decode c_P_printEscaped 16 = .ok (.iconst 4, 1) := by decide +kernel
theorem d_P_printEscaped_17 : decode c_P_printEscaped 17 = .ok (.ishr, 1) := by decide +kernel
theorem d_P_printEscaped_18 : decode c_P_printEscaped 18 = .ok (.bipush 15, 2) := by decide +kernel
theorem d_P_printEscaped_20 : decode c_P_printEscaped 20 = .ok (.iand, 1) := by decide +kernel
theorem d_P_printEscaped_21 : decode c_P_printEscaped 21 = .ok (.invokevirtual 140, 3) := by decide +kernel
theorem d_P_printEscaped_24 : decode c_P_printEscaped 24 = .ok (.invokevirtual 146, 3) := by decide +kernel
theorem d_P_printEscaped_27 : decode c_P_printEscaped 27 = .ok (.aload_n 0, 1) := by decide +kernel
theorem d_P_printEscaped_28 : decode c_P_printEscaped 28 = .ok (.getfield 20, 3) := by decide +kernel
theorem d_P_printEscaped_31 : decode c_P_printEscaped 31 = .ok (.ldc 164, 2) := by decide +kernel
theorem d_P_printEscaped_33 : decode c_P_printEscaped 33 = .ok (.iload_n 1, 1) := by decide +kernel
theorem d_P_printEscaped_34 : decode c_P_printEscaped 34 = .ok (.bipush 15, 2) := by decide +kernel
theorem d_P_printEscaped_36 : decode c_P_printEscaped 36 = .ok (.iand, 1) := by decide +kernel
theorem d_P_printEscaped_37 : decode c_P_printEscaped 37 = .ok (.invokevirtual 140, 3) := by decide +kernel
theorem d_P_printEscaped_40 : decode c_P_printEscaped 40 = .ok (.invokevirtual 146, 3) := by decide +kernel
theorem d_P_printEscaped_43 : decode c_P_printEscaped 43 = .ok (.return_, 1) := by decide +kernel
theorem d_P_printMark_0 : decode c_P_printMark 0 = .ok (.aload_n 0, 1) := by decide +kernel
theorem d_P_printMark_1 : decode c_P_printMark 1 = .ok (.getfield 20, 3) := by decide +kernel
theorem d_P_printMark_4 : decode c_P_printMark 4 = .ok (.ldc 63, 2) := by decide +kernel
theorem d_P_printMark_6 : decode c_P_printMark 6 = .ok (.invokevirtual 40, 3) := by decide +kernel
theorem d_P_printMark_9 : decode c_P_printMark 9 = .ok (.aload_n 0, 1) := by decide +kernel
theorem d_P_printMark_10 : decode c_P_printMark 10 = .ok (.getfield 20, 3) := by decide +kernel
theorem d_P_printMark_13 : decode c_P_printMark 13 = .ok (.aload_n 0, 1) := by decide +kernel
theorem d_P_printMark_14 : decode c_P_printMark 14 = .ok (.getfield 9, 3) := by decide +kernel
theorem d_P_printMark_17 : decode c_P_printMark 17 = .ok (.getfield 98, 3) := by decide +kernel
theorem d_P_printMark_20 : decode c_P_printMark 20 = .ok (.aload_n 1, 1) := by decide +kernel
theorem d_P_printMark_21 : decode c_P_printMark 21 = .ok (.getfield 101, 3) := by decide +kernel
theorem d_P_printMark_24 : decode c_P_printMark 24 = .ok (.aload_n 1, 1) := by decide +kernel
theorem d_P_printMark_25 : decode c_P_printMark 25 = .ok (.getfield 101, 3) := by decide +kernel
theorem d_P_printMark_28 : decode c_P_printMark 28 = .ok (.aload_n 1, 1) := by decide +kernel
theorem d_P_printMark_29 : decode c_P_printMark 29 = .ok (.getfield 104, 3) := by decide +kernel
theorem d_P_printMark_32 : decode c_P_printMark 32 = .ok (.iadd, 1) := by decide +kernel
theorem d_P_printMark_33 : decode c_P_printMark 33 = .ok (.invokevirtual 83, 3) := by decide +kernel
theorem d_P_printMark_36 : decode c_P_printMark 36 = .ok (.aload_n 0, 1) := by decide +kernel
theorem d_P_printMark_37 : decode c_P_printMark 37 = .ok (.getfield 20, 3) := by decide +kernel
theorem d_P_printMark_40 : decode c_P_printMark 40 = .ok (.aload_n 2, 1) := by decide +kernel
theorem d_P_printMark_41 : decode c_P_printMark 41 = .ok (.invokevirtual 40, 3) := by decide +kernel
theorem d_P_printMark_44 : decode c_P_printMark 44 = .ok (.return_, 1) := by decide +kernel
theorem d_S_init_0 : decode c_S_init 0 = .ok (.aload_n 0, 1) := by decide +kernel
theorem d_S_init_1 : decode c_S_init 1 = .ok (.invokespecial 3, 3) := by decide +kernel
theorem d_S_init_4 : decode c_S_init 4 = .ok (.aload_n 0, 1) := by decide +kernel
theorem d_S_init_5 : decode c_S_init 5 = .ok (.aload_n 1, 1) := by decide +kernel
theorem d_S_init_6 : decode c_S_init 6 = .ok (.putfield 9, 3) := by decide +kernel
theorem d_S_init_9 : decode c_S_init 9 = .ok (.aload_n 0, 1) := by decide +kernel
theorem d_S_init_10 : decode c_S_init 10 = .ok (.new 15, 3) := by decide +kernel
theorem d_S_init_13 : decode c_S_init 13 = .ok (.dup, 1) := by decide +kernel
theorem d_S_init_14 : decode c_S_init 14 = .ok (.sipush 320, 3) := by decide +kernel
theorem d_S_init_17 : decode c_S_init 17 = .ok (.invokespecial 17, 3) := by decide +kernel
theorem d_S_init_20 : decode c_S_init 20 = .ok (.putfield 20, 3) := by decide +kernel
theorem d_S_init_23 : decode c_S_init 23 = .ok (.return_, 1) := by decide +kernel
theorem d_S_start_0 : decode c_S_start 0 = .ok (.aload_n 0, 1) := by decide +kernel
theorem d_S_start_1 : decode c_S_start 1 = .ok (.aload_n 1, 1) := by decide +kernel
theorem d_S_start_2 : decode c_S_start 2 = .ok (.getfield 23, 3) := by decide +kernel
theorem d_S_start_5 : decode c_S_start 5 = .ok (.putfield 29, 3) := by decide +kernel
theorem d_S_start_8 : decode c_S_start 8 = .ok (.aload_n 0, 1) := by decide +kernel
theorem d_S_start_9 : decode c_S_start 9 = .ok (.aload_n 1, 1) := by decide +kernel
theorem d_S_start_10 : decode c_S_start 10 = .ok (.getfield 23, 3) := by decide +kernel
theorem d_S_start_13 : decode c_S_start 13 = .ok (.aload_n 1, 1) := by decide +kernel
theorem d_S_start_14 : decode c_S_start 14 = .ok (.getfield 32, 3) := by decide +kernel
theorem d_S_start_17 : decode c_S_start 17 = .ok (.iadd, 1) := by decide +kernel
theorem d_S_start_18 : decode c_S_start 18 = .ok (.putfield 35, 3) := by decide +kernel
theorem d_S_start_21 : decode c_S_start 21 = .ok (.return_, 1) := by decide +kernel
theorem d_S_skipSpace_0 : decode c_S_skipSpace 0 = .ok (.iconst 0, 1) := by decide +kernel
theorem d_S_skipSpace_1 : decode c_S_skipSpace 1 = .ok (.istore_n 1, 1) := by decide +kernel
theorem d_S_skipSpace_2 : decode c_S_skipSpace 2 = .ok (.aload_n 0, 1) := by decide +kernel
theorem d_S_skipSpace_3 : decode c_S_skipSpace 3 = .ok (.getfield 29, 3) := by decide +kernel
theorem d_S_skipSpace_6 : decode c_S_skipSpace 6 = .ok (.aload_n 0, 1) := by decide +kernel
theorem d_S_skipSpace_7 : decode c_S_skipSpace 7 = .ok (.getfield 35, 3) := by decide +kernel
theorem d_S_skipSpace_10 : decode c_S_skipSpace 10 = .ok (.if_icmp .ge 86, 3) := by decide +kernel
theorem d_S_skipSpace_13 : decode c_S_skipSpace 13 = .ok (.aload_n 0, 1) := by decide +kernel
theorem d_S_skipSpace_14 : decode c_S_skipSpace 14 = .ok (.getfield 9, 3) := by decide +kernel
theorem d_S_skipSpace_17 : decode c_S_skipSpace 17 = .ok (.aload_n 0, 1) := by decide +kernel
theorem d_S_skipSpace_18 : decode c_S_skipSpace 18 = .ok (.getfield 29, 3) := by decide +kernel
theorem d_S_skipSpace_21 : decode c_S_skipSpace 21 = .ok (.invokevirtual 38, 3) := by decide +kernel
theorem d_S_skipSpace_24 : decode c_S_skipSpace 24 = .ok (.istore_n 2, 1) := by decide +kernel
theorem d_S_skipSpace_25 : decode c_S_skipSpace 25 = .ok (.iload_n 1, 1) := by decide +kernel
theorem d_S_skipSpace_26 : decode c_S_skipSpace 26 = .ok (.ifCond .ne 17, 3) := by decide +kernel
theorem d_S_skipSpace_29 : decode c_S_skipSpace 29 = .ok (.iload_n 2, 1) := by decide +kernel
