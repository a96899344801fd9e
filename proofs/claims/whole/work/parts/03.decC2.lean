theorem d_S_skipSpace_30 : decode c_S_skipSpace 30 = .ok (.bipush 40, 2) := by decide +kernel
theorem d_S_skipSpace_32 : decode c_S_skipSpace 32 = .ok (.if_icmp .eq 11, 3) := by decide +kernel
theorem d_S_skipSpace_35 : decode c_S_skipSpace 35 = .ok (.iload_n 2, 1) := by decide +kernel
theorem d_S_skipSpace_36 : decode c_S_skipSpace 36 = .ok (.invokestatic 42, 3) := by decide +kernel
theorem d_S_skipSpace_39 : decode c_S_skipSpace 39 = .ok (.ifCond .ne 4, 3) := by decide +kernel
theorem d_S_skipSpace_42 : decode c_S_skipSpace 42 = .ok (.return_, 1) := by decide +kernel
theorem d_S_skipSpace_43 : decode c_S_skipSpace 43 = .ok (.iload_n 2, 1) := by decide +kernel
theorem d_S_skipSpace_44 : decode c_S_skipSpace 44 = .ok (.bipush 40, 2) := by decide +kernel
theorem d_S_skipSpace_46 : decode c_S_skipSpace 46 = .ok (.if_icmp .ne 9, 3) := by decide +kernel
theorem d_S_skipSpace_49 : decode c_S_skipSpace 49 = .ok (.iinc 1 1, 3) := by decide +kernel
theorem d_S_skipSpace_52 : decode c_S_skipSpace 52 = .ok (.goto 31, 3) := by decide +kernel
theorem d_S_skipSpace_55 : decode c_S_skipSpace 55 = .ok (.iload_n 2, 1) := by decide +kernel
theorem d_S_skipSpace_56 : decode c_S_skipSpace 56 = .ok (.bipush 41, 2) := by decide +kernel
theorem d_S_skipSpace_58 : decode c_S_skipSpace 58 = .ok (.if_icmp .ne 9, 3) := by decide +kernel
theorem d_S_skipSpace_61 : decode c_S_skipSpace 61 = .ok (.iinc 1 (-1), 3) := by decide +kernel
theorem d_S_skipSpace_64 : decode c_S_skipSpace 64 = .ok (.goto 19, 3) := by decide +kernel
theorem d_S_skipSpace_67 : decode c_S_skipSpace 67 = .ok (.iload_n 2, 1) := by decide +kernel
theorem d_S_skipSpace_68 : decode c_S_skipSpace 68 = .ok (.bipush 92, 2) := by decide +kernel
theorem d_S_skipSpace_70 : decode c_S_skipSpace 70 = .ok (.if_icmp .ne 13, 3) := by decide +kernel
theorem d_S_skipSpace_73 : decode c_S_skipSpace 73 = .ok (.aload_n 0, 1) := by decide +kernel
theorem d_S_skipSpace_74 : decode c_S_skipSpace 74 = .ok (.dup, 1) := by decide +kernel
theorem d_S_skipSpace_75 : decode c_S_skipSpace 75 = .ok (.getfield 29, 3) := by decide +kernel
theorem d_S_skipSpace_78 : decode c_S_skipSpace 78 = .ok (.iconst 1, 1) := by decide +kernel
theorem d_S_skipSpace_79 : decode c_S_skipSpace 79 = .ok (.iadd, 1) := by decide +kernel
theorem d_S_skipSpace_80 : decode c_S_skipSpace 80 = .ok (.putfield 29, 3) := by decide +kernel
theorem d_S_skipSpace_83 : decode c_S_skipSpace 83 = .ok (.aload_n 0, 1) := by decide +kernel
theorem d_S_skipSpace_84 : decode c_S_skipSpace 84 = .ok (.dup, 1) := by decide +kernel
theorem d_S_skipSpace_85 : decode c_S_skipSpace 85 = .ok (.getfield 29, 3) := by decide +kernel
theorem d_S_skipSpace_88 : decode c_S_skipSpace 88 = .ok (.iconst 1, 1) := by decide +kernel
theorem d_S_skipSpace_89 : decode c_S_skipSpace 89 = .ok (.iadd, 1) := by decide +kernel
theorem d_S_skipSpace_90 : decode c_S_skipSpace 90 = .ok (.putfield 29, 3) := by decide +kernel
theorem d_S_skipSpace_93 : decode c_S_skipSpace 93 = .ok (.goto (-91), 3) := by decide +kernel
theorem d_S_skipSpace_96 : decode c_S_skipSpace 96 = .ok (.aload_n 0, 1) := by decide +kernel
theorem d_S_skipSpace_97 : decode c_S_skipSpace 97 = .ok (.aload_n 0, 1) := by decide +kernel
theorem d_S_skipSpace_98 : decode c_S_skipSpace 98 = .ok (.getfield 35, 3) := by decide +kernel
theorem d_S_skipSpace_101 : decode c_S_skipSpace 101 = .ok (.putfield 29, 3) := by decide +kernel
theorem d_S_skipSpace_104 : decode c_S_skipSpace 104 = .ok (.return_, 1) := by decide +kernel
theorem d_S_takeAtom_0 : decode c_S_takeAtom 0 = .ok (.aload_n 0, 1) := by decide +kernel
theorem d_S_takeAtom_1 : decode c_S_takeAtom 1 = .ok (.getfield 20, 3) := by decide +kernel
theorem d_S_takeAtom_4 : decode c_S_takeAtom 4 = .ok (.invokevirtual 46, 3) := by decide +kernel
theorem d_S_takeAtom_7 : decode c_S_takeAtom 7 = .ok (.aload_n 0, 1) := by decide +kernel
theorem d_S_takeAtom_8 : decode c_S_takeAtom 8 = .ok (.getfield 29, 3) := by decide +kernel
theorem d_S_takeAtom_11 : decode c_S_takeAtom 11 = .ok (.aload_n 0, 1) := by decide +kernel
theorem d_S_takeAtom_12 : decode c_S_takeAtom 12 = .ok (.getfield 35, 3) := by decide +kernel
theorem d_S_takeAtom_15 : decode c_S_takeAtom 15 = .ok (.if_icmp .ge 51, 3) := by decide +kernel
theorem d_S_takeAtom_18 : decode c_S_takeAtom 18 = .ok (.aload_n 0, 1) := by decide +kernel
theorem d_S_takeAtom_19 : decode c_S_takeAtom 19 = .ok (.getfield 9, 3) := by decide +kernel
theorem d_S_takeAtom_22 : decode c_S_takeAtom 22 = .ok (.aload_n 0, 1) := by decide +kernel
theorem d_S_takeAtom_23 : decode c_S_takeAtom 23 = .ok (.getfield 29, 3) := by decide +kernel
theorem d_S_takeAtom_26 : decode c_S_takeAtom 26 = .ok (.invokevirtual 38, 3) := by decide +kernel
theorem d_S_takeAtom_29 : decode c_S_takeAtom 29 = .ok (.invokestatic 49, 3) := by decide +kernel
theorem d_S_takeAtom_32 : decode c_S_takeAtom 32 = .ok (.ifCond .eq 34, 3) := by decide +kernel
theorem d_S_takeAtom_35 : decode c_S_takeAtom 35 = .ok (.aload_n 0, 1) := by decide +kernel
theorem d_S_takeAtom_36 : decode c_S_takeAtom 36 = .ok (.getfield 20, 3) := by decide +kernel
theorem d_S_takeAtom_39 : decode c_S_takeAtom 39 = .ok (.aload_n 0, 1) := by decide +kernel
theorem d_S_takeAtom_40 : decode c_S_takeAtom 40 = .ok (.getfield 9, 3) := by decide +kernel
theorem d_S_takeAtom_43 : decode c_S_takeAtom 43 = .ok (.aload_n 0, 1) := by decide +kernel
theorem d_S_takeAtom_44 : decode c_S_takeAtom 44 = .ok (.getfield 29, 3) := by decide +kernel
theorem d_S_takeAtom_47 : decode c_S_takeAtom 47 = .ok (.invokevirtual 38, 3) := by decide +kernel
theorem d_S_takeAtom_50 : decode c_S_takeAtom 50 = .ok (.invokevirtual 52, 3) := by decide +kernel
theorem d_S_takeAtom_53 : decode c_S_takeAtom 53 = .ok (.aload_n 0, 1) := by decide +kernel
theorem d_S_takeAtom_54 : decode c_S_takeAtom 54 = .ok (.dup, 1) := by decide +kernel
theorem d_S_takeAtom_55 : decode c_S_takeAtom 55 = .ok (.getfield 29, 3) := by decide +kernel
theorem d_S_takeAtom_58 : decode c_S_takeAtom 58 = .ok (.iconst 1, 1) := by decide +kernel
theorem d_S_takeAtom_59 : decode c_S_takeAtom 59 = .ok (.iadd, 1) := by decide +kernel
theorem d_S_takeAtom_60 : decode c_S_takeAtom 60 = .ok (.putfield 29, 3) := by decide +kernel
theorem d_S_takeAtom_63 : decode c_S_takeAtom 63 = .ok (.goto (-56), 3) := by decide +kernel
theorem d_S_takeAtom_66 : decode c_S_takeAtom 66 = .ok (.aload_n 0, 1) := by decide +kernel
theorem d_S_takeAtom_67 : decode c_S_takeAtom 67 = .ok (.getfield 20, 3) := by decide +kernel
theorem d_S_takeAtom_70 : decode c_S_takeAtom 70 = .ok (.getfield 55, 3) := by decide +kernel
theorem d_S_takeAtom_73 : decode c_S_takeAtom 73 = .ok (.ifCond .le 7, 3) := by decide +kernel
theorem d_S_takeAtom_76 : decode c_S_takeAtom 76 = .ok (.iconst 1, 1) := by decide +kernel
theorem d_S_takeAtom_77 : decode c_S_takeAtom 77 = .ok (.goto 4, 3) := by decide +kernel
theorem d_S_takeAtom_80 : decode c_S_takeAtom 80 = .ok (.iconst 0, 1) := by decide +kernel
theorem d_S_takeAtom_81 : decode c_S_takeAtom 81 = .ok (.ireturn, 1) := by decide +kernel
theorem d_S_wordIs_0 : decode c_S_wordIs 0 = .ok (.aload_n 0, 1) := by decide +kernel
theorem d_S_wordIs_1 : decode c_S_wordIs 1 = .ok (.getfield 20, 3) := by decide +kernel
theorem d_S_wordIs_4 : decode c_S_wordIs 4 = .ok (.aload_n 1, 1) := by decide +kernel
theorem d_S_wordIs_5 : decode c_S_wordIs 5 = .ok (.iconst 0, 1) := by decide +kernel
theorem d_S_wordIs_6 : decode c_S_wordIs 6 = .ok (.aload_n 0, 1) := by decide +kernel
theorem d_S_wordIs_7 : decode c_S_wordIs 7 = .ok (.getfield 20, 3) := by decide +kernel
theorem d_S_wordIs_10 : decode c_S_wordIs 10 = .ok (.getfield 55, 3) := by decide +kernel
theorem d_S_wordIs_13 : decode c_S_wordIs 13 = .ok (.invokevirtual 81, 3) := by decide +kernel
theorem d_S_wordIs_16 : decode c_S_wordIs 16 = .ok (.ireturn, 1) := by decide +kernel
theorem d_S_take_0 : decode c_S_take 0 = .ok (.aload_n 0, 1) := by decide +kernel
theorem d_S_take_1 : decode c_S_take 1 = .ok (.getfield 29, 3) := by decide +kernel
theorem d_S_take_4 : decode c_S_take 4 = .ok (.aload_n 0, 1) := by decide +kernel
theorem d_S_take_5 : decode c_S_take 5 = .ok (.getfield 35, 3) := by decide +kernel
theorem d_S_take_8 : decode c_S_take 8 = .ok (.if_icmp .ge 18, 3) := by decide +kernel
theorem d_S_take_11 : decode c_S_take 11 = .ok (.aload_n 0, 1) := by decide +kernel
theorem d_S_take_12 : decode c_S_take 12 = .ok (.getfield 9, 3) := by decide +kernel
theorem d_S_take_15 : decode c_S_take 15 = .ok (.aload_n 0, 1) := by decide +kernel
theorem d_S_take_16 : decode c_S_take 16 = .ok (.getfield 29, 3) := by decide +kernel
theorem d_S_take_19 : decode c_S_take 19 = .ok (.invokevirtual 38, 3) := by decide +kernel
theorem d_S_take_22 : decode c_S_take 22 = .ok (.iload_n 1, 1) := by decide +kernel
theorem d_S_take_23 : decode c_S_take 23 = .ok (.if_icmp .eq 5, 3) := by decide +kernel
theorem d_S_take_26 : decode c_S_take 26 = .ok (.iconst 0, 1) := by decide +kernel
theorem d_S_take_27 : decode c_S_take 27 = .ok (.ireturn, 1) := by decide +kernel
theorem d_S_take_28 : decode c_S_take 28 = .ok (.aload_n 0, 1) := by decide +kernel
theorem d_S_take_29 : decode c_S_take 29 = .ok (.dup, 1) := by decide +kernel
theorem d_S_take_30 : decode c_S_take 30 = .ok (.getfield 29, 3) := by decide +kernel
theorem d_S_take_33 : decode c_S_take 33 = .ok (.iconst 1, 1) := by decide +kernel
theorem d_S_take_34 : decode c_S_take 34 = .ok (.iadd, 1) := by decide +kernel
theorem d_S_take_35 : decode c_S_take 35 = .ok (.putfield 29, 3) := by decide +kernel
theorem d_S_take_38 : decode c_S_take 38 = .ok (.iconst 1, 1) := by decide +kernel
theorem d_S_take_39 : decode c_S_take 39 = .ok (.ireturn, 1) := by decide +kernel
theorem d_S_takeParameter_0 : decode c_S_takeParameter 0 = .ok (.aload_n 0, 1) := by decide +kernel
theorem d_S_takeParameter_1 : decode c_S_takeParameter 1 = .ok (.iconst 0, 1) := by decide +kernel
theorem d_S_takeParameter_2 : decode c_S_takeParameter 2 = .ok (.putfield 61, 3) := by decide +kernel
theorem d_S_takeParameter_5 : decode c_S_takeParameter 5 = .ok (.aload_n 0, 1) := by decide +kernel
theorem d_S_takeParameter_6 : decode c_S_takeParameter 6 = .ok (.bipush 59, 2) := by decide +kernel
theorem d_S_takeParameter_8 : decode c_S_takeParameter 8 = .ok (.invokevirtual 58, 3) := by decide +kernel
theorem d_S_takeParameter_11 : decode c_S_takeParameter 11 = .ok (.ifCond .ne 5, 3) := by decide +kernel
theorem d_S_takeParameter_14 : decode c_S_takeParameter 14 = .ok (.iconst 0, 1) := by decide +kernel
theorem d_S_takeParameter_15 : decode c_S_takeParameter 15 = .ok (.ireturn, 1) := by decide +kernel
theorem d_S_takeParameter_16 : decode c_S_takeParameter 16 = .ok (.aload_n 0, 1) := by decide +kernel
theorem d_S_takeParameter_17 : decode c_S_takeParameter 17 = .ok (.invokevirtual 65, 3) := by decide +kernel
theorem d_S_takeParameter_20 : decode c_S_takeParameter 20 = .ok (.aload_n 0, 1) := by decide +kernel
theorem d_S_takeParameter_21 : decode c_S_takeParameter 21 = .ok (.invokevirtual 68, 3) := by decide +kernel
theorem d_S_takeParameter_24 : decode c_S_takeParameter 24 = .ok (.ifCond .ne 5, 3) := by decide +kernel
theorem d_S_takeParameter_27 : decode c_S_takeParameter 27 = .ok (.iconst 0, 1) := by decide +kernel
theorem d_S_takeParameter_28 : decode c_S_takeParameter 28 = .ok (.ireturn, 1) := by decide +kernel
theorem d_S_takeParameter_29 : decode c_S_takeParameter 29 = .ok (.aload_n 0, 1) := by decide +kernel
theorem d_S_takeParameter_30 : decode c_S_takeParameter 30 = .ok (.aload_n 0, 1) := by decide +kernel
theorem d_S_takeParameter_31 : decode c_S_takeParameter 31 = .ok (.ldc 72, 2) := by decide +kernel
theorem d_S_takeParameter_33 : decode c_S_takeParameter 33 = .ok (.invokevirtual 74, 3) := by decide +kernel
theorem d_S_takeParameter_36 : decode c_S_takeParameter 36 = .ok (.putfield 61, 3) := by decide +kernel
theorem d_S_takeParameter_39 : decode c_S_takeParameter 39 = .ok (.aload_n 0, 1) := by decide +kernel
theorem d_S_takeParameter_40 : decode c_S_takeParameter 40 = .ok (.invokevirtual 65, 3) := by decide +kernel
theorem d_S_takeParameter_43 : decode c_S_takeParameter 43 = .ok (.aload_n 0, 1) := by decide +kernel
theorem d_S_takeParameter_44 : decode c_S_takeParameter 44 = .ok (.bipush 61, 2) := by decide +kernel
theorem d_S_takeParameter_46 : decode c_S_takeParameter 46 = .ok (.invokevirtual 58, 3) := by decide +kernel
theorem d_S_takeParameter_49 : decode c_S_takeParameter 49 = .ok (.ifCond .ne 5, 3) := by decide +kernel
theorem d_S_takeParameter_52 : decode c_S_takeParameter 52 = .ok (.iconst 0, 1) := by decide +kernel
theorem d_S_takeParameter_53 : decode c_S_takeParameter 53 = .ok (.ireturn, 1) := by decide +kernel
theorem d_S_takeParameter_54 : decode c_S_takeParameter 54 = .ok (.aload_n 0, 1) := by decide +kernel
theorem d_S_takeParameter_55 : decode c_S_takeParameter 55 = .ok (.invokevirtual 65, 3) := by decide +kernel
theorem d_S_takeParameter_58 : decode c_S_takeParameter 58 = .ok (.aload_n 0, 1) := by decide +kernel
theorem d_S_takeParameter_59 : decode c_S_takeParameter 59 = .ok (.invokevirtual 68, 3) := by decide +kernel
theorem d_S_takeParameter_62 : decode c_S_takeParameter 62 = .ok (.ifCond .ne 12, 3) := by decide +kernel
theorem d_S_takeParameter_65 : decode c_S_takeParameter 65 = .ok (.aload_n 0, 1) := by decide +kernel
theorem d_S_takeParameter_66 : decode c_S_takeParameter 66 = .ok (.invokevirtual 78, 3) := by decide +kernel
theorem d_S_takeParameter_69 : decode c_S_takeParameter 69 = .ok (.ifCond .ne 5, 3) := by decide +kernel
theorem d_S_takeParameter_72 : decode c_S_takeParameter 72 = .ok (.iconst 0, 1) := by decide +kernel
theorem d_S_takeParameter_73 : decode c_S_takeParameter 73 = .ok (.ireturn, 1) := by decide +kernel
theorem d_S_takeParameter_74 : decode c_S_takeParameter 74 = .ok (.aload_n 0, 1) := by decide +kernel
theorem d_S_takeParameter_75 : decode c_S_takeParameter 75 = .ok (.invokevirtual 65, 3) := by decide +kernel
theorem d_S_takeParameter_78 : decode c_S_takeParameter 78 = .ok (.iconst 1, 1) := by decide +kernel
theorem d_S_takeParameter_79 : decode c_S_takeParameter 79 = .ok (.ireturn, 1) := by decide +kernel
theorem d_S_takeQuoted_0 : decode c_S_takeQuoted 0 = .ok (.aload_n 0, 1) := by decide +kernel
theorem d_S_takeQuoted_1 : decode c_S_takeQuoted 1 = .ok (.getfield 20, 3) := by decide +kernel
theorem d_S_takeQuoted_4 : decode c_S_takeQuoted 4 = .ok (.invokevirtual 46, 3) := by decide +kernel
theorem d_S_takeQuoted_7 : decode c_S_takeQuoted 7 = .ok (.aload_n 0, 1) := by decide +kernel
theorem d_S_takeQuoted_8 : decode c_S_takeQuoted 8 = .ok (.bipush 34, 2) := by decide +kernel
theorem d_S_takeQuoted_10 : decode c_S_takeQuoted 10 = .ok (.invokevirtual 58, 3) := by decide +kernel
theorem d_S_takeQuoted_13 : decode c_S_takeQuoted 13 = .ok (.ifCond .ne 5, 3) := by decide +kernel
theorem d_S_takeQuoted_16 : decode c_S_takeQuoted 16 = .ok (.iconst 0, 1) := by decide +kernel
theorem d_S_takeQuoted_17 : decode c_S_takeQuoted 17 = .ok (.ireturn, 1) := by decide +kernel
theorem d_S_takeQuoted_18 : decode c_S_takeQuoted 18 = .ok (.aload_n 0, 1) := by decide +kernel
theorem d_S_takeQuoted_19 : decode c_S_takeQuoted 19 = .ok (.getfield 29, 3) := by decide +kernel
theorem d_S_takeQuoted_22 : decode c_S_takeQuoted 22 = .ok (.aload_n 0, 1) := by decide +kernel
theorem d_S_takeQuoted_23 : decode c_S_takeQuoted 23 = .ok (.getfield 35, 3) := by decide +kernel
theorem d_S_takeQuoted_26 : decode c_S_takeQuoted 26 = .ok (.if_icmp .ge 101, 3) := by decide +kernel
theorem d_S_takeQuoted_29 : decode c_S_takeQuoted 29 = .ok (.aload_n 0, 1) := by decide +kernel
theorem d_S_takeQuoted_30 : decode c_S_takeQuoted 30 = .ok (.getfield 9, 3) := by decide +kernel
theorem d_S_takeQuoted_33 : decode c_S_takeQuoted 33 = .ok (.aload_n 0, 1) := by decide +kernel
theorem d_S_takeQuoted_34 : decode c_S_takeQuoted 34 = .ok (.getfield 29, 3) := by decide +kernel
theorem d_S_takeQuoted_37 : decode c_S_takeQuoted 37 = .ok (.invokevirtual 38, 3) := by decide +kernel
theorem d_S_takeQuoted_40 : decode c_S_takeQuoted 40 = .ok (.bipush 34, 2) := by decide +kernel
theorem d_S_takeQuoted_42 : decode c_S_takeQuoted 42 = .ok (.if_icmp .ne 15, 3) := by decide +kernel
theorem d_S_takeQuoted_45 : decode c_S_takeQuoted 45 = .ok (.aload_n 0, 1) := by decide +kernel
theorem d_S_takeQuoted_46 : decode c_S_takeQuoted 46 = .ok (.dup, 1) := by decide +kernel
theorem d_S_takeQuoted_47 : decode c_S_takeQuoted 47 = .ok (.getfield 29, 3) := by decide +kernel
theorem d_S_takeQuoted_50 : decode c_S_takeQuoted 50 = .ok (.iconst 1, 1) := by decide +kernel
theorem d_S_takeQuoted_51 : decode c_S_takeQuoted 51 = .ok (.iadd, 1) := by decide +kernel
theorem d_S_takeQuoted_52 : decode c_S_takeQuoted 52 = .ok (.putfield 29, 3) := by decide +kernel
theorem d_S_takeQuoted_55 : decode c_S_takeQuoted 55 = .ok (.iconst 1, 1) := by decide +kernel
theorem d_S_takeQuoted_56 : decode c_S_takeQuoted 56 = .ok (.ireturn, 1) := by decide +kernel
theorem d_S_takeQuoted_57 : decode c_S_takeQuoted 57 = .ok (.aload_n 0, 1) := by decide +kernel
theorem d_S_takeQuoted_58 : decode c_S_takeQuoted 58 = .ok (.getfield 9, 3) := by decide +kernel
theorem d_S_takeQuoted_61 : decode c_S_takeQuoted 61 = .ok (.aload_n 0, 1) := by decide +kernel
theorem d_S_takeQuoted_62 : decode c_S_takeQuoted 62 = .ok (.getfield 29, 3) := by decide +kernel
theorem d_S_takeQuoted_65 : decode c_S_takeQuoted 65 = .ok (.invokevirtual 38, 3) := by decide +kernel
theorem d_S_takeQuoted_68 : decode c_S_takeQuoted 68 = .ok (.bipush 92, 2) := by decide +kernel
theorem d_S_takeQuoted_70 : decode c_S_takeQuoted 70 = .ok (.if_icmp .ne 26, 3) := by decide +kernel
theorem d_S_takeQuoted_73 : decode c_S_takeQuoted 73 = .ok (.aload_n 0, 1) := by decide +kernel
theorem d_S_takeQuoted_74 : decode c_S_takeQuoted 74 = .ok (.getfield 29, 3) := by decide +kernel
theorem d_S_takeQuoted_77 : decode c_S_takeQuoted 77 = .ok (.iconst 1, 1) := by decide +kernel
theorem d_S_takeQuoted_78 : decode c_S_takeQuoted 78 = .ok (.iadd, 1) := by decide +kernel
theorem d_S_takeQuoted_79 : decode c_S_takeQuoted 79 = .ok (.aload_n 0, 1) := by decide +kernel
theorem d_S_takeQuoted_80 : decode c_S_takeQuoted 80 = .ok (.getfield 35, 3) := by decide +kernel
theorem d_S_takeQuoted_83 : decode c_S_takeQuoted 83 = .ok (.if_icmp .ge 13, 3) := by decide +kernel
theorem d_S_takeQuoted_86 : decode c_S_takeQuoted 86 = .ok (.aload_n 0, 1) := by decide +kernel
theorem d_S_takeQuoted_87 : decode c_S_takeQuoted 87 = .ok (.dup, 1) := by decide +kernel
theorem d_S_takeQuoted_88 : decode c_S_takeQuoted 88 = .ok (.getfield 29, 3) := by decide +kernel
theorem d_S_takeQuoted_91 : decode c_S_takeQuoted 91 = .ok (.iconst 1, 1) := by decide +kernel
theorem d_S_takeQuoted_92 : decode c_S_takeQuoted 92 = .ok (.iadd, 1) := by decide +kernel
theorem d_S_takeQuoted_93 : decode c_S_takeQuoted 93 = .ok (.putfield 29, 3) := by decide +kernel
theorem d_S_takeQuoted_96 : decode c_S_takeQuoted 96 = .ok (.aload_n 0, 1) := by decide +kernel
theorem d_S_takeQuoted_97 : decode c_S_takeQuoted 97 = .ok (.getfield 20, 3) := by decide +kernel
theorem d_S_takeQuoted_100 : decode c_S_takeQuoted 100 = .ok (.aload_n 0, 1) := by decide +kernel
theorem d_S_takeQuoted_101 : decode c_S_takeQuoted 101 = .ok (.getfield 9, 3) := by decide +kernel
theorem d_S_takeQuoted_104 : decode c_S_takeQuoted 104 = .ok (.aload_n 0, 1) := by decide +kernel
theorem d_S_takeQuoted_105 : decode c_S_takeQuoted 105 = .ok (.getfield 29, 3) := by decide +kernel
theorem d_S_takeQuoted_108 : decode c_S_takeQuoted 108 = .ok (.invokevirtual 38, 3) := by decide +kernel
theorem d_S_takeQuoted_111 : decode c_S_takeQuoted 111 = .ok (.invokevirtual 52, 3) := by decide +kernel
theorem d_S_takeQuoted_114 : decode c_S_takeQuoted 114 = .ok (.aload_n 0, 1) := by decide +kernel
theorem d_S_takeQuoted_115 : decode c_S_takeQuoted 115 = .ok (.dup, 1) := by decide +kernel
theorem d_S_takeQuoted_116 : decode c_S_takeQuoted 116 = .ok (.getfield 29, 3) := by decide +kernel
theorem d_S_takeQuoted_119 : decode c_S_takeQuoted 119 = .ok (.iconst 1, 1) := by decide +kernel
theorem d_S_takeQuoted_120 : decode c_S_takeQuoted 120 = .ok (.iadd, 1) := by decide +kernel
theorem d_S_takeQuoted_121 : decode c_S_takeQuoted 121 = .ok (.putfield 29, 3) := by decide +kernel
theorem d_S_takeQuoted_124 : decode c_S_takeQuoted 124 = .ok (.goto (-106), 3) := by decide +kernel
theorem d_S_takeQuoted_127 : decode c_S_takeQuoted 127 = .ok (.iconst 0, 1) := by decide +kernel
theorem d_S_takeQuoted_128 : decode c_S_takeQuoted 128 = .ok (.ireturn, 1) := by decide +kernel
theorem d_S_wordCanBeBoundary_0 : decode c_S_wordCanBeBoundary 0 = .ok (.aload_n 0, 1) := by decide +kernel
theorem d_S_wordCanBeBoundary_1 : decode c_S_wordCanBeBoundary 1 = .ok (.getfield 20, 3) := by decide +kernel
theorem d_S_wordCanBeBoundary_4 : decode c_S_wordCanBeBoundary 4 = .ok (.getfield 55, 3) := by decide +kernel
theorem d_S_wordCanBeBoundary_7 : decode c_S_wordCanBeBoundary 7 = .ok (.iconst 1, 1) := by decide +kernel
theorem d_S_wordCanBeBoundary_8 : decode c_S_wordCanBeBoundary 8 = .ok (.if_icmp .lt 37, 3) := by decide +kernel
theorem d_S_wordCanBeBoundary_11 : decode c_S_wordCanBeBoundary 11 = .ok (.aload_n 0, 1) := by decide +kernel
theorem d_S_wordCanBeBoundary_12 : decode c_S_wordCanBeBoundary 12 = .ok (.getfield 20, 3) := by decide +kernel
theorem d_S_wordCanBeBoundary_15 : decode c_S_wordCanBeBoundary 15 = .ok (.getfield 55, 3) := by decide +kernel
theorem d_S_wordCanBeBoundary_18 : decode c_S_wordCanBeBoundary 18 = .ok (.bipush 20, 2) := by decide +kernel
theorem d_S_wordCanBeBoundary_20 : decode c_S_wordCanBeBoundary 20 = .ok (.if_icmp .gt 25, 3) := by decide +kernel
theorem d_S_wordCanBeBoundary_23 : decode c_S_wordCanBeBoundary 23 = .ok (.aload_n 0, 1) := by decide +kernel
theorem d_S_wordCanBeBoundary_24 : decode c_S_wordCanBeBoundary 24 = .ok (.getfield 20, 3) := by decide +kernel
theorem d_S_wordCanBeBoundary_27 : decode c_S_wordCanBeBoundary 27 = .ok (.aload_n 0, 1) := by decide +kernel
theorem d_S_wordCanBeBoundary_28 : decode c_S_wordCanBeBoundary 28 = .ok (.getfield 20, 3) := by decide +kernel
theorem d_S_wordCanBeBoundary_31 : decode c_S_wordCanBeBoundary 31 = .ok (.getfield 55, 3) := by decide +kernel
theorem d_S_wordCanBeBoundary_34 : decode c_S_wordCanBeBoundary 34 = .ok (.iconst 1, 1) := by decide +kernel
theorem d_S_wordCanBeBoundary_35 : decode c_S_wordCanBeBoundary 35 = .ok (.isub, 1) := by decide +kernel
theorem d_S_wordCanBeBoundary_36 : decode c_S_wordCanBeBoundary 36 = .ok (.invokevirtual 38, 3) := by decide +kernel
theorem d_S_wordCanBeBoundary_39 : decode c_S_wordCanBeBoundary 39 = .ok (.invokestatic 42, 3) := by decide +kernel
theorem d_S_wordCanBeBoundary_42 : decode c_S_wordCanBeBoundary 42 = .ok (.ifCond .eq 5, 3) := by decide +kernel
theorem d_S_wordCanBeBoundary_45 : decode c_S_wordCanBeBoundary 45 = .ok (.iconst 0, 1) := by decide +kernel
theorem d_S_wordCanBeBoundary_46 : decode c_S_wordCanBeBoundary 46 = .ok (.ireturn, 1) := by decide +kernel
theorem d_S_wordCanBeBoundary_47 : decode c_S_wordCanBeBoundary 47 = .ok (.iconst 0, 1) := by decide +kernel
theorem d_S_wordCanBeBoundary_48 : decode c_S_wordCanBeBoundary 48 = .ok (.istore_n 1, 1) := by decide +kernel
theorem d_S_wordCanBeBoundary_49 : decode c_S_wordCanBeBoundary 49 = .ok (.iload_n 1, 1) := by decide +kernel
theorem d_S_wordCanBeBoundary_50 : decode c_S_wordCanBeBoundary 50 = .ok (.aload_n 0, 1) := by decide +kernel
theorem d_S_wordCanBeBoundary_51 : decode c_S_wordCanBeBoundary 51 = .ok (.getfield 20, 3) := by decide +kernel
theorem d_S_wordCanBeBoundary_54 : decode c_S_wordCanBeBoundary 54 = .ok (.getfield 55, 3) := by decide +kernel
theorem d_S_wordCanBeBoundary_57 : decode c_S_wordCanBeBoundary 57 = .ok (.if_icmp .ge 37, 3) := by decide +kernel
theorem d_S_wordCanBeBoundary_60 : decode c_S_wordCanBeBoundary 60 = .ok (.aload_n 0, 1) := by decide +kernel
theorem d_S_wordCanBeBoundary_61 : decode c_S_wordCanBeBoundary 61 = .ok (.getfield 20, 3) := by decide +kernel
theorem d_S_wordCanBeBoundary_64 : decode c_S_wordCanBeBoundary 64 = .ok (.iload_n 1, 1) := by decide +kernel
theorem d_S_wordCanBeBoundary_65 : decode c_S_wordCanBeBoundary 65 = .ok (.invokevirtual 38, 3) := by decide +kernel
theorem d_S_wordCanBeBoundary_68 : decode c_S_wordCanBeBoundary 68 = .ok (.bipush 32, 2) := by decide +kernel
theorem d_S_wordCanBeBoundary_70 : decode c_S_wordCanBeBoundary 70 = .ok (.if_icmp .lt 16, 3) := by decide +kernel
theorem d_S_wordCanBeBoundary_73 : decode c_S_wordCanBeBoundary 73 = .ok (.aload_n 0, 1) := by decide +kernel
theorem d_S_wordCanBeBoundary_74 : decode c_S_wordCanBeBoundary 74 = .ok (.getfield 20, 3) := by decide +kernel
theorem d_S_wordCanBeBoundary_77 : decode c_S_wordCanBeBoundary 77 = .ok (.iload_n 1, 1) := by decide +kernel
theorem d_S_wordCanBeBoundary_78 : decode c_S_wordCanBeBoundary 78 = .ok (.invokevirtual 38, 3) := by decide +kernel
theorem d_S_wordCanBeBoundary_81 : decode c_S_wordCanBeBoundary 81 = .ok (.bipush 126, 2) := by decide +kernel
theorem d_S_wordCanBeBoundary_83 : decode c_S_wordCanBeBoundary 83 = .ok (.if_icmp .le 5, 3) := by decide +kernel
theorem d_S_wordCanBeBoundary_86 : decode c_S_wordCanBeBoundary 86 = .ok (.iconst 0, 1) := by decide +kernel
theorem d_S_wordCanBeBoundary_87 : decode c_S_wordCanBeBoundary 87 = .ok (.ireturn, 1) := by decide +kernel
theorem d_S_wordCanBeBoundary_88 : decode c_S_wordCanBeBoundary 88 = .ok (.iinc 1 1, 3) := by decide +kernel
theorem d_S_wordCanBeBoundary_91 : decode c_S_wordCanBeBoundary 91 = .ok (.goto (-42), 3) := by decide +kernel
theorem d_S_wordCanBeBoundary_94 : decode c_S_wordCanBeBoundary 94 = .ok (.iconst 1, 1) := by decide +kernel
theorem d_S_wordCanBeBoundary_95 : decode c_S_wordCanBeBoundary 95 = .ok (.ireturn, 1) := by decide +kernel
theorem d_T_init_0 : decode c_T_init 0 = .ok (.aload_n 0, 1) := by decide +kernel
theorem d_T_init_1 : decode c_T_init 1 = .ok (.invokespecial 3, 3) := by decide +kernel
theorem d_T_init_4 : decode c_T_init 4 = .ok (.aload_n 0, 1) := by decide +kernel
theorem d_T_init_5 : decode c_T_init 5 = .ok (.new 9, 3) := by decide +kernel
theorem d_T_init_8 : decode c_T_init 8 = .ok (.dup, 1) := by decide +kernel
theorem d_T_init_9 : decode c_T_init 9 = .ok (.sipush 320, 3) := by decide +kernel
theorem d_T_init_12 : decode c_T_init 12 = .ok (.invokespecial 11, 3) := by decide +kernel
theorem d_T_init_15 : decode c_T_init 15 = .ok (.putfield 14, 3) := by decide +kernel
theorem d_T_init_18 : decode c_T_init 18 = .ok (.aload_n 0, 1) := by decide +kernel
theorem d_T_init_19 : decode c_T_init 19 = .ok (.new 9, 3) := by decide +kernel
theorem d_T_init_22 : decode c_T_init 22 = .ok (.dup, 1) := by decide +kernel
theorem d_T_init_23 : decode c_T_init 23 = .ok (.sipush 320, 3) := by decide +kernel
theorem d_T_init_26 : decode c_T_init 26 = .ok (.invokespecial 11, 3) := by decide +kernel
theorem d_T_init_29 : decode c_T_init 29 = .ok (.putfield 20, 3) := by decide +kernel
theorem d_T_init_32 : decode c_T_init 32 = .ok (.aload_n 0, 1) := by decide +kernel
theorem d_T_init_33 : decode c_T_init 33 = .ok (.new 9, 3) := by decide +kernel
theorem d_T_init_36 : decode c_T_init 36 = .ok (.dup, 1) := by decide +kernel
theorem d_T_init_37 : decode c_T_init 37 = .ok (.sipush 320, 3) := by decide +kernel
theorem d_T_init_40 : decode c_T_init 40 = .ok (.invokespecial 11, 3) := by decide +kernel
theorem d_T_init_43 : decode c_T_init 43 = .ok (.putfield 23, 3) := by decide +kernel
theorem d_T_init_46 : decode c_T_init 46 = .ok (.aload_n 0, 1) := by decide +kernel
theorem d_T_init_47 : decode c_T_init 47 = .ok (.new 9, 3) := by decide +kernel
theorem d_T_init_50 : decode c_T_init 50 = .ok (.dup, 1) := by decide +kernel
theorem d_T_init_51 : decode c_T_init 51 = .ok (.sipush 320, 3) := by decide +kernel
theorem d_T_init_54 : decode c_T_init 54 = .ok (.invokespecial 11, 3) := by decide +kernel
theorem d_T_init_57 : decode c_T_init 57 = .ok (.putfield 26, 3) := by decide +kernel
theorem d_T_init_60 : decode c_T_init 60 = .ok (.aload_n 0, 1) := by decide +kernel
theorem d_T_init_61 : decode c_T_init 61 = .ok (.new 29, 3) := by decide +kernel
theorem d_T_init_64 : decode c_T_init 64 = .ok (.dup, 1) := by decide +kernel
theorem d_T_init_65 : decode c_T_init 65 = .ok (.aload_n 0, 1) := by decide +kernel
theorem d_T_init_66 : decode c_T_init 66 = .ok (.getfield 20, 3) := by decide +kernel
theorem d_T_init_69 : decode c_T_init 69 = .ok (.invokespecial 31, 3) := by decide +kernel
theorem d_T_init_72 : decode c_T_init 72 = .ok (.putfield 34, 3) := by decide +kernel
theorem d_T_init_75 : decode c_T_init 75 = .ok (.aload_n 0, 1) := by decide +kernel
theorem d_T_init_76 : decode c_T_init 76 = .ok (.new 38, 3) := by decide +kernel
theorem d_T_init_79 : decode c_T_init 79 = .ok (.dup, 1) := by decide +kernel
theorem d_T_init_80 : decode c_T_init 80 = .ok (.aload_n 0, 1) := by decide +kernel
theorem d_T_init_81 : decode c_T_init 81 = .ok (.getfield 14, 3) := by decide +kernel
theorem d_T_init_84 : decode c_T_init 84 = .ok (.aload_n 0, 1) := by decide +kernel
theorem d_T_init_85 : decode c_T_init 85 = .ok (.getfield 23, 3) := by decide +kernel
theorem d_T_init_88 : decode c_T_init 88 = .ok (.invokespecial 40, 3) := by decide +kernel
theorem d_T_init_91 : decode c_T_init 91 = .ok (.putfield 43, 3) := by decide +kernel
theorem d_T_init_94 : decode c_T_init 94 = .ok (.aload_n 0, 1) := by decide +kernel
theorem d_T_init_95 : decode c_T_init 95 = .ok (.bipush 16, 2) := by decide +kernel
theorem d_T_init_97 : decode c_T_init 97 = .ok (.anewarray 47, 3) := by decide +kernel
theorem d_T_init_100 : decode c_T_init 100 = .ok (.putfield 49, 3) := by decide +kernel
theorem d_T_init_103 : decode c_T_init 103 = .ok (.iconst 0, 1) := by decide +kernel
theorem d_T_init_104 : decode c_T_init 104 = .ok (.istore_n 1, 1) := by decide +kernel
theorem d_T_init_105 : decode c_T_init 105 = .ok (.iload_n 1, 1) := by decide +kernel
theorem d_T_init_106 : decode c_T_init 106 = .ok (.bipush 16, 2) := by decide +kernel
theorem d_T_init_108 : decode c_T_init 108 = .ok (.if_icmp .ge 22, 3) := by decide +kernel
theorem d_T_init_111 : decode c_T_init 111 = .ok (.aload_n 0, 1) := by decide +kernel
theorem d_T_init_112 : decode c_T_init 112 = .ok (.getfield 49, 3) := by decide +kernel
theorem d_T_init_115 : decode c_T_init 115 = .ok (.iload_n 1, 1) := by decide +kernel
theorem d_T_init_116 : decode c_T_init 116 = .ok (.new 47, 3) := by decide +kernel
theorem d_T_init_119 : decode c_T_init 119 = .ok (.dup, 1) := by decide +kernel
theorem d_T_init_120 : decode c_T_init 120 = .ok (.invokespecial 53, 3) := by decide +kernel
theorem d_T_init_123 : decode c_T_init 123 = .ok (.aastore, 1) := by decide +kernel
theorem d_T_init_124 : decode c_T_init 124 = .ok (.iinc 1 1, 3) := by decide +kernel
theorem d_T_init_127 : decode c_T_init 127 = .ok (.goto (-22), 3) := by decide +kernel
theorem d_T_init_130 : decode c_T_init 130 = .ok (.aload_n 0, 1) := by decide +kernel
theorem d_T_init_131 : decode c_T_init 131 = .ok (.iconst 0, 1) := by decide +kernel
theorem d_T_init_132 : decode c_T_init 132 = .ok (.putfield 54, 3) := by decide +kernel
theorem d_T_init_135 : decode c_T_init 135 = .ok (.return_, 1) := by decide +kernel
theorem d_T_start_0 : decode c_T_start 0 = .ok (.aload_n 0, 1) := by decide +kernel
theorem d_T_start_1 : decode c_T_start 1 = .ok (.getfield 14, 3) := by decide +kernel
theorem d_T_start_4 : decode c_T_start 4 = .ok (.invokevirtual 65, 3) := by decide +kernel
theorem d_T_start_7 : decode c_T_start 7 = .ok (.aload_n 0, 1) := by decide +kernel
theorem d_T_start_8 : decode c_T_start 8 = .ok (.getfield 14, 3) := by decide +kernel
theorem d_T_start_11 : decode c_T_start 11 = .ok (.aload_n 1, 1) := by decide +kernel
theorem d_T_start_12 : decode c_T_start 12 = .ok (.iconst 0, 1) := by decide +kernel
theorem d_T_start_13 : decode c_T_start 13 = .ok (.aload_n 1, 1) := by decide +kernel
theorem d_T_start_14 : decode c_T_start 14 = .ok (.getfield 68, 3) := by decide +kernel
theorem d_T_start_17 : decode c_T_start 17 = .ok (.invokevirtual 71, 3) := by decide +kernel
theorem d_T_start_20 : decode c_T_start 20 = .ok (.aload_n 0, 1) := by decide +kernel
theorem d_T_start_21 : decode c_T_start 21 = .ok (.getfield 20, 3) := by decide +kernel
theorem d_T_start_24 : decode c_T_start 24 = .ok (.invokevirtual 65, 3) := by decide +kernel
theorem d_T_start_27 : decode c_T_start 27 = .ok (.aload_n 0, 1) := by decide +kernel
theorem d_T_start_28 : decode c_T_start 28 = .ok (.getfield 23, 3) := by decide +kernel
theorem d_T_start_31 : decode c_T_start 31 = .ok (.invokevirtual 65, 3) := by decide +kernel
theorem d_T_start_34 : decode c_T_start 34 = .ok (.aload_n 0, 1) := by decide +kernel
theorem d_T_start_35 : decode c_T_start 35 = .ok (.getfield 26, 3) := by decide +kernel
theorem d_T_start_38 : decode c_T_start 38 = .ok (.invokevirtual 65, 3) := by decide +kernel
theorem d_T_start_41 : decode c_T_start 41 = .ok (.aload_n 0, 1) := by decide +kernel
theorem d_T_start_42 : decode c_T_start 42 = .ok (.iconst 0, 1) := by decide +kernel
theorem d_T_start_43 : decode c_T_start 43 = .ok (.putfield 54, 3) := by decide +kernel
theorem d_T_start_46 : decode c_T_start 46 = .ok (.return_, 1) := by decide +kernel
theorem d_T_readEntity_0 : decode c_T_readEntity 0 = .ok (.aload_n 0, 1) := by decide +kernel
theorem d_T_readEntity_1 : decode c_T_readEntity 1 = .ok (.getfield 54, 3) := by decide +kernel
theorem d_T_readEntity_4 : decode c_T_readEntity 4 = .ok (.ifCond .lt 17, 3) := by decide +kernel
theorem d_T_readEntity_7 : decode c_T_readEntity 7 = .ok (.aload_n 0, 1) := by decide +kernel
theorem d_T_readEntity_8 : decode c_T_readEntity 8 = .ok (.getfield 54, 3) := by decide +kernel
theorem d_T_readEntity_11 : decode c_T_readEntity 11 = .ok (.bipush 16, 2) := by decide +kernel
theorem d_T_readEntity_13 : decode c_T_readEntity 13 = .ok (.if_icmp .ge 8, 3) := by decide +kernel
theorem d_T_readEntity_16 : decode c_T_readEntity 16 = .ok (.iload_n 3, 1) := by decide +kernel
theorem d_T_readEntity_17 : decode c_T_readEntity 17 = .ok (.iconst 4, 1) := by decide +kernel
theorem d_T_readEntity_18 : decode c_T_readEntity 18 = .ok (.if_icmp .le 4, 3) := by decide +kernel
theorem d_T_readEntity_21 : decode c_T_readEntity 21 = .ok (.return_, 1) := by decide +kernel
theorem d_T_readEntity_22 : decode c_T_readEntity 22 = .ok (.aload_n 0, 1) := by decide +kernel
theorem d_T_readEntity_23 : decode c_T_readEntity 23 = .ok (.getfield 54, 3) := by decide +kernel
theorem d_T_readEntity_26 : decode c_T_readEntity 26 = .ok (.istore 5, 2) := by decide +kernel
theorem d_T_readEntity_28 : decode c_T_readEntity 28 = .ok (.aload_n 0, 1) := by decide +kernel
theorem d_T_readEntity_29 : decode c_T_readEntity 29 = .ok (.getfield 49, 3) := by decide +kernel
theorem d_T_readEntity_32 : decode c_T_readEntity 32 = .ok (.iload 5, 2) := by decide +kernel
theorem d_T_readEntity_34 : decode c_T_readEntity 34 = .ok (.aaload, 1) := by decide +kernel
theorem d_T_readEntity_35 : decode c_T_readEntity 35 = .ok (.astore 6, 2) := by decide +kernel
theorem d_T_readEntity_37 : decode c_T_readEntity 37 = .ok (.aload_n 0, 1) := by decide +kernel
theorem d_T_readEntity_38 : decode c_T_readEntity 38 = .ok (.dup, 1) := by decide +kernel
theorem d_T_readEntity_39 : decode c_T_readEntity 39 = .ok (.getfield 54, 3) := by decide +kernel
theorem d_T_readEntity_42 : decode c_T_readEntity 42 = .ok (.iconst 1, 1) := by decide +kernel
theorem d_T_readEntity_43 : decode c_T_readEntity 43 = .ok (.iadd, 1) := by decide +kernel
theorem d_T_readEntity_44 : decode c_T_readEntity 44 = .ok (.putfield 54, 3) := by decide +kernel
theorem d_T_readEntity_47 : decode c_T_readEntity 47 = .ok (.aload 6, 2) := by decide +kernel
theorem d_T_readEntity_49 : decode c_T_readEntity 49 = .ok (.iload_n 1, 1) := by decide +kernel
theorem d_T_readEntity_50 : decode c_T_readEntity 50 = .ok (.iload_n 2, 1) := by decide +kernel
theorem d_T_readEntity_51 : decode c_T_readEntity 51 = .ok (.iload_n 3, 1) := by decide +kernel
theorem d_T_readEntity_52 : decode c_T_readEntity 52 = .ok (.iload 4, 2) := by decide +kernel
theorem d_T_readEntity_54 : decode c_T_readEntity 54 = .ok (.invokevirtual 75, 3) := by decide +kernel
theorem d_T_readEntity_57 : decode c_T_readEntity 57 = .ok (.iload 4, 2) := by decide +kernel
theorem d_T_readEntity_59 : decode c_T_readEntity 59 = .ok (.ifCond .lt 26, 3) := by decide +kernel
theorem d_T_readEntity_62 : decode c_T_readEntity 62 = .ok (.iload 4, 2) := by decide +kernel
theorem d_T_readEntity_64 : decode c_T_readEntity 64 = .ok (.iload 5, 2) := by decide +kernel
theorem d_T_readEntity_66 : decode c_T_readEntity 66 = .ok (.if_icmp .ge 19, 3) := by decide +kernel
theorem d_T_readEntity_69 : decode c_T_readEntity 69 = .ok (.aload_n 0, 1) := by decide +kernel
theorem d_T_readEntity_70 : decode c_T_readEntity 70 = .ok (.getfield 49, 3) := by decide +kernel
theorem d_T_readEntity_73 : decode c_T_readEntity 73 = .ok (.iload 4, 2) := by decide +kernel
theorem d_T_readEntity_75 : decode c_T_readEntity 75 = .ok (.aaload, 1) := by decide +kernel
theorem d_T_readEntity_76 : decode c_T_readEntity 76 = .ok (.dup, 1) := by decide +kernel
theorem d_T_readEntity_77 : decode c_T_readEntity 77 = .ok (.getfield 79, 3) := by decide +kernel
theorem d_T_readEntity_80 : decode c_T_readEntity 80 = .ok (.iconst 1, 1) := by decide +kernel
theorem d_T_readEntity_81 : decode c_T_readEntity 81 = .ok (.iadd, 1) := by decide +kernel
theorem d_T_readEntity_82 : decode c_T_readEntity 82 = .ok (.putfield 79, 3) := by decide +kernel
theorem d_T_readEntity_85 : decode c_T_readEntity 85 = .ok (.aload 6, 2) := by decide +kernel
theorem d_T_readEntity_87 : decode c_T_readEntity 87 = .ok (.aload_n 0, 1) := by decide +kernel
theorem d_T_readEntity_88 : decode c_T_readEntity 88 = .ok (.aload 6, 2) := by decide +kernel
theorem d_T_readEntity_90 : decode c_T_readEntity 90 = .ok (.invokevirtual 82, 3) := by decide +kernel
theorem d_T_readEntity_93 : decode c_T_readEntity 93 = .ok (.putfield 86, 3) := by decide +kernel
theorem d_T_readEntity_96 : decode c_T_readEntity 96 = .ok (.aload_n 0, 1) := by decide +kernel
theorem d_T_readEntity_97 : decode c_T_readEntity 97 = .ok (.aload 6, 2) := by decide +kernel
theorem d_T_readEntity_99 : decode c_T_readEntity 99 = .ok (.invokevirtual 89, 3) := by decide +kernel
theorem d_T_readEntity_102 : decode c_T_readEntity 102 = .ok (.aload_n 0, 1) := by decide +kernel
theorem d_T_readEntity_103 : decode c_T_readEntity 103 = .ok (.aload 6, 2) := by decide +kernel
theorem d_T_readEntity_105 : decode c_T_readEntity 105 = .ok (.invokevirtual 93, 3) := by decide +kernel
theorem d_T_readEntity_108 : decode c_T_readEntity 108 = .ok (.iload_n 3, 1) := by decide +kernel
theorem d_T_readEntity_109 : decode c_T_readEntity 109 = .ok (.iconst 4, 1) := by decide +kernel
theorem d_T_readEntity_110 : decode c_T_readEntity 110 = .ok (.if_icmp .ge 18, 3) := by decide +kernel
theorem d_T_readEntity_113 : decode c_T_readEntity 113 = .ok (.aload_n 0, 1) := by decide +kernel
theorem d_T_readEntity_114 : decode c_T_readEntity 114 = .ok (.aload 6, 2) := by decide +kernel
theorem d_T_readEntity_116 : decode c_T_readEntity 116 = .ok (.invokevirtual 96, 3) := by decide +kernel
theorem d_T_readEntity_119 : decode c_T_readEntity 119 = .ok (.ifCond .eq 9, 3) := by decide +kernel
theorem d_T_readEntity_122 : decode c_T_readEntity 122 = .ok (.aload_n 0, 1) := by decide +kernel
theorem d_T_readEntity_123 : decode c_T_readEntity 123 = .ok (.aload 6, 2) := by decide +kernel
theorem d_T_readEntity_125 : decode c_T_readEntity 125 = .ok (.invokevirtual 100, 3) := by decide +kernel
theorem d_T_readEntity_128 : decode c_T_readEntity 128 = .ok (.aload 6, 2) := by decide +kernel
theorem d_T_readEntity_130 : decode c_T_readEntity 130 = .ok (.getfield 103, 3) := by decide +kernel
theorem d_T_readEntity_133 : decode c_T_readEntity 133 = .ok (.ifCond .ne 15, 3) := by decide +kernel
theorem d_T_readEntity_136 : decode c_T_readEntity 136 = .ok (.aload_n 0, 1) := by decide +kernel
theorem d_T_readEntity_137 : decode c_T_readEntity 137 = .ok (.getfield 43, 3) := by decide +kernel
theorem d_T_readEntity_140 : decode c_T_readEntity 140 = .ok (.aload 6, 2) := by decide +kernel
theorem d_T_readEntity_142 : decode c_T_readEntity 142 = .ok (.invokevirtual 106, 3) := by decide +kernel
theorem d_T_readEntity_145 : decode c_T_readEntity 145 = .ok (.goto 38, 3) := by decide +kernel
theorem d_T_readEntity_148 : decode c_T_readEntity 148 = .ok (.aload 6, 2) := by decide +kernel
theorem d_T_readEntity_150 : decode c_T_readEntity 150 = .ok (.getfield 103, 3) := by decide +kernel
theorem d_T_readEntity_153 : decode c_T_readEntity 153 = .ok (.iconst 2, 1) := by decide +kernel
theorem d_T_readEntity_154 : decode c_T_readEntity 154 = .ok (.if_icmp .ne 21, 3) := by decide +kernel
theorem d_T_readEntity_157 : decode c_T_readEntity 157 = .ok (.aload_n 0, 1) := by decide +kernel
theorem d_T_readEntity_158 : decode c_T_readEntity 158 = .ok (.aload 6, 2) := by decide +kernel
theorem d_T_readEntity_160 : decode c_T_readEntity 160 = .ok (.getfield 86, 3) := by decide +kernel
theorem d_T_readEntity_163 : decode c_T_readEntity 163 = .ok (.iload_n 2, 1) := by decide +kernel
theorem d_T_readEntity_164 : decode c_T_readEntity 164 = .ok (.iload_n 3, 1) := by decide +kernel
theorem d_T_readEntity_165 : decode c_T_readEntity 165 = .ok (.iconst 1, 1) := by decide +kernel
theorem d_T_readEntity_166 : decode c_T_readEntity 166 = .ok (.iadd, 1) := by decide +kernel
theorem d_T_readEntity_167 : decode c_T_readEntity 167 = .ok (.iload 5, 2) := by decide +kernel
theorem d_T_readEntity_169 : decode c_T_readEntity 169 = .ok (.invokevirtual 109, 3) := by decide +kernel
theorem d_T_readEntity_172 : decode c_T_readEntity 172 = .ok (.goto 11, 3) := by decide +kernel
theorem d_T_readEntity_175 : decode c_T_readEntity 175 = .ok (.aload_n 0, 1) := by decide +kernel
theorem d_T_readEntity_176 : decode c_T_readEntity 176 = .ok (.aload 6, 2) := by decide +kernel
theorem d_T_readEntity_178 : decode c_T_readEntity 178 = .ok (.iload 5, 2) := by decide +kernel
theorem d_T_readEntity_180 : decode c_T_readEntity 180 = .ok (.invokevirtual 112, 3) := by decide +kernel
theorem d_T_readEntity_183 : decode c_T_readEntity 183 = .ok (.return_, 1) := by decide +kernel
theorem d_T_readFields_0 : decode c_T_readFields 0 = .ok (.aload_n 1, 1) := by decide +kernel
theorem d_T_readFields_1 : decode c_T_readFields 1 = .ok (.getfield 116, 3) := by decide +kernel
theorem d_T_readFields_4 : decode c_T_readFields 4 = .ok (.istore_n 2, 1) := by decide +kernel
theorem d_T_readFields_5 : decode c_T_readFields 5 = .ok (.iconst 0, 1) := by decide +kernel
theorem d_T_readFields_6 : decode c_T_readFields 6 = .ok (.istore_n 3, 1) := by decide +kernel
theorem d_T_readFields_7 : decode c_T_readFields 7 = .ok (.iload_n 3, 1) := by decide +kernel
theorem d_T_readFields_8 : decode c_T_readFields 8 = .ok (.sipush 320, 3) := by decide +kernel
theorem d_T_readFields_11 : decode c_T_readFields 11 = .ok (.if_icmp .ge 97, 3) := by decide +kernel
theorem d_T_readFields_14 : decode c_T_readFields 14 = .ok (.iload_n 2, 1) := by decide +kernel
theorem d_T_readFields_15 : decode c_T_readFields 15 = .ok (.aload_n 1, 1) := by decide +kernel
theorem d_T_readFields_16 : decode c_T_readFields 16 = .ok (.getfield 119, 3) := by decide +kernel
theorem d_T_readFields_19 : decode c_T_readFields 19 = .ok (.if_icmp .ge 89, 3) := by decide +kernel
theorem d_T_readFields_22 : decode c_T_readFields 22 = .ok (.aload_n 0, 1) := by decide +kernel
theorem d_T_readFields_23 : decode c_T_readFields 23 = .ok (.getfield 14, 3) := by decide +kernel
theorem d_T_readFields_26 : decode c_T_readFields 26 = .ok (.iload_n 2, 1) := by decide +kernel
theorem d_T_readFields_27 : decode c_T_readFields 27 = .ok (.aload_n 1, 1) := by decide +kernel
theorem d_T_readFields_28 : decode c_T_readFields 28 = .ok (.getfield 119, 3) := by decide +kernel
theorem d_T_readFields_31 : decode c_T_readFields 31 = .ok (.invokevirtual 122, 3) := by decide +kernel
theorem d_T_readFields_34 : decode c_T_readFields 34 = .ok (.istore 4, 2) := by decide +kernel
theorem d_T_readFields_36 : decode c_T_readFields 36 = .ok (.aload_n 0, 1) := by decide +kernel
theorem d_T_readFields_37 : decode c_T_readFields 37 = .ok (.getfield 14, 3) := by decide +kernel
theorem d_T_readFields_40 : decode c_T_readFields 40 = .ok (.iload_n 2, 1) := by decide +kernel
theorem d_T_readFields_41 : decode c_T_readFields 41 = .ok (.iload 4, 2) := by decide +kernel
theorem d_T_readFields_43 : decode c_T_readFields 43 = .ok (.invokevirtual 126, 3) := by decide +kernel
theorem d_T_readFields_46 : decode c_T_readFields 46 = .ok (.istore 5, 2) := by decide +kernel
theorem d_T_readFields_48 : decode c_T_readFields 48 = .ok (.iload 5, 2) := by decide +kernel
theorem d_T_readFields_50 : decode c_T_readFields 50 = .ok (.iload_n 2, 1) := by decide +kernel
theorem d_T_readFields_51 : decode c_T_readFields 51 = .ok (.if_icmp .ne 6, 3) := by decide +kernel
theorem d_T_readFields_54 : decode c_T_readFields 54 = .ok (.iload 4, 2) := by decide +kernel
theorem d_T_readFields_56 : decode c_T_readFields 56 = .ok (.ireturn, 1) := by decide +kernel
theorem d_T_readFields_57 : decode c_T_readFields 57 = .ok (.aload_n 0, 1) := by decide +kernel
theorem d_T_readFields_58 : decode c_T_readFields 58 = .ok (.getfield 14, 3) := by decide +kernel
theorem d_T_readFields_61 : decode c_T_readFields 61 = .ok (.iload_n 2, 1) := by decide +kernel
theorem d_T_readFields_62 : decode c_T_readFields 62 = .ok (.invokevirtual 129, 3) := by decide +kernel
theorem d_T_readFields_65 : decode c_T_readFields 65 = .ok (.invokestatic 133, 3) := by decide +kernel
theorem d_T_readFields_68 : decode c_T_readFields 68 = .ok (.ifCond .eq 14, 3) := by decide +kernel
theorem d_T_readFields_71 : decode c_T_readFields 71 = .ok (.aload_n 0, 1) := by decide +kernel
theorem d_T_readFields_72 : decode c_T_readFields 72 = .ok (.aload_n 1, 1) := by decide +kernel
theorem d_T_readFields_73 : decode c_T_readFields 73 = .ok (.iload_n 2, 1) := by decide +kernel
theorem d_T_readFields_74 : decode c_T_readFields 74 = .ok (.iload 5, 2) := by decide +kernel
theorem d_T_readFields_76 : decode c_T_readFields 76 = .ok (.invokevirtual 137, 3) := by decide +kernel
theorem d_T_readFields_79 : decode c_T_readFields 79 = .ok (.goto 11, 3) := by decide +kernel
theorem d_T_readFields_82 : decode c_T_readFields 82 = .ok (.aload_n 0, 1) := by decide +kernel
theorem d_T_readFields_83 : decode c_T_readFields 83 = .ok (.aload_n 1, 1) := by decide +kernel
theorem d_T_readFields_84 : decode c_T_readFields 84 = .ok (.iload_n 2, 1) := by decide +kernel
theorem d_T_readFields_85 : decode c_T_readFields 85 = .ok (.iload 5, 2) := by decide +kernel
theorem d_T_readFields_87 : decode c_T_readFields 87 = .ok (.invokevirtual 141, 3) := by decide +kernel
theorem d_T_readFields_90 : decode c_T_readFields 90 = .ok (.istore 6, 2) := by decide +kernel
theorem d_T_readFields_92 : decode c_T_readFields 92 = .ok (.iload 6, 2) := by decide +kernel
theorem d_T_readFields_94 : decode c_T_readFields 94 = .ok (.ifCond .ne 5, 3) := by decide +kernel
theorem d_T_readFields_97 : decode c_T_readFields 97 = .ok (.iload_n 2, 1) := by decide +kernel
theorem d_T_readFields_98 : decode c_T_readFields 98 = .ok (.ireturn, 1) := by decide +kernel
theorem d_T_readFields_99 : decode c_T_readFields 99 = .ok (.iload 4, 2) := by decide +kernel
theorem d_T_readFields_101 : decode c_T_readFields 101 = .ok (.istore_n 2, 1) := by decide +kernel
theorem d_T_readFields_102 : decode c_T_readFields 102 = .ok (.iinc 3 1, 3) := by decide +kernel
theorem d_T_readFields_105 : decode c_T_readFields 105 = .ok (.goto (-98), 3) := by decide +kernel
theorem d_T_readFields_108 : decode c_T_readFields 108 = .ok (.iload_n 2, 1) := by decide +kernel
theorem d_T_readFields_109 : decode c_T_readFields 109 = .ok (.ireturn, 1) := by decide +kernel
theorem d_T_goOnWithField_0 : decode c_T_goOnWithField 0 = .ok (.aload_n 1, 1) := by decide +kernel
theorem d_T_goOnWithField_1 : decode c_T_goOnWithField 1 = .ok (.getfield 144, 3) := by decide +kernel
theorem d_T_goOnWithField_4 : decode c_T_goOnWithField 4 = .ok (.iconst 1, 1) := by decide +kernel
theorem d_T_goOnWithField_5 : decode c_T_goOnWithField 5 = .ok (.isub, 1) := by decide +kernel
theorem d_T_goOnWithField_6 : decode c_T_goOnWithField 6 = .ok (.istore 4, 2) := by decide +kernel
theorem d_T_goOnWithField_8 : decode c_T_goOnWithField 8 = .ok (.iload 4, 2) := by decide +kernel
theorem d_T_goOnWithField_10 : decode c_T_goOnWithField 10 = .ok (.ifCond .lt 10, 3) := by decide +kernel
theorem d_T_goOnWithField_13 : decode c_T_goOnWithField 13 = .ok (.iload 4, 2) := by decide +kernel
theorem d_T_goOnWithField_15 : decode c_T_goOnWithField 15 = .ok (.bipush 8, 2) := by decide +kernel
theorem d_T_goOnWithField_17 : decode c_T_goOnWithField 17 = .ok (.if_icmp .lt 5, 3) := by decide +kernel
theorem d_T_goOnWithField_20 : decode c_T_goOnWithField 20 = .ok (.iconst 0, 1) := by decide +kernel
theorem d_T_goOnWithField_21 : decode c_T_goOnWithField 21 = .ok (.ireturn, 1) := by decide +kernel
theorem d_T_goOnWithField_22 : decode c_T_goOnWithField 22 = .ok (.aload_n 0, 1) := by decide +kernel
theorem d_T_goOnWithField_23 : decode c_T_goOnWithField 23 = .ok (.getfield 20, 3) := by decide +kernel
theorem d_T_goOnWithField_26 : decode c_T_goOnWithField 26 = .ok (.aload_n 0, 1) := by decide +kernel
theorem d_T_goOnWithField_27 : decode c_T_goOnWithField 27 = .ok (.getfield 14, 3) := by decide +kernel
theorem d_T_goOnWithField_30 : decode c_T_goOnWithField 30 = .ok (.iload_n 2, 1) := by decide +kernel
theorem d_T_goOnWithField_31 : decode c_T_goOnWithField 31 = .ok (.iload_n 3, 1) := by decide +kernel
theorem d_T_goOnWithField_32 : decode c_T_goOnWithField 32 = .ok (.invokevirtual 71, 3) := by decide +kernel
theorem d_T_goOnWithField_35 : decode c_T_goOnWithField 35 = .ok (.aload_n 1, 1) := by decide +kernel
theorem d_T_goOnWithField_36 : decode c_T_goOnWithField 36 = .ok (.getfield 147, 3) := by decide +kernel
theorem d_T_goOnWithField_39 : decode c_T_goOnWithField 39 = .ok (.iload 4, 2) := by decide +kernel
theorem d_T_goOnWithField_41 : decode c_T_goOnWithField 41 = .ok (.aaload, 1) := by decide +kernel
theorem d_T_goOnWithField_42 : decode c_T_goOnWithField 42 = .ok (.dup, 1) := by decide +kernel
theorem d_T_goOnWithField_43 : decode c_T_goOnWithField 43 = .ok (.getfield 151, 3) := by decide +kernel
theorem d_T_goOnWithField_46 : decode c_T_goOnWithField 46 = .ok (.iload_n 3, 1) := by decide +kernel
theorem d_T_goOnWithField_47 : decode c_T_goOnWithField 47 = .ok (.iload_n 2, 1) := by decide +kernel
theorem d_T_goOnWithField_48 : decode c_T_goOnWithField 48 = .ok (.isub, 1) := by decide +kernel
theorem d_T_goOnWithField_49 : decode c_T_goOnWithField 49 = .ok (.iadd, 1) := by decide +kernel
theorem d_T_goOnWithField_50 : decode c_T_goOnWithField 50 = .ok (.putfield 151, 3) := by decide +kernel
theorem d_T_goOnWithField_53 : decode c_T_goOnWithField 53 = .ok (.iconst 1, 1) := by decide +kernel
theorem d_T_goOnWithField_54 : decode c_T_goOnWithField 54 = .ok (.ireturn, 1) := by decide +kernel
theorem d_T_beginField_0 : decode c_T_beginField 0 = .ok (.iload_n 2, 1) := by decide +kernel
theorem d_T_beginField_1 : decode c_T_beginField 1 = .ok (.istore 4, 2) := by decide +kernel
theorem d_T_beginField_3 : decode c_T_beginField 3 = .ok (.iload_n 2, 1) := by decide +kernel
theorem d_T_beginField_4 : decode c_T_beginField 4 = .ok (.istore 5, 2) := by decide +kernel
theorem d_T_beginField_6 : decode c_T_beginField 6 = .ok (.iload 5, 2) := by decide +kernel
theorem d_T_beginField_8 : decode c_T_beginField 8 = .ok (.iload_n 3, 1) := by decide +kernel
theorem d_T_beginField_9 : decode c_T_beginField 9 = .ok (.if_icmp .ge 30, 3) := by decide +kernel
theorem d_T_beginField_12 : decode c_T_beginField 12 = .ok (.aload_n 0, 1) := by decide +kernel
theorem d_T_beginField_13 : decode c_T_beginField 13 = .ok (.getfield 14, 3) := by decide +kernel
theorem d_T_beginField_16 : decode c_T_beginField 16 = .ok (.iload 5, 2) := by decide +kernel
theorem d_T_beginField_18 : decode c_T_beginField 18 = .ok (.invokevirtual 129, 3) := by decide +kernel
theorem d_T_beginField_21 : decode c_T_beginField 21 = .ok (.invokestatic 156, 3) := by decide +kernel
theorem d_T_beginField_24 : decode c_T_beginField 24 = .ok (.ifCond .eq 15, 3) := by decide +kernel
theorem d_T_beginField_27 : decode c_T_beginField 27 = .ok (.iload 5, 2) := by decide +kernel
theorem d_T_beginField_29 : decode c_T_beginField 29 = .ok (.iconst 1, 1) := by decide +kernel
theorem d_T_beginField_30 : decode c_T_beginField 30 = .ok (.iadd, 1) := by decide +kernel
theorem d_T_beginField_31 : decode c_T_beginField 31 = .ok (.istore 4, 2) := by decide +kernel
theorem d_T_beginField_33 : decode c_T_beginField 33 = .ok (.iinc 5 1, 3) := by decide +kernel
theorem d_T_beginField_36 : decode c_T_beginField 36 = .ok (.goto (-30), 3) := by decide +kernel
theorem d_T_beginField_39 : decode c_T_beginField 39 = .ok (.iload 4, 2) := by decide +kernel
theorem d_T_beginField_41 : decode c_T_beginField 41 = .ok (.iload_n 2, 1) := by decide +kernel
theorem d_T_beginField_42 : decode c_T_beginField 42 = .ok (.if_icmp .le 27, 3) := by decide +kernel
theorem d_T_beginField_45 : decode c_T_beginField 45 = .ok (.iload 4, 2) := by decide +kernel
theorem d_T_beginField_47 : decode c_T_beginField 47 = .ok (.iload_n 3, 1) := by decide +kernel
theorem d_T_beginField_48 : decode c_T_beginField 48 = .ok (.if_icmp .ge 21, 3) := by decide +kernel
theorem d_T_beginField_51 : decode c_T_beginField 51 = .ok (.aload_n 0, 1) := by decide +kernel
theorem d_T_beginField_52 : decode c_T_beginField 52 = .ok (.getfield 14, 3) := by decide +kernel
theorem d_T_beginField_55 : decode c_T_beginField 55 = .ok (.iload 4, 2) := by decide +kernel
theorem d_T_beginField_57 : decode c_T_beginField 57 = .ok (.invokevirtual 129, 3) := by decide +kernel
theorem d_T_beginField_60 : decode c_T_beginField 60 = .ok (.bipush 58, 2) := by decide +kernel
theorem d_T_beginField_62 : decode c_T_beginField 62 = .ok (.if_icmp .ne 7, 3) := by decide +kernel
theorem d_T_beginField_65 : decode c_T_beginField 65 = .ok (.iconst 1, 1) := by decide +kernel
theorem d_T_beginField_66 : decode c_T_beginField 66 = .ok (.goto 4, 3) := by decide +kernel
theorem d_T_beginField_69 : decode c_T_beginField 69 = .ok (.iconst 0, 1) := by decide +kernel
theorem d_T_beginField_70 : decode c_T_beginField 70 = .ok (.istore 5, 2) := by decide +kernel
theorem d_T_beginField_72 : decode c_T_beginField 72 = .ok (.aload_n 1, 1) := by decide +kernel
theorem d_T_beginField_73 : decode c_T_beginField 73 = .ok (.getfield 144, 3) := by decide +kernel
theorem d_T_beginField_76 : decode c_T_beginField 76 = .ok (.istore 6, 2) := by decide +kernel
theorem d_T_beginField_78 : decode c_T_beginField 78 = .ok (.iload 5, 2) := by decide +kernel
theorem d_T_beginField_80 : decode c_T_beginField 80 = .ok (.ifCond .eq 15, 3) := by decide +kernel
theorem d_T_beginField_83 : decode c_T_beginField 83 = .ok (.iload 6, 2) := by decide +kernel
theorem d_T_beginField_85 : decode c_T_beginField 85 = .ok (.ifCond .lt 10, 3) := by decide +kernel
theorem d_T_beginField_88 : decode c_T_beginField 88 = .ok (.iload 6, 2) := by decide +kernel
theorem d_T_beginField_90 : decode c_T_beginField 90 = .ok (.bipush 8, 2) := by decide +kernel
theorem d_T_beginField_92 : decode c_T_beginField 92 = .ok (.if_icmp .lt 5, 3) := by decide +kernel
theorem d_T_beginField_95 : decode c_T_beginField 95 = .ok (.iconst 0, 1) := by decide +kernel
theorem d_T_beginField_96 : decode c_T_beginField 96 = .ok (.ireturn, 1) := by decide +kernel
theorem d_T_beginField_97 : decode c_T_beginField 97 = .ok (.aload_n 1, 1) := by decide +kernel
theorem d_T_beginField_98 : decode c_T_beginField 98 = .ok (.getfield 147, 3) := by decide +kernel
theorem d_T_beginField_101 : decode c_T_beginField 101 = .ok (.iload 6, 2) := by decide +kernel
theorem d_T_beginField_103 : decode c_T_beginField 103 = .ok (.aaload, 1) := by decide +kernel
theorem d_T_beginField_104 : decode c_T_beginField 104 = .ok (.astore 7, 2) := by decide +kernel
theorem d_T_beginField_106 : decode c_T_beginField 106 = .ok (.aload_n 1, 1) := by decide +kernel
theorem d_T_beginField_107 : decode c_T_beginField 107 = .ok (.dup, 1) := by decide +kernel
theorem d_T_beginField_108 : decode c_T_beginField 108 = .ok (.getfield 144, 3) := by decide +kernel
theorem d_T_beginField_111 : decode c_T_beginField 111 = .ok (.iconst 1, 1) := by decide +kernel
theorem d_T_beginField_112 : decode c_T_beginField 112 = .ok (.iadd, 1) := by decide +kernel
theorem d_T_beginField_113 : decode c_T_beginField 113 = .ok (.putfield 144, 3) := by decide +kernel
theorem d_T_beginField_116 : decode c_T_beginField 116 = .ok (.aload 7, 2) := by decide +kernel
theorem d_T_beginField_118 : decode c_T_beginField 118 = .ok (.iload_n 2, 1) := by decide +kernel
theorem d_T_beginField_119 : decode c_T_beginField 119 = .ok (.putfield 159, 3) := by decide +kernel
theorem d_T_beginField_122 : decode c_T_beginField 122 = .ok (.aload 7, 2) := by decide +kernel
theorem d_T_beginField_124 : decode c_T_beginField 124 = .ok (.iload 4, 2) := by decide +kernel
theorem d_T_beginField_126 : decode c_T_beginField 126 = .ok (.iload_n 2, 1) := by decide +kernel
theorem d_T_beginField_127 : decode c_T_beginField 127 = .ok (.isub, 1) := by decide +kernel
theorem d_T_beginField_128 : decode c_T_beginField 128 = .ok (.putfield 162, 3) := by decide +kernel
theorem d_T_beginField_131 : decode c_T_beginField 131 = .ok (.aload 7, 2) := by decide +kernel
theorem d_T_beginField_133 : decode c_T_beginField 133 = .ok (.aload_n 0, 1) := by decide +kernel
theorem d_T_beginField_134 : decode c_T_beginField 134 = .ok (.getfield 20, 3) := by decide +kernel
theorem d_T_beginField_137 : decode c_T_beginField 137 = .ok (.getfield 68, 3) := by decide +kernel
theorem d_T_beginField_140 : decode c_T_beginField 140 = .ok (.putfield 165, 3) := by decide +kernel
theorem d_T_beginField_143 : decode c_T_beginField 143 = .ok (.aload 7, 2) := by decide +kernel
theorem d_T_beginField_145 : decode c_T_beginField 145 = .ok (.iload_n 3, 1) := by decide +kernel
theorem d_T_beginField_146 : decode c_T_beginField 146 = .ok (.iload 4, 2) := by decide +kernel
theorem d_T_beginField_148 : decode c_T_beginField 148 = .ok (.isub, 1) := by decide +kernel
theorem d_T_beginField_149 : decode c_T_beginField 149 = .ok (.iconst 1, 1) := by decide +kernel
theorem d_T_beginField_150 : decode c_T_beginField 150 = .ok (.isub, 1) := by decide +kernel
theorem d_T_beginField_151 : decode c_T_beginField 151 = .ok (.putfield 151, 3) := by decide +kernel
theorem d_T_beginField_154 : decode c_T_beginField 154 = .ok (.aload_n 0, 1) := by decide +kernel
theorem d_T_beginField_155 : decode c_T_beginField 155 = .ok (.getfield 20, 3) := by decide +kernel
theorem d_T_beginField_158 : decode c_T_beginField 158 = .ok (.aload_n 0, 1) := by decide +kernel
theorem d_T_beginField_159 : decode c_T_beginField 159 = .ok (.getfield 14, 3) := by decide +kernel
theorem d_T_beginField_162 : decode c_T_beginField 162 = .ok (.iload 4, 2) := by decide +kernel
theorem d_T_beginField_164 : decode c_T_beginField 164 = .ok (.iconst 1, 1) := by decide +kernel
theorem d_T_beginField_165 : decode c_T_beginField 165 = .ok (.iadd, 1) := by decide +kernel
theorem d_T_beginField_166 : decode c_T_beginField 166 = .ok (.iload_n 3, 1) := by decide +kernel
theorem d_T_beginField_167 : decode c_T_beginField 167 = .ok (.invokevirtual 71, 3) := by decide +kernel
theorem d_T_beginField_170 : decode c_T_beginField 170 = .ok (.iconst 1, 1) := by decide +kernel
theorem d_T_beginField_171 : decode c_T_beginField 171 = .ok (.ireturn, 1) := by decide +kernel
theorem d_T_trimValues_0 : decode c_T_trimValues 0 = .ok (.iconst 0, 1) := by decide +kernel
theorem d_T_trimValues_1 : decode c_T_trimValues 1 = .ok (.istore_n 2, 1) := by decide +kernel
theorem d_T_trimValues_2 : decode c_T_trimValues 2 = .ok (.iload_n 2, 1) := by decide +kernel
theorem d_T_trimValues_3 : decode c_T_trimValues 3 = .ok (.aload_n 1, 1) := by decide +kernel
theorem d_T_trimValues_4 : decode c_T_trimValues 4 = .ok (.getfield 144, 3) := by decide +kernel
theorem d_T_trimValues_7 : decode c_T_trimValues 7 = .ok (.if_icmp .ge 103, 3) := by decide +kernel
theorem d_T_trimValues_10 : decode c_T_trimValues 10 = .ok (.iload_n 2, 1) := by decide +kernel
theorem d_T_trimValues_11 : decode c_T_trimValues 11 = .ok (.bipush 8, 2) := by decide +kernel
theorem d_T_trimValues_13 : decode c_T_trimValues 13 = .ok (.if_icmp .ge 97, 3) := by decide +kernel
theorem d_T_trimValues_16 : decode c_T_trimValues 16 = .ok (.aload_n 1, 1) := by decide +kernel
theorem d_T_trimValues_17 : decode c_T_trimValues 17 = .ok (.getfield 147, 3) := by decide +kernel
theorem d_T_trimValues_20 : decode c_T_trimValues 20 = .ok (.iload_n 2, 1) := by decide +kernel
theorem d_T_trimValues_21 : decode c_T_trimValues 21 = .ok (.aaload, 1) := by decide +kernel
theorem d_T_trimValues_22 : decode c_T_trimValues 22 = .ok (.astore_n 3, 1) := by decide +kernel
theorem d_T_trimValues_23 : decode c_T_trimValues 23 = .ok (.aload_n 3, 1) := by decide +kernel
theorem d_T_trimValues_24 : decode c_T_trimValues 24 = .ok (.getfield 165, 3) := by decide +kernel
theorem d_T_trimValues_27 : decode c_T_trimValues 27 = .ok (.aload_n 3, 1) := by decide +kernel
theorem d_T_trimValues_28 : decode c_T_trimValues 28 = .ok (.getfield 151, 3) := by decide +kernel
theorem d_T_trimValues_31 : decode c_T_trimValues 31 = .ok (.iadd, 1) := by decide +kernel
theorem d_T_trimValues_32 : decode c_T_trimValues 32 = .ok (.istore 4, 2) := by decide +kernel
theorem d_T_trimValues_34 : decode c_T_trimValues 34 = .ok (.aload_n 0, 1) := by decide +kernel
theorem d_T_trimValues_35 : decode c_T_trimValues 35 = .ok (.getfield 20, 3) := by decide +kernel
theorem d_T_trimValues_38 : decode c_T_trimValues 38 = .ok (.aload_n 3, 1) := by decide +kernel
theorem d_T_trimValues_39 : decode c_T_trimValues 39 = .ok (.getfield 165, 3) := by decide +kernel
theorem d_T_trimValues_42 : decode c_T_trimValues 42 = .ok (.iload 4, 2) := by decide +kernel
theorem d_T_trimValues_44 : decode c_T_trimValues 44 = .ok (.invokevirtual 168, 3) := by decide +kernel
theorem d_T_trimValues_47 : decode c_T_trimValues 47 = .ok (.istore 5, 2) := by decide +kernel
theorem d_T_trimValues_49 : decode c_T_trimValues 49 = .ok (.iload 4, 2) := by decide +kernel
theorem d_T_trimValues_51 : decode c_T_trimValues 51 = .ok (.istore 6, 2) := by decide +kernel
theorem d_T_trimValues_53 : decode c_T_trimValues 53 = .ok (.iload 6, 2) := by decide +kernel
theorem d_T_trimValues_55 : decode c_T_trimValues 55 = .ok (.iload 5, 2) := by decide +kernel
theorem d_T_trimValues_57 : decode c_T_trimValues 57 = .ok (.if_icmp .le 32, 3) := by decide +kernel
theorem d_T_trimValues_60 : decode c_T_trimValues 60 = .ok (.aload_n 0, 1) := by decide +kernel
theorem d_T_trimValues_61 : decode c_T_trimValues 61 = .ok (.getfield 20, 3) := by decide +kernel
theorem d_T_trimValues_64 : decode c_T_trimValues 64 = .ok (.iload 6, 2) := by decide +kernel
theorem d_T_trimValues_66 : decode c_T_trimValues 66 = .ok (.iconst 1, 1) := by decide +kernel
theorem d_T_trimValues_67 : decode c_T_trimValues 67 = .ok (.isub, 1) := by decide +kernel
theorem d_T_trimValues_68 : decode c_T_trimValues 68 = .ok (.invokevirtual 129, 3) := by decide +kernel
theorem d_T_trimValues_71 : decode c_T_trimValues 71 = .ok (.invokestatic 133, 3) := by decide +kernel
theorem d_T_trimValues_74 : decode c_T_trimValues 74 = .ok (.ifCond .eq 15, 3) := by decide +kernel
theorem d_T_trimValues_77 : decode c_T_trimValues 77 = .ok (.iload 6, 2) := by decide +kernel
theorem d_T_trimValues_79 : decode c_T_trimValues 79 = .ok (.iconst 1, 1) := by decide +kernel
theorem d_T_trimValues_80 : decode c_T_trimValues 80 = .ok (.isub, 1) := by decide +kernel
theorem d_T_trimValues_81 : decode c_T_trimValues 81 = .ok (.istore 4, 2) := by decide +kernel
theorem d_T_trimValues_83 : decode c_T_trimValues 83 = .ok (.iinc 6 (-1), 3) := by decide +kernel
theorem d_T_trimValues_86 : decode c_T_trimValues 86 = .ok (.goto (-33), 3) := by decide +kernel
theorem d_T_trimValues_89 : decode c_T_trimValues 89 = .ok (.aload_n 3, 1) := by decide +kernel
theorem d_T_trimValues_90 : decode c_T_trimValues 90 = .ok (.iload 5, 2) := by decide +kernel
theorem d_T_trimValues_92 : decode c_T_trimValues 92 = .ok (.putfield 165, 3) := by decide +kernel
theorem d_T_trimValues_95 : decode c_T_trimValues 95 = .ok (.aload_n 3, 1) := by decide +kernel
theorem d_T_trimValues_96 : decode c_T_trimValues 96 = .ok (.iload 4, 2) := by decide +kernel
theorem d_T_trimValues_98 : decode c_T_trimValues 98 = .ok (.iload 5, 2) := by decide +kernel
theorem d_T_trimValues_100 : decode c_T_trimValues 100 = .ok (.isub, 1) := by decide +kernel
theorem d_T_trimValues_101 : decode c_T_trimValues 101 = .ok (.putfield 151, 3) := by decide +kernel
theorem d_T_trimValues_104 : decode c_T_trimValues 104 = .ok (.iinc 2 1, 3) := by decide +kernel
theorem d_T_trimValues_107 : decode c_T_trimValues 107 = .ok (.goto (-105), 3) := by decide +kernel
theorem d_T_trimValues_110 : decode c_T_trimValues 110 = .ok (.return_, 1) := by decide +kernel
theorem d_T_readEncoding_0 : decode c_T_readEncoding 0 = .ok (.aload_n 0, 1) := by decide +kernel
theorem d_T_readEncoding_1 : decode c_T_readEncoding 1 = .ok (.aload_n 1, 1) := by decide +kernel
theorem d_T_readEncoding_2 : decode c_T_readEncoding 2 = .ok (.ldc 175, 2) := by decide +kernel
theorem d_T_readEncoding_4 : decode c_T_readEncoding 4 = .ok (.invokevirtual 177, 3) := by decide +kernel
theorem d_T_readEncoding_7 : decode c_T_readEncoding 7 = .ok (.astore_n 2, 1) := by decide +kernel
theorem d_T_readEncoding_8 : decode c_T_readEncoding 8 = .ok (.aload_n 2, 1) := by decide +kernel
theorem d_T_readEncoding_9 : decode c_T_readEncoding 9 = .ok (.ifnonnull 4, 3) := by decide +kernel
theorem d_T_readEncoding_12 : decode c_T_readEncoding 12 = .ok (.return_, 1) := by decide +kernel
theorem d_T_readEncoding_13 : decode c_T_readEncoding 13 = .ok (.aload_n 0, 1) := by decide +kernel
theorem d_T_readEncoding_14 : decode c_T_readEncoding 14 = .ok (.getfield 34, 3) := by decide +kernel
theorem d_T_readEncoding_17 : decode c_T_readEncoding 17 = .ok (.aload_n 2, 1) := by decide +kernel
theorem d_T_readEncoding_18 : decode c_T_readEncoding 18 = .ok (.invokevirtual 181, 3) := by decide +kernel
theorem d_T_readEncoding_21 : decode c_T_readEncoding 21 = .ok (.aload_n 0, 1) := by decide +kernel
theorem d_T_readEncoding_22 : decode c_T_readEncoding 22 = .ok (.getfield 34, 3) := by decide +kernel
theorem d_T_readEncoding_25 : decode c_T_readEncoding 25 = .ok (.invokevirtual 184, 3) := by decide +kernel
theorem d_T_readEncoding_28 : decode c_T_readEncoding 28 = .ok (.aload_n 0, 1) := by decide +kernel
theorem d_T_readEncoding_29 : decode c_T_readEncoding 29 = .ok (.getfield 34, 3) := by decide +kernel
theorem d_T_readEncoding_32 : decode c_T_readEncoding 32 = .ok (.invokevirtual 187, 3) := by decide +kernel
theorem d_T_readEncoding_35 : decode c_T_readEncoding 35 = .ok (.ifCond .ne 4, 3) := by decide +kernel
theorem d_T_readEncoding_38 : decode c_T_readEncoding 38 = .ok (.return_, 1) := by decide +kernel
theorem d_T_readEncoding_39 : decode c_T_readEncoding 39 = .ok (.aload_n 0, 1) := by decide +kernel
theorem d_T_readEncoding_40 : decode c_T_readEncoding 40 = .ok (.getfield 34, 3) := by decide +kernel
theorem d_T_readEncoding_43 : decode c_T_readEncoding 43 = .ok (.invokevirtual 184, 3) := by decide +kernel
theorem d_T_readEncoding_46 : decode c_T_readEncoding 46 = .ok (.aload_n 0, 1) := by decide +kernel
theorem d_T_readEncoding_47 : decode c_T_readEncoding 47 = .ok (.getfield 34, 3) := by decide +kernel
theorem d_T_readEncoding_50 : decode c_T_readEncoding 50 = .ok (.getfield 191, 3) := by decide +kernel
theorem d_T_readEncoding_53 : decode c_T_readEncoding 53 = .ok (.aload_n 0, 1) := by decide +kernel
theorem d_T_readEncoding_54 : decode c_T_readEncoding 54 = .ok (.getfield 34, 3) := by decide +kernel
theorem d_T_readEncoding_57 : decode c_T_readEncoding 57 = .ok (.getfield 194, 3) := by decide +kernel
theorem d_T_readEncoding_60 : decode c_T_readEncoding 60 = .ok (.if_icmp .ge 4, 3) := by decide +kernel
theorem d_T_readEncoding_63 : decode c_T_readEncoding 63 = .ok (.return_, 1) := by decide +kernel
theorem d_T_readEncoding_64 : decode c_T_readEncoding 64 = .ok (.aload_n 0, 1) := by decide +kernel
theorem d_T_readEncoding_65 : decode c_T_readEncoding 65 = .ok (.getfield 34, 3) := by decide +kernel
theorem d_T_readEncoding_68 : decode c_T_readEncoding 68 = .ok (.ldc 195, 2) := by decide +kernel
theorem d_T_readEncoding_70 : decode c_T_readEncoding 70 = .ok (.invokevirtual 197, 3) := by decide +kernel
theorem d_T_readEncoding_73 : decode c_T_readEncoding 73 = .ok (.ifCond .eq 11, 3) := by decide +kernel
theorem d_T_readEncoding_76 : decode c_T_readEncoding 76 = .ok (.aload_n 1, 1) := by decide +kernel
theorem d_T_readEncoding_77 : decode c_T_readEncoding 77 = .ok (.iconst 1, 1) := by decide +kernel
theorem d_T_readEncoding_78 : decode c_T_readEncoding 78 = .ok (.putfield 201, 3) := by decide +kernel
theorem d_T_readEncoding_81 : decode c_T_readEncoding 81 = .ok (.goto 20, 3) := by decide +kernel
theorem d_T_readEncoding_84 : decode c_T_readEncoding 84 = .ok (.aload_n 0, 1) := by decide +kernel
theorem d_T_readEncoding_85 : decode c_T_readEncoding 85 = .ok (.getfield 34, 3) := by decide +kernel
theorem d_T_readEncoding_88 : decode c_T_readEncoding 88 = .ok (.ldc 204, 2) := by decide +kernel
theorem d_T_readEncoding_90 : decode c_T_readEncoding 90 = .ok (.invokevirtual 197, 3) := by decide +kernel
theorem d_T_readEncoding_93 : decode c_T_readEncoding 93 = .ok (.ifCond .eq 8, 3) := by decide +kernel
theorem d_T_readEncoding_96 : decode c_T_readEncoding 96 = .ok (.aload_n 1, 1) := by decide +kernel
theorem d_T_readEncoding_97 : decode c_T_readEncoding 97 = .ok (.iconst 2, 1) := by decide +kernel
theorem d_T_readEncoding_98 : decode c_T_readEncoding 98 = .ok (.putfield 201, 3) := by decide +kernel
theorem d_T_readEncoding_101 : decode c_T_readEncoding 101 = .ok (.return_, 1) := by decide +kernel
theorem d_T_fieldNamed_0 : decode c_T_fieldNamed 0 = .ok (.iconst 0, 1) := by decide +kernel
theorem d_T_fieldNamed_1 : decode c_T_fieldNamed 1 = .ok (.istore_n 3, 1) := by decide +kernel
theorem d_T_fieldNamed_2 : decode c_T_fieldNamed 2 = .ok (.iload_n 3, 1) := by decide +kernel
theorem d_T_fieldNamed_3 : decode c_T_fieldNamed 3 = .ok (.aload_n 1, 1) := by decide +kernel
theorem d_T_fieldNamed_4 : decode c_T_fieldNamed 4 = .ok (.getfield 144, 3) := by decide +kernel
theorem d_T_fieldNamed_7 : decode c_T_fieldNamed 7 = .ok (.if_icmp .ge 53, 3) := by decide +kernel
theorem d_T_fieldNamed_10 : decode c_T_fieldNamed 10 = .ok (.iload_n 3, 1) := by decide +kernel
theorem d_T_fieldNamed_11 : decode c_T_fieldNamed 11 = .ok (.bipush 8, 2) := by decide +kernel
theorem d_T_fieldNamed_13 : decode c_T_fieldNamed 13 = .ok (.if_icmp .ge 47, 3) := by decide +kernel
theorem d_T_fieldNamed_16 : decode c_T_fieldNamed 16 = .ok (.aload_n 1, 1) := by decide +kernel
theorem d_T_fieldNamed_17 : decode c_T_fieldNamed 17 = .ok (.getfield 147, 3) := by decide +kernel
theorem d_T_fieldNamed_20 : decode c_T_fieldNamed 20 = .ok (.iload_n 3, 1) := by decide +kernel
theorem d_T_fieldNamed_21 : decode c_T_fieldNamed 21 = .ok (.aaload, 1) := by decide +kernel
theorem d_T_fieldNamed_22 : decode c_T_fieldNamed 22 = .ok (.astore 4, 2) := by decide +kernel
theorem d_T_fieldNamed_24 : decode c_T_fieldNamed 24 = .ok (.aload_n 0, 1) := by decide +kernel
theorem d_T_fieldNamed_25 : decode c_T_fieldNamed 25 = .ok (.getfield 14, 3) := by decide +kernel
theorem d_T_fieldNamed_28 : decode c_T_fieldNamed 28 = .ok (.aload_n 2, 1) := by decide +kernel
theorem d_T_fieldNamed_29 : decode c_T_fieldNamed 29 = .ok (.aload 4, 2) := by decide +kernel
theorem d_T_fieldNamed_31 : decode c_T_fieldNamed 31 = .ok (.getfield 159, 3) := by decide +kernel
theorem d_T_fieldNamed_34 : decode c_T_fieldNamed 34 = .ok (.aload 4, 2) := by decide +kernel
theorem d_T_fieldNamed_36 : decode c_T_fieldNamed 36 = .ok (.getfield 159, 3) := by decide +kernel
theorem d_T_fieldNamed_39 : decode c_T_fieldNamed 39 = .ok (.aload 4, 2) := by decide +kernel
theorem d_T_fieldNamed_41 : decode c_T_fieldNamed 41 = .ok (.getfield 162, 3) := by decide +kernel
theorem d_T_fieldNamed_44 : decode c_T_fieldNamed 44 = .ok (.iadd, 1) := by decide +kernel
theorem d_T_fieldNamed_45 : decode c_T_fieldNamed 45 = .ok (.invokevirtual 171, 3) := by decide +kernel
theorem d_T_fieldNamed_48 : decode c_T_fieldNamed 48 = .ok (.ifCond .eq 6, 3) := by decide +kernel
theorem d_T_fieldNamed_51 : decode c_T_fieldNamed 51 = .ok (.aload 4, 2) := by decide +kernel
theorem d_T_fieldNamed_53 : decode c_T_fieldNamed 53 = .ok (.areturn, 1) := by decide +kernel
theorem d_T_fieldNamed_54 : decode c_T_fieldNamed 54 = .ok (.iinc 3 1, 3) := by decide +kernel
theorem d_T_fieldNamed_57 : decode c_T_fieldNamed 57 = .ok (.goto (-55), 3) := by decide +kernel
theorem d_T_fieldNamed_60 : decode c_T_fieldNamed 60 = .ok (.aconst_null, 1) := by decide +kernel
theorem d_T_fieldNamed_61 : decode c_T_fieldNamed 61 = .ok (.areturn, 1) := by decide +kernel
theorem d_T_readKind_0 : decode c_T_readKind 0 = .ok (.aload_n 0, 1) := by decide +kernel
theorem d_T_readKind_1 : decode c_T_readKind 1 = .ok (.aload_n 1, 1) := by decide +kernel
theorem d_T_readKind_2 : decode c_T_readKind 2 = .ok (.ldc 206, 2) := by decide +kernel
theorem d_T_readKind_4 : decode c_T_readKind 4 = .ok (.invokevirtual 177, 3) := by decide +kernel
theorem d_T_readKind_7 : decode c_T_readKind 7 = .ok (.astore_n 2, 1) := by decide +kernel
theorem d_T_readKind_8 : decode c_T_readKind 8 = .ok (.aload_n 2, 1) := by decide +kernel
theorem d_T_readKind_9 : decode c_T_readKind 9 = .ok (.ifnonnull 5, 3) := by decide +kernel
theorem d_T_readKind_12 : decode c_T_readKind 12 = .ok (.iconst 0, 1) := by decide +kernel
theorem d_T_readKind_13 : decode c_T_readKind 13 = .ok (.ireturn, 1) := by decide +kernel
theorem d_T_readKind_14 : decode c_T_readKind 14 = .ok (.aload_n 0, 1) := by decide +kernel
theorem d_T_readKind_15 : decode c_T_readKind 15 = .ok (.getfield 34, 3) := by decide +kernel
theorem d_T_readKind_18 : decode c_T_readKind 18 = .ok (.aload_n 2, 1) := by decide +kernel
theorem d_T_readKind_19 : decode c_T_readKind 19 = .ok (.invokevirtual 181, 3) := by decide +kernel
theorem d_T_readKind_22 : decode c_T_readKind 22 = .ok (.aload_n 0, 1) := by decide +kernel
theorem d_T_readKind_23 : decode c_T_readKind 23 = .ok (.getfield 34, 3) := by decide +kernel
theorem d_T_readKind_26 : decode c_T_readKind 26 = .ok (.invokevirtual 184, 3) := by decide +kernel
theorem d_T_readKind_29 : decode c_T_readKind 29 = .ok (.aload_n 0, 1) := by decide +kernel
theorem d_T_readKind_30 : decode c_T_readKind 30 = .ok (.getfield 34, 3) := by decide +kernel
theorem d_T_readKind_33 : decode c_T_readKind 33 = .ok (.invokevirtual 187, 3) := by decide +kernel
theorem d_T_readKind_36 : decode c_T_readKind 36 = .ok (.ifCond .ne 5, 3) := by decide +kernel
theorem d_T_readKind_39 : decode c_T_readKind 39 = .ok (.iconst 0, 1) := by decide +kernel
theorem d_T_readKind_40 : decode c_T_readKind 40 = .ok (.ireturn, 1) := by decide +kernel
theorem d_T_readKind_41 : decode c_T_readKind 41 = .ok (.aload_n 0, 1) := by decide +kernel
theorem d_T_readKind_42 : decode c_T_readKind 42 = .ok (.getfield 34, 3) := by decide +kernel
theorem d_T_readKind_45 : decode c_T_readKind 45 = .ok (.ldc 208, 2) := by decide +kernel
theorem d_T_readKind_47 : decode c_T_readKind 47 = .ok (.invokevirtual 197, 3) := by decide +kernel
theorem d_T_readKind_50 : decode c_T_readKind 50 = .ok (.istore_n 3, 1) := by decide +kernel
theorem d_T_readKind_51 : decode c_T_readKind 51 = .ok (.aload_n 0, 1) := by decide +kernel
theorem d_T_readKind_52 : decode c_T_readKind 52 = .ok (.getfield 34, 3) := by decide +kernel
theorem d_T_readKind_55 : decode c_T_readKind 55 = .ok (.ldc 210, 2) := by decide +kernel
theorem d_T_readKind_57 : decode c_T_readKind 57 = .ok (.invokevirtual 197, 3) := by decide +kernel
theorem d_T_readKind_60 : decode c_T_readKind 60 = .ok (.istore 4, 2) := by decide +kernel
theorem d_T_readKind_62 : decode c_T_readKind 62 = .ok (.aload_n 0, 1) := by decide +kernel
theorem d_T_readKind_63 : decode c_T_readKind 63 = .ok (.getfield 34, 3) := by decide +kernel
theorem d_T_readKind_66 : decode c_T_readKind 66 = .ok (.invokevirtual 184, 3) := by decide +kernel
theorem d_T_readKind_69 : decode c_T_readKind 69 = .ok (.aload_n 0, 1) := by decide +kernel
theorem d_T_readKind_70 : decode c_T_readKind 70 = .ok (.getfield 34, 3) := by decide +kernel
theorem d_T_readKind_73 : decode c_T_readKind 73 = .ok (.bipush 47, 2) := by decide +kernel
theorem d_T_readKind_75 : decode c_T_readKind 75 = .ok (.invokevirtual 212, 3) := by decide +kernel
theorem d_T_readKind_78 : decode c_T_readKind 78 = .ok (.ifCond .ne 5, 3) := by decide +kernel
theorem d_T_readKind_81 : decode c_T_readKind 81 = .ok (.iconst 0, 1) := by decide +kernel
