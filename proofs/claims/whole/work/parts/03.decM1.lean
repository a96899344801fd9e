theorem d_M_init_0 : decode c_M_init 0 = .ok (.aload_n 0, 1) := by decide +kernel
theorem d_M_init_1 : decode c_M_init 1 = .ok (.invokespecial 1, 3) := by decide +kernel
theorem d_M_init_4 : decode c_M_init 4 = .ok (.aload_n 0, 1) := by decide +kernel
theorem d_M_init_5 : decode c_M_init 5 = .ok (.sipush 320, 3) := by decide +kernel
theorem d_M_init_8 : decode c_M_init 8 = .ok (.newarray .int, 2) := by decide +kernel
theorem d_M_init_10 : decode c_M_init 10 = .ok (.putfield 7, 3) := by decide +kernel
theorem d_M_init_13 : decode c_M_init 13 = .ok (.aload_n 0, 1) := by decide +kernel
theorem d_M_init_14 : decode c_M_init 14 = .ok (.sipush 320, 3) := by decide +kernel
theorem d_M_init_17 : decode c_M_init 17 = .ok (.newarray .int, 2) := by decide +kernel
theorem d_M_init_19 : decode c_M_init 19 = .ok (.putfield 13, 3) := by decide +kernel
theorem d_M_init_22 : decode c_M_init 22 = .ok (.aload_n 0, 1) := by decide +kernel
theorem d_M_init_23 : decode c_M_init 23 = .ok (.sipush 256, 3) := by decide +kernel
theorem d_M_init_26 : decode c_M_init 26 = .ok (.newarray .int, 2) := by decide +kernel
theorem d_M_init_28 : decode c_M_init 28 = .ok (.putfield 16, 3) := by decide +kernel
theorem d_M_init_31 : decode c_M_init 31 = .ok (.aload_n 0, 1) := by decide +kernel
theorem d_M_init_32 : decode c_M_init 32 = .ok (.sipush 512, 3) := by decide +kernel
theorem d_M_init_35 : decode c_M_init 35 = .ok (.newarray .int, 2) := by decide +kernel
theorem d_M_init_37 : decode c_M_init 37 = .ok (.putfield 19, 3) := by decide +kernel
theorem d_M_init_40 : decode c_M_init 40 = .ok (.aload_n 0, 1) := by decide +kernel
theorem d_M_init_41 : decode c_M_init 41 = .ok (.sipush 1400, 3) := by decide +kernel
theorem d_M_init_44 : decode c_M_init 44 = .ok (.newarray .int, 2) := by decide +kernel
theorem d_M_init_46 : decode c_M_init 46 = .ok (.putfield 22, 3) := by decide +kernel
theorem d_M_init_49 : decode c_M_init 49 = .ok (.aload_n 0, 1) := by decide +kernel
theorem d_M_init_50 : decode c_M_init 50 = .ok (.sipush 1400, 3) := by decide +kernel
theorem d_M_init_53 : decode c_M_init 53 = .ok (.newarray .int, 2) := by decide +kernel
theorem d_M_init_55 : decode c_M_init 55 = .ok (.putfield 25, 3) := by decide +kernel
theorem d_M_init_58 : decode c_M_init 58 = .ok (.aload_n 0, 1) := by decide +kernel
theorem d_M_init_59 : decode c_M_init 59 = .ok (.sipush 400, 3) := by decide +kernel
theorem d_M_init_62 : decode c_M_init 62 = .ok (.newarray .int, 2) := by decide +kernel
theorem d_M_init_64 : decode c_M_init 64 = .ok (.putfield 28, 3) := by decide +kernel
theorem d_M_init_67 : decode c_M_init 67 = .ok (.aload_n 0, 1) := by decide +kernel
theorem d_M_init_68 : decode c_M_init 68 = .ok (.sipush 1800, 3) := by decide +kernel
theorem d_M_init_71 : decode c_M_init 71 = .ok (.newarray .int, 2) := by decide +kernel
theorem d_M_init_73 : decode c_M_init 73 = .ok (.putfield 31, 3) := by decide +kernel
theorem d_M_init_76 : decode c_M_init 76 = .ok (.aload_n 0, 1) := by decide +kernel
theorem d_M_init_77 : decode c_M_init 77 = .ok (.sipush 700, 3) := by decide +kernel
theorem d_M_init_80 : decode c_M_init 80 = .ok (.newarray .int, 2) := by decide +kernel
theorem d_M_init_82 : decode c_M_init 82 = .ok (.putfield 34, 3) := by decide +kernel
theorem d_M_init_85 : decode c_M_init 85 = .ok (.aload_n 0, 1) := by decide +kernel
theorem d_M_init_86 : decode c_M_init 86 = .ok (.bipush 6, 2) := by decide +kernel
theorem d_M_init_88 : decode c_M_init 88 = .ok (.newarray .int, 2) := by decide +kernel
theorem d_M_init_90 : decode c_M_init 90 = .ok (.putfield 37, 3) := by decide +kernel
theorem d_M_init_93 : decode c_M_init 93 = .ok (.aload_n 0, 1) := by decide +kernel
theorem d_M_init_94 : decode c_M_init 94 = .ok (.bipush 6, 2) := by decide +kernel
theorem d_M_init_96 : decode c_M_init 96 = .ok (.newarray .int, 2) := by decide +kernel
theorem d_M_init_98 : decode c_M_init 98 = .ok (.putfield 40, 3) := by decide +kernel
theorem d_M_init_101 : decode c_M_init 101 = .ok (.return_, 1) := by decide +kernel
theorem d_M_thrown_0 : decode c_M_thrown 0 = .ok (.aload_n 0, 1) := by decide +kernel
theorem d_M_thrown_1 : decode c_M_thrown 1 = .ok (.getfield 43, 3) := by decide +kernel
theorem d_M_thrown_4 : decode c_M_thrown 4 = .ok (.ireturn, 1) := by decide +kernel
theorem d_M_feed_0 : decode c_M_feed 0 = .ok (.aload_n 0, 1) := by decide +kernel
theorem d_M_feed_1 : decode c_M_feed 1 = .ok (.iconst 0, 1) := by decide +kernel
theorem d_M_feed_2 : decode c_M_feed 2 = .ok (.putfield 43, 3) := by decide +kernel
theorem d_M_feed_5 : decode c_M_feed 5 = .ok (.iload_n 3, 1) := by decide +kernel
theorem d_M_feed_6 : decode c_M_feed 6 = .ok (.iconst 1, 1) := by decide +kernel
theorem d_M_feed_7 : decode c_M_feed 7 = .ok (.if_icmp .lt 21, 3) := by decide +kernel
theorem d_M_feed_10 : decode c_M_feed 10 = .ok (.iload_n 3, 1) := by decide +kernel
theorem d_M_feed_11 : decode c_M_feed 11 = .ok (.bipush 8, 2) := by decide +kernel
theorem d_M_feed_13 : decode c_M_feed 13 = .ok (.if_icmp .gt 15, 3) := by decide +kernel
theorem d_M_feed_16 : decode c_M_feed 16 = .ok (.aload_n 0, 1) := by decide +kernel
theorem d_M_feed_17 : decode c_M_feed 17 = .ok (.getfield 47, 3) := by decide +kernel
theorem d_M_feed_20 : decode c_M_feed 20 = .ok (.iload_n 3, 1) := by decide +kernel
theorem d_M_feed_21 : decode c_M_feed 21 = .ok (.iadd, 1) := by decide +kernel
theorem d_M_feed_22 : decode c_M_feed 22 = .ok (.sipush 320, 3) := by decide +kernel
theorem d_M_feed_25 : decode c_M_feed 25 = .ok (.if_icmp .le 5, 3) := by decide +kernel
theorem d_M_feed_28 : decode c_M_feed 28 = .ok (.iconst 0, 1) := by decide +kernel
theorem d_M_feed_29 : decode c_M_feed 29 = .ok (.ireturn, 1) := by decide +kernel
theorem d_M_feed_30 : decode c_M_feed 30 = .ok (.iconst 0, 1) := by decide +kernel
theorem d_M_feed_31 : decode c_M_feed 31 = .ok (.istore 4, 2) := by decide +kernel
theorem d_M_feed_33 : decode c_M_feed 33 = .ok (.iload 4, 2) := by decide +kernel
theorem d_M_feed_35 : decode c_M_feed 35 = .ok (.iload_n 3, 1) := by decide +kernel
theorem d_M_feed_36 : decode c_M_feed 36 = .ok (.if_icmp .ge 33, 3) := by decide +kernel
theorem d_M_feed_39 : decode c_M_feed 39 = .ok (.aload_n 0, 1) := by decide +kernel
theorem d_M_feed_40 : decode c_M_feed 40 = .ok (.getfield 7, 3) := by decide +kernel
theorem d_M_feed_43 : decode c_M_feed 43 = .ok (.aload_n 0, 1) := by decide +kernel
theorem d_M_feed_44 : decode c_M_feed 44 = .ok (.getfield 47, 3) := by decide +kernel
theorem d_M_feed_47 : decode c_M_feed 47 = .ok (.iload 4, 2) := by decide +kernel
theorem d_M_feed_49 : decode c_M_feed 49 = .ok (.iadd, 1) := by decide +kernel
theorem d_M_feed_50 : decode c_M_feed 50 = .ok (.lload_n 1, 1) := by decide +kernel
theorem d_M_feed_51 : decode c_M_feed 51 = .ok (.bipush 8, 2) := by decide +kernel
theorem d_M_feed_53 : decode c_M_feed 53 = .ok (.iload 4, 2) := by decide +kernel
theorem d_M_feed_55 : decode c_M_feed 55 = .ok (.imul, 1) := by decide +kernel
theorem d_M_feed_56 : decode c_M_feed 56 = .ok (.lshr, 1) := by decide +kernel
theorem d_M_feed_57 : decode c_M_feed 57 = .ok (.ldc2_w 50, 3) := by decide +kernel
theorem d_M_feed_60 : decode c_M_feed 60 = .ok (.land, 1) := by decide +kernel
theorem d_M_feed_61 : decode c_M_feed 61 = .ok (.l2i, 1) := by decide +kernel
theorem d_M_feed_62 : decode c_M_feed 62 = .ok (.iastore, 1) := by decide +kernel
theorem d_M_feed_63 : decode c_M_feed 63 = .ok (.iinc 4 1, 3) := by decide +kernel
theorem d_M_feed_66 : decode c_M_feed 66 = .ok (.goto (-33), 3) := by decide +kernel
theorem d_M_feed_69 : decode c_M_feed 69 = .ok (.aload_n 0, 1) := by decide +kernel
theorem d_M_feed_70 : decode c_M_feed 70 = .ok (.dup, 1) := by decide +kernel
theorem d_M_feed_71 : decode c_M_feed 71 = .ok (.getfield 47, 3) := by decide +kernel
theorem d_M_feed_74 : decode c_M_feed 74 = .ok (.iload_n 3, 1) := by decide +kernel
theorem d_M_feed_75 : decode c_M_feed 75 = .ok (.iadd, 1) := by decide +kernel
theorem d_M_feed_76 : decode c_M_feed 76 = .ok (.putfield 47, 3) := by decide +kernel
theorem d_M_feed_79 : decode c_M_feed 79 = .ok (.iconst 1, 1) := by decide +kernel
theorem d_M_feed_80 : decode c_M_feed 80 = .ok (.ireturn, 1) := by decide +kernel
theorem d_M_clear_0 : decode c_M_clear 0 = .ok (.aload_n 0, 1) := by decide +kernel
theorem d_M_clear_1 : decode c_M_clear 1 = .ok (.iconst 0, 1) := by decide +kernel
theorem d_M_clear_2 : decode c_M_clear 2 = .ok (.putfield 43, 3) := by decide +kernel
theorem d_M_clear_5 : decode c_M_clear 5 = .ok (.aload_n 0, 1) := by decide +kernel
theorem d_M_clear_6 : decode c_M_clear 6 = .ok (.getfield 47, 3) := by decide +kernel
theorem d_M_clear_9 : decode c_M_clear 9 = .ok (.istore_n 1, 1) := by decide +kernel
theorem d_M_clear_10 : decode c_M_clear 10 = .ok (.aload_n 0, 1) := by decide +kernel
theorem d_M_clear_11 : decode c_M_clear 11 = .ok (.iconst 0, 1) := by decide +kernel
theorem d_M_clear_12 : decode c_M_clear 12 = .ok (.putfield 47, 3) := by decide +kernel
theorem d_M_clear_15 : decode c_M_clear 15 = .ok (.iload_n 1, 1) := by decide +kernel
theorem d_M_clear_16 : decode c_M_clear 16 = .ok (.ireturn, 1) := by decide +kernel
theorem d_M_read_0 : decode c_M_read 0 = .ok (.aload_n 0, 1) := by decide +kernel
theorem d_M_read_1 : decode c_M_read 1 = .ok (.iconst 0, 1) := by decide +kernel
theorem d_M_read_2 : decode c_M_read 2 = .ok (.putfield 43, 3) := by decide +kernel
theorem d_M_read_5 : decode c_M_read 5 = .ok (.iconst 0, 1) := by decide +kernel
theorem d_M_read_6 : decode c_M_read 6 = .ok (.istore_n 1, 1) := by decide +kernel
theorem d_M_read_7 : decode c_M_read 7 = .ok (.iload_n 1, 1) := by decide +kernel
theorem d_M_read_8 : decode c_M_read 8 = .ok (.aload_n 0, 1) := by decide +kernel
theorem d_M_read_9 : decode c_M_read 9 = .ok (.getfield 47, 3) := by decide +kernel
theorem d_M_read_12 : decode c_M_read 12 = .ok (.if_icmp .ge 21, 3) := by decide +kernel
theorem d_M_read_15 : decode c_M_read 15 = .ok (.aload_n 0, 1) := by decide +kernel
theorem d_M_read_16 : decode c_M_read 16 = .ok (.getfield 13, 3) := by decide +kernel
theorem d_M_read_19 : decode c_M_read 19 = .ok (.iload_n 1, 1) := by decide +kernel
theorem d_M_read_20 : decode c_M_read 20 = .ok (.aload_n 0, 1) := by decide +kernel
theorem d_M_read_21 : decode c_M_read 21 = .ok (.getfield 7, 3) := by decide +kernel
theorem d_M_read_24 : decode c_M_read 24 = .ok (.iload_n 1, 1) := by decide +kernel
theorem d_M_read_25 : decode c_M_read 25 = .ok (.iaload, 1) := by decide +kernel
theorem d_M_read_26 : decode c_M_read 26 = .ok (.iastore, 1) := by decide +kernel
theorem d_M_read_27 : decode c_M_read 27 = .ok (.iinc 1 1, 3) := by decide +kernel
theorem d_M_read_30 : decode c_M_read 30 = .ok (.goto (-23), 3) := by decide +kernel
theorem d_M_read_33 : decode c_M_read 33 = .ok (.aload_n 0, 1) := by decide +kernel
theorem d_M_read_34 : decode c_M_read 34 = .ok (.iconst 1, 1) := by decide +kernel
theorem d_M_read_35 : decode c_M_read 35 = .ok (.putfield 217, 3) := by decide +kernel
theorem d_M_read_38 : decode c_M_read 38 = .ok (.aload_n 0, 1) := by decide +kernel
theorem d_M_read_39 : decode c_M_read 39 = .ok (.iconst 0, 1) := by decide +kernel
theorem d_M_read_40 : decode c_M_read 40 = .ok (.putfield 196, 3) := by decide +kernel
theorem d_M_read_43 : decode c_M_read 43 = .ok (.aload_n 0, 1) := by decide +kernel
theorem d_M_read_44 : decode c_M_read 44 = .ok (.iconst 0, 1) := by decide +kernel
theorem d_M_read_45 : decode c_M_read 45 = .ok (.putfield 56, 3) := by decide +kernel
theorem d_M_read_48 : decode c_M_read 48 = .ok (.aload_n 0, 1) := by decide +kernel
theorem d_M_read_49 : decode c_M_read 49 = .ok (.iconst 0, 1) := by decide +kernel
theorem d_M_read_50 : decode c_M_read 50 = .ok (.putfield 175, 3) := by decide +kernel
theorem d_M_read_53 : decode c_M_read 53 = .ok (.aload_n 0, 1) := by decide +kernel
theorem d_M_read_54 : decode c_M_read 54 = .ok (.iconst 0, 1) := by decide +kernel
theorem d_M_read_55 : decode c_M_read 55 = .ok (.aload_n 0, 1) := by decide +kernel
theorem d_M_read_56 : decode c_M_read 56 = .ok (.getfield 47, 3) := by decide +kernel
theorem d_M_read_59 : decode c_M_read 59 = .ok (.iconst 1, 1) := by decide +kernel
theorem d_M_read_60 : decode c_M_read 60 = .ok (.iconst (-1), 1) := by decide +kernel
theorem d_M_read_61 : decode c_M_read 61 = .ok (.invokevirtual 211, 3) := by decide +kernel
theorem d_M_read_64 : decode c_M_read 64 = .ok (.aload_n 0, 1) := by decide +kernel
theorem d_M_read_65 : decode c_M_read 65 = .ok (.getfield 175, 3) := by decide +kernel
theorem d_M_read_68 : decode c_M_read 68 = .ok (.ifCond .le 10, 3) := by decide +kernel
theorem d_M_read_71 : decode c_M_read 71 = .ok (.aload_n 0, 1) := by decide +kernel
theorem d_M_read_72 : decode c_M_read 72 = .ok (.invokevirtual 221, 3) := by decide +kernel
theorem d_M_read_75 : decode c_M_read 75 = .ok (.goto (-11), 3) := by decide +kernel
theorem d_M_read_78 : decode c_M_read 78 = .ok (.aload_n 0, 1) := by decide +kernel
theorem d_M_read_79 : decode c_M_read 79 = .ok (.getfield 196, 3) := by decide +kernel
theorem d_M_read_82 : decode c_M_read 82 = .ok (.ireturn, 1) := by decide +kernel
theorem d_M_lay_0 : decode c_M_lay 0 = .ok (.aload_n 0, 1) := by decide +kernel
theorem d_M_lay_1 : decode c_M_lay 1 = .ok (.getfield 25, 3) := by decide +kernel
theorem d_M_lay_4 : decode c_M_lay 4 = .ok (.iconst 4, 1) := by decide +kernel
theorem d_M_lay_5 : decode c_M_lay 5 = .ok (.aload_n 0, 1) := by decide +kernel
theorem d_M_lay_6 : decode c_M_lay 6 = .ok (.getfield 175, 3) := by decide +kernel
theorem d_M_lay_9 : decode c_M_lay 9 = .ok (.imul, 1) := by decide +kernel
theorem d_M_lay_10 : decode c_M_lay 10 = .ok (.iload_n 1, 1) := by decide +kernel
theorem d_M_lay_11 : decode c_M_lay 11 = .ok (.iastore, 1) := by decide +kernel
theorem d_M_lay_12 : decode c_M_lay 12 = .ok (.aload_n 0, 1) := by decide +kernel
theorem d_M_lay_13 : decode c_M_lay 13 = .ok (.getfield 25, 3) := by decide +kernel
theorem d_M_lay_16 : decode c_M_lay 16 = .ok (.iconst 4, 1) := by decide +kernel
theorem d_M_lay_17 : decode c_M_lay 17 = .ok (.aload_n 0, 1) := by decide +kernel
theorem d_M_lay_18 : decode c_M_lay 18 = .ok (.getfield 175, 3) := by decide +kernel
theorem d_M_lay_21 : decode c_M_lay 21 = .ok (.imul, 1) := by decide +kernel
theorem d_M_lay_22 : decode c_M_lay 22 = .ok (.iconst 1, 1) := by decide +kernel
theorem d_M_lay_23 : decode c_M_lay 23 = .ok (.iadd, 1) := by decide +kernel
theorem d_M_lay_24 : decode c_M_lay 24 = .ok (.iload_n 2, 1) := by decide +kernel
theorem d_M_lay_25 : decode c_M_lay 25 = .ok (.iastore, 1) := by decide +kernel
theorem d_M_lay_26 : decode c_M_lay 26 = .ok (.aload_n 0, 1) := by decide +kernel
theorem d_M_lay_27 : decode c_M_lay 27 = .ok (.getfield 25, 3) := by decide +kernel
theorem d_M_lay_30 : decode c_M_lay 30 = .ok (.iconst 4, 1) := by decide +kernel
theorem d_M_lay_31 : decode c_M_lay 31 = .ok (.aload_n 0, 1) := by decide +kernel
theorem d_M_lay_32 : decode c_M_lay 32 = .ok (.getfield 175, 3) := by decide +kernel
theorem d_M_lay_35 : decode c_M_lay 35 = .ok (.imul, 1) := by decide +kernel
theorem d_M_lay_36 : decode c_M_lay 36 = .ok (.iconst 2, 1) := by decide +kernel
theorem d_M_lay_37 : decode c_M_lay 37 = .ok (.iadd, 1) := by decide +kernel
theorem d_M_lay_38 : decode c_M_lay 38 = .ok (.iload_n 3, 1) := by decide +kernel
theorem d_M_lay_39 : decode c_M_lay 39 = .ok (.iastore, 1) := by decide +kernel
theorem d_M_lay_40 : decode c_M_lay 40 = .ok (.aload_n 0, 1) := by decide +kernel
theorem d_M_lay_41 : decode c_M_lay 41 = .ok (.getfield 25, 3) := by decide +kernel
theorem d_M_lay_44 : decode c_M_lay 44 = .ok (.iconst 4, 1) := by decide +kernel
theorem d_M_lay_45 : decode c_M_lay 45 = .ok (.aload_n 0, 1) := by decide +kernel
theorem d_M_lay_46 : decode c_M_lay 46 = .ok (.getfield 175, 3) := by decide +kernel
theorem d_M_lay_49 : decode c_M_lay 49 = .ok (.imul, 1) := by decide +kernel
theorem d_M_lay_50 : decode c_M_lay 50 = .ok (.iconst 3, 1) := by decide +kernel
theorem d_M_lay_51 : decode c_M_lay 51 = .ok (.iadd, 1) := by decide +kernel
theorem d_M_lay_52 : decode c_M_lay 52 = .ok (.iload 4, 2) := by decide +kernel
theorem d_M_lay_54 : decode c_M_lay 54 = .ok (.iastore, 1) := by decide +kernel
theorem d_M_lay_55 : decode c_M_lay 55 = .ok (.aload_n 0, 1) := by decide +kernel
theorem d_M_lay_56 : decode c_M_lay 56 = .ok (.dup, 1) := by decide +kernel
theorem d_M_lay_57 : decode c_M_lay 57 = .ok (.getfield 175, 3) := by decide +kernel
theorem d_M_lay_60 : decode c_M_lay 60 = .ok (.iconst 1, 1) := by decide +kernel
theorem d_M_lay_61 : decode c_M_lay 61 = .ok (.iadd, 1) := by decide +kernel
theorem d_M_lay_62 : decode c_M_lay 62 = .ok (.putfield 175, 3) := by decide +kernel
theorem d_M_lay_65 : decode c_M_lay 65 = .ok (.return_, 1) := by decide +kernel
theorem d_M_takeEntity_0 : decode c_M_takeEntity 0 = .ok (.aload_n 0, 1) := by decide +kernel
theorem d_M_takeEntity_1 : decode c_M_takeEntity 1 = .ok (.dup, 1) := by decide +kernel
theorem d_M_takeEntity_2 : decode c_M_takeEntity 2 = .ok (.getfield 175, 3) := by decide +kernel
theorem d_M_takeEntity_5 : decode c_M_takeEntity 5 = .ok (.iconst 1, 1) := by decide +kernel
theorem d_M_takeEntity_6 : decode c_M_takeEntity 6 = .ok (.isub, 1) := by decide +kernel
theorem d_M_takeEntity_7 : decode c_M_takeEntity 7 = .ok (.putfield 175, 3) := by decide +kernel
theorem d_M_takeEntity_10 : decode c_M_takeEntity 10 = .ok (.aload_n 0, 1) := by decide +kernel
theorem d_M_takeEntity_11 : decode c_M_takeEntity 11 = .ok (.getfield 196, 3) := by decide +kernel
theorem d_M_takeEntity_14 : decode c_M_takeEntity 14 = .ok (.bipush 16, 2) := by decide +kernel
theorem d_M_takeEntity_16 : decode c_M_takeEntity 16 = .ok (.if_icmp .ne 4, 3) := by decide +kernel
theorem d_M_takeEntity_19 : decode c_M_takeEntity 19 = .ok (.return_, 1) := by decide +kernel
theorem d_M_takeEntity_20 : decode c_M_takeEntity 20 = .ok (.aload_n 0, 1) := by decide +kernel
theorem d_M_takeEntity_21 : decode c_M_takeEntity 21 = .ok (.getfield 196, 3) := by decide +kernel
theorem d_M_takeEntity_24 : decode c_M_takeEntity 24 = .ok (.istore_n 1, 1) := by decide +kernel
theorem d_M_takeEntity_25 : decode c_M_takeEntity 25 = .ok (.aload_n 0, 1) := by decide +kernel
theorem d_M_takeEntity_26 : decode c_M_takeEntity 26 = .ok (.dup, 1) := by decide +kernel
theorem d_M_takeEntity_27 : decode c_M_takeEntity 27 = .ok (.getfield 196, 3) := by decide +kernel
theorem d_M_takeEntity_30 : decode c_M_takeEntity 30 = .ok (.iconst 1, 1) := by decide +kernel
theorem d_M_takeEntity_31 : decode c_M_takeEntity 31 = .ok (.iadd, 1) := by decide +kernel
theorem d_M_takeEntity_32 : decode c_M_takeEntity 32 = .ok (.putfield 196, 3) := by decide +kernel
theorem d_M_takeEntity_35 : decode c_M_takeEntity 35 = .ok (.aload_n 0, 1) := by decide +kernel
theorem d_M_takeEntity_36 : decode c_M_takeEntity 36 = .ok (.getfield 25, 3) := by decide +kernel
theorem d_M_takeEntity_39 : decode c_M_takeEntity 39 = .ok (.iconst 4, 1) := by decide +kernel
theorem d_M_takeEntity_40 : decode c_M_takeEntity 40 = .ok (.aload_n 0, 1) := by decide +kernel
theorem d_M_takeEntity_41 : decode c_M_takeEntity 41 = .ok (.getfield 175, 3) := by decide +kernel
theorem d_M_takeEntity_44 : decode c_M_takeEntity 44 = .ok (.imul, 1) := by decide +kernel
theorem d_M_takeEntity_45 : decode c_M_takeEntity 45 = .ok (.iaload, 1) := by decide +kernel
theorem d_M_takeEntity_46 : decode c_M_takeEntity 46 = .ok (.istore_n 2, 1) := by decide +kernel
theorem d_M_takeEntity_47 : decode c_M_takeEntity 47 = .ok (.aload_n 0, 1) := by decide +kernel
theorem d_M_takeEntity_48 : decode c_M_takeEntity 48 = .ok (.getfield 25, 3) := by decide +kernel
theorem d_M_takeEntity_51 : decode c_M_takeEntity 51 = .ok (.iconst 4, 1) := by decide +kernel
theorem d_M_takeEntity_52 : decode c_M_takeEntity 52 = .ok (.aload_n 0, 1) := by decide +kernel
theorem d_M_takeEntity_53 : decode c_M_takeEntity 53 = .ok (.getfield 175, 3) := by decide +kernel
theorem d_M_takeEntity_56 : decode c_M_takeEntity 56 = .ok (.imul, 1) := by decide +kernel
theorem d_M_takeEntity_57 : decode c_M_takeEntity 57 = .ok (.iconst 1, 1) := by decide +kernel
theorem d_M_takeEntity_58 : decode c_M_takeEntity 58 = .ok (.iadd, 1) := by decide +kernel
theorem d_M_takeEntity_59 : decode c_M_takeEntity 59 = .ok (.iaload, 1) := by decide +kernel
theorem d_M_takeEntity_60 : decode c_M_takeEntity 60 = .ok (.istore_n 3, 1) := by decide +kernel
theorem d_M_takeEntity_61 : decode c_M_takeEntity 61 = .ok (.aload_n 0, 1) := by decide +kernel
theorem d_M_takeEntity_62 : decode c_M_takeEntity 62 = .ok (.getfield 25, 3) := by decide +kernel
theorem d_M_takeEntity_65 : decode c_M_takeEntity 65 = .ok (.iconst 4, 1) := by decide +kernel
theorem d_M_takeEntity_66 : decode c_M_takeEntity 66 = .ok (.aload_n 0, 1) := by decide +kernel
theorem d_M_takeEntity_67 : decode c_M_takeEntity 67 = .ok (.getfield 175, 3) := by decide +kernel
theorem d_M_takeEntity_70 : decode c_M_takeEntity 70 = .ok (.imul, 1) := by decide +kernel
theorem d_M_takeEntity_71 : decode c_M_takeEntity 71 = .ok (.iconst 3, 1) := by decide +kernel
theorem d_M_takeEntity_72 : decode c_M_takeEntity 72 = .ok (.iadd, 1) := by decide +kernel
theorem d_M_takeEntity_73 : decode c_M_takeEntity 73 = .ok (.iaload, 1) := by decide +kernel
theorem d_M_takeEntity_74 : decode c_M_takeEntity 74 = .ok (.istore 4, 2) := by decide +kernel
theorem d_M_takeEntity_76 : decode c_M_takeEntity 76 = .ok (.iconst 0, 1) := by decide +kernel
theorem d_M_takeEntity_77 : decode c_M_takeEntity 77 = .ok (.istore 5, 2) := by decide +kernel
theorem d_M_takeEntity_79 : decode c_M_takeEntity 79 = .ok (.iload 5, 2) := by decide +kernel
theorem d_M_takeEntity_81 : decode c_M_takeEntity 81 = .ok (.bipush 16, 2) := by decide +kernel
theorem d_M_takeEntity_83 : decode c_M_takeEntity 83 = .ok (.if_icmp .ge 17, 3) := by decide +kernel
theorem d_M_takeEntity_86 : decode c_M_takeEntity 86 = .ok (.aload_n 0, 1) := by decide +kernel
theorem d_M_takeEntity_87 : decode c_M_takeEntity 87 = .ok (.iload_n 1, 1) := by decide +kernel
theorem d_M_takeEntity_88 : decode c_M_takeEntity 88 = .ok (.iload 5, 2) := by decide +kernel
theorem d_M_takeEntity_90 : decode c_M_takeEntity 90 = .ok (.iconst 0, 1) := by decide +kernel
theorem d_M_takeEntity_91 : decode c_M_takeEntity 91 = .ok (.invokevirtual 70, 3) := by decide +kernel
theorem d_M_takeEntity_94 : decode c_M_takeEntity 94 = .ok (.iinc 5 1, 3) := by decide +kernel
theorem d_M_takeEntity_97 : decode c_M_takeEntity 97 = .ok (.goto (-18), 3) := by decide +kernel
theorem d_M_takeEntity_100 : decode c_M_takeEntity 100 = .ok (.aload_n 0, 1) := by decide +kernel
theorem d_M_takeEntity_101 : decode c_M_takeEntity 101 = .ok (.iload_n 1, 1) := by decide +kernel
theorem d_M_takeEntity_102 : decode c_M_takeEntity 102 = .ok (.iconst 1, 1) := by decide +kernel
theorem d_M_takeEntity_103 : decode c_M_takeEntity 103 = .ok (.aload_n 0, 1) := by decide +kernel
theorem d_M_takeEntity_104 : decode c_M_takeEntity 104 = .ok (.getfield 25, 3) := by decide +kernel
theorem d_M_takeEntity_107 : decode c_M_takeEntity 107 = .ok (.iconst 4, 1) := by decide +kernel
theorem d_M_takeEntity_108 : decode c_M_takeEntity 108 = .ok (.aload_n 0, 1) := by decide +kernel
theorem d_M_takeEntity_109 : decode c_M_takeEntity 109 = .ok (.getfield 175, 3) := by decide +kernel
theorem d_M_takeEntity_112 : decode c_M_takeEntity 112 = .ok (.imul, 1) := by decide +kernel
theorem d_M_takeEntity_113 : decode c_M_takeEntity 113 = .ok (.iconst 2, 1) := by decide +kernel
theorem d_M_takeEntity_114 : decode c_M_takeEntity 114 = .ok (.iadd, 1) := by decide +kernel
theorem d_M_takeEntity_115 : decode c_M_takeEntity 115 = .ok (.iaload, 1) := by decide +kernel
theorem d_M_takeEntity_116 : decode c_M_takeEntity 116 = .ok (.invokevirtual 70, 3) := by decide +kernel
theorem d_M_takeEntity_119 : decode c_M_takeEntity 119 = .ok (.aload_n 0, 1) := by decide +kernel
theorem d_M_takeEntity_120 : decode c_M_takeEntity 120 = .ok (.iload_n 1, 1) := by decide +kernel
theorem d_M_takeEntity_121 : decode c_M_takeEntity 121 = .ok (.iconst 2, 1) := by decide +kernel
theorem d_M_takeEntity_122 : decode c_M_takeEntity 122 = .ok (.iload 4, 2) := by decide +kernel
theorem d_M_takeEntity_124 : decode c_M_takeEntity 124 = .ok (.invokevirtual 70, 3) := by decide +kernel
theorem d_M_takeEntity_127 : decode c_M_takeEntity 127 = .ok (.iload 4, 2) := by decide +kernel
theorem d_M_takeEntity_129 : decode c_M_takeEntity 129 = .ok (.ifCond .lt 21, 3) := by decide +kernel
theorem d_M_takeEntity_132 : decode c_M_takeEntity 132 = .ok (.aload_n 0, 1) := by decide +kernel
theorem d_M_takeEntity_133 : decode c_M_takeEntity 133 = .ok (.iload 4, 2) := by decide +kernel
theorem d_M_takeEntity_135 : decode c_M_takeEntity 135 = .ok (.bipush 6, 2) := by decide +kernel
theorem d_M_takeEntity_137 : decode c_M_takeEntity 137 = .ok (.aload_n 0, 1) := by decide +kernel
theorem d_M_takeEntity_138 : decode c_M_takeEntity 138 = .ok (.iload 4, 2) := by decide +kernel
theorem d_M_takeEntity_140 : decode c_M_takeEntity 140 = .ok (.bipush 6, 2) := by decide +kernel
theorem d_M_takeEntity_142 : decode c_M_takeEntity 142 = .ok (.invokevirtual 59, 3) := by decide +kernel
theorem d_M_takeEntity_145 : decode c_M_takeEntity 145 = .ok (.iconst 1, 1) := by decide +kernel
theorem d_M_takeEntity_146 : decode c_M_takeEntity 146 = .ok (.iadd, 1) := by decide +kernel
theorem d_M_takeEntity_147 : decode c_M_takeEntity 147 = .ok (.invokevirtual 70, 3) := by decide +kernel
theorem d_M_takeEntity_150 : decode c_M_takeEntity 150 = .ok (.aload_n 0, 1) := by decide +kernel
theorem d_M_takeEntity_151 : decode c_M_takeEntity 151 = .ok (.iload_n 1, 1) := by decide +kernel
theorem d_M_takeEntity_152 : decode c_M_takeEntity 152 = .ok (.bipush 7, 2) := by decide +kernel
theorem d_M_takeEntity_154 : decode c_M_takeEntity 154 = .ok (.iload_n 2, 1) := by decide +kernel
theorem d_M_takeEntity_155 : decode c_M_takeEntity 155 = .ok (.invokevirtual 70, 3) := by decide +kernel
theorem d_M_takeEntity_158 : decode c_M_takeEntity 158 = .ok (.aload_n 0, 1) := by decide +kernel
theorem d_M_takeEntity_159 : decode c_M_takeEntity 159 = .ok (.iload_n 1, 1) := by decide +kernel
theorem d_M_takeEntity_160 : decode c_M_takeEntity 160 = .ok (.bipush 9, 2) := by decide +kernel
theorem d_M_takeEntity_162 : decode c_M_takeEntity 162 = .ok (.iload_n 3, 1) := by decide +kernel
theorem d_M_takeEntity_163 : decode c_M_takeEntity 163 = .ok (.invokevirtual 70, 3) := by decide +kernel
theorem d_M_takeEntity_166 : decode c_M_takeEntity 166 = .ok (.aload_n 0, 1) := by decide +kernel
theorem d_M_takeEntity_167 : decode c_M_takeEntity 167 = .ok (.iload_n 1, 1) := by decide +kernel
theorem d_M_takeEntity_168 : decode c_M_takeEntity 168 = .ok (.bipush 8, 2) := by decide +kernel
theorem d_M_takeEntity_170 : decode c_M_takeEntity 170 = .ok (.aload_n 0, 1) := by decide +kernel
theorem d_M_takeEntity_171 : decode c_M_takeEntity 171 = .ok (.iload_n 1, 1) := by decide +kernel
theorem d_M_takeEntity_172 : decode c_M_takeEntity 172 = .ok (.iload_n 2, 1) := by decide +kernel
theorem d_M_takeEntity_173 : decode c_M_takeEntity 173 = .ok (.iload_n 3, 1) := by decide +kernel
theorem d_M_takeEntity_174 : decode c_M_takeEntity 174 = .ok (.invokevirtual 199, 3) := by decide +kernel
theorem d_M_takeEntity_177 : decode c_M_takeEntity 177 = .ok (.invokevirtual 70, 3) := by decide +kernel
theorem d_M_takeEntity_180 : decode c_M_takeEntity 180 = .ok (.aload_n 0, 1) := by decide +kernel
theorem d_M_takeEntity_181 : decode c_M_takeEntity 181 = .ok (.iload_n 1, 1) := by decide +kernel
theorem d_M_takeEntity_182 : decode c_M_takeEntity 182 = .ok (.iconst 4, 1) := by decide +kernel
theorem d_M_takeEntity_183 : decode c_M_takeEntity 183 = .ok (.aload_n 0, 1) := by decide +kernel
theorem d_M_takeEntity_184 : decode c_M_takeEntity 184 = .ok (.iload_n 1, 1) := by decide +kernel
theorem d_M_takeEntity_185 : decode c_M_takeEntity 185 = .ok (.invokevirtual 202, 3) := by decide +kernel
theorem d_M_takeEntity_188 : decode c_M_takeEntity 188 = .ok (.invokevirtual 70, 3) := by decide +kernel
theorem d_M_takeEntity_191 : decode c_M_takeEntity 191 = .ok (.aload_n 0, 1) := by decide +kernel
theorem d_M_takeEntity_192 : decode c_M_takeEntity 192 = .ok (.iload_n 1, 1) := by decide +kernel
theorem d_M_takeEntity_193 : decode c_M_takeEntity 193 = .ok (.invokevirtual 205, 3) := by decide +kernel
theorem d_M_takeEntity_196 : decode c_M_takeEntity 196 = .ok (.istore 5, 2) := by decide +kernel
theorem d_M_takeEntity_198 : decode c_M_takeEntity 198 = .ok (.aload_n 0, 1) := by decide +kernel
theorem d_M_takeEntity_199 : decode c_M_takeEntity 199 = .ok (.iload_n 1, 1) := by decide +kernel
theorem d_M_takeEntity_200 : decode c_M_takeEntity 200 = .ok (.iconst 0, 1) := by decide +kernel
theorem d_M_takeEntity_201 : decode c_M_takeEntity 201 = .ok (.iload 5, 2) := by decide +kernel
theorem d_M_takeEntity_203 : decode c_M_takeEntity 203 = .ok (.invokevirtual 70, 3) := by decide +kernel
theorem d_M_takeEntity_206 : decode c_M_takeEntity 206 = .ok (.iload 5, 2) := by decide +kernel
theorem d_M_takeEntity_208 : decode c_M_takeEntity 208 = .ok (.ifCond .ne 8, 3) := by decide +kernel
theorem d_M_takeEntity_211 : decode c_M_takeEntity 211 = .ok (.aload_n 0, 1) := by decide +kernel
theorem d_M_takeEntity_212 : decode c_M_takeEntity 212 = .ok (.iload_n 1, 1) := by decide +kernel
theorem d_M_takeEntity_213 : decode c_M_takeEntity 213 = .ok (.invokevirtual 208, 3) := by decide +kernel
theorem d_M_takeEntity_216 : decode c_M_takeEntity 216 = .ok (.iload 5, 2) := by decide +kernel
theorem d_M_takeEntity_218 : decode c_M_takeEntity 218 = .ok (.iconst 2, 1) := by decide +kernel
theorem d_M_takeEntity_219 : decode c_M_takeEntity 219 = .ok (.if_icmp .ne 24, 3) := by decide +kernel
theorem d_M_takeEntity_222 : decode c_M_takeEntity 222 = .ok (.aload_n 0, 1) := by decide +kernel
theorem d_M_takeEntity_223 : decode c_M_takeEntity 223 = .ok (.aload_n 0, 1) := by decide +kernel
theorem d_M_takeEntity_224 : decode c_M_takeEntity 224 = .ok (.iload_n 1, 1) := by decide +kernel
theorem d_M_takeEntity_225 : decode c_M_takeEntity 225 = .ok (.bipush 8, 2) := by decide +kernel
theorem d_M_takeEntity_227 : decode c_M_takeEntity 227 = .ok (.invokevirtual 59, 3) := by decide +kernel
theorem d_M_takeEntity_230 : decode c_M_takeEntity 230 = .ok (.iload_n 3, 1) := by decide +kernel
theorem d_M_takeEntity_231 : decode c_M_takeEntity 231 = .ok (.aload_n 0, 1) := by decide +kernel
theorem d_M_takeEntity_232 : decode c_M_takeEntity 232 = .ok (.iload_n 1, 1) := by decide +kernel
theorem d_M_takeEntity_233 : decode c_M_takeEntity 233 = .ok (.iconst 1, 1) := by decide +kernel
theorem d_M_takeEntity_234 : decode c_M_takeEntity 234 = .ok (.invokevirtual 59, 3) := by decide +kernel
theorem d_M_takeEntity_237 : decode c_M_takeEntity 237 = .ok (.iconst 1, 1) := by decide +kernel
theorem d_M_takeEntity_238 : decode c_M_takeEntity 238 = .ok (.iadd, 1) := by decide +kernel
theorem d_M_takeEntity_239 : decode c_M_takeEntity 239 = .ok (.iload_n 1, 1) := by decide +kernel
theorem d_M_takeEntity_240 : decode c_M_takeEntity 240 = .ok (.invokevirtual 211, 3) := by decide +kernel
theorem d_M_takeEntity_243 : decode c_M_takeEntity 243 = .ok (.iload 5, 2) := by decide +kernel
theorem d_M_takeEntity_245 : decode c_M_takeEntity 245 = .ok (.iconst 1, 1) := by decide +kernel
theorem d_M_takeEntity_246 : decode c_M_takeEntity 246 = .ok (.if_icmp .ne 60, 3) := by decide +kernel
theorem d_M_takeEntity_249 : decode c_M_takeEntity 249 = .ok (.aload_n 0, 1) := by decide +kernel
theorem d_M_takeEntity_250 : decode c_M_takeEntity 250 = .ok (.iload_n 1, 1) := by decide +kernel
theorem d_M_takeEntity_251 : decode c_M_takeEntity 251 = .ok (.invokevirtual 214, 3) := by decide +kernel
theorem d_M_takeEntity_254 : decode c_M_takeEntity 254 = .ok (.istore 6, 2) := by decide +kernel
theorem d_M_takeEntity_256 : decode c_M_takeEntity 256 = .ok (.iload 6, 2) := by decide +kernel
theorem d_M_takeEntity_258 : decode c_M_takeEntity 258 = .ok (.iconst 1, 1) := by decide +kernel
theorem d_M_takeEntity_259 : decode c_M_takeEntity 259 = .ok (.isub, 1) := by decide +kernel
theorem d_M_takeEntity_260 : decode c_M_takeEntity 260 = .ok (.istore 7, 2) := by decide +kernel
theorem d_M_takeEntity_262 : decode c_M_takeEntity 262 = .ok (.iload 7, 2) := by decide +kernel
theorem d_M_takeEntity_264 : decode c_M_takeEntity 264 = .ok (.ifCond .lt 42, 3) := by decide +kernel
theorem d_M_takeEntity_267 : decode c_M_takeEntity 267 = .ok (.aload_n 0, 1) := by decide +kernel
theorem d_M_takeEntity_268 : decode c_M_takeEntity 268 = .ok (.aload_n 0, 1) := by decide +kernel
theorem d_M_takeEntity_269 : decode c_M_takeEntity 269 = .ok (.getfield 28, 3) := by decide +kernel
theorem d_M_takeEntity_272 : decode c_M_takeEntity 272 = .ok (.iconst 2, 1) := by decide +kernel
theorem d_M_takeEntity_273 : decode c_M_takeEntity 273 = .ok (.iload 7, 2) := by decide +kernel
theorem d_M_takeEntity_275 : decode c_M_takeEntity 275 = .ok (.imul, 1) := by decide +kernel
theorem d_M_takeEntity_276 : decode c_M_takeEntity 276 = .ok (.iaload, 1) := by decide +kernel
theorem d_M_takeEntity_277 : decode c_M_takeEntity 277 = .ok (.aload_n 0, 1) := by decide +kernel
theorem d_M_takeEntity_278 : decode c_M_takeEntity 278 = .ok (.getfield 28, 3) := by decide +kernel
theorem d_M_takeEntity_281 : decode c_M_takeEntity 281 = .ok (.iconst 2, 1) := by decide +kernel
theorem d_M_takeEntity_282 : decode c_M_takeEntity 282 = .ok (.iload 7, 2) := by decide +kernel
theorem d_M_takeEntity_284 : decode c_M_takeEntity 284 = .ok (.imul, 1) := by decide +kernel
theorem d_M_takeEntity_285 : decode c_M_takeEntity 285 = .ok (.iconst 1, 1) := by decide +kernel
theorem d_M_takeEntity_286 : decode c_M_takeEntity 286 = .ok (.iadd, 1) := by decide +kernel
theorem d_M_takeEntity_287 : decode c_M_takeEntity 287 = .ok (.iaload, 1) := by decide +kernel
theorem d_M_takeEntity_288 : decode c_M_takeEntity 288 = .ok (.aload_n 0, 1) := by decide +kernel
theorem d_M_takeEntity_289 : decode c_M_takeEntity 289 = .ok (.iload_n 1, 1) := by decide +kernel
theorem d_M_takeEntity_290 : decode c_M_takeEntity 290 = .ok (.iconst 1, 1) := by decide +kernel
theorem d_M_takeEntity_291 : decode c_M_takeEntity 291 = .ok (.invokevirtual 59, 3) := by decide +kernel
theorem d_M_takeEntity_294 : decode c_M_takeEntity 294 = .ok (.iconst 1, 1) := by decide +kernel
theorem d_M_takeEntity_295 : decode c_M_takeEntity 295 = .ok (.iadd, 1) := by decide +kernel
theorem d_M_takeEntity_296 : decode c_M_takeEntity 296 = .ok (.iload_n 1, 1) := by decide +kernel
theorem d_M_takeEntity_297 : decode c_M_takeEntity 297 = .ok (.invokevirtual 211, 3) := by decide +kernel
theorem d_M_takeEntity_300 : decode c_M_takeEntity 300 = .ok (.iinc 7 (-1), 3) := by decide +kernel
theorem d_M_takeEntity_303 : decode c_M_takeEntity 303 = .ok (.goto (-41), 3) := by decide +kernel
theorem d_M_takeEntity_306 : decode c_M_takeEntity 306 = .ok (.return_, 1) := by decide +kernel
theorem d_M_set_0 : decode c_M_set 0 = .ok (.aload_n 0, 1) := by decide +kernel
theorem d_M_set_1 : decode c_M_set 1 = .ok (.getfield 16, 3) := by decide +kernel
theorem d_M_set_4 : decode c_M_set 4 = .ok (.bipush 16, 2) := by decide +kernel
theorem d_M_set_6 : decode c_M_set 6 = .ok (.iload_n 1, 1) := by decide +kernel
theorem d_M_set_7 : decode c_M_set 7 = .ok (.imul, 1) := by decide +kernel
theorem d_M_set_8 : decode c_M_set 8 = .ok (.iload_n 2, 1) := by decide +kernel
theorem d_M_set_9 : decode c_M_set 9 = .ok (.iadd, 1) := by decide +kernel
theorem d_M_set_10 : decode c_M_set 10 = .ok (.iload_n 3, 1) := by decide +kernel
theorem d_M_set_11 : decode c_M_set 11 = .ok (.iastore, 1) := by decide +kernel
theorem d_M_set_12 : decode c_M_set 12 = .ok (.return_, 1) := by decide +kernel
theorem d_M_of_0 : decode c_M_of 0 = .ok (.aload_n 0, 1) := by decide +kernel
theorem d_M_of_1 : decode c_M_of 1 = .ok (.getfield 16, 3) := by decide +kernel
theorem d_M_of_4 : decode c_M_of 4 = .ok (.bipush 16, 2) := by decide +kernel
theorem d_M_of_6 : decode c_M_of 6 = .ok (.iload_n 1, 1) := by decide +kernel
theorem d_M_of_7 : decode c_M_of 7 = .ok (.imul, 1) := by decide +kernel
theorem d_M_of_8 : decode c_M_of 8 = .ok (.iload_n 2, 1) := by decide +kernel
theorem d_M_of_9 : decode c_M_of 9 = .ok (.iadd, 1) := by decide +kernel
theorem d_M_of_10 : decode c_M_of 10 = .ok (.iaload, 1) := by decide +kernel
theorem d_M_of_11 : decode c_M_of 11 = .ok (.ireturn, 1) := by decide +kernel
theorem d_M_fields_0 : decode c_M_fields 0 = .ok (.iload_n 2, 1) := by decide +kernel
theorem d_M_fields_1 : decode c_M_fields 1 = .ok (.istore 4, 2) := by decide +kernel
theorem d_M_fields_3 : decode c_M_fields 3 = .ok (.iload 4, 2) := by decide +kernel
theorem d_M_fields_5 : decode c_M_fields 5 = .ok (.iload_n 3, 1) := by decide +kernel
theorem d_M_fields_6 : decode c_M_fields 6 = .ok (.if_icmp .ge 150, 3) := by decide +kernel
theorem d_M_fields_9 : decode c_M_fields 9 = .ok (.aload_n 0, 1) := by decide +kernel
theorem d_M_fields_10 : decode c_M_fields 10 = .ok (.iload 4, 2) := by decide +kernel
theorem d_M_fields_12 : decode c_M_fields 12 = .ok (.iload_n 3, 1) := by decide +kernel
theorem d_M_fields_13 : decode c_M_fields 13 = .ok (.invokevirtual 74, 3) := by decide +kernel
theorem d_M_fields_16 : decode c_M_fields 16 = .ok (.istore 5, 2) := by decide +kernel
theorem d_M_fields_18 : decode c_M_fields 18 = .ok (.iload 5, 2) := by decide +kernel
theorem d_M_fields_20 : decode c_M_fields 20 = .ok (.iload 4, 2) := by decide +kernel
theorem d_M_fields_22 : decode c_M_fields 22 = .ok (.if_icmp .ne 16, 3) := by decide +kernel
theorem d_M_fields_25 : decode c_M_fields 25 = .ok (.aload_n 0, 1) := by decide +kernel
theorem d_M_fields_26 : decode c_M_fields 26 = .ok (.iload_n 1, 1) := by decide +kernel
theorem d_M_fields_27 : decode c_M_fields 27 = .ok (.invokevirtual 77, 3) := by decide +kernel
theorem d_M_fields_30 : decode c_M_fields 30 = .ok (.aload_n 0, 1) := by decide +kernel
theorem d_M_fields_31 : decode c_M_fields 31 = .ok (.iload 4, 2) := by decide +kernel
theorem d_M_fields_33 : decode c_M_fields 33 = .ok (.iload_n 3, 1) := by decide +kernel
theorem d_M_fields_34 : decode c_M_fields 34 = .ok (.invokevirtual 52, 3) := by decide +kernel
theorem d_M_fields_37 : decode c_M_fields 37 = .ok (.ireturn, 1) := by decide +kernel
theorem d_M_fields_38 : decode c_M_fields 38 = .ok (.aload_n 0, 1) := by decide +kernel
theorem d_M_fields_39 : decode c_M_fields 39 = .ok (.iload 4, 2) := by decide +kernel
theorem d_M_fields_41 : decode c_M_fields 41 = .ok (.iload 5, 2) := by decide +kernel
theorem d_M_fields_43 : decode c_M_fields 43 = .ok (.invokevirtual 80, 3) := by decide +kernel
theorem d_M_fields_46 : decode c_M_fields 46 = .ok (.istore 6, 2) := by decide +kernel
theorem d_M_fields_48 : decode c_M_fields 48 = .ok (.iload 6, 2) := by decide +kernel
theorem d_M_fields_50 : decode c_M_fields 50 = .ok (.ifCond .le 33, 3) := by decide +kernel
theorem d_M_fields_53 : decode c_M_fields 53 = .ok (.aload_n 0, 1) := by decide +kernel
theorem d_M_fields_54 : decode c_M_fields 54 = .ok (.iload_n 1, 1) := by decide +kernel
theorem d_M_fields_55 : decode c_M_fields 55 = .ok (.iconst 3, 1) := by decide +kernel
theorem d_M_fields_56 : decode c_M_fields 56 = .ok (.invokevirtual 59, 3) := by decide +kernel
theorem d_M_fields_59 : decode c_M_fields 59 = .ok (.bipush 8, 2) := by decide +kernel
theorem d_M_fields_61 : decode c_M_fields 61 = .ok (.if_icmp .ge 22, 3) := by decide +kernel
theorem d_M_fields_64 : decode c_M_fields 64 = .ok (.aload_n 0, 1) := by decide +kernel
theorem d_M_fields_65 : decode c_M_fields 65 = .ok (.iload_n 1, 1) := by decide +kernel
theorem d_M_fields_66 : decode c_M_fields 66 = .ok (.invokevirtual 77, 3) := by decide +kernel
theorem d_M_fields_69 : decode c_M_fields 69 = .ok (.aload_n 0, 1) := by decide +kernel
theorem d_M_fields_70 : decode c_M_fields 70 = .ok (.iload_n 1, 1) := by decide +kernel
theorem d_M_fields_71 : decode c_M_fields 71 = .ok (.iload 4, 2) := by decide +kernel
theorem d_M_fields_73 : decode c_M_fields 73 = .ok (.iload 6, 2) := by decide +kernel
theorem d_M_fields_75 : decode c_M_fields 75 = .ok (.iload 5, 2) := by decide +kernel
theorem d_M_fields_77 : decode c_M_fields 77 = .ok (.invokevirtual 83, 3) := by decide +kernel
theorem d_M_fields_80 : decode c_M_fields 80 = .ok (.goto 64, 3) := by decide +kernel
theorem d_M_fields_83 : decode c_M_fields 83 = .ok (.aload_n 0, 1) := by decide +kernel
theorem d_M_fields_84 : decode c_M_fields 84 = .ok (.getfield 13, 3) := by decide +kernel
theorem d_M_fields_87 : decode c_M_fields 87 = .ok (.iload 4, 2) := by decide +kernel
theorem d_M_fields_89 : decode c_M_fields 89 = .ok (.iaload, 1) := by decide +kernel
theorem d_M_fields_90 : decode c_M_fields 90 = .ok (.invokestatic 62, 3) := by decide +kernel
theorem d_M_fields_93 : decode c_M_fields 93 = .ok (.ifCond .eq 43, 3) := by decide +kernel
theorem d_M_fields_96 : decode c_M_fields 96 = .ok (.aload_n 0, 1) := by decide +kernel
theorem d_M_fields_97 : decode c_M_fields 97 = .ok (.iload_n 1, 1) := by decide +kernel
theorem d_M_fields_98 : decode c_M_fields 98 = .ok (.iconst 3, 1) := by decide +kernel
theorem d_M_fields_99 : decode c_M_fields 99 = .ok (.invokevirtual 59, 3) := by decide +kernel
theorem d_M_fields_102 : decode c_M_fields 102 = .ok (.ifCond .le 34, 3) := by decide +kernel
theorem d_M_fields_105 : decode c_M_fields 105 = .ok (.iload 4, 2) := by decide +kernel
theorem d_M_fields_107 : decode c_M_fields 107 = .ok (.istore 7, 2) := by decide +kernel
theorem d_M_fields_109 : decode c_M_fields 109 = .ok (.iload 7, 2) := by decide +kernel
theorem d_M_fields_111 : decode c_M_fields 111 = .ok (.iload 5, 2) := by decide +kernel
theorem d_M_fields_113 : decode c_M_fields 113 = .ok (.if_icmp .ge 20, 3) := by decide +kernel
theorem d_M_fields_116 : decode c_M_fields 116 = .ok (.aload_n 0, 1) := by decide +kernel
theorem d_M_fields_117 : decode c_M_fields 117 = .ok (.aload_n 0, 1) := by decide +kernel
theorem d_M_fields_118 : decode c_M_fields 118 = .ok (.getfield 13, 3) := by decide +kernel
theorem d_M_fields_121 : decode c_M_fields 121 = .ok (.iload 7, 2) := by decide +kernel
theorem d_M_fields_123 : decode c_M_fields 123 = .ok (.iaload, 1) := by decide +kernel
theorem d_M_fields_124 : decode c_M_fields 124 = .ok (.invokevirtual 66, 3) := by decide +kernel
theorem d_M_fields_127 : decode c_M_fields 127 = .ok (.iinc 7 1, 3) := by decide +kernel
theorem d_M_fields_130 : decode c_M_fields 130 = .ok (.goto (-21), 3) := by decide +kernel
theorem d_M_fields_133 : decode c_M_fields 133 = .ok (.goto 11, 3) := by decide +kernel
theorem d_M_fields_136 : decode c_M_fields 136 = .ok (.aload_n 0, 1) := by decide +kernel
theorem d_M_fields_137 : decode c_M_fields 137 = .ok (.iload_n 1, 1) := by decide +kernel
theorem d_M_fields_138 : decode c_M_fields 138 = .ok (.invokevirtual 77, 3) := by decide +kernel
theorem d_M_fields_141 : decode c_M_fields 141 = .ok (.iload 4, 2) := by decide +kernel
theorem d_M_fields_143 : decode c_M_fields 143 = .ok (.ireturn, 1) := by decide +kernel
theorem d_M_fields_144 : decode c_M_fields 144 = .ok (.aload_n 0, 1) := by decide +kernel
theorem d_M_fields_145 : decode c_M_fields 145 = .ok (.iload 4, 2) := by decide +kernel
theorem d_M_fields_147 : decode c_M_fields 147 = .ok (.iload_n 3, 1) := by decide +kernel
theorem d_M_fields_148 : decode c_M_fields 148 = .ok (.invokevirtual 52, 3) := by decide +kernel
theorem d_M_fields_151 : decode c_M_fields 151 = .ok (.istore 4, 2) := by decide +kernel
theorem d_M_fields_153 : decode c_M_fields 153 = .ok (.goto (-150), 3) := by decide +kernel
theorem d_M_fields_156 : decode c_M_fields 156 = .ok (.aload_n 0, 1) := by decide +kernel
theorem d_M_fields_157 : decode c_M_fields 157 = .ok (.iload_n 1, 1) := by decide +kernel
theorem d_M_fields_158 : decode c_M_fields 158 = .ok (.invokevirtual 77, 3) := by decide +kernel
theorem d_M_fields_161 : decode c_M_fields 161 = .ok (.iload_n 3, 1) := by decide +kernel
theorem d_M_fields_162 : decode c_M_fields 162 = .ok (.ireturn, 1) := by decide +kernel
theorem d_M_textEnd_0 : decode c_M_textEnd 0 = .ok (.aload_n 0, 1) := by decide +kernel
theorem d_M_textEnd_1 : decode c_M_textEnd 1 = .ok (.iload_n 1, 1) := by decide +kernel
theorem d_M_textEnd_2 : decode c_M_textEnd 2 = .ok (.iload_n 2, 1) := by decide +kernel
theorem d_M_textEnd_3 : decode c_M_textEnd 3 = .ok (.invokevirtual 52, 3) := by decide +kernel
theorem d_M_textEnd_6 : decode c_M_textEnd 6 = .ok (.istore_n 3, 1) := by decide +kernel
theorem d_M_textEnd_7 : decode c_M_textEnd 7 = .ok (.iload_n 3, 1) := by decide +kernel
theorem d_M_textEnd_8 : decode c_M_textEnd 8 = .ok (.iload_n 1, 1) := by decide +kernel
theorem d_M_textEnd_9 : decode c_M_textEnd 9 = .ok (.if_icmp .eq 16, 3) := by decide +kernel
theorem d_M_textEnd_12 : decode c_M_textEnd 12 = .ok (.aload_n 0, 1) := by decide +kernel
theorem d_M_textEnd_13 : decode c_M_textEnd 13 = .ok (.getfield 13, 3) := by decide +kernel
theorem d_M_textEnd_16 : decode c_M_textEnd 16 = .ok (.iload_n 3, 1) := by decide +kernel
theorem d_M_textEnd_17 : decode c_M_textEnd 17 = .ok (.iconst 1, 1) := by decide +kernel
theorem d_M_textEnd_18 : decode c_M_textEnd 18 = .ok (.isub, 1) := by decide +kernel
theorem d_M_textEnd_19 : decode c_M_textEnd 19 = .ok (.iaload, 1) := by decide +kernel
theorem d_M_textEnd_20 : decode c_M_textEnd 20 = .ok (.bipush 10, 2) := by decide +kernel
theorem d_M_textEnd_22 : decode c_M_textEnd 22 = .ok (.if_icmp .eq 5, 3) := by decide +kernel
theorem d_M_textEnd_25 : decode c_M_textEnd 25 = .ok (.iload_n 3, 1) := by decide +kernel
theorem d_M_textEnd_26 : decode c_M_textEnd 26 = .ok (.ireturn, 1) := by decide +kernel
theorem d_M_textEnd_27 : decode c_M_textEnd 27 = .ok (.iinc 3 (-1), 3) := by decide +kernel
theorem d_M_textEnd_30 : decode c_M_textEnd 30 = .ok (.iload_n 3, 1) := by decide +kernel
theorem d_M_textEnd_31 : decode c_M_textEnd 31 = .ok (.iload_n 1, 1) := by decide +kernel
theorem d_M_textEnd_32 : decode c_M_textEnd 32 = .ok (.if_icmp .le 22, 3) := by decide +kernel
theorem d_M_textEnd_35 : decode c_M_textEnd 35 = .ok (.aload_n 0, 1) := by decide +kernel
theorem d_M_textEnd_36 : decode c_M_textEnd 36 = .ok (.getfield 13, 3) := by decide +kernel
theorem d_M_textEnd_39 : decode c_M_textEnd 39 = .ok (.iload_n 3, 1) := by decide +kernel
theorem d_M_textEnd_40 : decode c_M_textEnd 40 = .ok (.iconst 1, 1) := by decide +kernel
theorem d_M_textEnd_41 : decode c_M_textEnd 41 = .ok (.isub, 1) := by decide +kernel
theorem d_M_textEnd_42 : decode c_M_textEnd 42 = .ok (.iaload, 1) := by decide +kernel
theorem d_M_textEnd_43 : decode c_M_textEnd 43 = .ok (.bipush 13, 2) := by decide +kernel
theorem d_M_textEnd_45 : decode c_M_textEnd 45 = .ok (.if_icmp .ne 9, 3) := by decide +kernel
theorem d_M_textEnd_48 : decode c_M_textEnd 48 = .ok (.iload_n 3, 1) := by decide +kernel
theorem d_M_textEnd_49 : decode c_M_textEnd 49 = .ok (.iconst 1, 1) := by decide +kernel
theorem d_M_textEnd_50 : decode c_M_textEnd 50 = .ok (.isub, 1) := by decide +kernel
theorem d_M_textEnd_51 : decode c_M_textEnd 51 = .ok (.goto 4, 3) := by decide +kernel
theorem d_M_textEnd_54 : decode c_M_textEnd 54 = .ok (.iload_n 3, 1) := by decide +kernel
theorem d_M_textEnd_55 : decode c_M_textEnd 55 = .ok (.ireturn, 1) := by decide +kernel
theorem d_M_lineEnd_0 : decode c_M_lineEnd 0 = .ok (.iload_n 1, 1) := by decide +kernel
theorem d_M_lineEnd_1 : decode c_M_lineEnd 1 = .ok (.istore_n 3, 1) := by decide +kernel
theorem d_M_lineEnd_2 : decode c_M_lineEnd 2 = .ok (.iload_n 3, 1) := by decide +kernel
theorem d_M_lineEnd_3 : decode c_M_lineEnd 3 = .ok (.iload_n 2, 1) := by decide +kernel
theorem d_M_lineEnd_4 : decode c_M_lineEnd 4 = .ok (.if_icmp .ge 20, 3) := by decide +kernel
theorem d_M_lineEnd_7 : decode c_M_lineEnd 7 = .ok (.aload_n 0, 1) := by decide +kernel
theorem d_M_lineEnd_8 : decode c_M_lineEnd 8 = .ok (.getfield 13, 3) := by decide +kernel
theorem d_M_lineEnd_11 : decode c_M_lineEnd 11 = .ok (.iload_n 3, 1) := by decide +kernel
theorem d_M_lineEnd_12 : decode c_M_lineEnd 12 = .ok (.iaload, 1) := by decide +kernel
theorem d_M_lineEnd_13 : decode c_M_lineEnd 13 = .ok (.bipush 10, 2) := by decide +kernel
theorem d_M_lineEnd_15 : decode c_M_lineEnd 15 = .ok (.if_icmp .eq 9, 3) := by decide +kernel
theorem d_M_lineEnd_18 : decode c_M_lineEnd 18 = .ok (.iinc 3 1, 3) := by decide +kernel
theorem d_M_lineEnd_21 : decode c_M_lineEnd 21 = .ok (.goto (-19), 3) := by decide +kernel
theorem d_M_lineEnd_24 : decode c_M_lineEnd 24 = .ok (.iload_n 3, 1) := by decide +kernel
theorem d_M_lineEnd_25 : decode c_M_lineEnd 25 = .ok (.iload_n 2, 1) := by decide +kernel
theorem d_M_lineEnd_26 : decode c_M_lineEnd 26 = .ok (.if_icmp .ge 9, 3) := by decide +kernel
theorem d_M_lineEnd_29 : decode c_M_lineEnd 29 = .ok (.iload_n 3, 1) := by decide +kernel
theorem d_M_lineEnd_30 : decode c_M_lineEnd 30 = .ok (.iconst 1, 1) := by decide +kernel
theorem d_M_lineEnd_31 : decode c_M_lineEnd 31 = .ok (.iadd, 1) := by decide +kernel
theorem d_M_lineEnd_32 : decode c_M_lineEnd 32 = .ok (.goto 4, 3) := by decide +kernel
theorem d_M_lineEnd_35 : decode c_M_lineEnd 35 = .ok (.iload_n 2, 1) := by decide +kernel
theorem d_M_lineEnd_36 : decode c_M_lineEnd 36 = .ok (.ireturn, 1) := by decide +kernel
theorem d_M_trims_0 : decode c_M_trims 0 = .ok (.aload_n 0, 1) := by decide +kernel
theorem d_M_trims_1 : decode c_M_trims 1 = .ok (.iload_n 1, 1) := by decide +kernel
theorem d_M_trims_2 : decode c_M_trims 2 = .ok (.iconst 3, 1) := by decide +kernel
theorem d_M_trims_3 : decode c_M_trims 3 = .ok (.invokevirtual 59, 3) := by decide +kernel
theorem d_M_trims_6 : decode c_M_trims 6 = .ok (.iconst 1, 1) := by decide +kernel
theorem d_M_trims_7 : decode c_M_trims 7 = .ok (.isub, 1) := by decide +kernel
theorem d_M_trims_8 : decode c_M_trims 8 = .ok (.istore_n 2, 1) := by decide +kernel
theorem d_M_trims_9 : decode c_M_trims 9 = .ok (.iload_n 2, 1) := by decide +kernel
theorem d_M_trims_10 : decode c_M_trims 10 = .ok (.ifCond .ge 4, 3) := by decide +kernel
theorem d_M_trims_13 : decode c_M_trims 13 = .ok (.return_, 1) := by decide +kernel
theorem d_M_trims_14 : decode c_M_trims 14 = .ok (.iconst 4, 1) := by decide +kernel
theorem d_M_trims_15 : decode c_M_trims 15 = .ok (.bipush 8, 2) := by decide +kernel
theorem d_M_trims_17 : decode c_M_trims 17 = .ok (.iload_n 1, 1) := by decide +kernel
theorem d_M_trims_18 : decode c_M_trims 18 = .ok (.imul, 1) := by decide +kernel
theorem d_M_trims_19 : decode c_M_trims 19 = .ok (.iload_n 2, 1) := by decide +kernel
theorem d_M_trims_20 : decode c_M_trims 20 = .ok (.iadd, 1) := by decide +kernel
theorem d_M_trims_21 : decode c_M_trims 21 = .ok (.imul, 1) := by decide +kernel
theorem d_M_trims_22 : decode c_M_trims 22 = .ok (.istore_n 3, 1) := by decide +kernel
theorem d_M_trims_23 : decode c_M_trims 23 = .ok (.aload_n 0, 1) := by decide +kernel
theorem d_M_trims_24 : decode c_M_trims 24 = .ok (.getfield 19, 3) := by decide +kernel
theorem d_M_trims_27 : decode c_M_trims 27 = .ok (.iload_n 3, 1) := by decide +kernel
theorem d_M_trims_28 : decode c_M_trims 28 = .ok (.iconst 2, 1) := by decide +kernel
theorem d_M_trims_29 : decode c_M_trims 29 = .ok (.iadd, 1) := by decide +kernel
theorem d_M_trims_30 : decode c_M_trims 30 = .ok (.iaload, 1) := by decide +kernel
theorem d_M_trims_31 : decode c_M_trims 31 = .ok (.istore 4, 2) := by decide +kernel
theorem d_M_trims_33 : decode c_M_trims 33 = .ok (.aload_n 0, 1) := by decide +kernel
theorem d_M_trims_34 : decode c_M_trims 34 = .ok (.getfield 56, 3) := by decide +kernel
theorem d_M_trims_37 : decode c_M_trims 37 = .ok (.istore 5, 2) := by decide +kernel
theorem d_M_trims_39 : decode c_M_trims 39 = .ok (.iload 5, 2) := by decide +kernel
theorem d_M_trims_41 : decode c_M_trims 41 = .ok (.iload 4, 2) := by decide +kernel
theorem d_M_trims_43 : decode c_M_trims 43 = .ok (.if_icmp .le 24, 3) := by decide +kernel
theorem d_M_trims_46 : decode c_M_trims 46 = .ok (.aload_n 0, 1) := by decide +kernel
theorem d_M_trims_47 : decode c_M_trims 47 = .ok (.getfield 22, 3) := by decide +kernel
theorem d_M_trims_50 : decode c_M_trims 50 = .ok (.iload 5, 2) := by decide +kernel
theorem d_M_trims_52 : decode c_M_trims 52 = .ok (.iconst 1, 1) := by decide +kernel
theorem d_M_trims_53 : decode c_M_trims 53 = .ok (.isub, 1) := by decide +kernel
theorem d_M_trims_54 : decode c_M_trims 54 = .ok (.iaload, 1) := by decide +kernel
theorem d_M_trims_55 : decode c_M_trims 55 = .ok (.invokestatic 62, 3) := by decide +kernel
theorem d_M_trims_58 : decode c_M_trims 58 = .ok (.ifCond .eq 9, 3) := by decide +kernel
theorem d_M_trims_61 : decode c_M_trims 61 = .ok (.iinc 5 (-1), 3) := by decide +kernel
theorem d_M_trims_64 : decode c_M_trims 64 = .ok (.goto (-25), 3) := by decide +kernel
theorem d_M_trims_67 : decode c_M_trims 67 = .ok (.iload 4, 2) := by decide +kernel
theorem d_M_trims_69 : decode c_M_trims 69 = .ok (.iload 5, 2) := by decide +kernel
theorem d_M_trims_71 : decode c_M_trims 71 = .ok (.if_icmp .ge 22, 3) := by decide +kernel
theorem d_M_trims_74 : decode c_M_trims 74 = .ok (.aload_n 0, 1) := by decide +kernel
theorem d_M_trims_75 : decode c_M_trims 75 = .ok (.getfield 22, 3) := by decide +kernel
theorem d_M_trims_78 : decode c_M_trims 78 = .ok (.iload 4, 2) := by decide +kernel
theorem d_M_trims_80 : decode c_M_trims 80 = .ok (.iaload, 1) := by decide +kernel
theorem d_M_trims_81 : decode c_M_trims 81 = .ok (.invokestatic 62, 3) := by decide +kernel
theorem d_M_trims_84 : decode c_M_trims 84 = .ok (.ifCond .eq 9, 3) := by decide +kernel
theorem d_M_trims_87 : decode c_M_trims 87 = .ok (.iinc 4 1, 3) := by decide +kernel
theorem d_M_trims_90 : decode c_M_trims 90 = .ok (.goto (-23), 3) := by decide +kernel
theorem d_M_trims_93 : decode c_M_trims 93 = .ok (.aload_n 0, 1) := by decide +kernel
theorem d_M_trims_94 : decode c_M_trims 94 = .ok (.getfield 19, 3) := by decide +kernel
theorem d_M_trims_97 : decode c_M_trims 97 = .ok (.iload_n 3, 1) := by decide +kernel
theorem d_M_trims_98 : decode c_M_trims 98 = .ok (.iconst 2, 1) := by decide +kernel
theorem d_M_trims_99 : decode c_M_trims 99 = .ok (.iadd, 1) := by decide +kernel
theorem d_M_trims_100 : decode c_M_trims 100 = .ok (.iload 4, 2) := by decide +kernel
theorem d_M_trims_102 : decode c_M_trims 102 = .ok (.iastore, 1) := by decide +kernel
theorem d_M_trims_103 : decode c_M_trims 103 = .ok (.aload_n 0, 1) := by decide +kernel
theorem d_M_trims_104 : decode c_M_trims 104 = .ok (.getfield 19, 3) := by decide +kernel
theorem d_M_trims_107 : decode c_M_trims 107 = .ok (.iload_n 3, 1) := by decide +kernel
theorem d_M_trims_108 : decode c_M_trims 108 = .ok (.iconst 3, 1) := by decide +kernel
theorem d_M_trims_109 : decode c_M_trims 109 = .ok (.iadd, 1) := by decide +kernel
theorem d_M_trims_110 : decode c_M_trims 110 = .ok (.iload 5, 2) := by decide +kernel
theorem d_M_trims_112 : decode c_M_trims 112 = .ok (.iload 4, 2) := by decide +kernel
theorem d_M_trims_114 : decode c_M_trims 114 = .ok (.isub, 1) := by decide +kernel
theorem d_M_trims_115 : decode c_M_trims 115 = .ok (.iastore, 1) := by decide +kernel
theorem d_M_trims_116 : decode c_M_trims 116 = .ok (.return_, 1) := by decide +kernel
theorem d_M_isBlank_0 : decode c_M_isBlank 0 = .ok (.iload_n 0, 1) := by decide +kernel
theorem d_M_isBlank_1 : decode c_M_isBlank 1 = .ok (.bipush 32, 2) := by decide +kernel
theorem d_M_isBlank_3 : decode c_M_isBlank 3 = .ok (.if_icmp .eq 9, 3) := by decide +kernel
theorem d_M_isBlank_6 : decode c_M_isBlank 6 = .ok (.iload_n 0, 1) := by decide +kernel
theorem d_M_isBlank_7 : decode c_M_isBlank 7 = .ok (.bipush 9, 2) := by decide +kernel
theorem d_M_isBlank_9 : decode c_M_isBlank 9 = .ok (.if_icmp .ne 7, 3) := by decide +kernel
theorem d_M_isBlank_12 : decode c_M_isBlank 12 = .ok (.iconst 1, 1) := by decide +kernel
theorem d_M_isBlank_13 : decode c_M_isBlank 13 = .ok (.goto 4, 3) := by decide +kernel
theorem d_M_isBlank_16 : decode c_M_isBlank 16 = .ok (.iconst 0, 1) := by decide +kernel
theorem d_M_isBlank_17 : decode c_M_isBlank 17 = .ok (.ireturn, 1) := by decide +kernel
theorem d_M_nameSize_0 : decode c_M_nameSize 0 = .ok (.iload_n 1, 1) := by decide +kernel
theorem d_M_nameSize_1 : decode c_M_nameSize 1 = .ok (.istore_n 3, 1) := by decide +kernel
theorem d_M_nameSize_2 : decode c_M_nameSize 2 = .ok (.iload_n 3, 1) := by decide +kernel
theorem d_M_nameSize_3 : decode c_M_nameSize 3 = .ok (.iload_n 2, 1) := by decide +kernel
theorem d_M_nameSize_4 : decode c_M_nameSize 4 = .ok (.if_icmp .ge 42, 3) := by decide +kernel
theorem d_M_nameSize_7 : decode c_M_nameSize 7 = .ok (.aload_n 0, 1) := by decide +kernel
theorem d_M_nameSize_8 : decode c_M_nameSize 8 = .ok (.getfield 13, 3) := by decide +kernel
theorem d_M_nameSize_11 : decode c_M_nameSize 11 = .ok (.iload_n 3, 1) := by decide +kernel
theorem d_M_nameSize_12 : decode c_M_nameSize 12 = .ok (.iaload, 1) := by decide +kernel
theorem d_M_nameSize_13 : decode c_M_nameSize 13 = .ok (.bipush 32, 2) := by decide +kernel
theorem d_M_nameSize_15 : decode c_M_nameSize 15 = .ok (.if_icmp .le 31, 3) := by decide +kernel
theorem d_M_nameSize_18 : decode c_M_nameSize 18 = .ok (.aload_n 0, 1) := by decide +kernel
theorem d_M_nameSize_19 : decode c_M_nameSize 19 = .ok (.getfield 13, 3) := by decide +kernel
theorem d_M_nameSize_22 : decode c_M_nameSize 22 = .ok (.iload_n 3, 1) := by decide +kernel
theorem d_M_nameSize_23 : decode c_M_nameSize 23 = .ok (.iaload, 1) := by decide +kernel
theorem d_M_nameSize_24 : decode c_M_nameSize 24 = .ok (.bipush 127, 2) := by decide +kernel
theorem d_M_nameSize_26 : decode c_M_nameSize 26 = .ok (.if_icmp .ge 20, 3) := by decide +kernel
theorem d_M_nameSize_29 : decode c_M_nameSize 29 = .ok (.aload_n 0, 1) := by decide +kernel
theorem d_M_nameSize_30 : decode c_M_nameSize 30 = .ok (.getfield 13, 3) := by decide +kernel
theorem d_M_nameSize_33 : decode c_M_nameSize 33 = .ok (.iload_n 3, 1) := by decide +kernel
theorem d_M_nameSize_34 : decode c_M_nameSize 34 = .ok (.iaload, 1) := by decide +kernel
theorem d_M_nameSize_35 : decode c_M_nameSize 35 = .ok (.bipush 58, 2) := by decide +kernel
theorem d_M_nameSize_37 : decode c_M_nameSize 37 = .ok (.if_icmp .eq 9, 3) := by decide +kernel
theorem d_M_nameSize_40 : decode c_M_nameSize 40 = .ok (.iinc 3 1, 3) := by decide +kernel
theorem d_M_nameSize_43 : decode c_M_nameSize 43 = .ok (.goto (-41), 3) := by decide +kernel
theorem d_M_nameSize_46 : decode c_M_nameSize 46 = .ok (.iload_n 3, 1) := by decide +kernel
theorem d_M_nameSize_47 : decode c_M_nameSize 47 = .ok (.iload_n 2, 1) := by decide +kernel
theorem d_M_nameSize_48 : decode c_M_nameSize 48 = .ok (.if_icmp .ge 20, 3) := by decide +kernel
theorem d_M_nameSize_51 : decode c_M_nameSize 51 = .ok (.aload_n 0, 1) := by decide +kernel
theorem d_M_nameSize_52 : decode c_M_nameSize 52 = .ok (.getfield 13, 3) := by decide +kernel
theorem d_M_nameSize_55 : decode c_M_nameSize 55 = .ok (.iload_n 3, 1) := by decide +kernel
theorem d_M_nameSize_56 : decode c_M_nameSize 56 = .ok (.iaload, 1) := by decide +kernel
theorem d_M_nameSize_57 : decode c_M_nameSize 57 = .ok (.bipush 58, 2) := by decide +kernel
theorem d_M_nameSize_59 : decode c_M_nameSize 59 = .ok (.if_icmp .ne 9, 3) := by decide +kernel
theorem d_M_nameSize_62 : decode c_M_nameSize 62 = .ok (.iload_n 3, 1) := by decide +kernel
theorem d_M_nameSize_63 : decode c_M_nameSize 63 = .ok (.iload_n 1, 1) := by decide +kernel
theorem d_M_nameSize_64 : decode c_M_nameSize 64 = .ok (.isub, 1) := by decide +kernel
theorem d_M_nameSize_65 : decode c_M_nameSize 65 = .ok (.goto 4, 3) := by decide +kernel
theorem d_M_nameSize_68 : decode c_M_nameSize 68 = .ok (.iconst 0, 1) := by decide +kernel
theorem d_M_nameSize_69 : decode c_M_nameSize 69 = .ok (.ireturn, 1) := by decide +kernel
theorem d_M_begins_0 : decode c_M_begins 0 = .ok (.iconst 4, 1) := by decide +kernel
theorem d_M_begins_1 : decode c_M_begins 1 = .ok (.bipush 8, 2) := by decide +kernel
theorem d_M_begins_3 : decode c_M_begins 3 = .ok (.iload_n 1, 1) := by decide +kernel
theorem d_M_begins_4 : decode c_M_begins 4 = .ok (.imul, 1) := by decide +kernel
theorem d_M_begins_5 : decode c_M_begins 5 = .ok (.aload_n 0, 1) := by decide +kernel
theorem d_M_begins_6 : decode c_M_begins 6 = .ok (.iload_n 1, 1) := by decide +kernel
theorem d_M_begins_7 : decode c_M_begins 7 = .ok (.iconst 3, 1) := by decide +kernel
theorem d_M_begins_8 : decode c_M_begins 8 = .ok (.invokevirtual 59, 3) := by decide +kernel
theorem d_M_begins_11 : decode c_M_begins 11 = .ok (.iadd, 1) := by decide +kernel
theorem d_M_begins_12 : decode c_M_begins 12 = .ok (.imul, 1) := by decide +kernel
theorem d_M_begins_13 : decode c_M_begins 13 = .ok (.istore 5, 2) := by decide +kernel
theorem d_M_begins_15 : decode c_M_begins 15 = .ok (.aload_n 0, 1) := by decide +kernel
theorem d_M_begins_16 : decode c_M_begins 16 = .ok (.getfield 19, 3) := by decide +kernel
theorem d_M_begins_19 : decode c_M_begins 19 = .ok (.iload 5, 2) := by decide +kernel
theorem d_M_begins_21 : decode c_M_begins 21 = .ok (.aload_n 0, 1) := by decide +kernel
theorem d_M_begins_22 : decode c_M_begins 22 = .ok (.getfield 56, 3) := by decide +kernel
theorem d_M_begins_25 : decode c_M_begins 25 = .ok (.iastore, 1) := by decide +kernel
theorem d_M_begins_26 : decode c_M_begins 26 = .ok (.aload_n 0, 1) := by decide +kernel
theorem d_M_begins_27 : decode c_M_begins 27 = .ok (.getfield 19, 3) := by decide +kernel
theorem d_M_begins_30 : decode c_M_begins 30 = .ok (.iload 5, 2) := by decide +kernel
theorem d_M_begins_32 : decode c_M_begins 32 = .ok (.iconst 1, 1) := by decide +kernel
theorem d_M_begins_33 : decode c_M_begins 33 = .ok (.iadd, 1) := by decide +kernel
theorem d_M_begins_34 : decode c_M_begins 34 = .ok (.iload_n 3, 1) := by decide +kernel
theorem d_M_begins_35 : decode c_M_begins 35 = .ok (.iastore, 1) := by decide +kernel
theorem d_M_begins_36 : decode c_M_begins 36 = .ok (.iload_n 2, 1) := by decide +kernel
theorem d_M_begins_37 : decode c_M_begins 37 = .ok (.istore 6, 2) := by decide +kernel
theorem d_M_begins_39 : decode c_M_begins 39 = .ok (.iload 6, 2) := by decide +kernel
theorem d_M_begins_41 : decode c_M_begins 41 = .ok (.iload_n 2, 1) := by decide +kernel
theorem d_M_begins_42 : decode c_M_begins 42 = .ok (.iload_n 3, 1) := by decide +kernel
theorem d_M_begins_43 : decode c_M_begins 43 = .ok (.iadd, 1) := by decide +kernel
theorem d_M_begins_44 : decode c_M_begins 44 = .ok (.if_icmp .ge 20, 3) := by decide +kernel
theorem d_M_begins_47 : decode c_M_begins 47 = .ok (.aload_n 0, 1) := by decide +kernel
theorem d_M_begins_48 : decode c_M_begins 48 = .ok (.aload_n 0, 1) := by decide +kernel
theorem d_M_begins_49 : decode c_M_begins 49 = .ok (.getfield 13, 3) := by decide +kernel
theorem d_M_begins_52 : decode c_M_begins 52 = .ok (.iload 6, 2) := by decide +kernel
theorem d_M_begins_54 : decode c_M_begins 54 = .ok (.iaload, 1) := by decide +kernel
theorem d_M_begins_55 : decode c_M_begins 55 = .ok (.invokevirtual 66, 3) := by decide +kernel
theorem d_M_begins_58 : decode c_M_begins 58 = .ok (.iinc 6 1, 3) := by decide +kernel
theorem d_M_begins_61 : decode c_M_begins 61 = .ok (.goto (-22), 3) := by decide +kernel
theorem d_M_begins_64 : decode c_M_begins 64 = .ok (.aload_n 0, 1) := by decide +kernel
theorem d_M_begins_65 : decode c_M_begins 65 = .ok (.getfield 19, 3) := by decide +kernel
theorem d_M_begins_68 : decode c_M_begins 68 = .ok (.iload 5, 2) := by decide +kernel
theorem d_M_begins_70 : decode c_M_begins 70 = .ok (.iconst 2, 1) := by decide +kernel
theorem d_M_begins_71 : decode c_M_begins 71 = .ok (.iadd, 1) := by decide +kernel
theorem d_M_begins_72 : decode c_M_begins 72 = .ok (.aload_n 0, 1) := by decide +kernel
theorem d_M_begins_73 : decode c_M_begins 73 = .ok (.getfield 56, 3) := by decide +kernel
theorem d_M_begins_76 : decode c_M_begins 76 = .ok (.iastore, 1) := by decide +kernel
theorem d_M_begins_77 : decode c_M_begins 77 = .ok (.iload_n 2, 1) := by decide +kernel
theorem d_M_begins_78 : decode c_M_begins 78 = .ok (.iload_n 3, 1) := by decide +kernel
theorem d_M_begins_79 : decode c_M_begins 79 = .ok (.iadd, 1) := by decide +kernel
theorem d_M_begins_80 : decode c_M_begins 80 = .ok (.iconst 1, 1) := by decide +kernel
theorem d_M_begins_81 : decode c_M_begins 81 = .ok (.iadd, 1) := by decide +kernel
theorem d_M_begins_82 : decode c_M_begins 82 = .ok (.istore 6, 2) := by decide +kernel
theorem d_M_begins_84 : decode c_M_begins 84 = .ok (.iload 6, 2) := by decide +kernel
theorem d_M_begins_86 : decode c_M_begins 86 = .ok (.iload 4, 2) := by decide +kernel
theorem d_M_begins_88 : decode c_M_begins 88 = .ok (.if_icmp .ge 20, 3) := by decide +kernel
theorem d_M_begins_91 : decode c_M_begins 91 = .ok (.aload_n 0, 1) := by decide +kernel
theorem d_M_begins_92 : decode c_M_begins 92 = .ok (.aload_n 0, 1) := by decide +kernel
theorem d_M_begins_93 : decode c_M_begins 93 = .ok (.getfield 13, 3) := by decide +kernel
theorem d_M_begins_96 : decode c_M_begins 96 = .ok (.iload 6, 2) := by decide +kernel
theorem d_M_begins_98 : decode c_M_begins 98 = .ok (.iaload, 1) := by decide +kernel
theorem d_M_begins_99 : decode c_M_begins 99 = .ok (.invokevirtual 66, 3) := by decide +kernel
theorem d_M_begins_102 : decode c_M_begins 102 = .ok (.iinc 6 1, 3) := by decide +kernel
theorem d_M_begins_105 : decode c_M_begins 105 = .ok (.goto (-21), 3) := by decide +kernel
theorem d_M_begins_108 : decode c_M_begins 108 = .ok (.aload_n 0, 1) := by decide +kernel
theorem d_M_begins_109 : decode c_M_begins 109 = .ok (.iload_n 1, 1) := by decide +kernel
theorem d_M_begins_110 : decode c_M_begins 110 = .ok (.iconst 3, 1) := by decide +kernel
theorem d_M_begins_111 : decode c_M_begins 111 = .ok (.aload_n 0, 1) := by decide +kernel
theorem d_M_begins_112 : decode c_M_begins 112 = .ok (.iload_n 1, 1) := by decide +kernel
theorem d_M_begins_113 : decode c_M_begins 113 = .ok (.iconst 3, 1) := by decide +kernel
theorem d_M_begins_114 : decode c_M_begins 114 = .ok (.invokevirtual 59, 3) := by decide +kernel
theorem d_M_begins_117 : decode c_M_begins 117 = .ok (.iconst 1, 1) := by decide +kernel
theorem d_M_begins_118 : decode c_M_begins 118 = .ok (.iadd, 1) := by decide +kernel
theorem d_M_begins_119 : decode c_M_begins 119 = .ok (.invokevirtual 70, 3) := by decide +kernel
theorem d_M_begins_122 : decode c_M_begins 122 = .ok (.return_, 1) := by decide +kernel
theorem d_M_keep_0 : decode c_M_keep 0 = .ok (.aload_n 0, 1) := by decide +kernel
theorem d_M_keep_1 : decode c_M_keep 1 = .ok (.getfield 22, 3) := by decide +kernel
theorem d_M_keep_4 : decode c_M_keep 4 = .ok (.aload_n 0, 1) := by decide +kernel
theorem d_M_keep_5 : decode c_M_keep 5 = .ok (.getfield 56, 3) := by decide +kernel
theorem d_M_keep_8 : decode c_M_keep 8 = .ok (.iload_n 1, 1) := by decide +kernel
theorem d_M_keep_9 : decode c_M_keep 9 = .ok (.iastore, 1) := by decide +kernel
theorem d_M_keep_10 : decode c_M_keep 10 = .ok (.aload_n 0, 1) := by decide +kernel
theorem d_M_keep_11 : decode c_M_keep 11 = .ok (.dup, 1) := by decide +kernel
theorem d_M_keep_12 : decode c_M_keep 12 = .ok (.getfield 56, 3) := by decide +kernel
theorem d_M_keep_15 : decode c_M_keep 15 = .ok (.iconst 1, 1) := by decide +kernel
theorem d_M_keep_16 : decode c_M_keep 16 = .ok (.iadd, 1) := by decide +kernel
theorem d_M_keep_17 : decode c_M_keep 17 = .ok (.putfield 56, 3) := by decide +kernel
theorem d_M_keep_20 : decode c_M_keep 20 = .ok (.return_, 1) := by decide +kernel
theorem d_M_encoding_0 : decode c_M_encoding 0 = .ok (.aload_n 0, 1) := by decide +kernel
theorem d_M_encoding_1 : decode c_M_encoding 1 = .ok (.iload_n 1, 1) := by decide +kernel
theorem d_M_encoding_2 : decode c_M_encoding 2 = .ok (.ldc2_w 123, 3) := by decide +kernel
theorem d_M_encoding_5 : decode c_M_encoding 5 = .ok (.ldc2_w 125, 3) := by decide +kernel
theorem d_M_encoding_8 : decode c_M_encoding 8 = .ok (.ldc2_w 127, 3) := by decide +kernel
theorem d_M_encoding_11 : decode c_M_encoding 11 = .ok (.invokevirtual 129, 3) := by decide +kernel
theorem d_M_encoding_14 : decode c_M_encoding 14 = .ok (.istore_n 2, 1) := by decide +kernel
theorem d_M_encoding_15 : decode c_M_encoding 15 = .ok (.iload_n 2, 1) := by decide +kernel
theorem d_M_encoding_16 : decode c_M_encoding 16 = .ok (.ifCond .ge 5, 3) := by decide +kernel
theorem d_M_encoding_19 : decode c_M_encoding 19 = .ok (.iconst 0, 1) := by decide +kernel
theorem d_M_encoding_20 : decode c_M_encoding 20 = .ok (.ireturn, 1) := by decide +kernel
theorem d_M_encoding_21 : decode c_M_encoding 21 = .ok (.aload_n 0, 1) := by decide +kernel
theorem d_M_encoding_22 : decode c_M_encoding 22 = .ok (.iload_n 1, 1) := by decide +kernel
theorem d_M_encoding_23 : decode c_M_encoding 23 = .ok (.iload_n 2, 1) := by decide +kernel
theorem d_M_encoding_24 : decode c_M_encoding 24 = .ok (.invokevirtual 133, 3) := by decide +kernel
theorem d_M_encoding_27 : decode c_M_encoding 27 = .ok (.aload_n 0, 1) := by decide +kernel
theorem d_M_encoding_28 : decode c_M_encoding 28 = .ok (.invokevirtual 137, 3) := by decide +kernel
theorem d_M_encoding_31 : decode c_M_encoding 31 = .ok (.aload_n 0, 1) := by decide +kernel
theorem d_M_encoding_32 : decode c_M_encoding 32 = .ok (.invokevirtual 140, 3) := by decide +kernel
theorem d_M_encoding_35 : decode c_M_encoding 35 = .ok (.ifCond .ne 5, 3) := by decide +kernel
theorem d_M_encoding_38 : decode c_M_encoding 38 = .ok (.iconst 0, 1) := by decide +kernel
theorem d_M_encoding_39 : decode c_M_encoding 39 = .ok (.ireturn, 1) := by decide +kernel
theorem d_M_encoding_40 : decode c_M_encoding 40 = .ok (.aload_n 0, 1) := by decide +kernel
theorem d_M_encoding_41 : decode c_M_encoding 41 = .ok (.getfield 106, 3) := by decide +kernel
theorem d_M_encoding_44 : decode c_M_encoding 44 = .ok (.istore_n 3, 1) := by decide +kernel
theorem d_M_encoding_45 : decode c_M_encoding 45 = .ok (.aload_n 0, 1) := by decide +kernel
theorem d_M_encoding_46 : decode c_M_encoding 46 = .ok (.getfield 112, 3) := by decide +kernel
theorem d_M_encoding_49 : decode c_M_encoding 49 = .ok (.istore 4, 2) := by decide +kernel
theorem d_M_encoding_51 : decode c_M_encoding 51 = .ok (.aload_n 0, 1) := by decide +kernel
theorem d_M_encoding_52 : decode c_M_encoding 52 = .ok (.invokevirtual 137, 3) := by decide +kernel
theorem d_M_encoding_55 : decode c_M_encoding 55 = .ok (.aload_n 0, 1) := by decide +kernel
theorem d_M_encoding_56 : decode c_M_encoding 56 = .ok (.getfield 93, 3) := by decide +kernel
theorem d_M_encoding_59 : decode c_M_encoding 59 = .ok (.aload_n 0, 1) := by decide +kernel
theorem d_M_encoding_60 : decode c_M_encoding 60 = .ok (.getfield 96, 3) := by decide +kernel
theorem d_M_encoding_63 : decode c_M_encoding 63 = .ok (.if_icmp .ge 5, 3) := by decide +kernel
theorem d_M_encoding_66 : decode c_M_encoding 66 = .ok (.iconst 0, 1) := by decide +kernel
theorem d_M_encoding_67 : decode c_M_encoding 67 = .ok (.ireturn, 1) := by decide +kernel
theorem d_M_encoding_68 : decode c_M_encoding 68 = .ok (.aload_n 0, 1) := by decide +kernel
theorem d_M_encoding_69 : decode c_M_encoding 69 = .ok (.iload_n 3, 1) := by decide +kernel
theorem d_M_encoding_70 : decode c_M_encoding 70 = .ok (.iload 4, 2) := by decide +kernel
theorem d_M_encoding_72 : decode c_M_encoding 72 = .ok (.ldc2_w 144, 3) := by decide +kernel
theorem d_M_encoding_75 : decode c_M_encoding 75 = .ok (.lconst 0, 1) := by decide +kernel
theorem d_M_encoding_76 : decode c_M_encoding 76 = .ok (.lconst 0, 1) := by decide +kernel
theorem d_M_encoding_77 : decode c_M_encoding 77 = .ok (.invokevirtual 119, 3) := by decide +kernel
theorem d_M_encoding_80 : decode c_M_encoding 80 = .ok (.ifCond .eq 7, 3) := by decide +kernel
