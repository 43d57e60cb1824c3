theorem dX8_tell_48 : decode cX8_tell 48 = .ok (.iastore, 1) := by decide +kernel
theorem dX8_tell_49 : decode cX8_tell 49 = .ok (.iinc 5 (-1), 3) := by decide +kernel
theorem dX8_tell_52 : decode cX8_tell 52 = .ok (.goto (-22), 3) := by decide +kernel
theorem dX8_tell_55 : decode cX8_tell 55 = .ok (.aload_n 0, 1) := by decide +kernel
theorem dX8_tell_56 : decode cX8_tell 56 = .ok (.aload_n 1, 1) := by decide +kernel
theorem dX8_tell_57 : decode cX8_tell 57 = .ok (.aload_n 3, 1) := by decide +kernel
theorem dX8_tell_58 : decode cX8_tell 58 = .ok (.aload 4, 2) := by decide +kernel
theorem dX8_tell_60 : decode cX8_tell 60 = .ok (.invokevirtual 47, 3) := by decide +kernel
theorem dX8_tell_63 : decode cX8_tell 63 = .ok (.return_, 1) := by decide +kernel
theorem dX8_tellBehind_0 : decode cX8_tellBehind 0 = .ok (.aload_n 3, 1) := by decide +kernel
theorem dX8_tellBehind_1 : decode cX8_tellBehind 1 = .ok (.invokevirtual 51, 3) := by decide +kernel
theorem dX8_tellBehind_4 : decode cX8_tellBehind 4 = .ok (.iconst 0, 1) := by decide +kernel
theorem dX8_tellBehind_5 : decode cX8_tellBehind 5 = .ok (.istore 4, 2) := by decide +kernel
theorem dX8_tellBehind_7 : decode cX8_tellBehind 7 = .ok (.iload 4, 2) := by decide +kernel
theorem dX8_tellBehind_9 : decode cX8_tellBehind 9 = .ok (.sipush 400, 3) := by decide +kernel
theorem dX8_tellBehind_12 : decode cX8_tellBehind 12 = .ok (.if_icmp .gt 84, 3) := by decide +kernel
theorem dX8_tellBehind_15 : decode cX8_tellBehind 15 = .ok (.aload_n 2, 1) := by decide +kernel
theorem dX8_tellBehind_16 : decode cX8_tellBehind 16 = .ok (.invokevirtual 56, 3) := by decide +kernel
theorem dX8_tellBehind_19 : decode cX8_tellBehind 19 = .ok (.ifCond .eq 12, 3) := by decide +kernel
theorem dX8_tellBehind_22 : decode cX8_tellBehind 22 = .ok (.aload_n 0, 1) := by decide +kernel
theorem dX8_tellBehind_23 : decode cX8_tellBehind 23 = .ok (.iconst 0, 1) := by decide +kernel
theorem dX8_tellBehind_24 : decode cX8_tellBehind 24 = .ok (.iload 4, 2) := by decide +kernel
theorem dX8_tellBehind_26 : decode cX8_tellBehind 26 = .ok (.iconst 0, 1) := by decide +kernel
theorem dX8_tellBehind_27 : decode cX8_tellBehind 27 = .ok (.invokevirtual 60, 3) := by decide +kernel
theorem dX8_tellBehind_30 : decode cX8_tellBehind 30 = .ok (.return_, 1) := by decide +kernel
theorem dX8_tellBehind_31 : decode cX8_tellBehind 31 = .ok (.aload_n 3, 1) := by decide +kernel
theorem dX8_tellBehind_32 : decode cX8_tellBehind 32 = .ok (.aload_n 2, 1) := by decide +kernel
theorem dX8_tellBehind_33 : decode cX8_tellBehind 33 = .ok (.getfield 64, 3) := by decide +kernel
theorem dX8_tellBehind_36 : decode cX8_tellBehind 36 = .ok (.aload_n 2, 1) := by decide +kernel
theorem dX8_tellBehind_37 : decode cX8_tellBehind 37 = .ok (.getfield 68, 3) := by decide +kernel
theorem dX8_tellBehind_40 : decode cX8_tellBehind 40 = .ok (.invokevirtual 71, 3) := by decide +kernel
theorem dX8_tellBehind_43 : decode cX8_tellBehind 43 = .ok (.istore 5, 2) := by decide +kernel
theorem dX8_tellBehind_45 : decode cX8_tellBehind 45 = .ok (.iload 5, 2) := by decide +kernel
theorem dX8_tellBehind_47 : decode cX8_tellBehind 47 = .ok (.iconst (-1), 1) := by decide +kernel
theorem dX8_tellBehind_48 : decode cX8_tellBehind 48 = .ok (.if_icmp .eq 16, 3) := by decide +kernel
theorem dX8_tellBehind_51 : decode cX8_tellBehind 51 = .ok (.aload_n 0, 1) := by decide +kernel
theorem dX8_tellBehind_52 : decode cX8_tellBehind 52 = .ok (.iconst 1, 1) := by decide +kernel
theorem dX8_tellBehind_53 : decode cX8_tellBehind 53 = .ok (.iload 5, 2) := by decide +kernel
theorem dX8_tellBehind_55 : decode cX8_tellBehind 55 = .ok (.iload 4, 2) := by decide +kernel
theorem dX8_tellBehind_57 : decode cX8_tellBehind 57 = .ok (.iload 5, 2) := by decide +kernel
theorem dX8_tellBehind_59 : decode cX8_tellBehind 59 = .ok (.isub, 1) := by decide +kernel
theorem dX8_tellBehind_60 : decode cX8_tellBehind 60 = .ok (.invokevirtual 60, 3) := by decide +kernel
theorem dX8_tellBehind_63 : decode cX8_tellBehind 63 = .ok (.return_, 1) := by decide +kernel
theorem dX8_tellBehind_64 : decode cX8_tellBehind 64 = .ok (.iload 4, 2) := by decide +kernel
theorem dX8_tellBehind_66 : decode cX8_tellBehind 66 = .ok (.sipush 400, 3) := by decide +kernel
theorem dX8_tellBehind_69 : decode cX8_tellBehind 69 = .ok (.if_icmp .ge 21, 3) := by decide +kernel
theorem dX8_tellBehind_72 : decode cX8_tellBehind 72 = .ok (.aload_n 2, 1) := by decide +kernel
theorem dX8_tellBehind_73 : decode cX8_tellBehind 73 = .ok (.aload_n 1, 1) := by decide +kernel
theorem dX8_tellBehind_74 : decode cX8_tellBehind 74 = .ok (.invokevirtual 75, 3) := by decide +kernel
theorem dX8_tellBehind_77 : decode cX8_tellBehind 77 = .ok (.aload_n 0, 1) := by decide +kernel
theorem dX8_tellBehind_78 : decode cX8_tellBehind 78 = .ok (.getfield 17, 3) := by decide +kernel
theorem dX8_tellBehind_81 : decode cX8_tellBehind 81 = .ok (.iload 4, 2) := by decide +kernel
theorem dX8_tellBehind_83 : decode cX8_tellBehind 83 = .ok (.aload_n 2, 1) := by decide +kernel
theorem dX8_tellBehind_84 : decode cX8_tellBehind 84 = .ok (.aload_n 1, 1) := by decide +kernel
theorem dX8_tellBehind_85 : decode cX8_tellBehind 85 = .ok (.iconst 0, 1) := by decide +kernel
theorem dX8_tellBehind_86 : decode cX8_tellBehind 86 = .ok (.invokevirtual 43, 3) := by decide +kernel
theorem dX8_tellBehind_89 : decode cX8_tellBehind 89 = .ok (.iastore, 1) := by decide +kernel
theorem dX8_tellBehind_90 : decode cX8_tellBehind 90 = .ok (.iinc 4 1, 3) := by decide +kernel
theorem dX8_tellBehind_93 : decode cX8_tellBehind 93 = .ok (.goto (-86), 3) := by decide +kernel
theorem dX8_tellBehind_96 : decode cX8_tellBehind 96 = .ok (.aload_n 0, 1) := by decide +kernel
theorem dX8_tellBehind_97 : decode cX8_tellBehind 97 = .ok (.iconst 2, 1) := by decide +kernel
theorem dX8_tellBehind_98 : decode cX8_tellBehind 98 = .ok (.sipush 400, 3) := by decide +kernel
theorem dX8_tellBehind_101 : decode cX8_tellBehind 101 = .ok (.iconst 0, 1) := by decide +kernel
theorem dX8_tellBehind_102 : decode cX8_tellBehind 102 = .ok (.invokevirtual 60, 3) := by decide +kernel
theorem dX8_tellBehind_105 : decode cX8_tellBehind 105 = .ok (.return_, 1) := by decide +kernel
theorem dX8_settle_0 : decode cX8_settle 0 = .ok (.aload_n 0, 1) := by decide +kernel
theorem dX8_settle_1 : decode cX8_settle 1 = .ok (.iload_n 1, 1) := by decide +kernel
theorem dX8_settle_2 : decode cX8_settle 2 = .ok (.putfield 20, 3) := by decide +kernel
theorem dX8_settle_5 : decode cX8_settle 5 = .ok (.aload_n 0, 1) := by decide +kernel
theorem dX8_settle_6 : decode cX8_settle 6 = .ok (.iload_n 2, 1) := by decide +kernel
theorem dX8_settle_7 : decode cX8_settle 7 = .ok (.putfield 79, 3) := by decide +kernel
theorem dX8_settle_10 : decode cX8_settle 10 = .ok (.aload_n 0, 1) := by decide +kernel
theorem dX8_settle_11 : decode cX8_settle 11 = .ok (.iload_n 3, 1) := by decide +kernel
theorem dX8_settle_12 : decode cX8_settle 12 = .ok (.putfield 82, 3) := by decide +kernel
theorem dX8_settle_15 : decode cX8_settle 15 = .ok (.return_, 1) := by decide +kernel
theorem dX8_at_0 : decode cX8_at 0 = .ok (.aload_n 0, 1) := by decide +kernel
theorem dX8_at_1 : decode cX8_at 1 = .ok (.getfield 20, 3) := by decide +kernel
theorem dX8_at_4 : decode cX8_at 4 = .ok (.iconst (-1), 1) := by decide +kernel
theorem dX8_at_5 : decode cX8_at 5 = .ok (.if_icmp .ne 5, 3) := by decide +kernel
theorem dX8_at_8 : decode cX8_at 8 = .ok (.iconst (-1), 1) := by decide +kernel
theorem dX8_at_9 : decode cX8_at 9 = .ok (.ireturn, 1) := by decide +kernel
theorem dX8_at_10 : decode cX8_at 10 = .ok (.iload_n 1, 1) := by decide +kernel
theorem dX8_at_11 : decode cX8_at 11 = .ok (.ifCond .lt 31, 3) := by decide +kernel
theorem dX8_at_14 : decode cX8_at 14 = .ok (.iload_n 1, 1) := by decide +kernel
theorem dX8_at_15 : decode cX8_at 15 = .ok (.aload_n 0, 1) := by decide +kernel
theorem dX8_at_16 : decode cX8_at 16 = .ok (.getfield 40, 3) := by decide +kernel
theorem dX8_at_19 : decode cX8_at 19 = .ok (.if_icmp .gt 21, 3) := by decide +kernel
theorem dX8_at_22 : decode cX8_at 22 = .ok (.iload_n 1, 1) := by decide +kernel
theorem dX8_at_23 : decode cX8_at 23 = .ok (.aload_n 0, 1) := by decide +kernel
theorem dX8_at_24 : decode cX8_at 24 = .ok (.getfield 11, 3) := by decide +kernel
theorem dX8_at_27 : decode cX8_at 27 = .ok (.arraylength, 1) := by decide +kernel
theorem dX8_at_28 : decode cX8_at 28 = .ok (.if_icmp .ge 12, 3) := by decide +kernel
theorem dX8_at_31 : decode cX8_at 31 = .ok (.aload_n 0, 1) := by decide +kernel
theorem dX8_at_32 : decode cX8_at 32 = .ok (.getfield 11, 3) := by decide +kernel
theorem dX8_at_35 : decode cX8_at 35 = .ok (.iload_n 1, 1) := by decide +kernel
theorem dX8_at_36 : decode cX8_at 36 = .ok (.iaload, 1) := by decide +kernel
theorem dX8_at_37 : decode cX8_at 37 = .ok (.goto 4, 3) := by decide +kernel
theorem dX8_at_40 : decode cX8_at 40 = .ok (.iconst 0, 1) := by decide +kernel
theorem dX8_at_41 : decode cX8_at 41 = .ok (.ireturn, 1) := by decide +kernel
theorem dX8_at_42 : decode cX8_at 42 = .ok (.ldc2_w 85, 3) := by decide +kernel
theorem dX8_at_45 : decode cX8_at 45 = .ok (.iload_n 1, 1) := by decide +kernel
theorem dX8_at_46 : decode cX8_at 46 = .ok (.i2l, 1) := by decide +kernel
theorem dX8_at_47 : decode cX8_at 47 = .ok (.lsub, 1) := by decide +kernel
theorem dX8_at_48 : decode cX8_at 48 = .ok (.lstore_n 2, 1) := by decide +kernel
theorem dX8_at_49 : decode cX8_at 49 = .ok (.aload_n 0, 1) := by decide +kernel
theorem dX8_at_50 : decode cX8_at 50 = .ok (.getfield 82, 3) := by decide +kernel
theorem dX8_at_53 : decode cX8_at 53 = .ok (.ifCond .le 33, 3) := by decide +kernel
theorem dX8_at_56 : decode cX8_at 56 = .ok (.lload_n 2, 1) := by decide +kernel
theorem dX8_at_57 : decode cX8_at 57 = .ok (.aload_n 0, 1) := by decide +kernel
theorem dX8_at_58 : decode cX8_at 58 = .ok (.getfield 79, 3) := by decide +kernel
theorem dX8_at_61 : decode cX8_at 61 = .ok (.i2l, 1) := by decide +kernel
theorem dX8_at_62 : decode cX8_at 62 = .ok (.lcmp, 1) := by decide +kernel
theorem dX8_at_63 : decode cX8_at 63 = .ok (.ifCond .lt 23, 3) := by decide +kernel
theorem dX8_at_66 : decode cX8_at 66 = .ok (.aload_n 0, 1) := by decide +kernel
theorem dX8_at_67 : decode cX8_at 67 = .ok (.getfield 79, 3) := by decide +kernel
theorem dX8_at_70 : decode cX8_at 70 = .ok (.i2l, 1) := by decide +kernel
theorem dX8_at_71 : decode cX8_at 71 = .ok (.lload_n 2, 1) := by decide +kernel
theorem dX8_at_72 : decode cX8_at 72 = .ok (.aload_n 0, 1) := by decide +kernel
theorem dX8_at_73 : decode cX8_at 73 = .ok (.getfield 79, 3) := by decide +kernel
theorem dX8_at_76 : decode cX8_at 76 = .ok (.i2l, 1) := by decide +kernel
theorem dX8_at_77 : decode cX8_at 77 = .ok (.lsub, 1) := by decide +kernel
theorem dX8_at_78 : decode cX8_at 78 = .ok (.aload_n 0, 1) := by decide +kernel
theorem dX8_at_79 : decode cX8_at 79 = .ok (.getfield 82, 3) := by decide +kernel
theorem dX8_at_82 : decode cX8_at 82 = .ok (.i2l, 1) := by decide +kernel
theorem dX8_at_83 : decode cX8_at 83 = .ok (.lrem, 1) := by decide +kernel
theorem dX8_at_84 : decode cX8_at 84 = .ok (.ladd, 1) := by decide +kernel
theorem dX8_at_85 : decode cX8_at 85 = .ok (.lstore_n 2, 1) := by decide +kernel
theorem dX8_at_86 : decode cX8_at 86 = .ok (.lload_n 2, 1) := by decide +kernel
theorem dX8_at_87 : decode cX8_at 87 = .ok (.aload_n 0, 1) := by decide +kernel
theorem dX8_at_88 : decode cX8_at 88 = .ok (.getfield 79, 3) := by decide +kernel
theorem dX8_at_91 : decode cX8_at 91 = .ok (.aload_n 0, 1) := by decide +kernel
theorem dX8_at_92 : decode cX8_at 92 = .ok (.getfield 82, 3) := by decide +kernel
theorem dX8_at_95 : decode cX8_at 95 = .ok (.iadd, 1) := by decide +kernel
theorem dX8_at_96 : decode cX8_at 96 = .ok (.i2l, 1) := by decide +kernel
theorem dX8_at_97 : decode cX8_at 97 = .ok (.lcmp, 1) := by decide +kernel
theorem dX8_at_98 : decode cX8_at 98 = .ok (.ifCond .ge 19, 3) := by decide +kernel
theorem dX8_at_101 : decode cX8_at 101 = .ok (.lload_n 2, 1) := by decide +kernel
theorem dX8_at_102 : decode cX8_at 102 = .ok (.ldc2_w 87, 3) := by decide +kernel
theorem dX8_at_105 : decode cX8_at 105 = .ok (.lcmp, 1) := by decide +kernel
theorem dX8_at_106 : decode cX8_at 106 = .ok (.ifCond .ge 11, 3) := by decide +kernel
theorem dX8_at_109 : decode cX8_at 109 = .ok (.aload_n 0, 1) := by decide +kernel
theorem dX8_at_110 : decode cX8_at 110 = .ok (.getfield 17, 3) := by decide +kernel
theorem dX8_at_113 : decode cX8_at 113 = .ok (.lload_n 2, 1) := by decide +kernel
theorem dX8_at_114 : decode cX8_at 114 = .ok (.l2i, 1) := by decide +kernel
theorem dX8_at_115 : decode cX8_at 115 = .ok (.iaload, 1) := by decide +kernel
theorem dX8_at_116 : decode cX8_at 116 = .ok (.ireturn, 1) := by decide +kernel
theorem dX8_at_117 : decode cX8_at 117 = .ok (.aload_n 0, 1) := by decide +kernel
theorem dX8_at_118 : decode cX8_at 118 = .ok (.getfield 20, 3) := by decide +kernel
theorem dX8_at_121 : decode cX8_at 121 = .ok (.iconst 2, 1) := by decide +kernel
theorem dX8_at_122 : decode cX8_at 122 = .ok (.if_icmp .ne 7, 3) := by decide +kernel
theorem dX8_at_125 : decode cX8_at 125 = .ok (.iconst (-1), 1) := by decide +kernel
theorem dX8_at_126 : decode cX8_at 126 = .ok (.goto 4, 3) := by decide +kernel
theorem dX8_at_129 : decode cX8_at 129 = .ok (.iconst 0, 1) := by decide +kernel
theorem dX8_at_130 : decode cX8_at 130 = .ok (.ireturn, 1) := by decide +kernel
theorem dX9_init_0 : decode cX9_init 0 = .ok (.aload_n 0, 1) := by decide +kernel
theorem dX9_init_1 : decode cX9_init 1 = .ok (.invokespecial 3, 3) := by decide +kernel
theorem dX9_init_4 : decode cX9_init 4 = .ok (.aload_n 0, 1) := by decide +kernel
theorem dX9_init_5 : decode cX9_init 5 = .ok (.sipush 401, 3) := by decide +kernel
theorem dX9_init_8 : decode cX9_init 8 = .ok (.newarray .long, 2) := by decide +kernel
theorem dX9_init_10 : decode cX9_init 10 = .ok (.putfield 11, 3) := by decide +kernel
theorem dX9_init_13 : decode cX9_init 13 = .ok (.aload_n 0, 1) := by decide +kernel
theorem dX9_init_14 : decode cX9_init 14 = .ok (.sipush 401, 3) := by decide +kernel
theorem dX9_init_17 : decode cX9_init 17 = .ok (.newarray .long, 2) := by decide +kernel
theorem dX9_init_19 : decode cX9_init 19 = .ok (.putfield 15, 3) := by decide +kernel
theorem dX9_init_22 : decode cX9_init 22 = .ok (.aload_n 0, 1) := by decide +kernel
theorem dX9_init_23 : decode cX9_init 23 = .ok (.sipush 401, 3) := by decide +kernel
theorem dX9_init_26 : decode cX9_init 26 = .ok (.newarray .int, 2) := by decide +kernel
theorem dX9_init_28 : decode cX9_init 28 = .ok (.putfield 18, 3) := by decide +kernel
theorem dX9_init_31 : decode cX9_init 31 = .ok (.aload_n 0, 1) := by decide +kernel
theorem dX9_init_32 : decode cX9_init 32 = .ok (.sipush 512, 3) := by decide +kernel
theorem dX9_init_35 : decode cX9_init 35 = .ok (.newarray .int, 2) := by decide +kernel
theorem dX9_init_37 : decode cX9_init 37 = .ok (.putfield 22, 3) := by decide +kernel
theorem dX9_init_40 : decode cX9_init 40 = .ok (.aload_n 0, 1) := by decide +kernel
theorem dX9_init_41 : decode cX9_init 41 = .ok (.sipush 512, 3) := by decide +kernel
theorem dX9_init_44 : decode cX9_init 44 = .ok (.newarray .int, 2) := by decide +kernel
theorem dX9_init_46 : decode cX9_init 46 = .ok (.putfield 25, 3) := by decide +kernel
theorem dX9_init_49 : decode cX9_init 49 = .ok (.return_, 1) := by decide +kernel
theorem dX9_clear_0 : decode cX9_clear 0 = .ok (.aload_n 0, 1) := by decide +kernel
theorem dX9_clear_1 : decode cX9_clear 1 = .ok (.dup, 1) := by decide +kernel
theorem dX9_clear_2 : decode cX9_clear 2 = .ok (.getfield 28, 3) := by decide +kernel
theorem dX9_clear_5 : decode cX9_clear 5 = .ok (.iconst 1, 1) := by decide +kernel
theorem dX9_clear_6 : decode cX9_clear 6 = .ok (.iadd, 1) := by decide +kernel
theorem dX9_clear_7 : decode cX9_clear 7 = .ok (.putfield 28, 3) := by decide +kernel
theorem dX9_clear_10 : decode cX9_clear 10 = .ok (.aload_n 0, 1) := by decide +kernel
theorem dX9_clear_11 : decode cX9_clear 11 = .ok (.iconst 0, 1) := by decide +kernel
theorem dX9_clear_12 : decode cX9_clear 12 = .ok (.putfield 32, 3) := by decide +kernel
theorem dX9_clear_15 : decode cX9_clear 15 = .ok (.return_, 1) := by decide +kernel
theorem dX9_meet_0 : decode cX9_meet 0 = .ok (.lload_n 1, 1) := by decide +kernel
theorem dX9_meet_1 : decode cX9_meet 1 = .ok (.ldc2_w 35, 3) := by decide +kernel
theorem dX9_meet_4 : decode cX9_meet 4 = .ok (.lmul, 1) := by decide +kernel
theorem dX9_meet_5 : decode cX9_meet 5 = .ok (.lload_n 3, 1) := by decide +kernel
theorem dX9_meet_6 : decode cX9_meet 6 = .ok (.ldc2_w 37, 3) := by decide +kernel
theorem dX9_meet_9 : decode cX9_meet 9 = .ok (.lmul, 1) := by decide +kernel
theorem dX9_meet_10 : decode cX9_meet 10 = .ok (.ladd, 1) := by decide +kernel
theorem dX9_meet_11 : decode cX9_meet 11 = .ok (.lstore 5, 2) := by decide +kernel
theorem dX9_meet_13 : decode cX9_meet 13 = .ok (.lload 5, 2) := by decide +kernel
theorem dX9_meet_15 : decode cX9_meet 15 = .ok (.bipush 32, 2) := by decide +kernel
theorem dX9_meet_17 : decode cX9_meet 17 = .ok (.lushr, 1) := by decide +kernel
theorem dX9_meet_18 : decode cX9_meet 18 = .ok (.l2i, 1) := by decide +kernel
theorem dX9_meet_19 : decode cX9_meet 19 = .ok (.sipush 511, 3) := by decide +kernel
theorem dX9_meet_22 : decode cX9_meet 22 = .ok (.iand, 1) := by decide +kernel
theorem dX9_meet_23 : decode cX9_meet 23 = .ok (.istore 7, 2) := by decide +kernel
theorem dX9_meet_25 : decode cX9_meet 25 = .ok (.aload_n 0, 1) := by decide +kernel
theorem dX9_meet_26 : decode cX9_meet 26 = .ok (.getfield 25, 3) := by decide +kernel
theorem dX9_meet_29 : decode cX9_meet 29 = .ok (.iload 7, 2) := by decide +kernel
theorem dX9_meet_31 : decode cX9_meet 31 = .ok (.iaload, 1) := by decide +kernel
theorem dX9_meet_32 : decode cX9_meet 32 = .ok (.aload_n 0, 1) := by decide +kernel
theorem dX9_meet_33 : decode cX9_meet 33 = .ok (.getfield 28, 3) := by decide +kernel
theorem dX9_meet_36 : decode cX9_meet 36 = .ok (.if_icmp .ne 13, 3) := by decide +kernel
theorem dX9_meet_39 : decode cX9_meet 39 = .ok (.aload_n 0, 1) := by decide +kernel
theorem dX9_meet_40 : decode cX9_meet 40 = .ok (.getfield 22, 3) := by decide +kernel
theorem dX9_meet_43 : decode cX9_meet 43 = .ok (.iload 7, 2) := by decide +kernel
theorem dX9_meet_45 : decode cX9_meet 45 = .ok (.iaload, 1) := by decide +kernel
theorem dX9_meet_46 : decode cX9_meet 46 = .ok (.goto 4, 3) := by decide +kernel
theorem dX9_meet_49 : decode cX9_meet 49 = .ok (.iconst (-1), 1) := by decide +kernel
theorem dX9_meet_50 : decode cX9_meet 50 = .ok (.istore 8, 2) := by decide +kernel
theorem dX9_meet_52 : decode cX9_meet 52 = .ok (.iconst 0, 1) := by decide +kernel
theorem dX9_meet_53 : decode cX9_meet 53 = .ok (.istore 9, 2) := by decide +kernel
theorem dX9_meet_55 : decode cX9_meet 55 = .ok (.iload 9, 2) := by decide +kernel
theorem dX9_meet_57 : decode cX9_meet 57 = .ok (.sipush 401, 3) := by decide +kernel
theorem dX9_meet_60 : decode cX9_meet 60 = .ok (.if_icmp .ge 59, 3) := by decide +kernel
theorem dX9_meet_63 : decode cX9_meet 63 = .ok (.iload 8, 2) := by decide +kernel
theorem dX9_meet_65 : decode cX9_meet 65 = .ok (.ifCond .lt 54, 3) := by decide +kernel
theorem dX9_meet_68 : decode cX9_meet 68 = .ok (.iload 8, 2) := by decide +kernel
theorem dX9_meet_70 : decode cX9_meet 70 = .ok (.aload_n 0, 1) := by decide +kernel
theorem dX9_meet_71 : decode cX9_meet 71 = .ok (.getfield 32, 3) := by decide +kernel
theorem dX9_meet_74 : decode cX9_meet 74 = .ok (.if_icmp .ge 45, 3) := by decide +kernel
theorem dX9_meet_77 : decode cX9_meet 77 = .ok (.aload_n 0, 1) := by decide +kernel
theorem dX9_meet_78 : decode cX9_meet 78 = .ok (.getfield 11, 3) := by decide +kernel
theorem dX9_meet_81 : decode cX9_meet 81 = .ok (.iload 8, 2) := by decide +kernel
theorem dX9_meet_83 : decode cX9_meet 83 = .ok (.laload, 1) := by decide +kernel
theorem dX9_meet_84 : decode cX9_meet 84 = .ok (.lload_n 1, 1) := by decide +kernel
theorem dX9_meet_85 : decode cX9_meet 85 = .ok (.lcmp, 1) := by decide +kernel
theorem dX9_meet_86 : decode cX9_meet 86 = .ok (.ifCond .ne 18, 3) := by decide +kernel
theorem dX9_meet_89 : decode cX9_meet 89 = .ok (.aload_n 0, 1) := by decide +kernel
theorem dX9_meet_90 : decode cX9_meet 90 = .ok (.getfield 15, 3) := by decide +kernel
theorem dX9_meet_93 : decode cX9_meet 93 = .ok (.iload 8, 2) := by decide +kernel
theorem dX9_meet_95 : decode cX9_meet 95 = .ok (.laload, 1) := by decide +kernel
theorem dX9_meet_96 : decode cX9_meet 96 = .ok (.lload_n 3, 1) := by decide +kernel
theorem dX9_meet_97 : decode cX9_meet 97 = .ok (.lcmp, 1) := by decide +kernel
theorem dX9_meet_98 : decode cX9_meet 98 = .ok (.ifCond .ne 6, 3) := by decide +kernel
theorem dX9_meet_101 : decode cX9_meet 101 = .ok (.iload 8, 2) := by decide +kernel
theorem dX9_meet_103 : decode cX9_meet 103 = .ok (.ireturn, 1) := by decide +kernel
theorem dX9_meet_104 : decode cX9_meet 104 = .ok (.aload_n 0, 1) := by decide +kernel
theorem dX9_meet_105 : decode cX9_meet 105 = .ok (.getfield 18, 3) := by decide +kernel
theorem dX9_meet_108 : decode cX9_meet 108 = .ok (.iload 8, 2) := by decide +kernel
theorem dX9_meet_110 : decode cX9_meet 110 = .ok (.iaload, 1) := by decide +kernel
theorem dX9_meet_111 : decode cX9_meet 111 = .ok (.istore 8, 2) := by decide +kernel
theorem dX9_meet_113 : decode cX9_meet 113 = .ok (.iinc 9 1, 3) := by decide +kernel
theorem dX9_meet_116 : decode cX9_meet 116 = .ok (.goto (-61), 3) := by decide +kernel
theorem dX9_meet_119 : decode cX9_meet 119 = .ok (.aload_n 0, 1) := by decide +kernel
theorem dX9_meet_120 : decode cX9_meet 120 = .ok (.iload 7, 2) := by decide +kernel
theorem dX9_meet_122 : decode cX9_meet 122 = .ok (.lload_n 1, 1) := by decide +kernel
theorem dX9_meet_123 : decode cX9_meet 123 = .ok (.lload_n 3, 1) := by decide +kernel
theorem dX9_meet_124 : decode cX9_meet 124 = .ok (.invokevirtual 39, 3) := by decide +kernel
theorem dX9_meet_127 : decode cX9_meet 127 = .ok (.iconst (-1), 1) := by decide +kernel
theorem dX9_meet_128 : decode cX9_meet 128 = .ok (.ireturn, 1) := by decide +kernel
theorem dX9_append_0 : decode cX9_append 0 = .ok (.aload_n 0, 1) := by decide +kernel
theorem dX9_append_1 : decode cX9_append 1 = .ok (.getfield 32, 3) := by decide +kernel
theorem dX9_append_4 : decode cX9_append 4 = .ok (.sipush 401, 3) := by decide +kernel
theorem dX9_append_7 : decode cX9_append 7 = .ok (.if_icmp .lt 4, 3) := by decide +kernel
theorem dX9_append_10 : decode cX9_append 10 = .ok (.return_, 1) := by decide +kernel
theorem dX9_append_11 : decode cX9_append 11 = .ok (.aload_n 0, 1) := by decide +kernel
theorem dX9_append_12 : decode cX9_append 12 = .ok (.getfield 11, 3) := by decide +kernel
theorem dX9_append_15 : decode cX9_append 15 = .ok (.aload_n 0, 1) := by decide +kernel
theorem dX9_append_16 : decode cX9_append 16 = .ok (.getfield 32, 3) := by decide +kernel
theorem dX9_append_19 : decode cX9_append 19 = .ok (.lload_n 2, 1) := by decide +kernel
theorem dX9_append_20 : decode cX9_append 20 = .ok (.lastore, 1) := by decide +kernel
theorem dX9_append_21 : decode cX9_append 21 = .ok (.aload_n 0, 1) := by decide +kernel
theorem dX9_append_22 : decode cX9_append 22 = .ok (.getfield 15, 3) := by decide +kernel
theorem dX9_append_25 : decode cX9_append 25 = .ok (.aload_n 0, 1) := by decide +kernel
theorem dX9_append_26 : decode cX9_append 26 = .ok (.getfield 32, 3) := by decide +kernel
theorem dX9_append_29 : decode cX9_append 29 = .ok (.lload 4, 2) := by decide +kernel
theorem dX9_append_31 : decode cX9_append 31 = .ok (.lastore, 1) := by decide +kernel
theorem dX9_append_32 : decode cX9_append 32 = .ok (.aload_n 0, 1) := by decide +kernel
theorem dX9_append_33 : decode cX9_append 33 = .ok (.getfield 18, 3) := by decide +kernel
theorem dX9_append_36 : decode cX9_append 36 = .ok (.aload_n 0, 1) := by decide +kernel
theorem dX9_append_37 : decode cX9_append 37 = .ok (.getfield 32, 3) := by decide +kernel
theorem dX9_append_40 : decode cX9_append 40 = .ok (.aload_n 0, 1) := by decide +kernel
theorem dX9_append_41 : decode cX9_append 41 = .ok (.getfield 25, 3) := by decide +kernel
theorem dX9_append_44 : decode cX9_append 44 = .ok (.iload_n 1, 1) := by decide +kernel
theorem dX9_append_45 : decode cX9_append 45 = .ok (.iaload, 1) := by decide +kernel
theorem dX9_append_46 : decode cX9_append 46 = .ok (.aload_n 0, 1) := by decide +kernel
theorem dX9_append_47 : decode cX9_append 47 = .ok (.getfield 28, 3) := by decide +kernel
theorem dX9_append_50 : decode cX9_append 50 = .ok (.if_icmp .ne 12, 3) := by decide +kernel
theorem dX9_append_53 : decode cX9_append 53 = .ok (.aload_n 0, 1) := by decide +kernel
theorem dX9_append_54 : decode cX9_append 54 = .ok (.getfield 22, 3) := by decide +kernel
theorem dX9_append_57 : decode cX9_append 57 = .ok (.iload_n 1, 1) := by decide +kernel
theorem dX9_append_58 : decode cX9_append 58 = .ok (.iaload, 1) := by decide +kernel
theorem dX9_append_59 : decode cX9_append 59 = .ok (.goto 4, 3) := by decide +kernel
theorem dX9_append_62 : decode cX9_append 62 = .ok (.iconst (-1), 1) := by decide +kernel
theorem dX9_append_63 : decode cX9_append 63 = .ok (.iastore, 1) := by decide +kernel
theorem dX9_append_64 : decode cX9_append 64 = .ok (.aload_n 0, 1) := by decide +kernel
theorem dX9_append_65 : decode cX9_append 65 = .ok (.getfield 22, 3) := by decide +kernel
theorem dX9_append_68 : decode cX9_append 68 = .ok (.iload_n 1, 1) := by decide +kernel
theorem dX9_append_69 : decode cX9_append 69 = .ok (.aload_n 0, 1) := by decide +kernel
theorem dX9_append_70 : decode cX9_append 70 = .ok (.getfield 32, 3) := by decide +kernel
theorem dX9_append_73 : decode cX9_append 73 = .ok (.iastore, 1) := by decide +kernel
theorem dX9_append_74 : decode cX9_append 74 = .ok (.aload_n 0, 1) := by decide +kernel
theorem dX9_append_75 : decode cX9_append 75 = .ok (.getfield 25, 3) := by decide +kernel
theorem dX9_append_78 : decode cX9_append 78 = .ok (.iload_n 1, 1) := by decide +kernel
theorem dX9_append_79 : decode cX9_append 79 = .ok (.aload_n 0, 1) := by decide +kernel
theorem dX9_append_80 : decode cX9_append 80 = .ok (.getfield 28, 3) := by decide +kernel
theorem dX9_append_83 : decode cX9_append 83 = .ok (.iastore, 1) := by decide +kernel
theorem dX9_append_84 : decode cX9_append 84 = .ok (.aload_n 0, 1) := by decide +kernel
theorem dX9_append_85 : decode cX9_append 85 = .ok (.dup, 1) := by decide +kernel
theorem dX9_append_86 : decode cX9_append 86 = .ok (.getfield 32, 3) := by decide +kernel
theorem dX9_append_89 : decode cX9_append 89 = .ok (.iconst 1, 1) := by decide +kernel
theorem dX9_append_90 : decode cX9_append 90 = .ok (.iadd, 1) := by decide +kernel
theorem dX9_append_91 : decode cX9_append 91 = .ok (.putfield 32, 3) := by decide +kernel
theorem dX9_append_94 : decode cX9_append 94 = .ok (.return_, 1) := by decide +kernel
theorem dX9_firstAt_0 : decode cX9_firstAt 0 = .ok (.iload_n 1, 1) := by decide +kernel
theorem dX9_firstAt_1 : decode cX9_firstAt 1 = .ok (.ifCond .lt 20, 3) := by decide +kernel
theorem dX9_firstAt_4 : decode cX9_firstAt 4 = .ok (.iload_n 1, 1) := by decide +kernel
theorem dX9_firstAt_5 : decode cX9_firstAt 5 = .ok (.aload_n 0, 1) := by decide +kernel
theorem dX9_firstAt_6 : decode cX9_firstAt 6 = .ok (.getfield 32, 3) := by decide +kernel
theorem dX9_firstAt_9 : decode cX9_firstAt 9 = .ok (.if_icmp .ge 12, 3) := by decide +kernel
theorem dX9_firstAt_12 : decode cX9_firstAt 12 = .ok (.aload_n 0, 1) := by decide +kernel
theorem dX9_firstAt_13 : decode cX9_firstAt 13 = .ok (.getfield 11, 3) := by decide +kernel
theorem dX9_firstAt_16 : decode cX9_firstAt 16 = .ok (.iload_n 1, 1) := by decide +kernel
theorem dX9_firstAt_17 : decode cX9_firstAt 17 = .ok (.laload, 1) := by decide +kernel
theorem dX9_firstAt_18 : decode cX9_firstAt 18 = .ok (.goto 4, 3) := by decide +kernel
theorem dX9_firstAt_21 : decode cX9_firstAt 21 = .ok (.lconst 0, 1) := by decide +kernel
theorem dX9_firstAt_22 : decode cX9_firstAt 22 = .ok (.lreturn, 1) := by decide +kernel
theorem dX9_secondAt_0 : decode cX9_secondAt 0 = .ok (.iload_n 1, 1) := by decide +kernel
theorem dX9_secondAt_1 : decode cX9_secondAt 1 = .ok (.ifCond .lt 20, 3) := by decide +kernel
theorem dX9_secondAt_4 : decode cX9_secondAt 4 = .ok (.iload_n 1, 1) := by decide +kernel
theorem dX9_secondAt_5 : decode cX9_secondAt 5 = .ok (.aload_n 0, 1) := by decide +kernel
theorem dX9_secondAt_6 : decode cX9_secondAt 6 = .ok (.getfield 32, 3) := by decide +kernel
theorem dX9_secondAt_9 : decode cX9_secondAt 9 = .ok (.if_icmp .ge 12, 3) := by decide +kernel
theorem dX9_secondAt_12 : decode cX9_secondAt 12 = .ok (.aload_n 0, 1) := by decide +kernel
theorem dX9_secondAt_13 : decode cX9_secondAt 13 = .ok (.getfield 15, 3) := by decide +kernel
theorem dX9_secondAt_16 : decode cX9_secondAt 16 = .ok (.iload_n 1, 1) := by decide +kernel
theorem dX9_secondAt_17 : decode cX9_secondAt 17 = .ok (.laload, 1) := by decide +kernel
theorem dX9_secondAt_18 : decode cX9_secondAt 18 = .ok (.goto 4, 3) := by decide +kernel
theorem dX9_secondAt_21 : decode cX9_secondAt 21 = .ok (.lconst 0, 1) := by decide +kernel
theorem dX9_secondAt_22 : decode cX9_secondAt 22 = .ok (.lreturn, 1) := by decide +kernel
theorem dX9_leastOf_0 : decode cX9_leastOf 0 = .ok (.iload_n 1, 1) := by decide +kernel
theorem dX9_leastOf_1 : decode cX9_leastOf 1 = .ok (.istore_n 3, 1) := by decide +kernel
theorem dX9_leastOf_2 : decode cX9_leastOf 2 = .ok (.iload_n 1, 1) := by decide +kernel
theorem dX9_leastOf_3 : decode cX9_leastOf 3 = .ok (.iconst 1, 1) := by decide +kernel
theorem dX9_leastOf_4 : decode cX9_leastOf 4 = .ok (.iadd, 1) := by decide +kernel
theorem dX9_leastOf_5 : decode cX9_leastOf 5 = .ok (.istore 4, 2) := by decide +kernel
theorem dX9_leastOf_7 : decode cX9_leastOf 7 = .ok (.iload 4, 2) := by decide +kernel
theorem dX9_leastOf_9 : decode cX9_leastOf 9 = .ok (.iload_n 1, 1) := by decide +kernel
theorem dX9_leastOf_10 : decode cX9_leastOf 10 = .ok (.iload_n 2, 1) := by decide +kernel
theorem dX9_leastOf_11 : decode cX9_leastOf 11 = .ok (.iadd, 1) := by decide +kernel
theorem dX9_leastOf_12 : decode cX9_leastOf 12 = .ok (.if_icmp .ge 55, 3) := by decide +kernel
theorem dX9_leastOf_15 : decode cX9_leastOf 15 = .ok (.aload_n 0, 1) := by decide +kernel
theorem dX9_leastOf_16 : decode cX9_leastOf 16 = .ok (.iload 4, 2) := by decide +kernel
theorem dX9_leastOf_18 : decode cX9_leastOf 18 = .ok (.invokevirtual 43, 3) := by decide +kernel
theorem dX9_leastOf_21 : decode cX9_leastOf 21 = .ok (.aload_n 0, 1) := by decide +kernel
theorem dX9_leastOf_22 : decode cX9_leastOf 22 = .ok (.iload_n 3, 1) := by decide +kernel
theorem dX9_leastOf_23 : decode cX9_leastOf 23 = .ok (.invokevirtual 43, 3) := by decide +kernel
theorem dX9_leastOf_26 : decode cX9_leastOf 26 = .ok (.lsub, 1) := by decide +kernel
theorem dX9_leastOf_27 : decode cX9_leastOf 27 = .ok (.lstore 5, 2) := by decide +kernel
theorem dX9_leastOf_29 : decode cX9_leastOf 29 = .ok (.lload 5, 2) := by decide +kernel
theorem dX9_leastOf_31 : decode cX9_leastOf 31 = .ok (.lconst 0, 1) := by decide +kernel
theorem dX9_leastOf_32 : decode cX9_leastOf 32 = .ok (.lcmp, 1) := by decide +kernel
theorem dX9_leastOf_33 : decode cX9_leastOf 33 = .ok (.ifCond .lt 25, 3) := by decide +kernel
theorem dX9_leastOf_36 : decode cX9_leastOf 36 = .ok (.lload 5, 2) := by decide +kernel
theorem dX9_leastOf_38 : decode cX9_leastOf 38 = .ok (.lconst 0, 1) := by decide +kernel
theorem dX9_leastOf_39 : decode cX9_leastOf 39 = .ok (.lcmp, 1) := by decide +kernel
theorem dX9_leastOf_40 : decode cX9_leastOf 40 = .ok (.ifCond .ne 21, 3) := by decide +kernel
theorem dX9_leastOf_43 : decode cX9_leastOf 43 = .ok (.aload_n 0, 1) := by decide +kernel
theorem dX9_leastOf_44 : decode cX9_leastOf 44 = .ok (.iload 4, 2) := by decide +kernel
theorem dX9_leastOf_46 : decode cX9_leastOf 46 = .ok (.invokevirtual 47, 3) := by decide +kernel
theorem dX9_leastOf_49 : decode cX9_leastOf 49 = .ok (.aload_n 0, 1) := by decide +kernel
theorem dX9_leastOf_50 : decode cX9_leastOf 50 = .ok (.iload_n 3, 1) := by decide +kernel
theorem dX9_leastOf_51 : decode cX9_leastOf 51 = .ok (.invokevirtual 47, 3) := by decide +kernel
theorem dX9_leastOf_54 : decode cX9_leastOf 54 = .ok (.lcmp, 1) := by decide +kernel
theorem dX9_leastOf_55 : decode cX9_leastOf 55 = .ok (.ifCond .ge 6, 3) := by decide +kernel
theorem dX9_leastOf_58 : decode cX9_leastOf 58 = .ok (.iload 4, 2) := by decide +kernel
theorem dX9_leastOf_60 : decode cX9_leastOf 60 = .ok (.istore_n 3, 1) := by decide +kernel
theorem dX9_leastOf_61 : decode cX9_leastOf 61 = .ok (.iinc 4 1, 3) := by decide +kernel
theorem dX9_leastOf_64 : decode cX9_leastOf 64 = .ok (.goto (-57), 3) := by decide +kernel
theorem dX9_leastOf_67 : decode cX9_leastOf 67 = .ok (.iload_n 3, 1) := by decide +kernel
theorem dX9_leastOf_68 : decode cX9_leastOf 68 = .ok (.ireturn, 1) := by decide +kernel
theorem dX10_init_0 : decode cX10_init 0 = .ok (.aload_n 0, 1) := by decide +kernel
theorem dX10_init_1 : decode cX10_init 1 = .ok (.invokespecial 3, 3) := by decide +kernel
theorem dX10_init_4 : decode cX10_init 4 = .ok (.aload_n 0, 1) := by decide +kernel
theorem dX10_init_5 : decode cX10_init 5 = .ok (.sipush 300, 3) := by decide +kernel
theorem dX10_init_8 : decode cX10_init 8 = .ok (.newarray .int, 2) := by decide +kernel
theorem dX10_init_10 : decode cX10_init 10 = .ok (.putfield 11, 3) := by decide +kernel
theorem dX10_init_13 : decode cX10_init 13 = .ok (.aload_n 0, 1) := by decide +kernel
theorem dX10_init_14 : decode cX10_init 14 = .ok (.iconst (-1), 1) := by decide +kernel
theorem dX10_init_15 : decode cX10_init 15 = .ok (.putfield 15, 3) := by decide +kernel
theorem dX10_init_18 : decode cX10_init 18 = .ok (.return_, 1) := by decide +kernel
theorem dX10_go_0 : decode cX10_go 0 = .ok (.lload_n 3, 1) := by decide +kernel
theorem dX10_go_1 : decode cX10_go 1 = .ok (.lstore 7, 2) := by decide +kernel
theorem dX10_go_3 : decode cX10_go 3 = .ok (.lload 5, 2) := by decide +kernel
theorem dX10_go_5 : decode cX10_go 5 = .ok (.lstore 9, 2) := by decide +kernel
theorem dX10_go_7 : decode cX10_go 7 = .ok (.aload_n 2, 1) := by decide +kernel
theorem dX10_go_8 : decode cX10_go 8 = .ok (.invokevirtual 19, 3) := by decide +kernel
theorem dX10_go_11 : decode cX10_go 11 = .ok (.iconst 0, 1) := by decide +kernel
theorem dX10_go_12 : decode cX10_go 12 = .ok (.istore 11, 2) := by decide +kernel
theorem dX10_go_14 : decode cX10_go 14 = .ok (.iload 11, 2) := by decide +kernel
theorem dX10_go_16 : decode cX10_go 16 = .ok (.sipush 300, 3) := by decide +kernel
theorem dX10_go_19 : decode cX10_go 19 = .ok (.if_icmp .gt 127, 3) := by decide +kernel
theorem dX10_go_22 : decode cX10_go 22 = .ok (.lload 7, 2) := by decide +kernel
theorem dX10_go_24 : decode cX10_go 24 = .ok (.lconst 0, 1) := by decide +kernel
theorem dX10_go_25 : decode cX10_go 25 = .ok (.lcmp, 1) := by decide +kernel
theorem dX10_go_26 : decode cX10_go 26 = .ok (.ifCond .ne 19, 3) := by decide +kernel
theorem dX10_go_29 : decode cX10_go 29 = .ok (.lload 9, 2) := by decide +kernel
theorem dX10_go_31 : decode cX10_go 31 = .ok (.lconst 0, 1) := by decide +kernel
theorem dX10_go_32 : decode cX10_go 32 = .ok (.lcmp, 1) := by decide +kernel
theorem dX10_go_33 : decode cX10_go 33 = .ok (.ifCond .ne 12, 3) := by decide +kernel
theorem dX10_go_36 : decode cX10_go 36 = .ok (.aload_n 0, 1) := by decide +kernel
theorem dX10_go_37 : decode cX10_go 37 = .ok (.iconst 0, 1) := by decide +kernel
theorem dX10_go_38 : decode cX10_go 38 = .ok (.iload 11, 2) := by decide +kernel
theorem dX10_go_40 : decode cX10_go 40 = .ok (.iconst 0, 1) := by decide +kernel
theorem dX10_go_41 : decode cX10_go 41 = .ok (.invokevirtual 24, 3) := by decide +kernel
theorem dX10_go_44 : decode cX10_go 44 = .ok (.return_, 1) := by decide +kernel
theorem dX10_go_45 : decode cX10_go 45 = .ok (.lload 7, 2) := by decide +kernel
theorem dX10_go_47 : decode cX10_go 47 = .ok (.ldc2_w 28, 3) := by decide +kernel
theorem dX10_go_50 : decode cX10_go 50 = .ok (.invokestatic 30, 3) := by decide +kernel
theorem dX10_go_53 : decode cX10_go 53 = .ok (.ifCond .ne 14, 3) := by decide +kernel
theorem dX10_go_56 : decode cX10_go 56 = .ok (.lload 9, 2) := by decide +kernel
theorem dX10_go_58 : decode cX10_go 58 = .ok (.ldc2_w 28, 3) := by decide +kernel
theorem dX10_go_61 : decode cX10_go 61 = .ok (.invokestatic 30, 3) := by decide +kernel
theorem dX10_go_64 : decode cX10_go 64 = .ok (.ifCond .eq 12, 3) := by decide +kernel
theorem dX10_go_67 : decode cX10_go 67 = .ok (.aload_n 0, 1) := by decide +kernel
theorem dX10_go_68 : decode cX10_go 68 = .ok (.iconst 2, 1) := by decide +kernel
theorem dX10_go_69 : decode cX10_go 69 = .ok (.iload 11, 2) := by decide +kernel
theorem dX10_go_71 : decode cX10_go 71 = .ok (.iconst 0, 1) := by decide +kernel
theorem dX10_go_72 : decode cX10_go 72 = .ok (.invokevirtual 24, 3) := by decide +kernel
theorem dX10_go_75 : decode cX10_go 75 = .ok (.return_, 1) := by decide +kernel
theorem dX10_go_76 : decode cX10_go 76 = .ok (.aload_n 2, 1) := by decide +kernel
theorem dX10_go_77 : decode cX10_go 77 = .ok (.lload 7, 2) := by decide +kernel
theorem dX10_go_79 : decode cX10_go 79 = .ok (.lload 9, 2) := by decide +kernel
theorem dX10_go_81 : decode cX10_go 81 = .ok (.invokevirtual 34, 3) := by decide +kernel
theorem dX10_go_84 : decode cX10_go 84 = .ok (.istore 12, 2) := by decide +kernel
theorem dX10_go_86 : decode cX10_go 86 = .ok (.iload 12, 2) := by decide +kernel
theorem dX10_go_88 : decode cX10_go 88 = .ok (.iconst (-1), 1) := by decide +kernel
theorem dX10_go_89 : decode cX10_go 89 = .ok (.if_icmp .eq 16, 3) := by decide +kernel
theorem dX10_go_92 : decode cX10_go 92 = .ok (.aload_n 0, 1) := by decide +kernel
theorem dX10_go_93 : decode cX10_go 93 = .ok (.iconst 1, 1) := by decide +kernel
theorem dX10_go_94 : decode cX10_go 94 = .ok (.iload 12, 2) := by decide +kernel
theorem dX10_go_96 : decode cX10_go 96 = .ok (.iload 11, 2) := by decide +kernel
theorem dX10_go_98 : decode cX10_go 98 = .ok (.iload 12, 2) := by decide +kernel
theorem dX10_go_100 : decode cX10_go 100 = .ok (.isub, 1) := by decide +kernel
theorem dX10_go_101 : decode cX10_go 101 = .ok (.invokevirtual 24, 3) := by decide +kernel
theorem dX10_go_104 : decode cX10_go 104 = .ok (.return_, 1) := by decide +kernel
theorem dX10_go_105 : decode cX10_go 105 = .ok (.iload 11, 2) := by decide +kernel
theorem dX10_go_107 : decode cX10_go 107 = .ok (.sipush 300, 3) := by decide +kernel
theorem dX10_go_110 : decode cX10_go 110 = .ok (.if_icmp .ge 30, 3) := by decide +kernel
theorem dX10_go_113 : decode cX10_go 113 = .ok (.aload_n 0, 1) := by decide +kernel
theorem dX10_go_114 : decode cX10_go 114 = .ok (.getfield 11, 3) := by decide +kernel
theorem dX10_go_117 : decode cX10_go 117 = .ok (.iload 11, 2) := by decide +kernel
theorem dX10_go_119 : decode cX10_go 119 = .ok (.aload_n 1, 1) := by decide +kernel
theorem dX10_go_120 : decode cX10_go 120 = .ok (.lload 7, 2) := by decide +kernel
theorem dX10_go_122 : decode cX10_go 122 = .ok (.lload 9, 2) := by decide +kernel
theorem dX10_go_124 : decode cX10_go 124 = .ok (.invokevirtual 38, 3) := by decide +kernel
theorem dX10_go_127 : decode cX10_go 127 = .ok (.iastore, 1) := by decide +kernel
theorem dX10_go_128 : decode cX10_go 128 = .ok (.aload_n 1, 1) := by decide +kernel
theorem dX10_go_129 : decode cX10_go 129 = .ok (.getfield 43, 3) := by decide +kernel
theorem dX10_go_132 : decode cX10_go 132 = .ok (.lstore 7, 2) := by decide +kernel
theorem dX10_go_134 : decode cX10_go 134 = .ok (.aload_n 1, 1) := by decide +kernel
theorem dX10_go_135 : decode cX10_go 135 = .ok (.getfield 47, 3) := by decide +kernel
theorem dX10_go_138 : decode cX10_go 138 = .ok (.lstore 9, 2) := by decide +kernel
theorem dX10_go_140 : decode cX10_go 140 = .ok (.iinc 11 1, 3) := by decide +kernel
theorem dX10_go_143 : decode cX10_go 143 = .ok (.goto (-129), 3) := by decide +kernel
theorem dX10_go_146 : decode cX10_go 146 = .ok (.aload_n 0, 1) := by decide +kernel
theorem dX10_go_147 : decode cX10_go 147 = .ok (.iconst 2, 1) := by decide +kernel
theorem dX10_go_148 : decode cX10_go 148 = .ok (.sipush 300, 3) := by decide +kernel
theorem dX10_go_151 : decode cX10_go 151 = .ok (.iconst 0, 1) := by decide +kernel
theorem dX10_go_152 : decode cX10_go 152 = .ok (.invokevirtual 24, 3) := by decide +kernel
theorem dX10_go_155 : decode cX10_go 155 = .ok (.return_, 1) := by decide +kernel
theorem dX10_settle_0 : decode cX10_settle 0 = .ok (.aload_n 0, 1) := by decide +kernel
theorem dX10_settle_1 : decode cX10_settle 1 = .ok (.iload_n 1, 1) := by decide +kernel
theorem dX10_settle_2 : decode cX10_settle 2 = .ok (.putfield 15, 3) := by decide +kernel
theorem dX10_settle_5 : decode cX10_settle 5 = .ok (.aload_n 0, 1) := by decide +kernel
theorem dX10_settle_6 : decode cX10_settle 6 = .ok (.iload_n 2, 1) := by decide +kernel
theorem dX10_settle_7 : decode cX10_settle 7 = .ok (.putfield 50, 3) := by decide +kernel
theorem dX10_settle_10 : decode cX10_settle 10 = .ok (.aload_n 0, 1) := by decide +kernel
theorem dX10_settle_11 : decode cX10_settle 11 = .ok (.iload_n 3, 1) := by decide +kernel
theorem dX10_settle_12 : decode cX10_settle 12 = .ok (.putfield 53, 3) := by decide +kernel
theorem dX10_settle_15 : decode cX10_settle 15 = .ok (.return_, 1) := by decide +kernel
theorem dX10_at_0 : decode cX10_at 0 = .ok (.aload_n 0, 1) := by decide +kernel
theorem dX10_at_1 : decode cX10_at 1 = .ok (.getfield 15, 3) := by decide +kernel
theorem dX10_at_4 : decode cX10_at 4 = .ok (.iconst (-1), 1) := by decide +kernel
theorem dX10_at_5 : decode cX10_at 5 = .ok (.if_icmp .eq 31, 3) := by decide +kernel
theorem dX10_at_8 : decode cX10_at 8 = .ok (.iload_n 1, 1) := by decide +kernel
theorem dX10_at_9 : decode cX10_at 9 = .ok (.ifCond .lt 27, 3) := by decide +kernel
theorem dX10_at_12 : decode cX10_at 12 = .ok (.iload_n 1, 1) := by decide +kernel
theorem dX10_at_13 : decode cX10_at 13 = .ok (.aload_n 0, 1) := by decide +kernel
theorem dX10_at_14 : decode cX10_at 14 = .ok (.getfield 50, 3) := by decide +kernel
theorem dX10_at_17 : decode cX10_at 17 = .ok (.aload_n 0, 1) := by decide +kernel
theorem dX10_at_18 : decode cX10_at 18 = .ok (.getfield 53, 3) := by decide +kernel
theorem dX10_at_21 : decode cX10_at 21 = .ok (.iadd, 1) := by decide +kernel
theorem dX10_at_22 : decode cX10_at 22 = .ok (.if_icmp .ge 14, 3) := by decide +kernel
theorem dX10_at_25 : decode cX10_at 25 = .ok (.iload_n 1, 1) := by decide +kernel
theorem dX10_at_26 : decode cX10_at 26 = .ok (.sipush 300, 3) := by decide +kernel
theorem dX10_at_29 : decode cX10_at 29 = .ok (.if_icmp .ge 7, 3) := by decide +kernel
theorem dX10_at_32 : decode cX10_at 32 = .ok (.iconst 1, 1) := by decide +kernel
theorem dX10_at_33 : decode cX10_at 33 = .ok (.goto 4, 3) := by decide +kernel
theorem dX10_at_36 : decode cX10_at 36 = .ok (.iconst 0, 1) := by decide +kernel
theorem dX10_at_37 : decode cX10_at 37 = .ok (.istore_n 2, 1) := by decide +kernel
theorem dX10_at_38 : decode cX10_at 38 = .ok (.iload_n 2, 1) := by decide +kernel
theorem dX10_at_39 : decode cX10_at 39 = .ok (.ifCond .eq 12, 3) := by decide +kernel
theorem dX10_at_42 : decode cX10_at 42 = .ok (.aload_n 0, 1) := by decide +kernel
theorem dX10_at_43 : decode cX10_at 43 = .ok (.getfield 11, 3) := by decide +kernel
theorem dX10_at_46 : decode cX10_at 46 = .ok (.iload_n 1, 1) := by decide +kernel
theorem dX10_at_47 : decode cX10_at 47 = .ok (.iaload, 1) := by decide +kernel
theorem dX10_at_48 : decode cX10_at 48 = .ok (.goto 4, 3) := by decide +kernel
theorem dX10_at_51 : decode cX10_at 51 = .ok (.iconst (-1), 1) := by decide +kernel
theorem dX10_at_52 : decode cX10_at 52 = .ok (.ireturn, 1) := by decide +kernel
theorem dX11_init_0 : decode cX11_init 0 = .ok (.aload_n 0, 1) := by decide +kernel
theorem dX11_init_1 : decode cX11_init 1 = .ok (.invokespecial 1, 3) := by decide +kernel
theorem dX11_init_4 : decode cX11_init 4 = .ok (.aload_n 0, 1) := by decide +kernel
theorem dX11_init_5 : decode cX11_init 5 = .ok (.new 7, 3) := by decide +kernel
theorem dX11_init_8 : decode cX11_init 8 = .ok (.dup, 1) := by decide +kernel
theorem dX11_init_9 : decode cX11_init 9 = .ok (.invokespecial 9, 3) := by decide +kernel
theorem dX11_init_12 : decode cX11_init 12 = .ok (.putfield 10, 3) := by decide +kernel
theorem dX11_init_15 : decode cX11_init 15 = .ok (.aload_n 0, 1) := by decide +kernel
theorem dX11_init_16 : decode cX11_init 16 = .ok (.new 16, 3) := by decide +kernel
theorem dX11_init_19 : decode cX11_init 19 = .ok (.dup, 1) := by decide +kernel
theorem dX11_init_20 : decode cX11_init 20 = .ok (.invokespecial 18, 3) := by decide +kernel
theorem dX11_init_23 : decode cX11_init 23 = .ok (.putfield 19, 3) := by decide +kernel
theorem dX11_init_26 : decode cX11_init 26 = .ok (.aload_n 0, 1) := by decide +kernel
theorem dX11_init_27 : decode cX11_init 27 = .ok (.bipush 10, 2) := by decide +kernel
theorem dX11_init_29 : decode cX11_init 29 = .ok (.anewarray 23, 3) := by decide +kernel
theorem dX11_init_32 : decode cX11_init 32 = .ok (.putfield 25, 3) := by decide +kernel
theorem dX11_init_35 : decode cX11_init 35 = .ok (.iconst 0, 1) := by decide +kernel
theorem dX11_init_36 : decode cX11_init 36 = .ok (.istore_n 1, 1) := by decide +kernel
theorem dX11_init_37 : decode cX11_init 37 = .ok (.iload_n 1, 1) := by decide +kernel
theorem dX11_init_38 : decode cX11_init 38 = .ok (.bipush 10, 2) := by decide +kernel
theorem dX11_init_40 : decode cX11_init 40 = .ok (.if_icmp .ge 22, 3) := by decide +kernel
theorem dX11_init_43 : decode cX11_init 43 = .ok (.aload_n 0, 1) := by decide +kernel
theorem dX11_init_44 : decode cX11_init 44 = .ok (.getfield 25, 3) := by decide +kernel
theorem dX11_init_47 : decode cX11_init 47 = .ok (.iload_n 1, 1) := by decide +kernel
theorem dX11_init_48 : decode cX11_init 48 = .ok (.new 23, 3) := by decide +kernel
theorem dX11_init_51 : decode cX11_init 51 = .ok (.dup, 1) := by decide +kernel
theorem dX11_init_52 : decode cX11_init 52 = .ok (.invokespecial 29, 3) := by decide +kernel
theorem dX11_init_55 : decode cX11_init 55 = .ok (.aastore, 1) := by decide +kernel
theorem dX11_init_56 : decode cX11_init 56 = .ok (.iinc 1 1, 3) := by decide +kernel
theorem dX11_init_59 : decode cX11_init 59 = .ok (.goto (-22), 3) := by decide +kernel
theorem dX11_init_62 : decode cX11_init 62 = .ok (.aload_n 0, 1) := by decide +kernel
theorem dX11_init_63 : decode cX11_init 63 = .ok (.new 30, 3) := by decide +kernel
theorem dX11_init_66 : decode cX11_init 66 = .ok (.dup, 1) := by decide +kernel
theorem dX11_init_67 : decode cX11_init 67 = .ok (.invokespecial 32, 3) := by decide +kernel
theorem dX11_init_70 : decode cX11_init 70 = .ok (.putfield 33, 3) := by decide +kernel
theorem dX11_init_73 : decode cX11_init 73 = .ok (.aload_n 0, 1) := by decide +kernel
theorem dX11_init_74 : decode cX11_init 74 = .ok (.new 37, 3) := by decide +kernel
theorem dX11_init_77 : decode cX11_init 77 = .ok (.dup, 1) := by decide +kernel
theorem dX11_init_78 : decode cX11_init 78 = .ok (.invokespecial 39, 3) := by decide +kernel
theorem dX11_init_81 : decode cX11_init 81 = .ok (.putfield 40, 3) := by decide +kernel
theorem dX11_init_84 : decode cX11_init 84 = .ok (.aload_n 0, 1) := by decide +kernel
theorem dX11_init_85 : decode cX11_init 85 = .ok (.new 44, 3) := by decide +kernel
theorem dX11_init_88 : decode cX11_init 88 = .ok (.dup, 1) := by decide +kernel
theorem dX11_init_89 : decode cX11_init 89 = .ok (.invokespecial 46, 3) := by decide +kernel
theorem dX11_init_92 : decode cX11_init 92 = .ok (.putfield 47, 3) := by decide +kernel
theorem dX11_init_95 : decode cX11_init 95 = .ok (.aload_n 0, 1) := by decide +kernel
theorem dX11_init_96 : decode cX11_init 96 = .ok (.new 51, 3) := by decide +kernel
theorem dX11_init_99 : decode cX11_init 99 = .ok (.dup, 1) := by decide +kernel
theorem dX11_init_100 : decode cX11_init 100 = .ok (.invokespecial 53, 3) := by decide +kernel
theorem dX11_init_103 : decode cX11_init 103 = .ok (.putfield 54, 3) := by decide +kernel
theorem dX11_init_106 : decode cX11_init 106 = .ok (.aload_n 0, 1) := by decide +kernel
theorem dX11_init_107 : decode cX11_init 107 = .ok (.new 58, 3) := by decide +kernel
theorem dX11_init_110 : decode cX11_init 110 = .ok (.dup, 1) := by decide +kernel
theorem dX11_init_111 : decode cX11_init 111 = .ok (.invokespecial 60, 3) := by decide +kernel
theorem dX11_init_114 : decode cX11_init 114 = .ok (.putfield 61, 3) := by decide +kernel
theorem dX11_init_117 : decode cX11_init 117 = .ok (.aload_n 0, 1) := by decide +kernel
theorem dX11_init_118 : decode cX11_init 118 = .ok (.new 65, 3) := by decide +kernel
theorem dX11_init_121 : decode cX11_init 121 = .ok (.dup, 1) := by decide +kernel
theorem dX11_init_122 : decode cX11_init 122 = .ok (.invokespecial 67, 3) := by decide +kernel
theorem dX11_init_125 : decode cX11_init 125 = .ok (.putfield 68, 3) := by decide +kernel
theorem dX11_init_128 : decode cX11_init 128 = .ok (.aload_n 0, 1) := by decide +kernel
theorem dX11_init_129 : decode cX11_init 129 = .ok (.new 65, 3) := by decide +kernel
theorem dX11_init_132 : decode cX11_init 132 = .ok (.dup, 1) := by decide +kernel
theorem dX11_init_133 : decode cX11_init 133 = .ok (.invokespecial 67, 3) := by decide +kernel
theorem dX11_init_136 : decode cX11_init 136 = .ok (.putfield 72, 3) := by decide +kernel
theorem dX11_init_139 : decode cX11_init 139 = .ok (.aload_n 0, 1) := by decide +kernel
theorem dX11_init_140 : decode cX11_init 140 = .ok (.new 75, 3) := by decide +kernel
theorem dX11_init_143 : decode cX11_init 143 = .ok (.dup, 1) := by decide +kernel
theorem dX11_init_144 : decode cX11_init 144 = .ok (.invokespecial 77, 3) := by decide +kernel
theorem dX11_init_147 : decode cX11_init 147 = .ok (.putfield 78, 3) := by decide +kernel
theorem dX11_init_150 : decode cX11_init 150 = .ok (.aload_n 0, 1) := by decide +kernel
theorem dX11_init_151 : decode cX11_init 151 = .ok (.new 75, 3) := by decide +kernel
theorem dX11_init_154 : decode cX11_init 154 = .ok (.dup, 1) := by decide +kernel
theorem dX11_init_155 : decode cX11_init 155 = .ok (.invokespecial 77, 3) := by decide +kernel
theorem dX11_init_158 : decode cX11_init 158 = .ok (.putfield 82, 3) := by decide +kernel
theorem dX11_init_161 : decode cX11_init 161 = .ok (.return_, 1) := by decide +kernel
theorem dX11_feed_0 : decode cX11_feed 0 = .ok (.aload_n 0, 1) := by decide +kernel
theorem dX11_feed_1 : decode cX11_feed 1 = .ok (.getfield 10, 3) := by decide +kernel
theorem dX11_feed_4 : decode cX11_feed 4 = .ok (.invokevirtual 85, 3) := by decide +kernel
theorem dX11_feed_7 : decode cX11_feed 7 = .ok (.ifCond .ne 5, 3) := by decide +kernel
theorem dX11_feed_10 : decode cX11_feed 10 = .ok (.iconst (-1), 1) := by decide +kernel
theorem dX11_feed_11 : decode cX11_feed 11 = .ok (.ireturn, 1) := by decide +kernel
theorem dX11_feed_12 : decode cX11_feed 12 = .ok (.aload_n 0, 1) := by decide +kernel
theorem dX11_feed_13 : decode cX11_feed 13 = .ok (.getfield 10, 3) := by decide +kernel
theorem dX11_feed_16 : decode cX11_feed 16 = .ok (.iload_n 1, 1) := by decide +kernel
theorem dX11_feed_17 : decode cX11_feed 17 = .ok (.invokevirtual 89, 3) := by decide +kernel
theorem dX11_feed_20 : decode cX11_feed 20 = .ok (.aload_n 0, 1) := by decide +kernel
theorem dX11_feed_21 : decode cX11_feed 21 = .ok (.getfield 10, 3) := by decide +kernel
theorem dX11_feed_24 : decode cX11_feed 24 = .ok (.iload_n 2, 1) := by decide +kernel
theorem dX11_feed_25 : decode cX11_feed 25 = .ok (.invokevirtual 89, 3) := by decide +kernel
theorem dX11_feed_28 : decode cX11_feed 28 = .ok (.aload_n 0, 1) := by decide +kernel
theorem dX11_feed_29 : decode cX11_feed 29 = .ok (.getfield 10, 3) := by decide +kernel
theorem dX11_feed_32 : decode cX11_feed 32 = .ok (.iload_n 3, 1) := by decide +kernel
theorem dX11_feed_33 : decode cX11_feed 33 = .ok (.invokevirtual 89, 3) := by decide +kernel
theorem dX11_feed_36 : decode cX11_feed 36 = .ok (.aload_n 0, 1) := by decide +kernel
theorem dX11_feed_37 : decode cX11_feed 37 = .ok (.getfield 10, 3) := by decide +kernel
theorem dX11_feed_40 : decode cX11_feed 40 = .ok (.iload 4, 2) := by decide +kernel
theorem dX11_feed_42 : decode cX11_feed 42 = .ok (.invokevirtual 89, 3) := by decide +kernel
theorem dX11_feed_45 : decode cX11_feed 45 = .ok (.aload_n 0, 1) := by decide +kernel
theorem dX11_feed_46 : decode cX11_feed 46 = .ok (.getfield 10, 3) := by decide +kernel
theorem dX11_feed_49 : decode cX11_feed 49 = .ok (.iload 5, 2) := by decide +kernel
theorem dX11_feed_51 : decode cX11_feed 51 = .ok (.invokevirtual 89, 3) := by decide +kernel
theorem dX11_feed_54 : decode cX11_feed 54 = .ok (.aload_n 0, 1) := by decide +kernel
theorem dX11_feed_55 : decode cX11_feed 55 = .ok (.getfield 10, 3) := by decide +kernel
theorem dX11_feed_58 : decode cX11_feed 58 = .ok (.getfield 93, 3) := by decide +kernel
theorem dX11_feed_61 : decode cX11_feed 61 = .ok (.ireturn, 1) := by decide +kernel
theorem dX11_end_0 : decode cX11_end 0 = .ok (.iload_n 1, 1) := by decide +kernel
theorem dX11_end_1 : decode cX11_end 1 = .ok (.ifCond .lt 14, 3) := by decide +kernel
theorem dX11_end_4 : decode cX11_end 4 = .ok (.iload_n 1, 1) := by decide +kernel
theorem dX11_end_5 : decode cX11_end 5 = .ok (.aload_n 0, 1) := by decide +kernel
theorem dX11_end_6 : decode cX11_end 6 = .ok (.getfield 10, 3) := by decide +kernel
theorem dX11_end_9 : decode cX11_end 9 = .ok (.getfield 93, 3) := by decide +kernel
theorem dX11_end_12 : decode cX11_end 12 = .ok (.if_icmp .le 5, 3) := by decide +kernel
theorem dX11_end_15 : decode cX11_end 15 = .ok (.iconst 0, 1) := by decide +kernel
theorem dX11_end_16 : decode cX11_end 16 = .ok (.ireturn, 1) := by decide +kernel
theorem dX11_end_17 : decode cX11_end 17 = .ok (.aload_n 0, 1) := by decide +kernel
theorem dX11_end_18 : decode cX11_end 18 = .ok (.getfield 10, 3) := by decide +kernel
theorem dX11_end_21 : decode cX11_end 21 = .ok (.iload_n 1, 1) := by decide +kernel
theorem dX11_end_22 : decode cX11_end 22 = .ok (.putfield 93, 3) := by decide +kernel
theorem dX11_end_25 : decode cX11_end 25 = .ok (.iconst 1, 1) := by decide +kernel
theorem dX11_end_26 : decode cX11_end 26 = .ok (.ireturn, 1) := by decide +kernel
theorem dX11_base_0 : decode cX11_base 0 = .ok (.aload_n 0, 1) := by decide +kernel
theorem dX11_base_1 : decode cX11_base 1 = .ok (.getfield 19, 3) := by decide +kernel
theorem dX11_base_4 : decode cX11_base 4 = .ok (.iload_n 1, 1) := by decide +kernel
theorem dX11_base_5 : decode cX11_base 5 = .ok (.iload_n 2, 1) := by decide +kernel
theorem dX11_base_6 : decode cX11_base 6 = .ok (.invokevirtual 97, 3) := by decide +kernel
theorem dX11_base_9 : decode cX11_base 9 = .ok (.ifCond .ne 5, 3) := by decide +kernel
theorem dX11_base_12 : decode cX11_base 12 = .ok (.iconst 0, 1) := by decide +kernel
theorem dX11_base_13 : decode cX11_base 13 = .ok (.ireturn, 1) := by decide +kernel
theorem dX11_base_14 : decode cX11_base 14 = .ok (.iconst 0, 1) := by decide +kernel
theorem dX11_base_15 : decode cX11_base 15 = .ok (.istore_n 3, 1) := by decide +kernel
theorem dX11_base_16 : decode cX11_base 16 = .ok (.iload_n 3, 1) := by decide +kernel
theorem dX11_base_17 : decode cX11_base 17 = .ok (.bipush 10, 2) := by decide +kernel
theorem dX11_base_19 : decode cX11_base 19 = .ok (.if_icmp .ge 19, 3) := by decide +kernel
theorem dX11_base_22 : decode cX11_base 22 = .ok (.aload_n 0, 1) := by decide +kernel
theorem dX11_base_23 : decode cX11_base 23 = .ok (.getfield 25, 3) := by decide +kernel
theorem dX11_base_26 : decode cX11_base 26 = .ok (.iload_n 3, 1) := by decide +kernel
theorem dX11_base_27 : decode cX11_base 27 = .ok (.aaload, 1) := by decide +kernel
theorem dX11_base_28 : decode cX11_base 28 = .ok (.iconst 0, 1) := by decide +kernel
theorem dX11_base_29 : decode cX11_base 29 = .ok (.putfield 101, 3) := by decide +kernel
theorem dX11_base_32 : decode cX11_base 32 = .ok (.iinc 3 1, 3) := by decide +kernel
theorem dX11_base_35 : decode cX11_base 35 = .ok (.goto (-19), 3) := by decide +kernel
theorem dX11_base_38 : decode cX11_base 38 = .ok (.aload_n 0, 1) := by decide +kernel
theorem dX11_base_39 : decode cX11_base 39 = .ok (.getfield 40, 3) := by decide +kernel
theorem dX11_base_42 : decode cX11_base 42 = .ok (.iconst (-1), 1) := by decide +kernel
theorem dX11_base_43 : decode cX11_base 43 = .ok (.putfield 105, 3) := by decide +kernel
theorem dX11_base_46 : decode cX11_base 46 = .ok (.iconst 1, 1) := by decide +kernel
theorem dX11_base_47 : decode cX11_base 47 = .ok (.ireturn, 1) := by decide +kernel
theorem dX11_number_0 : decode cX11_number 0 = .ok (.iload_n 1, 1) := by decide +kernel
theorem dX11_number_1 : decode cX11_number 1 = .ok (.invokestatic 108, 3) := by decide +kernel
theorem dX11_number_4 : decode cX11_number 4 = .ok (.ifCond .eq 26, 3) := by decide +kernel
theorem dX11_number_7 : decode cX11_number 7 = .ok (.aload_n 0, 1) := by decide +kernel
theorem dX11_number_8 : decode cX11_number 8 = .ok (.getfield 25, 3) := by decide +kernel
theorem dX11_number_11 : decode cX11_number 11 = .ok (.iload_n 1, 1) := by decide +kernel
theorem dX11_number_12 : decode cX11_number 12 = .ok (.aaload, 1) := by decide +kernel
theorem dX11_number_13 : decode cX11_number 13 = .ok (.iload_n 2, 1) := by decide +kernel
theorem dX11_number_14 : decode cX11_number 14 = .ok (.i2l, 1) := by decide +kernel
theorem dX11_number_15 : decode cX11_number 15 = .ok (.iload_n 3, 1) := by decide +kernel
theorem dX11_number_16 : decode cX11_number 16 = .ok (.i2l, 1) := by decide +kernel
theorem dX11_number_17 : decode cX11_number 17 = .ok (.iload 4, 2) := by decide +kernel
theorem dX11_number_19 : decode cX11_number 19 = .ok (.i2l, 1) := by decide +kernel
theorem dX11_number_20 : decode cX11_number 20 = .ok (.invokevirtual 112, 3) := by decide +kernel
theorem dX11_number_23 : decode cX11_number 23 = .ok (.ifCond .eq 7, 3) := by decide +kernel
theorem dX11_number_26 : decode cX11_number 26 = .ok (.iconst 1, 1) := by decide +kernel
theorem dX11_number_27 : decode cX11_number 27 = .ok (.goto 4, 3) := by decide +kernel
theorem dX11_number_30 : decode cX11_number 30 = .ok (.iconst 0, 1) := by decide +kernel
theorem dX11_number_31 : decode cX11_number 31 = .ok (.ireturn, 1) := by decide +kernel
theorem dX11_make_0 : decode cX11_make 0 = .ok (.iload_n 1, 1) := by decide +kernel
theorem dX11_make_1 : decode cX11_make 1 = .ok (.invokestatic 108, 3) := by decide +kernel
theorem dX11_make_4 : decode cX11_make 4 = .ok (.ifCond .eq 19, 3) := by decide +kernel
theorem dX11_make_7 : decode cX11_make 7 = .ok (.aload_n 0, 1) := by decide +kernel
theorem dX11_make_8 : decode cX11_make 8 = .ok (.iload_n 2, 1) := by decide +kernel
theorem dX11_make_9 : decode cX11_make 9 = .ok (.invokevirtual 116, 3) := by decide +kernel
theorem dX11_make_12 : decode cX11_make 12 = .ok (.ifCond .eq 11, 3) := by decide +kernel
theorem dX11_make_15 : decode cX11_make 15 = .ok (.aload_n 0, 1) := by decide +kernel
theorem dX11_make_16 : decode cX11_make 16 = .ok (.iload_n 3, 1) := by decide +kernel
theorem dX11_make_17 : decode cX11_make 17 = .ok (.invokevirtual 116, 3) := by decide +kernel
theorem dX11_make_20 : decode cX11_make 20 = .ok (.ifCond .ne 5, 3) := by decide +kernel
theorem dX11_make_23 : decode cX11_make 23 = .ok (.iconst 0, 1) := by decide +kernel
theorem dX11_make_24 : decode cX11_make 24 = .ok (.ireturn, 1) := by decide +kernel
theorem dX11_make_25 : decode cX11_make 25 = .ok (.iload 4, 2) := by decide +kernel
theorem dX11_make_27 : decode cX11_make 27 = .ok (.tableswitch 135 0 3 #[29, 56, 83, 109], 29) := by decide +kernel
theorem dX11_make_56 : decode cX11_make 56 = .ok (.aload_n 0, 1) := by decide +kernel
theorem dX11_make_57 : decode cX11_make 57 = .ok (.getfield 19, 3) := by decide +kernel
theorem dX11_make_60 : decode cX11_make 60 = .ok (.aload_n 0, 1) := by decide +kernel
theorem dX11_make_61 : decode cX11_make 61 = .ok (.getfield 25, 3) := by decide +kernel
theorem dX11_make_64 : decode cX11_make 64 = .ok (.iload_n 1, 1) := by decide +kernel
theorem dX11_make_65 : decode cX11_make 65 = .ok (.aaload, 1) := by decide +kernel
theorem dX11_make_66 : decode cX11_make 66 = .ok (.aload_n 0, 1) := by decide +kernel
theorem dX11_make_67 : decode cX11_make 67 = .ok (.getfield 25, 3) := by decide +kernel
theorem dX11_make_70 : decode cX11_make 70 = .ok (.iload_n 2, 1) := by decide +kernel
theorem dX11_make_71 : decode cX11_make 71 = .ok (.aaload, 1) := by decide +kernel
theorem dX11_make_72 : decode cX11_make 72 = .ok (.aload_n 0, 1) := by decide +kernel
theorem dX11_make_73 : decode cX11_make 73 = .ok (.getfield 25, 3) := by decide +kernel
theorem dX11_make_76 : decode cX11_make 76 = .ok (.iload_n 3, 1) := by decide +kernel
theorem dX11_make_77 : decode cX11_make 77 = .ok (.aaload, 1) := by decide +kernel
theorem dX11_make_78 : decode cX11_make 78 = .ok (.iconst 1, 1) := by decide +kernel
theorem dX11_make_79 : decode cX11_make 79 = .ok (.invokevirtual 119, 3) := by decide +kernel
theorem dX11_make_82 : decode cX11_make 82 = .ok (.ireturn, 1) := by decide +kernel
theorem dX11_make_83 : decode cX11_make 83 = .ok (.aload_n 0, 1) := by decide +kernel
theorem dX11_make_84 : decode cX11_make 84 = .ok (.getfield 19, 3) := by decide +kernel
theorem dX11_make_87 : decode cX11_make 87 = .ok (.aload_n 0, 1) := by decide +kernel
theorem dX11_make_88 : decode cX11_make 88 = .ok (.getfield 25, 3) := by decide +kernel
theorem dX11_make_91 : decode cX11_make 91 = .ok (.iload_n 1, 1) := by decide +kernel
theorem dX11_make_92 : decode cX11_make 92 = .ok (.aaload, 1) := by decide +kernel
theorem dX11_make_93 : decode cX11_make 93 = .ok (.aload_n 0, 1) := by decide +kernel
theorem dX11_make_94 : decode cX11_make 94 = .ok (.getfield 25, 3) := by decide +kernel
theorem dX11_make_97 : decode cX11_make 97 = .ok (.iload_n 2, 1) := by decide +kernel
theorem dX11_make_98 : decode cX11_make 98 = .ok (.aaload, 1) := by decide +kernel
theorem dX11_make_99 : decode cX11_make 99 = .ok (.aload_n 0, 1) := by decide +kernel
theorem dX11_make_100 : decode cX11_make 100 = .ok (.getfield 25, 3) := by decide +kernel
theorem dX11_make_103 : decode cX11_make 103 = .ok (.iload_n 3, 1) := by decide +kernel
theorem dX11_make_104 : decode cX11_make 104 = .ok (.aaload, 1) := by decide +kernel
theorem dX11_make_105 : decode cX11_make 105 = .ok (.iconst (-1), 1) := by decide +kernel
theorem dX11_make_106 : decode cX11_make 106 = .ok (.invokevirtual 119, 3) := by decide +kernel
theorem dX11_make_109 : decode cX11_make 109 = .ok (.ireturn, 1) := by decide +kernel
theorem dX11_make_110 : decode cX11_make 110 = .ok (.aload_n 0, 1) := by decide +kernel
theorem dX11_make_111 : decode cX11_make 111 = .ok (.getfield 19, 3) := by decide +kernel
theorem dX11_make_114 : decode cX11_make 114 = .ok (.aload_n 0, 1) := by decide +kernel
theorem dX11_make_115 : decode cX11_make 115 = .ok (.getfield 25, 3) := by decide +kernel
theorem dX11_make_118 : decode cX11_make 118 = .ok (.iload_n 1, 1) := by decide +kernel
theorem dX11_make_119 : decode cX11_make 119 = .ok (.aaload, 1) := by decide +kernel
theorem dX11_make_120 : decode cX11_make 120 = .ok (.aload_n 0, 1) := by decide +kernel
theorem dX11_make_121 : decode cX11_make 121 = .ok (.getfield 25, 3) := by decide +kernel
theorem dX11_make_124 : decode cX11_make 124 = .ok (.iload_n 2, 1) := by decide +kernel
theorem dX11_make_125 : decode cX11_make 125 = .ok (.aaload, 1) := by decide +kernel
theorem dX11_make_126 : decode cX11_make 126 = .ok (.aload_n 0, 1) := by decide +kernel
theorem dX11_make_127 : decode cX11_make 127 = .ok (.getfield 25, 3) := by decide +kernel
theorem dX11_make_130 : decode cX11_make 130 = .ok (.iload_n 3, 1) := by decide +kernel
theorem dX11_make_131 : decode cX11_make 131 = .ok (.aaload, 1) := by decide +kernel
theorem dX11_make_132 : decode cX11_make 132 = .ok (.invokevirtual 123, 3) := by decide +kernel
theorem dX11_make_135 : decode cX11_make 135 = .ok (.ireturn, 1) := by decide +kernel
theorem dX11_make_136 : decode cX11_make 136 = .ok (.aload_n 0, 1) := by decide +kernel
theorem dX11_make_137 : decode cX11_make 137 = .ok (.getfield 19, 3) := by decide +kernel
theorem dX11_make_140 : decode cX11_make 140 = .ok (.aload_n 0, 1) := by decide +kernel
theorem dX11_make_141 : decode cX11_make 141 = .ok (.getfield 25, 3) := by decide +kernel
theorem dX11_make_144 : decode cX11_make 144 = .ok (.iload_n 1, 1) := by decide +kernel
theorem dX11_make_145 : decode cX11_make 145 = .ok (.aaload, 1) := by decide +kernel
theorem dX11_make_146 : decode cX11_make 146 = .ok (.aload_n 0, 1) := by decide +kernel
theorem dX11_make_147 : decode cX11_make 147 = .ok (.getfield 25, 3) := by decide +kernel
theorem dX11_make_150 : decode cX11_make 150 = .ok (.iload_n 2, 1) := by decide +kernel
theorem dX11_make_151 : decode cX11_make 151 = .ok (.aaload, 1) := by decide +kernel
theorem dX11_make_152 : decode cX11_make 152 = .ok (.aload_n 0, 1) := by decide +kernel
theorem dX11_make_153 : decode cX11_make 153 = .ok (.getfield 25, 3) := by decide +kernel
theorem dX11_make_156 : decode cX11_make 156 = .ok (.iload_n 3, 1) := by decide +kernel
theorem dX11_make_157 : decode cX11_make 157 = .ok (.aaload, 1) := by decide +kernel
theorem dX11_make_158 : decode cX11_make 158 = .ok (.invokevirtual 127, 3) := by decide +kernel
theorem dX11_make_161 : decode cX11_make 161 = .ok (.ireturn, 1) := by decide +kernel
theorem dX11_make_162 : decode cX11_make 162 = .ok (.iconst 0, 1) := by decide +kernel
theorem dX11_make_163 : decode cX11_make 163 = .ok (.ireturn, 1) := by decide +kernel
theorem dX11_part_0 : decode cX11_part 0 = .ok (.aload_n 0, 1) := by decide +kernel
theorem dX11_part_1 : decode cX11_part 1 = .ok (.iload_n 1, 1) := by decide +kernel
theorem dX11_part_2 : decode cX11_part 2 = .ok (.invokevirtual 116, 3) := by decide +kernel
theorem dX11_part_5 : decode cX11_part 5 = .ok (.ifCond .eq 12, 3) := by decide +kernel
theorem dX11_part_8 : decode cX11_part 8 = .ok (.iload_n 2, 1) := by decide +kernel
theorem dX11_part_9 : decode cX11_part 9 = .ok (.ifCond .lt 8, 3) := by decide +kernel
theorem dX11_part_12 : decode cX11_part 12 = .ok (.iload_n 2, 1) := by decide +kernel
theorem dX11_part_13 : decode cX11_part 13 = .ok (.iconst 2, 1) := by decide +kernel
theorem dX11_part_14 : decode cX11_part 14 = .ok (.if_icmp .le 13, 3) := by decide +kernel
theorem dX11_part_17 : decode cX11_part 17 = .ok (.new 130, 3) := by decide +kernel
theorem dX11_part_20 : decode cX11_part 20 = .ok (.dup, 1) := by decide +kernel
theorem dX11_part_21 : decode cX11_part 21 = .ok (.ldc 132, 2) := by decide +kernel
theorem dX11_part_23 : decode cX11_part 23 = .ok (.invokespecial 134, 3) := by decide +kernel
theorem dX11_part_26 : decode cX11_part 26 = .ok (.athrow, 1) := by decide +kernel
theorem dX11_part_27 : decode cX11_part 27 = .ok (.aload_n 0, 1) := by decide +kernel
theorem dX11_part_28 : decode cX11_part 28 = .ok (.getfield 25, 3) := by decide +kernel
theorem dX11_part_31 : decode cX11_part 31 = .ok (.iload_n 1, 1) := by decide +kernel
theorem dX11_part_32 : decode cX11_part 32 = .ok (.aaload, 1) := by decide +kernel
theorem dX11_part_33 : decode cX11_part 33 = .ok (.astore_n 3, 1) := by decide +kernel
theorem dX11_part_34 : decode cX11_part 34 = .ok (.iload_n 2, 1) := by decide +kernel
theorem dX11_part_35 : decode cX11_part 35 = .ok (.ifCond .ne 10, 3) := by decide +kernel
theorem dX11_part_38 : decode cX11_part 38 = .ok (.aload_n 3, 1) := by decide +kernel
theorem dX11_part_39 : decode cX11_part 39 = .ok (.getfield 137, 3) := by decide +kernel
theorem dX11_part_42 : decode cX11_part 42 = .ok (.goto 19, 3) := by decide +kernel
theorem dX11_part_45 : decode cX11_part 45 = .ok (.iload_n 2, 1) := by decide +kernel
theorem dX11_part_46 : decode cX11_part 46 = .ok (.iconst 1, 1) := by decide +kernel
theorem dX11_part_47 : decode cX11_part 47 = .ok (.if_icmp .ne 10, 3) := by decide +kernel
theorem dX11_part_50 : decode cX11_part 50 = .ok (.aload_n 3, 1) := by decide +kernel
theorem dX11_part_51 : decode cX11_part 51 = .ok (.getfield 141, 3) := by decide +kernel
theorem dX11_part_54 : decode cX11_part 54 = .ok (.goto 7, 3) := by decide +kernel
theorem dX11_part_57 : decode cX11_part 57 = .ok (.aload_n 3, 1) := by decide +kernel
theorem dX11_part_58 : decode cX11_part 58 = .ok (.getfield 144, 3) := by decide +kernel
theorem dX11_part_61 : decode cX11_part 61 = .ok (.l2i, 1) := by decide +kernel
theorem dX11_part_62 : decode cX11_part 62 = .ok (.ireturn, 1) := by decide +kernel
theorem dX11_compare_0 : decode cX11_compare 0 = .ok (.aload_n 0, 1) := by decide +kernel
theorem dX11_compare_1 : decode cX11_compare 1 = .ok (.iload_n 1, 1) := by decide +kernel
theorem dX11_compare_2 : decode cX11_compare 2 = .ok (.invokevirtual 116, 3) := by decide +kernel
theorem dX11_compare_5 : decode cX11_compare 5 = .ok (.ifCond .eq 11, 3) := by decide +kernel
theorem dX11_compare_8 : decode cX11_compare 8 = .ok (.aload_n 0, 1) := by decide +kernel
theorem dX11_compare_9 : decode cX11_compare 9 = .ok (.iload_n 2, 1) := by decide +kernel
theorem dX11_compare_10 : decode cX11_compare 10 = .ok (.invokevirtual 116, 3) := by decide +kernel
theorem dX11_compare_13 : decode cX11_compare 13 = .ok (.ifCond .ne 5, 3) := by decide +kernel
theorem dX11_compare_16 : decode cX11_compare 16 = .ok (.iconst 2, 1) := by decide +kernel
theorem dX11_compare_17 : decode cX11_compare 17 = .ok (.ireturn, 1) := by decide +kernel
theorem dX11_compare_18 : decode cX11_compare 18 = .ok (.aload_n 0, 1) := by decide +kernel
theorem dX11_compare_19 : decode cX11_compare 19 = .ok (.getfield 25, 3) := by decide +kernel
theorem dX11_compare_22 : decode cX11_compare 22 = .ok (.iload_n 1, 1) := by decide +kernel
theorem dX11_compare_23 : decode cX11_compare 23 = .ok (.aaload, 1) := by decide +kernel
theorem dX11_compare_24 : decode cX11_compare 24 = .ok (.astore_n 3, 1) := by decide +kernel
theorem dX11_compare_25 : decode cX11_compare 25 = .ok (.aload_n 0, 1) := by decide +kernel
theorem dX11_compare_26 : decode cX11_compare 26 = .ok (.getfield 25, 3) := by decide +kernel
theorem dX11_compare_29 : decode cX11_compare 29 = .ok (.iload_n 2, 1) := by decide +kernel
theorem dX11_compare_30 : decode cX11_compare 30 = .ok (.aaload, 1) := by decide +kernel
theorem dX11_compare_31 : decode cX11_compare 31 = .ok (.astore 4, 2) := by decide +kernel
theorem dX11_compare_33 : decode cX11_compare 33 = .ok (.aload_n 0, 1) := by decide +kernel
theorem dX11_compare_34 : decode cX11_compare 34 = .ok (.getfield 19, 3) := by decide +kernel
theorem dX11_compare_37 : decode cX11_compare 37 = .ok (.aload_n 3, 1) := by decide +kernel
theorem dX11_compare_38 : decode cX11_compare 38 = .ok (.getfield 137, 3) := by decide +kernel
theorem dX11_compare_41 : decode cX11_compare 41 = .ok (.aload 4, 2) := by decide +kernel
theorem dX11_compare_43 : decode cX11_compare 43 = .ok (.getfield 144, 3) := by decide +kernel
theorem dX11_compare_46 : decode cX11_compare 46 = .ok (.lmul, 1) := by decide +kernel
theorem dX11_compare_47 : decode cX11_compare 47 = .ok (.aload 4, 2) := by decide +kernel
theorem dX11_compare_49 : decode cX11_compare 49 = .ok (.getfield 137, 3) := by decide +kernel
theorem dX11_compare_52 : decode cX11_compare 52 = .ok (.aload_n 3, 1) := by decide +kernel
theorem dX11_compare_53 : decode cX11_compare 53 = .ok (.getfield 144, 3) := by decide +kernel
theorem dX11_compare_56 : decode cX11_compare 56 = .ok (.lmul, 1) := by decide +kernel
theorem dX11_compare_57 : decode cX11_compare 57 = .ok (.lsub, 1) := by decide +kernel
theorem dX11_compare_58 : decode cX11_compare 58 = .ok (.aload_n 3, 1) := by decide +kernel
theorem dX11_compare_59 : decode cX11_compare 59 = .ok (.getfield 141, 3) := by decide +kernel
theorem dX11_compare_62 : decode cX11_compare 62 = .ok (.aload 4, 2) := by decide +kernel
theorem dX11_compare_64 : decode cX11_compare 64 = .ok (.getfield 144, 3) := by decide +kernel
theorem dX11_compare_67 : decode cX11_compare 67 = .ok (.lmul, 1) := by decide +kernel
theorem dX11_compare_68 : decode cX11_compare 68 = .ok (.aload 4, 2) := by decide +kernel
theorem dX11_compare_70 : decode cX11_compare 70 = .ok (.getfield 141, 3) := by decide +kernel
theorem dX11_compare_73 : decode cX11_compare 73 = .ok (.aload_n 3, 1) := by decide +kernel
theorem dX11_compare_74 : decode cX11_compare 74 = .ok (.getfield 144, 3) := by decide +kernel
theorem dX11_compare_77 : decode cX11_compare 77 = .ok (.lmul, 1) := by decide +kernel
theorem dX11_compare_78 : decode cX11_compare 78 = .ok (.lsub, 1) := by decide +kernel
theorem dX11_compare_79 : decode cX11_compare 79 = .ok (.invokevirtual 147, 3) := by decide +kernel
theorem dX11_compare_82 : decode cX11_compare 82 = .ok (.ireturn, 1) := by decide +kernel
theorem dX11_floor_0 : decode cX11_floor 0 = .ok (.aload_n 0, 1) := by decide +kernel
theorem dX11_floor_1 : decode cX11_floor 1 = .ok (.iload_n 1, 1) := by decide +kernel
theorem dX11_floor_2 : decode cX11_floor 2 = .ok (.invokevirtual 116, 3) := by decide +kernel
theorem dX11_floor_5 : decode cX11_floor 5 = .ok (.ifCond .ne 13, 3) := by decide +kernel
theorem dX11_floor_8 : decode cX11_floor 8 = .ok (.new 130, 3) := by decide +kernel
theorem dX11_floor_11 : decode cX11_floor 11 = .ok (.dup, 1) := by decide +kernel
theorem dX11_floor_12 : decode cX11_floor 12 = .ok (.ldc 151, 2) := by decide +kernel
theorem dX11_floor_14 : decode cX11_floor 14 = .ok (.invokespecial 134, 3) := by decide +kernel
theorem dX11_floor_17 : decode cX11_floor 17 = .ok (.athrow, 1) := by decide +kernel
theorem dX11_floor_18 : decode cX11_floor 18 = .ok (.aload_n 0, 1) := by decide +kernel
theorem dX11_floor_19 : decode cX11_floor 19 = .ok (.getfield 19, 3) := by decide +kernel
theorem dX11_floor_22 : decode cX11_floor 22 = .ok (.aload_n 0, 1) := by decide +kernel
theorem dX11_floor_23 : decode cX11_floor 23 = .ok (.getfield 25, 3) := by decide +kernel
theorem dX11_floor_26 : decode cX11_floor 26 = .ok (.iload_n 1, 1) := by decide +kernel
theorem dX11_floor_27 : decode cX11_floor 27 = .ok (.aaload, 1) := by decide +kernel
theorem dX11_floor_28 : decode cX11_floor 28 = .ok (.invokevirtual 153, 3) := by decide +kernel
theorem dX11_floor_31 : decode cX11_floor 31 = .ok (.lreturn, 1) := by decide +kernel
theorem dX11_digits_0 : decode cX11_digits 0 = .ok (.aload_n 0, 1) := by decide +kernel
theorem dX11_digits_1 : decode cX11_digits 1 = .ok (.iload_n 1, 1) := by decide +kernel
theorem dX11_digits_2 : decode cX11_digits 2 = .ok (.invokevirtual 157, 3) := by decide +kernel
theorem dX11_digits_5 : decode cX11_digits 5 = .ok (.ifCond .ne 5, 3) := by decide +kernel
theorem dX11_digits_8 : decode cX11_digits 8 = .ok (.iconst (-1), 1) := by decide +kernel
theorem dX11_digits_9 : decode cX11_digits 9 = .ok (.ireturn, 1) := by decide +kernel
theorem dX11_digits_10 : decode cX11_digits 10 = .ok (.aload_n 0, 1) := by decide +kernel
theorem dX11_digits_11 : decode cX11_digits 11 = .ok (.getfield 40, 3) := by decide +kernel
theorem dX11_digits_14 : decode cX11_digits 14 = .ok (.aload_n 0, 1) := by decide +kernel
theorem dX11_digits_15 : decode cX11_digits 15 = .ok (.getfield 19, 3) := by decide +kernel
theorem dX11_digits_18 : decode cX11_digits 18 = .ok (.aload_n 0, 1) := by decide +kernel
theorem dX11_digits_19 : decode cX11_digits 19 = .ok (.getfield 25, 3) := by decide +kernel
theorem dX11_digits_22 : decode cX11_digits 22 = .ok (.iload_n 1, 1) := by decide +kernel
theorem dX11_digits_23 : decode cX11_digits 23 = .ok (.aaload, 1) := by decide +kernel
theorem dX11_digits_24 : decode cX11_digits 24 = .ok (.aload_n 0, 1) := by decide +kernel
theorem dX11_digits_25 : decode cX11_digits 25 = .ok (.getfield 33, 3) := by decide +kernel
theorem dX11_digits_28 : decode cX11_digits 28 = .ok (.aload_n 0, 1) := by decide +kernel
theorem dX11_digits_29 : decode cX11_digits 29 = .ok (.getfield 54, 3) := by decide +kernel
theorem dX11_digits_32 : decode cX11_digits 32 = .ok (.invokevirtual 160, 3) := by decide +kernel
theorem dX11_digits_35 : decode cX11_digits 35 = .ok (.aload_n 0, 1) := by decide +kernel
theorem dX11_digits_36 : decode cX11_digits 36 = .ok (.getfield 40, 3) := by decide +kernel
theorem dX11_digits_39 : decode cX11_digits 39 = .ok (.getfield 105, 3) := by decide +kernel
theorem dX11_digits_42 : decode cX11_digits 42 = .ok (.ireturn, 1) := by decide +kernel
theorem dX11_told_0 : decode cX11_told 0 = .ok (.aload_n 0, 1) := by decide +kernel
theorem dX11_told_1 : decode cX11_told 1 = .ok (.getfield 40, 3) := by decide +kernel
theorem dX11_told_4 : decode cX11_told 4 = .ok (.getfield 105, 3) := by decide +kernel
theorem dX11_told_7 : decode cX11_told 7 = .ok (.iconst (-1), 1) := by decide +kernel
theorem dX11_told_8 : decode cX11_told 8 = .ok (.if_icmp .ne 5, 3) := by decide +kernel
theorem dX11_told_11 : decode cX11_told 11 = .ok (.iconst (-1), 1) := by decide +kernel
theorem dX11_told_12 : decode cX11_told 12 = .ok (.ireturn, 1) := by decide +kernel
theorem dX11_told_13 : decode cX11_told 13 = .ok (.iload_n 1, 1) := by decide +kernel
theorem dX11_told_14 : decode cX11_told 14 = .ok (.tableswitch 50 0 2 #[26, 34, 42], 26) := by decide +kernel
theorem dX11_told_40 : decode cX11_told 40 = .ok (.aload_n 0, 1) := by decide +kernel
theorem dX11_told_41 : decode cX11_told 41 = .ok (.getfield 40, 3) := by decide +kernel
theorem dX11_told_44 : decode cX11_told 44 = .ok (.getfield 164, 3) := by decide +kernel
theorem dX11_told_47 : decode cX11_told 47 = .ok (.ireturn, 1) := by decide +kernel
theorem dX11_told_48 : decode cX11_told 48 = .ok (.aload_n 0, 1) := by decide +kernel
theorem dX11_told_49 : decode cX11_told 49 = .ok (.getfield 40, 3) := by decide +kernel
theorem dX11_told_52 : decode cX11_told 52 = .ok (.getfield 167, 3) := by decide +kernel
theorem dX11_told_55 : decode cX11_told 55 = .ok (.ireturn, 1) := by decide +kernel
theorem dX11_told_56 : decode cX11_told 56 = .ok (.aload_n 0, 1) := by decide +kernel
theorem dX11_told_57 : decode cX11_told 57 = .ok (.getfield 40, 3) := by decide +kernel
theorem dX11_told_60 : decode cX11_told 60 = .ok (.getfield 170, 3) := by decide +kernel
theorem dX11_told_63 : decode cX11_told 63 = .ok (.ireturn, 1) := by decide +kernel
theorem dX11_told_64 : decode cX11_told 64 = .ok (.iconst (-1), 1) := by decide +kernel
theorem dX11_told_65 : decode cX11_told 65 = .ok (.ireturn, 1) := by decide +kernel
theorem dX11_digit_0 : decode cX11_digit 0 = .ok (.aload_n 0, 1) := by decide +kernel
theorem dX11_digit_1 : decode cX11_digit 1 = .ok (.getfield 40, 3) := by decide +kernel
theorem dX11_digit_4 : decode cX11_digit 4 = .ok (.iload_n 1, 1) := by decide +kernel
theorem dX11_digit_5 : decode cX11_digit 5 = .ok (.invokevirtual 173, 3) := by decide +kernel
theorem dX11_digit_8 : decode cX11_digit 8 = .ok (.ireturn, 1) := by decide +kernel
theorem dX11_value_0 : decode cX11_value 0 = .ok (.iload_n 1, 1) := by decide +kernel
theorem dX11_value_1 : decode cX11_value 1 = .ok (.invokestatic 108, 3) := by decide +kernel
theorem dX11_value_4 : decode cX11_value 4 = .ok (.ifCond .eq 70, 3) := by decide +kernel
theorem dX11_value_7 : decode cX11_value 7 = .ok (.iload_n 2, 1) := by decide +kernel
theorem dX11_value_8 : decode cX11_value 8 = .ok (.ifCond .lt 66, 3) := by decide +kernel
theorem dX11_value_11 : decode cX11_value 11 = .ok (.iload_n 2, 1) := by decide +kernel
theorem dX11_value_12 : decode cX11_value 12 = .ok (.aload_n 0, 1) := by decide +kernel
theorem dX11_value_13 : decode cX11_value 13 = .ok (.getfield 10, 3) := by decide +kernel
theorem dX11_value_16 : decode cX11_value 16 = .ok (.getfield 93, 3) := by decide +kernel
theorem dX11_value_19 : decode cX11_value 19 = .ok (.if_icmp .gt 55, 3) := by decide +kernel
theorem dX11_value_22 : decode cX11_value 22 = .ok (.iload_n 3, 1) := by decide +kernel
theorem dX11_value_23 : decode cX11_value 23 = .ok (.ifCond .lt 51, 3) := by decide +kernel
theorem dX11_value_26 : decode cX11_value 26 = .ok (.iload_n 3, 1) := by decide +kernel
theorem dX11_value_27 : decode cX11_value 27 = .ok (.iload_n 2, 1) := by decide +kernel
theorem dX11_value_28 : decode cX11_value 28 = .ok (.if_icmp .gt 46, 3) := by decide +kernel
theorem dX11_value_31 : decode cX11_value 31 = .ok (.aload_n 0, 1) := by decide +kernel
theorem dX11_value_32 : decode cX11_value 32 = .ok (.getfield 47, 3) := by decide +kernel
theorem dX11_value_35 : decode cX11_value 35 = .ok (.aload_n 0, 1) := by decide +kernel
theorem dX11_value_36 : decode cX11_value 36 = .ok (.getfield 19, 3) := by decide +kernel
theorem dX11_value_39 : decode cX11_value 39 = .ok (.aload_n 0, 1) := by decide +kernel
theorem dX11_value_40 : decode cX11_value 40 = .ok (.getfield 10, 3) := by decide +kernel
theorem dX11_value_43 : decode cX11_value 43 = .ok (.iload_n 2, 1) := by decide +kernel
theorem dX11_value_44 : decode cX11_value 44 = .ok (.iload_n 3, 1) := by decide +kernel
theorem dX11_value_45 : decode cX11_value 45 = .ok (.invokevirtual 177, 3) := by decide +kernel
theorem dX11_value_48 : decode cX11_value 48 = .ok (.ifCond .eq 26, 3) := by decide +kernel
theorem dX11_value_51 : decode cX11_value 51 = .ok (.aload_n 0, 1) := by decide +kernel
theorem dX11_value_52 : decode cX11_value 52 = .ok (.getfield 25, 3) := by decide +kernel
theorem dX11_value_55 : decode cX11_value 55 = .ok (.iload_n 1, 1) := by decide +kernel
theorem dX11_value_56 : decode cX11_value 56 = .ok (.aaload, 1) := by decide +kernel
theorem dX11_value_57 : decode cX11_value 57 = .ok (.aload_n 0, 1) := by decide +kernel
theorem dX11_value_58 : decode cX11_value 58 = .ok (.getfield 47, 3) := by decide +kernel
theorem dX11_value_61 : decode cX11_value 61 = .ok (.getfield 181, 3) := by decide +kernel
theorem dX11_value_64 : decode cX11_value 64 = .ok (.invokevirtual 185, 3) := by decide +kernel
theorem dX11_value_67 : decode cX11_value 67 = .ok (.ifCond .eq 7, 3) := by decide +kernel
theorem dX11_value_70 : decode cX11_value 70 = .ok (.iconst 1, 1) := by decide +kernel
theorem dX11_value_71 : decode cX11_value 71 = .ok (.goto 4, 3) := by decide +kernel
theorem dX11_value_74 : decode cX11_value 74 = .ok (.iconst 0, 1) := by decide +kernel
theorem dX11_value_75 : decode cX11_value 75 = .ok (.istore 4, 2) := by decide +kernel
theorem dX11_value_77 : decode cX11_value 77 = .ok (.aload_n 0, 1) := by decide +kernel
theorem dX11_value_78 : decode cX11_value 78 = .ok (.getfield 10, 3) := by decide +kernel
theorem dX11_value_81 : decode cX11_value 81 = .ok (.iconst 0, 1) := by decide +kernel
theorem dX11_value_82 : decode cX11_value 82 = .ok (.putfield 93, 3) := by decide +kernel
theorem dX11_value_85 : decode cX11_value 85 = .ok (.iload 4, 2) := by decide +kernel
theorem dX11_value_87 : decode cX11_value 87 = .ok (.ireturn, 1) := by decide +kernel
theorem dX11_allowed_0 : decode cX11_allowed 0 = .ok (.aload_n 0, 1) := by decide +kernel
theorem dX11_allowed_1 : decode cX11_allowed 1 = .ok (.getfield 10, 3) := by decide +kernel
theorem dX11_allowed_4 : decode cX11_allowed 4 = .ok (.invokevirtual 189, 3) := by decide +kernel
theorem dX11_allowed_7 : decode cX11_allowed 7 = .ok (.ifCond .eq 8, 3) := by decide +kernel
theorem dX11_allowed_10 : decode cX11_allowed 10 = .ok (.bipush (-2), 2) := by decide +kernel
theorem dX11_allowed_12 : decode cX11_allowed 12 = .ok (.goto 7, 3) := by decide +kernel
theorem dX11_allowed_15 : decode cX11_allowed 15 = .ok (.aload_n 0, 1) := by decide +kernel
theorem dX11_allowed_16 : decode cX11_allowed 16 = .ok (.invokevirtual 192, 3) := by decide +kernel
theorem dX11_allowed_19 : decode cX11_allowed 19 = .ok (.istore_n 1, 1) := by decide +kernel
theorem dX11_allowed_20 : decode cX11_allowed 20 = .ok (.aload_n 0, 1) := by decide +kernel
theorem dX11_allowed_21 : decode cX11_allowed 21 = .ok (.getfield 10, 3) := by decide +kernel
theorem dX11_allowed_24 : decode cX11_allowed 24 = .ok (.iconst 0, 1) := by decide +kernel
theorem dX11_allowed_25 : decode cX11_allowed 25 = .ok (.putfield 93, 3) := by decide +kernel
theorem dX11_allowed_28 : decode cX11_allowed 28 = .ok (.iload_n 1, 1) := by decide +kernel
theorem dX11_allowed_29 : decode cX11_allowed 29 = .ok (.ireturn, 1) := by decide +kernel
theorem dX11_one_0 : decode cX11_one 0 = .ok (.iload_n 1, 1) := by decide +kernel
theorem dX11_one_1 : decode cX11_one 1 = .ok (.iconst 1, 1) := by decide +kernel
theorem dX11_one_2 : decode cX11_one 2 = .ok (.if_icmp .lt 9, 3) := by decide +kernel
theorem dX11_one_5 : decode cX11_one 5 = .ok (.iload_n 1, 1) := by decide +kernel
theorem dX11_one_6 : decode cX11_one 6 = .ok (.bipush 60, 2) := by decide +kernel
theorem dX11_one_8 : decode cX11_one 8 = .ok (.if_icmp .le 13, 3) := by decide +kernel
theorem dX11_one_11 : decode cX11_one 11 = .ok (.new 130, 3) := by decide +kernel
theorem dX11_one_14 : decode cX11_one 14 = .ok (.dup, 1) := by decide +kernel
theorem dX11_one_15 : decode cX11_one 15 = .ok (.ldc 196, 2) := by decide +kernel
theorem dX11_one_17 : decode cX11_one 17 = .ok (.invokespecial 134, 3) := by decide +kernel
theorem dX11_one_20 : decode cX11_one 20 = .ok (.athrow, 1) := by decide +kernel
theorem dX11_one_21 : decode cX11_one 21 = .ok (.aload_n 0, 1) := by decide +kernel
theorem dX11_one_22 : decode cX11_one 22 = .ok (.getfield 19, 3) := by decide +kernel
theorem dX11_one_25 : decode cX11_one 25 = .ok (.iload_n 1, 1) := by decide +kernel
theorem dX11_one_26 : decode cX11_one 26 = .ok (.invokevirtual 198, 3) := by decide +kernel
theorem dX11_one_29 : decode cX11_one 29 = .ok (.ireturn, 1) := by decide +kernel
theorem dX11_rows_0 : decode cX11_rows 0 = .ok (.iload_n 1, 1) := by decide +kernel
theorem dX11_rows_1 : decode cX11_rows 1 = .ok (.ifCond .lt 9, 3) := by decide +kernel
theorem dX11_rows_4 : decode cX11_rows 4 = .ok (.iload_n 1, 1) := by decide +kernel
theorem dX11_rows_5 : decode cX11_rows 5 = .ok (.bipush 16, 2) := by decide +kernel
theorem dX11_rows_7 : decode cX11_rows 7 = .ok (.if_icmp .le 13, 3) := by decide +kernel
theorem dX11_rows_10 : decode cX11_rows 10 = .ok (.new 130, 3) := by decide +kernel
theorem dX11_rows_13 : decode cX11_rows 13 = .ok (.dup, 1) := by decide +kernel
theorem dX11_rows_14 : decode cX11_rows 14 = .ok (.ldc 201, 2) := by decide +kernel
theorem dX11_rows_16 : decode cX11_rows 16 = .ok (.invokespecial 134, 3) := by decide +kernel
theorem dX11_rows_19 : decode cX11_rows 19 = .ok (.athrow, 1) := by decide +kernel
theorem dX11_rows_20 : decode cX11_rows 20 = .ok (.aload_n 0, 1) := by decide +kernel
theorem dX11_rows_21 : decode cX11_rows 21 = .ok (.getfield 19, 3) := by decide +kernel
theorem dX11_rows_24 : decode cX11_rows 24 = .ok (.iload_n 1, 1) := by decide +kernel
theorem dX11_rows_25 : decode cX11_rows 25 = .ok (.invokevirtual 203, 3) := by decide +kernel
theorem dX11_rows_28 : decode cX11_rows 28 = .ok (.lreturn, 1) := by decide +kernel
theorem dX11_whole_0 : decode cX11_whole 0 = .ok (.iload_n 1, 1) := by decide +kernel
theorem dX11_whole_1 : decode cX11_whole 1 = .ok (.invokestatic 108, 3) := by decide +kernel
theorem dX11_whole_4 : decode cX11_whole 4 = .ok (.ifCond .eq 13, 3) := by decide +kernel
theorem dX11_whole_7 : decode cX11_whole 7 = .ok (.iload_n 2, 1) := by decide +kernel
theorem dX11_whole_8 : decode cX11_whole 8 = .ok (.ifCond .lt 9, 3) := by decide +kernel
theorem dX11_whole_11 : decode cX11_whole 11 = .ok (.iload_n 2, 1) := by decide +kernel
theorem dX11_whole_12 : decode cX11_whole 12 = .ok (.ldc 207, 2) := by decide +kernel
theorem dX11_whole_14 : decode cX11_whole 14 = .ok (.if_icmp .le 5, 3) := by decide +kernel
theorem dX11_whole_17 : decode cX11_whole 17 = .ok (.iconst 0, 1) := by decide +kernel
theorem dX11_whole_18 : decode cX11_whole 18 = .ok (.ireturn, 1) := by decide +kernel
theorem dX11_whole_19 : decode cX11_whole 19 = .ok (.aload_n 0, 1) := by decide +kernel
theorem dX11_whole_20 : decode cX11_whole 20 = .ok (.getfield 19, 3) := by decide +kernel
theorem dX11_whole_23 : decode cX11_whole 23 = .ok (.aload_n 0, 1) := by decide +kernel
theorem dX11_whole_24 : decode cX11_whole 24 = .ok (.getfield 25, 3) := by decide +kernel
theorem dX11_whole_27 : decode cX11_whole 27 = .ok (.iload_n 1, 1) := by decide +kernel
theorem dX11_whole_28 : decode cX11_whole 28 = .ok (.aaload, 1) := by decide +kernel
theorem dX11_whole_29 : decode cX11_whole 29 = .ok (.iload_n 2, 1) := by decide +kernel
theorem dX11_whole_30 : decode cX11_whole 30 = .ok (.invokevirtual 208, 3) := by decide +kernel
theorem dX11_whole_33 : decode cX11_whole 33 = .ok (.ireturn, 1) := by decide +kernel
theorem dX11_rank_0 : decode cX11_rank 0 = .ok (.aload_n 0, 1) := by decide +kernel
theorem dX11_rank_1 : decode cX11_rank 1 = .ok (.iload_n 1, 1) := by decide +kernel
theorem dX11_rank_2 : decode cX11_rank 2 = .ok (.invokevirtual 157, 3) := by decide +kernel
theorem dX11_rank_5 : decode cX11_rank 5 = .ok (.ifCond .ne 5, 3) := by decide +kernel
theorem dX11_rank_8 : decode cX11_rank 8 = .ok (.iconst (-1), 1) := by decide +kernel
theorem dX11_rank_9 : decode cX11_rank 9 = .ok (.ireturn, 1) := by decide +kernel
theorem dX11_rank_10 : decode cX11_rank 10 = .ok (.aload_n 0, 1) := by decide +kernel
theorem dX11_rank_11 : decode cX11_rank 11 = .ok (.getfield 33, 3) := by decide +kernel
theorem dX11_rank_14 : decode cX11_rank 14 = .ok (.aload_n 0, 1) := by decide +kernel
theorem dX11_rank_15 : decode cX11_rank 15 = .ok (.getfield 25, 3) := by decide +kernel
theorem dX11_rank_18 : decode cX11_rank 18 = .ok (.iload_n 1, 1) := by decide +kernel
theorem dX11_rank_19 : decode cX11_rank 19 = .ok (.aaload, 1) := by decide +kernel
theorem dX11_rank_20 : decode cX11_rank 20 = .ok (.invokevirtual 212, 3) := by decide +kernel
theorem dX11_rank_23 : decode cX11_rank 23 = .ok (.lconst 0, 1) := by decide +kernel
theorem dX11_rank_24 : decode cX11_rank 24 = .ok (.lstore_n 2, 1) := by decide +kernel
theorem dX11_rank_25 : decode cX11_rank 25 = .ok (.aload_n 0, 1) := by decide +kernel
theorem dX11_rank_26 : decode cX11_rank 26 = .ok (.getfield 33, 3) := by decide +kernel
theorem dX11_rank_29 : decode cX11_rank 29 = .ok (.aload_n 0, 1) := by decide +kernel
theorem dX11_rank_30 : decode cX11_rank 30 = .ok (.getfield 19, 3) := by decide +kernel
theorem dX11_rank_33 : decode cX11_rank 33 = .ok (.invokevirtual 216, 3) := by decide +kernel
theorem dX11_rank_36 : decode cX11_rank 36 = .ok (.istore 4, 2) := by decide +kernel
theorem dX11_rank_38 : decode cX11_rank 38 = .ok (.iload 4, 2) := by decide +kernel
theorem dX11_rank_40 : decode cX11_rank 40 = .ok (.ifCond .lt 36, 3) := by decide +kernel
theorem dX11_rank_43 : decode cX11_rank 43 = .ok (.lload_n 2, 1) := by decide +kernel
theorem dX11_rank_44 : decode cX11_rank 44 = .ok (.aload_n 0, 1) := by decide +kernel
theorem dX11_rank_45 : decode cX11_rank 45 = .ok (.getfield 33, 3) := by decide +kernel
theorem dX11_rank_48 : decode cX11_rank 48 = .ok (.aload_n 0, 1) := by decide +kernel
theorem dX11_rank_49 : decode cX11_rank 49 = .ok (.getfield 19, 3) := by decide +kernel
theorem dX11_rank_52 : decode cX11_rank 52 = .ok (.iload 4, 2) := by decide +kernel
theorem dX11_rank_54 : decode cX11_rank 54 = .ok (.invokevirtual 220, 3) := by decide +kernel
theorem dX11_rank_57 : decode cX11_rank 57 = .ok (.i2l, 1) := by decide +kernel
theorem dX11_rank_58 : decode cX11_rank 58 = .ok (.aload_n 0, 1) := by decide +kernel
theorem dX11_rank_59 : decode cX11_rank 59 = .ok (.getfield 19, 3) := by decide +kernel
theorem dX11_rank_62 : decode cX11_rank 62 = .ok (.iload 4, 2) := by decide +kernel
theorem dX11_rank_64 : decode cX11_rank 64 = .ok (.invokevirtual 203, 3) := by decide +kernel
theorem dX11_rank_67 : decode cX11_rank 67 = .ok (.lmul, 1) := by decide +kernel
theorem dX11_rank_68 : decode cX11_rank 68 = .ok (.ladd, 1) := by decide +kernel
theorem dX11_rank_69 : decode cX11_rank 69 = .ok (.lstore_n 2, 1) := by decide +kernel
theorem dX11_rank_70 : decode cX11_rank 70 = .ok (.iinc 4 (-1), 3) := by decide +kernel
theorem dX11_rank_73 : decode cX11_rank 73 = .ok (.goto (-35), 3) := by decide +kernel
theorem dX11_rank_76 : decode cX11_rank 76 = .ok (.aload_n 0, 1) := by decide +kernel
theorem dX11_rank_77 : decode cX11_rank 77 = .ok (.getfield 33, 3) := by decide +kernel
theorem dX11_rank_80 : decode cX11_rank 80 = .ok (.invokevirtual 224, 3) := by decide +kernel
theorem dX11_rank_83 : decode cX11_rank 83 = .ok (.ifCond .eq 16, 3) := by decide +kernel
theorem dX11_rank_86 : decode cX11_rank 86 = .ok (.lload_n 2, 1) := by decide +kernel
theorem dX11_rank_87 : decode cX11_rank 87 = .ok (.ldc2_w 227, 3) := by decide +kernel
theorem dX11_rank_90 : decode cX11_rank 90 = .ok (.lcmp, 1) := by decide +kernel
theorem dX11_rank_91 : decode cX11_rank 91 = .ok (.ifCond .gt 8, 3) := by decide +kernel
theorem dX11_rank_94 : decode cX11_rank 94 = .ok (.lload_n 2, 1) := by decide +kernel
theorem dX11_rank_95 : decode cX11_rank 95 = .ok (.l2i, 1) := by decide +kernel
theorem dX11_rank_96 : decode cX11_rank 96 = .ok (.goto 4, 3) := by decide +kernel
theorem dX11_rank_99 : decode cX11_rank 99 = .ok (.iconst (-1), 1) := by decide +kernel
theorem dX11_rank_100 : decode cX11_rank 100 = .ok (.ireturn, 1) := by decide +kernel
theorem dX11_ring_0 : decode cX11_ring 0 = .ok (.iload_n 1, 1) := by decide +kernel
theorem dX11_ring_1 : decode cX11_ring 1 = .ok (.ifCond .eq 15, 3) := by decide +kernel
theorem dX11_ring_4 : decode cX11_ring 4 = .ok (.aload_n 0, 1) := by decide +kernel
theorem dX11_ring_5 : decode cX11_ring 5 = .ok (.getfield 61, 3) := by decide +kernel
theorem dX11_ring_8 : decode cX11_ring 8 = .ok (.iload 4, 2) := by decide +kernel
theorem dX11_ring_10 : decode cX11_ring 10 = .ok (.invokevirtual 229, 3) := by decide +kernel
theorem dX11_ring_13 : decode cX11_ring 13 = .ok (.goto 16, 3) := by decide +kernel
theorem dX11_ring_16 : decode cX11_ring 16 = .ok (.aload_n 0, 1) := by decide +kernel
theorem dX11_ring_17 : decode cX11_ring 17 = .ok (.getfield 61, 3) := by decide +kernel
theorem dX11_ring_20 : decode cX11_ring 20 = .ok (.iload_n 2, 1) := by decide +kernel
theorem dX11_ring_21 : decode cX11_ring 21 = .ok (.iload_n 3, 1) := by decide +kernel
theorem dX11_ring_22 : decode cX11_ring 22 = .ok (.iload 4, 2) := by decide +kernel
theorem dX11_ring_24 : decode cX11_ring 24 = .ok (.iload 5, 2) := by decide +kernel
theorem dX11_ring_26 : decode cX11_ring 26 = .ok (.invokevirtual 232, 3) := by decide +kernel
theorem dX11_ring_29 : decode cX11_ring 29 = .ok (.ireturn, 1) := by decide +kernel
theorem dX11_set_0 : decode cX11_set 0 = .ok (.aload_n 0, 1) := by decide +kernel
theorem dX11_set_1 : decode cX11_set 1 = .ok (.getfield 61, 3) := by decide +kernel
theorem dX11_set_4 : decode cX11_set 4 = .ok (.aload_n 0, 1) := by decide +kernel
theorem dX11_set_5 : decode cX11_set 5 = .ok (.getfield 10, 3) := by decide +kernel
theorem dX11_set_8 : decode cX11_set 8 = .ok (.invokevirtual 236, 3) := by decide +kernel
theorem dX11_set_11 : decode cX11_set 11 = .ok (.istore_n 1, 1) := by decide +kernel
theorem dX11_set_12 : decode cX11_set 12 = .ok (.aload_n 0, 1) := by decide +kernel
theorem dX11_set_13 : decode cX11_set 13 = .ok (.getfield 10, 3) := by decide +kernel
theorem dX11_set_16 : decode cX11_set 16 = .ok (.iconst 0, 1) := by decide +kernel
theorem dX11_set_17 : decode cX11_set 17 = .ok (.putfield 93, 3) := by decide +kernel
theorem dX11_set_20 : decode cX11_set 20 = .ok (.iload_n 1, 1) := by decide +kernel
theorem dX11_set_21 : decode cX11_set 21 = .ok (.ireturn, 1) := by decide +kernel
theorem dX11_write_0 : decode cX11_write 0 = .ok (.aload_n 0, 1) := by decide +kernel
theorem dX11_write_1 : decode cX11_write 1 = .ok (.getfield 61, 3) := by decide +kernel
theorem dX11_write_4 : decode cX11_write 4 = .ok (.getfield 240, 3) := by decide +kernel
theorem dX11_write_7 : decode cX11_write 7 = .ok (.iconst 1, 1) := by decide +kernel
theorem dX11_write_8 : decode cX11_write 8 = .ok (.if_icmp .ne 7, 3) := by decide +kernel
theorem dX11_write_11 : decode cX11_write 11 = .ok (.iconst 0, 1) := by decide +kernel
theorem dX11_write_12 : decode cX11_write 12 = .ok (.goto 4, 3) := by decide +kernel
theorem dX11_write_15 : decode cX11_write 15 = .ok (.iload_n 2, 1) := by decide +kernel
theorem dX11_write_16 : decode cX11_write 16 = .ok (.istore_n 3, 1) := by decide +kernel
theorem dX11_write_17 : decode cX11_write 17 = .ok (.aload_n 0, 1) := by decide +kernel
theorem dX11_write_18 : decode cX11_write 18 = .ok (.getfield 61, 3) := by decide +kernel
theorem dX11_write_21 : decode cX11_write 21 = .ok (.getfield 243, 3) := by decide +kernel
theorem dX11_write_24 : decode cX11_write 24 = .ok (.ifCond .eq 25, 3) := by decide +kernel
theorem dX11_write_27 : decode cX11_write 27 = .ok (.iload_n 1, 1) := by decide +kernel
theorem dX11_write_28 : decode cX11_write 28 = .ok (.i2l, 1) := by decide +kernel
theorem dX11_write_29 : decode cX11_write 29 = .ok (.ldc2_w 244, 3) := by decide +kernel
theorem dX11_write_32 : decode cX11_write 32 = .ok (.invokestatic 246, 3) := by decide +kernel
theorem dX11_write_35 : decode cX11_write 35 = .ok (.ifCond .ne 14, 3) := by decide +kernel
theorem dX11_write_38 : decode cX11_write 38 = .ok (.iload_n 3, 1) := by decide +kernel
theorem dX11_write_39 : decode cX11_write 39 = .ok (.i2l, 1) := by decide +kernel
theorem dX11_write_40 : decode cX11_write 40 = .ok (.ldc2_w 244, 3) := by decide +kernel
theorem dX11_write_43 : decode cX11_write 43 = .ok (.invokestatic 246, 3) := by decide +kernel
theorem dX11_write_46 : decode cX11_write 46 = .ok (.ifCond .eq 5, 3) := by decide +kernel
theorem dX11_write_49 : decode cX11_write 49 = .ok (.iconst (-1), 1) := by decide +kernel
theorem dX11_write_50 : decode cX11_write 50 = .ok (.ireturn, 1) := by decide +kernel
theorem dX11_write_51 : decode cX11_write 51 = .ok (.aload_n 0, 1) := by decide +kernel
theorem dX11_write_52 : decode cX11_write 52 = .ok (.getfield 68, 3) := by decide +kernel
theorem dX11_write_55 : decode cX11_write 55 = .ok (.aload_n 0, 1) := by decide +kernel
theorem dX11_write_56 : decode cX11_write 56 = .ok (.getfield 61, 3) := by decide +kernel
theorem dX11_write_59 : decode cX11_write 59 = .ok (.aload_n 0, 1) := by decide +kernel
theorem dX11_write_60 : decode cX11_write 60 = .ok (.getfield 54, 3) := by decide +kernel
theorem dX11_write_63 : decode cX11_write 63 = .ok (.iload_n 1, 1) := by decide +kernel
theorem dX11_write_64 : decode cX11_write 64 = .ok (.i2l, 1) := by decide +kernel
theorem dX11_write_65 : decode cX11_write 65 = .ok (.iload_n 3, 1) := by decide +kernel
theorem dX11_write_66 : decode cX11_write 66 = .ok (.i2l, 1) := by decide +kernel
theorem dX11_write_67 : decode cX11_write 67 = .ok (.invokevirtual 250, 3) := by decide +kernel
theorem dX11_write_70 : decode cX11_write 70 = .ok (.aload_n 0, 1) := by decide +kernel
theorem dX11_write_71 : decode cX11_write 71 = .ok (.getfield 68, 3) := by decide +kernel
theorem dX11_write_74 : decode cX11_write 74 = .ok (.getfield 254, 3) := by decide +kernel
theorem dX11_write_77 : decode cX11_write 77 = .ok (.ireturn, 1) := by decide +kernel
theorem dX11_written_0 : decode cX11_written 0 = .ok (.aload_n 0, 1) := by decide +kernel
theorem dX11_written_1 : decode cX11_written 1 = .ok (.getfield 68, 3) := by decide +kernel
theorem dX11_written_4 : decode cX11_written 4 = .ok (.getfield 254, 3) := by decide +kernel
theorem dX11_written_7 : decode cX11_written 7 = .ok (.iconst (-1), 1) := by decide +kernel
theorem dX11_written_8 : decode cX11_written 8 = .ok (.if_icmp .eq 12, 3) := by decide +kernel
theorem dX11_written_11 : decode cX11_written 11 = .ok (.iload_n 1, 1) := by decide +kernel
theorem dX11_written_12 : decode cX11_written 12 = .ok (.ifCond .lt 8, 3) := by decide +kernel
theorem dX11_written_15 : decode cX11_written 15 = .ok (.iload_n 1, 1) := by decide +kernel
theorem dX11_written_16 : decode cX11_written 16 = .ok (.iconst 1, 1) := by decide +kernel
theorem dX11_written_17 : decode cX11_written 17 = .ok (.if_icmp .le 5, 3) := by decide +kernel
theorem dX11_written_20 : decode cX11_written 20 = .ok (.iconst (-1), 1) := by decide +kernel
theorem dX11_written_21 : decode cX11_written 21 = .ok (.ireturn, 1) := by decide +kernel
theorem dX11_written_22 : decode cX11_written 22 = .ok (.iload_n 1, 1) := by decide +kernel
theorem dX11_written_23 : decode cX11_written 23 = .ok (.ifCond .ne 13, 3) := by decide +kernel
theorem dX11_written_26 : decode cX11_written 26 = .ok (.aload_n 0, 1) := by decide +kernel
theorem dX11_written_27 : decode cX11_written 27 = .ok (.getfield 68, 3) := by decide +kernel
theorem dX11_written_30 : decode cX11_written 30 = .ok (.getfield 255, 3) := by decide +kernel
theorem dX11_written_33 : decode cX11_written 33 = .ok (.goto 10, 3) := by decide +kernel
theorem dX11_written_36 : decode cX11_written 36 = .ok (.aload_n 0, 1) := by decide +kernel
theorem dX11_written_37 : decode cX11_written 37 = .ok (.getfield 68, 3) := by decide +kernel
theorem dX11_written_40 : decode cX11_written 40 = .ok (.getfield 256, 3) := by decide +kernel
theorem dX11_written_43 : decode cX11_written 43 = .ok (.ireturn, 1) := by decide +kernel
theorem dX11_place_0 : decode cX11_place 0 = .ok (.aload_n 0, 1) := by decide +kernel
theorem dX11_place_1 : decode cX11_place 1 = .ok (.getfield 68, 3) := by decide +kernel
theorem dX11_place_4 : decode cX11_place 4 = .ok (.iload_n 1, 1) := by decide +kernel
theorem dX11_place_5 : decode cX11_place 5 = .ok (.invokevirtual 257, 3) := by decide +kernel
theorem dX11_place_8 : decode cX11_place 8 = .ok (.ireturn, 1) := by decide +kernel
theorem dX11_rounds_0 : decode cX11_rounds 0 = .ok (.aload_n 0, 1) := by decide +kernel
theorem dX11_rounds_1 : decode cX11_rounds 1 = .ok (.iload_n 1, 1) := by decide +kernel
theorem dX11_rounds_2 : decode cX11_rounds 2 = .ok (.invokevirtual 258, 3) := by decide +kernel
theorem dX11_rounds_5 : decode cX11_rounds 5 = .ok (.ifCond .ne 5, 3) := by decide +kernel
theorem dX11_rounds_8 : decode cX11_rounds 8 = .ok (.iconst (-1), 1) := by decide +kernel
theorem dX11_rounds_9 : decode cX11_rounds 9 = .ok (.ireturn, 1) := by decide +kernel
theorem dX11_rounds_10 : decode cX11_rounds 10 = .ok (.aload_n 0, 1) := by decide +kernel
theorem dX11_rounds_11 : decode cX11_rounds 11 = .ok (.getfield 78, 3) := by decide +kernel
theorem dX11_rounds_14 : decode cX11_rounds 14 = .ok (.astore_n 2, 1) := by decide +kernel
theorem dX11_rounds_15 : decode cX11_rounds 15 = .ok (.aload_n 0, 1) := by decide +kernel
theorem dX11_rounds_16 : decode cX11_rounds 16 = .ok (.aload_n 0, 1) := by decide +kernel
theorem dX11_rounds_17 : decode cX11_rounds 17 = .ok (.getfield 82, 3) := by decide +kernel
theorem dX11_rounds_20 : decode cX11_rounds 20 = .ok (.putfield 78, 3) := by decide +kernel
theorem dX11_rounds_23 : decode cX11_rounds 23 = .ok (.aload_n 0, 1) := by decide +kernel
theorem dX11_rounds_24 : decode cX11_rounds 24 = .ok (.aload_n 2, 1) := by decide +kernel
theorem dX11_rounds_25 : decode cX11_rounds 25 = .ok (.putfield 82, 3) := by decide +kernel
theorem dX11_rounds_28 : decode cX11_rounds 28 = .ok (.aload_n 0, 1) := by decide +kernel
theorem dX11_rounds_29 : decode cX11_rounds 29 = .ok (.getfield 78, 3) := by decide +kernel
theorem dX11_rounds_32 : decode cX11_rounds 32 = .ok (.getfield 261, 3) := by decide +kernel
theorem dX11_rounds_35 : decode cX11_rounds 35 = .ok (.ireturn, 1) := by decide +kernel
theorem dX11_round_0 : decode cX11_round 0 = .ok (.iload_n 1, 1) := by decide +kernel
theorem dX11_round_1 : decode cX11_round 1 = .ok (.ifCond .lt 23, 3) := by decide +kernel
theorem dX11_round_4 : decode cX11_round 4 = .ok (.iload_n 1, 1) := by decide +kernel
theorem dX11_round_5 : decode cX11_round 5 = .ok (.aload_n 0, 1) := by decide +kernel
theorem dX11_round_6 : decode cX11_round 6 = .ok (.getfield 78, 3) := by decide +kernel
theorem dX11_round_9 : decode cX11_round 9 = .ok (.getfield 261, 3) := by decide +kernel
theorem dX11_round_12 : decode cX11_round 12 = .ok (.if_icmp .ge 12, 3) := by decide +kernel
theorem dX11_round_15 : decode cX11_round 15 = .ok (.iload_n 2, 1) := by decide +kernel
theorem dX11_round_16 : decode cX11_round 16 = .ok (.ifCond .lt 8, 3) := by decide +kernel
theorem dX11_round_19 : decode cX11_round 19 = .ok (.iload_n 2, 1) := by decide +kernel
theorem dX11_round_20 : decode cX11_round 20 = .ok (.iconst 2, 1) := by decide +kernel
theorem dX11_round_21 : decode cX11_round 21 = .ok (.if_icmp .le 14, 3) := by decide +kernel
theorem dX11_round_24 : decode cX11_round 24 = .ok (.new 130, 3) := by decide +kernel
theorem dX11_round_27 : decode cX11_round 27 = .ok (.dup, 1) := by decide +kernel
theorem dX11_round_28 : decode cX11_round 28 = .ok (.ldc_w 262, 3) := by decide +kernel
theorem dX11_round_31 : decode cX11_round 31 = .ok (.invokespecial 134, 3) := by decide +kernel
theorem dX11_round_34 : decode cX11_round 34 = .ok (.athrow, 1) := by decide +kernel
theorem dX11_round_35 : decode cX11_round 35 = .ok (.iload_n 2, 1) := by decide +kernel
theorem dX11_round_36 : decode cX11_round 36 = .ok (.ifCond .ne 15, 3) := by decide +kernel
theorem dX11_round_39 : decode cX11_round 39 = .ok (.aload_n 0, 1) := by decide +kernel
theorem dX11_round_40 : decode cX11_round 40 = .ok (.getfield 78, 3) := by decide +kernel
theorem dX11_round_43 : decode cX11_round 43 = .ok (.getfield 264, 3) := by decide +kernel
theorem dX11_round_46 : decode cX11_round 46 = .ok (.iload_n 1, 1) := by decide +kernel
theorem dX11_round_47 : decode cX11_round 47 = .ok (.iaload, 1) := by decide +kernel
theorem dX11_round_48 : decode cX11_round 48 = .ok (.goto 29, 3) := by decide +kernel
theorem dX11_round_51 : decode cX11_round 51 = .ok (.iload_n 2, 1) := by decide +kernel
theorem dX11_round_52 : decode cX11_round 52 = .ok (.iconst 1, 1) := by decide +kernel
theorem dX11_round_53 : decode cX11_round 53 = .ok (.if_icmp .ne 15, 3) := by decide +kernel
theorem dX11_round_56 : decode cX11_round 56 = .ok (.aload_n 0, 1) := by decide +kernel
theorem dX11_round_57 : decode cX11_round 57 = .ok (.getfield 78, 3) := by decide +kernel
theorem dX11_round_60 : decode cX11_round 60 = .ok (.getfield 268, 3) := by decide +kernel
theorem dX11_round_63 : decode cX11_round 63 = .ok (.iload_n 1, 1) := by decide +kernel
theorem dX11_round_64 : decode cX11_round 64 = .ok (.iaload, 1) := by decide +kernel
theorem dX11_round_65 : decode cX11_round 65 = .ok (.goto 12, 3) := by decide +kernel
theorem dX11_round_68 : decode cX11_round 68 = .ok (.aload_n 0, 1) := by decide +kernel
theorem dX11_round_69 : decode cX11_round 69 = .ok (.getfield 78, 3) := by decide +kernel
theorem dX11_round_72 : decode cX11_round 72 = .ok (.getfield 271, 3) := by decide +kernel
theorem dX11_round_75 : decode cX11_round 75 = .ok (.iload_n 1, 1) := by decide +kernel
theorem dX11_round_76 : decode cX11_round 76 = .ok (.iaload, 1) := by decide +kernel
theorem dX11_round_77 : decode cX11_round 77 = .ok (.ireturn, 1) := by decide +kernel
theorem dX11_ending_0 : decode cX11_ending 0 = .ok (.aload_n 0, 1) := by decide +kernel
theorem dX11_ending_1 : decode cX11_ending 1 = .ok (.iload_n 1, 1) := by decide +kernel
theorem dX11_ending_2 : decode cX11_ending 2 = .ok (.invokevirtual 258, 3) := by decide +kernel
theorem dX11_ending_5 : decode cX11_ending 5 = .ok (.ifCond .eq 10, 3) := by decide +kernel
theorem dX11_ending_8 : decode cX11_ending 8 = .ok (.aload_n 0, 1) := by decide +kernel
theorem dX11_ending_9 : decode cX11_ending 9 = .ok (.getfield 274, 3) := by decide +kernel
theorem dX11_ending_12 : decode cX11_ending 12 = .ok (.goto 4, 3) := by decide +kernel
theorem dX11_ending_15 : decode cX11_ending 15 = .ok (.iconst (-1), 1) := by decide +kernel
theorem dX11_ending_16 : decode cX11_ending 16 = .ok (.ireturn, 1) := by decide +kernel
theorem dX11_count_0 : decode cX11_count 0 = .ok (.iload_n 1, 1) := by decide +kernel
theorem dX11_count_1 : decode cX11_count 1 = .ok (.tableswitch 108 0 7 #[47, 55, 63, 71, 76, 84, 92, 100], 47) := by decide +kernel
theorem dX11_count_48 : decode cX11_count 48 = .ok (.aload_n 0, 1) := by decide +kernel
theorem dX11_count_49 : decode cX11_count 49 = .ok (.getfield 19, 3) := by decide +kernel
theorem dX11_count_52 : decode cX11_count 52 = .ok (.getfield 277, 3) := by decide +kernel
theorem dX11_count_55 : decode cX11_count 55 = .ok (.ireturn, 1) := by decide +kernel
theorem dX11_count_56 : decode cX11_count 56 = .ok (.aload_n 0, 1) := by decide +kernel
theorem dX11_count_57 : decode cX11_count 57 = .ok (.getfield 19, 3) := by decide +kernel
theorem dX11_count_60 : decode cX11_count 60 = .ok (.getfield 280, 3) := by decide +kernel
theorem dX11_count_63 : decode cX11_count 63 = .ok (.ireturn, 1) := by decide +kernel
theorem dX11_count_64 : decode cX11_count 64 = .ok (.aload_n 0, 1) := by decide +kernel
theorem dX11_count_65 : decode cX11_count 65 = .ok (.getfield 19, 3) := by decide +kernel
theorem dX11_count_68 : decode cX11_count 68 = .ok (.invokevirtual 283, 3) := by decide +kernel
theorem dX11_count_71 : decode cX11_count 71 = .ok (.ireturn, 1) := by decide +kernel
theorem dX11_count_72 : decode cX11_count 72 = .ok (.aload_n 0, 1) := by decide +kernel
theorem dX11_count_73 : decode cX11_count 73 = .ok (.invokevirtual 285, 3) := by decide +kernel
theorem dX11_count_76 : decode cX11_count 76 = .ok (.ireturn, 1) := by decide +kernel
theorem dX11_count_77 : decode cX11_count 77 = .ok (.aload_n 0, 1) := by decide +kernel
theorem dX11_count_78 : decode cX11_count 78 = .ok (.getfield 10, 3) := by decide +kernel
theorem dX11_count_81 : decode cX11_count 81 = .ok (.getfield 93, 3) := by decide +kernel
theorem dX11_count_84 : decode cX11_count 84 = .ok (.ireturn, 1) := by decide +kernel
theorem dX11_count_85 : decode cX11_count 85 = .ok (.aload_n 0, 1) := by decide +kernel
theorem dX11_count_86 : decode cX11_count 86 = .ok (.getfield 61, 3) := by decide +kernel
theorem dX11_count_89 : decode cX11_count 89 = .ok (.getfield 288, 3) := by decide +kernel
theorem dX11_count_92 : decode cX11_count 92 = .ok (.ireturn, 1) := by decide +kernel
theorem dX11_count_93 : decode cX11_count 93 = .ok (.aload_n 0, 1) := by decide +kernel
theorem dX11_count_94 : decode cX11_count 94 = .ok (.getfield 61, 3) := by decide +kernel
theorem dX11_count_97 : decode cX11_count 97 = .ok (.getfield 243, 3) := by decide +kernel
theorem dX11_count_100 : decode cX11_count 100 = .ok (.ireturn, 1) := by decide +kernel
theorem dX11_count_101 : decode cX11_count 101 = .ok (.aload_n 0, 1) := by decide +kernel
theorem dX11_count_102 : decode cX11_count 102 = .ok (.getfield 61, 3) := by decide +kernel
theorem dX11_count_105 : decode cX11_count 105 = .ok (.getfield 240, 3) := by decide +kernel
theorem dX11_count_108 : decode cX11_count 108 = .ok (.ireturn, 1) := by decide +kernel
theorem dX11_count_109 : decode cX11_count 109 = .ok (.iconst (-1), 1) := by decide +kernel
theorem dX11_count_110 : decode cX11_count 110 = .ok (.ireturn, 1) := by decide +kernel
theorem dX11_isSlot_0 : decode cX11_isSlot 0 = .ok (.iload_n 0, 1) := by decide +kernel
theorem dX11_isSlot_1 : decode cX11_isSlot 1 = .ok (.ifCond .lt 13, 3) := by decide +kernel
theorem dX11_isSlot_4 : decode cX11_isSlot 4 = .ok (.iload_n 0, 1) := by decide +kernel
theorem dX11_isSlot_5 : decode cX11_isSlot 5 = .ok (.bipush 10, 2) := by decide +kernel
theorem dX11_isSlot_7 : decode cX11_isSlot 7 = .ok (.if_icmp .ge 7, 3) := by decide +kernel
theorem dX11_isSlot_10 : decode cX11_isSlot 10 = .ok (.iconst 1, 1) := by decide +kernel
theorem dX11_isSlot_11 : decode cX11_isSlot 11 = .ok (.goto 4, 3) := by decide +kernel
theorem dX11_isSlot_14 : decode cX11_isSlot 14 = .ok (.iconst 0, 1) := by decide +kernel
theorem dX11_isSlot_15 : decode cX11_isSlot 15 = .ok (.ireturn, 1) := by decide +kernel
theorem dX11_hasNumber_0 : decode cX11_hasNumber 0 = .ok (.iload_n 1, 1) := by decide +kernel
theorem dX11_hasNumber_1 : decode cX11_hasNumber 1 = .ok (.invokestatic 108, 3) := by decide +kernel
theorem dX11_hasNumber_4 : decode cX11_hasNumber 4 = .ok (.ifCond .eq 19, 3) := by decide +kernel
theorem dX11_hasNumber_7 : decode cX11_hasNumber 7 = .ok (.aload_n 0, 1) := by decide +kernel
theorem dX11_hasNumber_8 : decode cX11_hasNumber 8 = .ok (.getfield 25, 3) := by decide +kernel
theorem dX11_hasNumber_11 : decode cX11_hasNumber 11 = .ok (.iload_n 1, 1) := by decide +kernel
theorem dX11_hasNumber_12 : decode cX11_hasNumber 12 = .ok (.aaload, 1) := by decide +kernel
theorem dX11_hasNumber_13 : decode cX11_hasNumber 13 = .ok (.getfield 101, 3) := by decide +kernel
theorem dX11_hasNumber_16 : decode cX11_hasNumber 16 = .ok (.ifCond .eq 7, 3) := by decide +kernel
theorem dX11_hasNumber_19 : decode cX11_hasNumber 19 = .ok (.iconst 1, 1) := by decide +kernel
theorem dX11_hasNumber_20 : decode cX11_hasNumber 20 = .ok (.goto 4, 3) := by decide +kernel
theorem dX11_hasNumber_23 : decode cX11_hasNumber 23 = .ok (.iconst 0, 1) := by decide +kernel
theorem dX11_hasNumber_24 : decode cX11_hasNumber 24 = .ok (.ireturn, 1) := by decide +kernel
theorem dX11_hasNumberFromZero_0 : decode cX11_hasNumberFromZero 0 = .ok (.aload_n 0, 1) := by decide +kernel
theorem dX11_hasNumberFromZero_1 : decode cX11_hasNumberFromZero 1 = .ok (.iload_n 1, 1) := by decide +kernel
theorem dX11_hasNumberFromZero_2 : decode cX11_hasNumberFromZero 2 = .ok (.invokevirtual 116, 3) := by decide +kernel
theorem dX11_hasNumberFromZero_5 : decode cX11_hasNumberFromZero 5 = .ok (.ifCond .eq 35, 3) := by decide +kernel
theorem dX11_hasNumberFromZero_8 : decode cX11_hasNumberFromZero 8 = .ok (.aload_n 0, 1) := by decide +kernel
theorem dX11_hasNumberFromZero_9 : decode cX11_hasNumberFromZero 9 = .ok (.getfield 19, 3) := by decide +kernel
theorem dX11_hasNumberFromZero_12 : decode cX11_hasNumberFromZero 12 = .ok (.aload_n 0, 1) := by decide +kernel
theorem dX11_hasNumberFromZero_13 : decode cX11_hasNumberFromZero 13 = .ok (.getfield 25, 3) := by decide +kernel
theorem dX11_hasNumberFromZero_16 : decode cX11_hasNumberFromZero 16 = .ok (.iload_n 1, 1) := by decide +kernel
theorem dX11_hasNumberFromZero_17 : decode cX11_hasNumberFromZero 17 = .ok (.aaload, 1) := by decide +kernel
theorem dX11_hasNumberFromZero_18 : decode cX11_hasNumberFromZero 18 = .ok (.getfield 137, 3) := by decide +kernel
theorem dX11_hasNumberFromZero_21 : decode cX11_hasNumberFromZero 21 = .ok (.aload_n 0, 1) := by decide +kernel
theorem dX11_hasNumberFromZero_22 : decode cX11_hasNumberFromZero 22 = .ok (.getfield 25, 3) := by decide +kernel
theorem dX11_hasNumberFromZero_25 : decode cX11_hasNumberFromZero 25 = .ok (.iload_n 1, 1) := by decide +kernel
theorem dX11_hasNumberFromZero_26 : decode cX11_hasNumberFromZero 26 = .ok (.aaload, 1) := by decide +kernel
theorem dX11_hasNumberFromZero_27 : decode cX11_hasNumberFromZero 27 = .ok (.getfield 141, 3) := by decide +kernel
theorem dX11_hasNumberFromZero_30 : decode cX11_hasNumberFromZero 30 = .ok (.invokevirtual 147, 3) := by decide +kernel
theorem dX11_hasNumberFromZero_33 : decode cX11_hasNumberFromZero 33 = .ok (.ifCond .lt 7, 3) := by decide +kernel
theorem dX11_hasNumberFromZero_36 : decode cX11_hasNumberFromZero 36 = .ok (.iconst 1, 1) := by decide +kernel
theorem dX11_hasNumberFromZero_37 : decode cX11_hasNumberFromZero 37 = .ok (.goto 4, 3) := by decide +kernel
theorem dX11_hasNumberFromZero_40 : decode cX11_hasNumberFromZero 40 = .ok (.iconst 0, 1) := by decide +kernel
theorem dX11_hasNumberFromZero_41 : decode cX11_hasNumberFromZero 41 = .ok (.ireturn, 1) := by decide +kernel
theorem dX11_numbersThere_0 : decode cX11_numbersThere 0 = .ok (.iconst 0, 1) := by decide +kernel
theorem dX11_numbersThere_1 : decode cX11_numbersThere 1 = .ok (.istore_n 1, 1) := by decide +kernel
theorem dX11_numbersThere_2 : decode cX11_numbersThere 2 = .ok (.iconst 0, 1) := by decide +kernel
theorem dX11_numbersThere_3 : decode cX11_numbersThere 3 = .ok (.istore_n 2, 1) := by decide +kernel
theorem dX11_numbersThere_4 : decode cX11_numbersThere 4 = .ok (.iload_n 2, 1) := by decide +kernel
theorem dX11_numbersThere_5 : decode cX11_numbersThere 5 = .ok (.bipush 10, 2) := by decide +kernel
theorem dX11_numbersThere_7 : decode cX11_numbersThere 7 = .ok (.if_icmp .ge 24, 3) := by decide +kernel
theorem dX11_numbersThere_10 : decode cX11_numbersThere 10 = .ok (.aload_n 0, 1) := by decide +kernel
theorem dX11_numbersThere_11 : decode cX11_numbersThere 11 = .ok (.getfield 25, 3) := by decide +kernel
theorem dX11_numbersThere_14 : decode cX11_numbersThere 14 = .ok (.iload_n 2, 1) := by decide +kernel
theorem dX11_numbersThere_15 : decode cX11_numbersThere 15 = .ok (.aaload, 1) := by decide +kernel
theorem dX11_numbersThere_16 : decode cX11_numbersThere 16 = .ok (.getfield 101, 3) := by decide +kernel
theorem dX11_numbersThere_19 : decode cX11_numbersThere 19 = .ok (.ifCond .eq 6, 3) := by decide +kernel
theorem dX11_numbersThere_22 : decode cX11_numbersThere 22 = .ok (.iinc 1 1, 3) := by decide +kernel
theorem dX11_numbersThere_25 : decode cX11_numbersThere 25 = .ok (.iinc 2 1, 3) := by decide +kernel
theorem dX11_numbersThere_28 : decode cX11_numbersThere 28 = .ok (.goto (-24), 3) := by decide +kernel
theorem dX11_numbersThere_31 : decode cX11_numbersThere 31 = .ok (.iload_n 1, 1) := by decide +kernel
theorem dX11_numbersThere_32 : decode cX11_numbersThere 32 = .ok (.ireturn, 1) := by decide +kernel
theorem dX11_isBeyond_0 : decode cX11_isBeyond 0 = .ok (.lload_n 0, 1) := by decide +kernel
theorem dX11_isBeyond_1 : decode cX11_isBeyond 1 = .ok (.lload_n 2, 1) := by decide +kernel
theorem dX11_isBeyond_2 : decode cX11_isBeyond 2 = .ok (.lneg, 1) := by decide +kernel
theorem dX11_isBeyond_3 : decode cX11_isBeyond 3 = .ok (.lcmp, 1) := by decide +kernel
theorem dX11_isBeyond_4 : decode cX11_isBeyond 4 = .ok (.ifCond .lt 9, 3) := by decide +kernel
theorem dX11_isBeyond_7 : decode cX11_isBeyond 7 = .ok (.lload_n 0, 1) := by decide +kernel
theorem dX11_isBeyond_8 : decode cX11_isBeyond 8 = .ok (.lload_n 2, 1) := by decide +kernel
theorem dX11_isBeyond_9 : decode cX11_isBeyond 9 = .ok (.lcmp, 1) := by decide +kernel
theorem dX11_isBeyond_10 : decode cX11_isBeyond 10 = .ok (.ifCond .le 7, 3) := by decide +kernel
theorem dX11_isBeyond_13 : decode cX11_isBeyond 13 = .ok (.iconst 1, 1) := by decide +kernel
theorem dX11_isBeyond_14 : decode cX11_isBeyond 14 = .ok (.goto 4, 3) := by decide +kernel
theorem dX11_isBeyond_17 : decode cX11_isBeyond 17 = .ok (.iconst 0, 1) := by decide +kernel
theorem dX11_isBeyond_18 : decode cX11_isBeyond 18 = .ok (.ireturn, 1) := by decide +kernel
theorem dX11_firstAboveBar_0 : decode cX11_firstAboveBar 0 = .ok (.iconst 0, 1) := by decide +kernel
theorem dX11_firstAboveBar_1 : decode cX11_firstAboveBar 1 = .ok (.istore_n 1, 1) := by decide +kernel
theorem dX11_firstAboveBar_2 : decode cX11_firstAboveBar 2 = .ok (.iload_n 1, 1) := by decide +kernel
theorem dX11_firstAboveBar_3 : decode cX11_firstAboveBar 3 = .ok (.aload_n 0, 1) := by decide +kernel
theorem dX11_firstAboveBar_4 : decode cX11_firstAboveBar 4 = .ok (.getfield 10, 3) := by decide +kernel
theorem dX11_firstAboveBar_7 : decode cX11_firstAboveBar 7 = .ok (.getfield 93, 3) := by decide +kernel
theorem dX11_firstAboveBar_10 : decode cX11_firstAboveBar 10 = .ok (.if_icmp .ge 19, 3) := by decide +kernel
theorem dX11_firstAboveBar_13 : decode cX11_firstAboveBar 13 = .ok (.aload_n 0, 1) := by decide +kernel
theorem dX11_firstAboveBar_14 : decode cX11_firstAboveBar 14 = .ok (.iload_n 1, 1) := by decide +kernel
theorem dX11_firstAboveBar_15 : decode cX11_firstAboveBar 15 = .ok (.invokevirtual 291, 3) := by decide +kernel
theorem dX11_firstAboveBar_18 : decode cX11_firstAboveBar 18 = .ok (.ifCond .eq 5, 3) := by decide +kernel
theorem dX11_firstAboveBar_21 : decode cX11_firstAboveBar 21 = .ok (.iload_n 1, 1) := by decide +kernel
theorem dX11_firstAboveBar_22 : decode cX11_firstAboveBar 22 = .ok (.ireturn, 1) := by decide +kernel
theorem dX11_firstAboveBar_23 : decode cX11_firstAboveBar 23 = .ok (.iinc 1 1, 3) := by decide +kernel
theorem dX11_firstAboveBar_26 : decode cX11_firstAboveBar 26 = .ok (.goto (-24), 3) := by decide +kernel
theorem dX11_firstAboveBar_29 : decode cX11_firstAboveBar 29 = .ok (.iconst (-1), 1) := by decide +kernel
theorem dX11_firstAboveBar_30 : decode cX11_firstAboveBar 30 = .ok (.ireturn, 1) := by decide +kernel
theorem dX11_isAboveBar_0 : decode cX11_isAboveBar 0 = .ok (.iload_n 1, 1) := by decide +kernel
theorem dX11_isAboveBar_1 : decode cX11_isAboveBar 1 = .ok (.istore_n 2, 1) := by decide +kernel
theorem dX11_isAboveBar_2 : decode cX11_isAboveBar 2 = .ok (.iload_n 2, 1) := by decide +kernel
theorem dX11_isAboveBar_3 : decode cX11_isAboveBar 3 = .ok (.aload_n 0, 1) := by decide +kernel
theorem dX11_isAboveBar_4 : decode cX11_isAboveBar 4 = .ok (.getfield 10, 3) := by decide +kernel
theorem dX11_isAboveBar_7 : decode cX11_isAboveBar 7 = .ok (.getfield 93, 3) := by decide +kernel
theorem dX11_isAboveBar_10 : decode cX11_isAboveBar 10 = .ok (.if_icmp .ge 50, 3) := by decide +kernel
theorem dX11_isAboveBar_13 : decode cX11_isAboveBar 13 = .ok (.aload_n 0, 1) := by decide +kernel
theorem dX11_isAboveBar_14 : decode cX11_isAboveBar 14 = .ok (.getfield 10, 3) := by decide +kernel
theorem dX11_isAboveBar_17 : decode cX11_isAboveBar 17 = .ok (.iload_n 2, 1) := by decide +kernel
theorem dX11_isAboveBar_18 : decode cX11_isAboveBar 18 = .ok (.invokevirtual 294, 3) := by decide +kernel
theorem dX11_isAboveBar_21 : decode cX11_isAboveBar 21 = .ok (.istore_n 3, 1) := by decide +kernel
theorem dX11_isAboveBar_22 : decode cX11_isAboveBar 22 = .ok (.aload_n 0, 1) := by decide +kernel
theorem dX11_isAboveBar_23 : decode cX11_isAboveBar 23 = .ok (.getfield 19, 3) := by decide +kernel
theorem dX11_isAboveBar_26 : decode cX11_isAboveBar 26 = .ok (.iload_n 2, 1) := by decide +kernel
theorem dX11_isAboveBar_27 : decode cX11_isAboveBar 27 = .ok (.iload_n 1, 1) := by decide +kernel
theorem dX11_isAboveBar_28 : decode cX11_isAboveBar 28 = .ok (.isub, 1) := by decide +kernel
theorem dX11_isAboveBar_29 : decode cX11_isAboveBar 29 = .ok (.iconst 1, 1) := by decide +kernel
theorem dX11_isAboveBar_30 : decode cX11_isAboveBar 30 = .ok (.iadd, 1) := by decide +kernel
theorem dX11_isAboveBar_31 : decode cX11_isAboveBar 31 = .ok (.invokevirtual 295, 3) := by decide +kernel
theorem dX11_isAboveBar_34 : decode cX11_isAboveBar 34 = .ok (.istore 4, 2) := by decide +kernel
theorem dX11_isAboveBar_36 : decode cX11_isAboveBar 36 = .ok (.iload_n 3, 1) := by decide +kernel
theorem dX11_isAboveBar_37 : decode cX11_isAboveBar 37 = .ok (.iload 4, 2) := by decide +kernel
theorem dX11_isAboveBar_39 : decode cX11_isAboveBar 39 = .ok (.if_icmp .eq 15, 3) := by decide +kernel
theorem dX11_isAboveBar_42 : decode cX11_isAboveBar 42 = .ok (.iload_n 3, 1) := by decide +kernel
theorem dX11_isAboveBar_43 : decode cX11_isAboveBar 43 = .ok (.iload 4, 2) := by decide +kernel
theorem dX11_isAboveBar_45 : decode cX11_isAboveBar 45 = .ok (.if_icmp .le 7, 3) := by decide +kernel
theorem dX11_isAboveBar_48 : decode cX11_isAboveBar 48 = .ok (.iconst 1, 1) := by decide +kernel
theorem dX11_isAboveBar_49 : decode cX11_isAboveBar 49 = .ok (.goto 4, 3) := by decide +kernel
theorem dX11_isAboveBar_52 : decode cX11_isAboveBar 52 = .ok (.iconst 0, 1) := by decide +kernel
theorem dX11_isAboveBar_53 : decode cX11_isAboveBar 53 = .ok (.ireturn, 1) := by decide +kernel
theorem dX11_isAboveBar_54 : decode cX11_isAboveBar 54 = .ok (.iinc 2 1, 3) := by decide +kernel
theorem dX11_isAboveBar_57 : decode cX11_isAboveBar 57 = .ok (.goto (-55), 3) := by decide +kernel
theorem dX11_isAboveBar_60 : decode cX11_isAboveBar 60 = .ok (.iconst 0, 1) := by decide +kernel
theorem dX11_isAboveBar_61 : decode cX11_isAboveBar 61 = .ok (.ireturn, 1) := by decide +kernel
theorem dX11_surveyAll_0 : decode cX11_surveyAll 0 = .ok (.aload_n 0, 1) := by decide +kernel
theorem dX11_surveyAll_1 : decode cX11_surveyAll 1 = .ok (.getfield 61, 3) := by decide +kernel
theorem dX11_surveyAll_4 : decode cX11_surveyAll 4 = .ok (.getfield 243, 3) := by decide +kernel
theorem dX11_surveyAll_7 : decode cX11_surveyAll 7 = .ok (.ifCond .eq 13, 3) := by decide +kernel
theorem dX11_surveyAll_10 : decode cX11_surveyAll 10 = .ok (.iload_n 1, 1) := by decide +kernel
theorem dX11_surveyAll_11 : decode cX11_surveyAll 11 = .ok (.ifCond .lt 9, 3) := by decide +kernel
theorem dX11_surveyAll_14 : decode cX11_surveyAll 14 = .ok (.iload_n 1, 1) := by decide +kernel
theorem dX11_surveyAll_15 : decode cX11_surveyAll 15 = .ok (.bipush 10, 2) := by decide +kernel
theorem dX11_surveyAll_17 : decode cX11_surveyAll 17 = .ok (.if_icmp .le 5, 3) := by decide +kernel
theorem dX11_surveyAll_20 : decode cX11_surveyAll 20 = .ok (.iconst 0, 1) := by decide +kernel
theorem dX11_surveyAll_21 : decode cX11_surveyAll 21 = .ok (.ireturn, 1) := by decide +kernel
theorem dX11_surveyAll_22 : decode cX11_surveyAll 22 = .ok (.aload_n 0, 1) := by decide +kernel
theorem dX11_surveyAll_23 : decode cX11_surveyAll 23 = .ok (.getfield 61, 3) := by decide +kernel
theorem dX11_surveyAll_26 : decode cX11_surveyAll 26 = .ok (.getfield 240, 3) := by decide +kernel
theorem dX11_surveyAll_29 : decode cX11_surveyAll 29 = .ok (.iconst 1, 1) := by decide +kernel
theorem dX11_surveyAll_30 : decode cX11_surveyAll 30 = .ok (.if_icmp .ne 7, 3) := by decide +kernel
theorem dX11_surveyAll_33 : decode cX11_surveyAll 33 = .ok (.iconst 0, 1) := by decide +kernel
theorem dX11_surveyAll_34 : decode cX11_surveyAll 34 = .ok (.goto 4, 3) := by decide +kernel
theorem dX11_surveyAll_37 : decode cX11_surveyAll 37 = .ok (.iload_n 1, 1) := by decide +kernel
theorem dX11_surveyAll_38 : decode cX11_surveyAll 38 = .ok (.istore_n 2, 1) := by decide +kernel
theorem dX11_surveyAll_39 : decode cX11_surveyAll 39 = .ok (.aload_n 0, 1) := by decide +kernel
theorem dX11_surveyAll_40 : decode cX11_surveyAll 40 = .ok (.iconst 0, 1) := by decide +kernel
theorem dX11_surveyAll_41 : decode cX11_surveyAll 41 = .ok (.putfield 274, 3) := by decide +kernel
theorem dX11_surveyAll_44 : decode cX11_surveyAll 44 = .ok (.aload_n 0, 1) := by decide +kernel
theorem dX11_surveyAll_45 : decode cX11_surveyAll 45 = .ok (.getfield 82, 3) := by decide +kernel
theorem dX11_surveyAll_48 : decode cX11_surveyAll 48 = .ok (.iconst 0, 1) := by decide +kernel
theorem dX11_surveyAll_49 : decode cX11_surveyAll 49 = .ok (.putfield 261, 3) := by decide +kernel
theorem dX11_surveyAll_52 : decode cX11_surveyAll 52 = .ok (.iload_n 1, 1) := by decide +kernel
theorem dX11_surveyAll_53 : decode cX11_surveyAll 53 = .ok (.ineg, 1) := by decide +kernel
theorem dX11_surveyAll_54 : decode cX11_surveyAll 54 = .ok (.istore_n 3, 1) := by decide +kernel
theorem dX11_surveyAll_55 : decode cX11_surveyAll 55 = .ok (.iload_n 3, 1) := by decide +kernel
theorem dX11_surveyAll_56 : decode cX11_surveyAll 56 = .ok (.iload_n 1, 1) := by decide +kernel
theorem dX11_surveyAll_57 : decode cX11_surveyAll 57 = .ok (.if_icmp .gt 62, 3) := by decide +kernel
theorem dX11_surveyAll_60 : decode cX11_surveyAll 60 = .ok (.iload_n 2, 1) := by decide +kernel
theorem dX11_surveyAll_61 : decode cX11_surveyAll 61 = .ok (.ineg, 1) := by decide +kernel
theorem dX11_surveyAll_62 : decode cX11_surveyAll 62 = .ok (.istore 4, 2) := by decide +kernel
theorem dX11_surveyAll_64 : decode cX11_surveyAll 64 = .ok (.iload 4, 2) := by decide +kernel
theorem dX11_surveyAll_66 : decode cX11_surveyAll 66 = .ok (.iload_n 2, 1) := by decide +kernel
theorem dX11_surveyAll_67 : decode cX11_surveyAll 67 = .ok (.if_icmp .gt 46, 3) := by decide +kernel
theorem dX11_surveyAll_70 : decode cX11_surveyAll 70 = .ok (.aload_n 0, 1) := by decide +kernel
theorem dX11_surveyAll_71 : decode cX11_surveyAll 71 = .ok (.getfield 72, 3) := by decide +kernel
theorem dX11_surveyAll_74 : decode cX11_surveyAll 74 = .ok (.aload_n 0, 1) := by decide +kernel
theorem dX11_surveyAll_75 : decode cX11_surveyAll 75 = .ok (.getfield 61, 3) := by decide +kernel
theorem dX11_surveyAll_78 : decode cX11_surveyAll 78 = .ok (.aload_n 0, 1) := by decide +kernel
theorem dX11_surveyAll_79 : decode cX11_surveyAll 79 = .ok (.getfield 54, 3) := by decide +kernel
theorem dX11_surveyAll_82 : decode cX11_surveyAll 82 = .ok (.iload_n 3, 1) := by decide +kernel
theorem dX11_surveyAll_83 : decode cX11_surveyAll 83 = .ok (.i2l, 1) := by decide +kernel
theorem dX11_surveyAll_84 : decode cX11_surveyAll 84 = .ok (.iload 4, 2) := by decide +kernel
theorem dX11_surveyAll_86 : decode cX11_surveyAll 86 = .ok (.i2l, 1) := by decide +kernel
theorem dX11_surveyAll_87 : decode cX11_surveyAll 87 = .ok (.invokevirtual 250, 3) := by decide +kernel
theorem dX11_surveyAll_90 : decode cX11_surveyAll 90 = .ok (.aload_n 0, 1) := by decide +kernel
theorem dX11_surveyAll_91 : decode cX11_surveyAll 91 = .ok (.getfield 72, 3) := by decide +kernel
theorem dX11_surveyAll_94 : decode cX11_surveyAll 94 = .ok (.getfield 254, 3) := by decide +kernel
theorem dX11_surveyAll_97 : decode cX11_surveyAll 97 = .ok (.iconst 2, 1) := by decide +kernel
theorem dX11_surveyAll_98 : decode cX11_surveyAll 98 = .ok (.if_icmp .ne 5, 3) := by decide +kernel
theorem dX11_surveyAll_101 : decode cX11_surveyAll 101 = .ok (.iconst 0, 1) := by decide +kernel
theorem dX11_surveyAll_102 : decode cX11_surveyAll 102 = .ok (.ireturn, 1) := by decide +kernel
theorem dX11_surveyAll_103 : decode cX11_surveyAll 103 = .ok (.aload_n 0, 1) := by decide +kernel
theorem dX11_surveyAll_104 : decode cX11_surveyAll 104 = .ok (.invokevirtual 298, 3) := by decide +kernel
theorem dX11_surveyAll_107 : decode cX11_surveyAll 107 = .ok (.iinc 4 1, 3) := by decide +kernel
theorem dX11_surveyAll_110 : decode cX11_surveyAll 110 = .ok (.goto (-46), 3) := by decide +kernel
theorem dX11_surveyAll_113 : decode cX11_surveyAll 113 = .ok (.iinc 3 1, 3) := by decide +kernel
theorem dX11_surveyAll_116 : decode cX11_surveyAll 116 = .ok (.goto (-61), 3) := by decide +kernel
theorem dX11_surveyAll_119 : decode cX11_surveyAll 119 = .ok (.iconst 1, 1) := by decide +kernel
theorem dX11_surveyAll_120 : decode cX11_surveyAll 120 = .ok (.ireturn, 1) := by decide +kernel
theorem dX11_noteOutcome_0 : decode cX11_noteOutcome 0 = .ok (.aload_n 0, 1) := by decide +kernel
theorem dX11_noteOutcome_1 : decode cX11_noteOutcome 1 = .ok (.getfield 72, 3) := by decide +kernel
theorem dX11_noteOutcome_4 : decode cX11_noteOutcome 4 = .ok (.getfield 254, 3) := by decide +kernel
theorem dX11_noteOutcome_7 : decode cX11_noteOutcome 7 = .ok (.ifCond .ne 16, 3) := by decide +kernel
theorem dX11_noteOutcome_10 : decode cX11_noteOutcome 10 = .ok (.aload_n 0, 1) := by decide +kernel
theorem dX11_noteOutcome_11 : decode cX11_noteOutcome 11 = .ok (.dup, 1) := by decide +kernel
theorem dX11_noteOutcome_12 : decode cX11_noteOutcome 12 = .ok (.getfield 274, 3) := by decide +kernel
theorem dX11_noteOutcome_15 : decode cX11_noteOutcome 15 = .ok (.iconst 1, 1) := by decide +kernel
theorem dX11_noteOutcome_16 : decode cX11_noteOutcome 16 = .ok (.iadd, 1) := by decide +kernel
theorem dX11_noteOutcome_17 : decode cX11_noteOutcome 17 = .ok (.putfield 274, 3) := by decide +kernel
theorem dX11_noteOutcome_20 : decode cX11_noteOutcome 20 = .ok (.goto 57, 3) := by decide +kernel
theorem dX11_noteOutcome_23 : decode cX11_noteOutcome 23 = .ok (.aload_n 0, 1) := by decide +kernel
theorem dX11_noteOutcome_24 : decode cX11_noteOutcome 24 = .ok (.getfield 54, 3) := by decide +kernel
theorem dX11_noteOutcome_27 : decode cX11_noteOutcome 27 = .ok (.aload_n 0, 1) := by decide +kernel
theorem dX11_noteOutcome_28 : decode cX11_noteOutcome 28 = .ok (.getfield 72, 3) := by decide +kernel
theorem dX11_noteOutcome_31 : decode cX11_noteOutcome 31 = .ok (.getfield 255, 3) := by decide +kernel
theorem dX11_noteOutcome_34 : decode cX11_noteOutcome 34 = .ok (.aload_n 0, 1) := by decide +kernel
theorem dX11_noteOutcome_35 : decode cX11_noteOutcome 35 = .ok (.getfield 72, 3) := by decide +kernel
theorem dX11_noteOutcome_38 : decode cX11_noteOutcome 38 = .ok (.getfield 256, 3) := by decide +kernel
theorem dX11_noteOutcome_41 : decode cX11_noteOutcome 41 = .ok (.invokevirtual 301, 3) := by decide +kernel
theorem dX11_noteOutcome_44 : decode cX11_noteOutcome 44 = .ok (.istore_n 1, 1) := by decide +kernel
theorem dX11_noteOutcome_45 : decode cX11_noteOutcome 45 = .ok (.aload_n 0, 1) := by decide +kernel
theorem dX11_noteOutcome_46 : decode cX11_noteOutcome 46 = .ok (.getfield 82, 3) := by decide +kernel
theorem dX11_noteOutcome_49 : decode cX11_noteOutcome 49 = .ok (.aload_n 0, 1) := by decide +kernel
theorem dX11_noteOutcome_50 : decode cX11_noteOutcome 50 = .ok (.getfield 72, 3) := by decide +kernel
theorem dX11_noteOutcome_53 : decode cX11_noteOutcome 53 = .ok (.getfield 256, 3) := by decide +kernel
theorem dX11_noteOutcome_56 : decode cX11_noteOutcome 56 = .ok (.aload_n 0, 1) := by decide +kernel
theorem dX11_noteOutcome_57 : decode cX11_noteOutcome 57 = .ok (.getfield 54, 3) := by decide +kernel
theorem dX11_noteOutcome_60 : decode cX11_noteOutcome 60 = .ok (.iload_n 1, 1) := by decide +kernel
theorem dX11_noteOutcome_61 : decode cX11_noteOutcome 61 = .ok (.invokevirtual 305, 3) := by decide +kernel
theorem dX11_noteOutcome_64 : decode cX11_noteOutcome 64 = .ok (.l2i, 1) := by decide +kernel
theorem dX11_noteOutcome_65 : decode cX11_noteOutcome 65 = .ok (.aload_n 0, 1) := by decide +kernel
theorem dX11_noteOutcome_66 : decode cX11_noteOutcome 66 = .ok (.getfield 54, 3) := by decide +kernel
theorem dX11_noteOutcome_69 : decode cX11_noteOutcome 69 = .ok (.iload_n 1, 1) := by decide +kernel
theorem dX11_noteOutcome_70 : decode cX11_noteOutcome 70 = .ok (.invokevirtual 308, 3) := by decide +kernel
theorem dX11_noteOutcome_73 : decode cX11_noteOutcome 73 = .ok (.l2i, 1) := by decide +kernel
theorem dX11_noteOutcome_74 : decode cX11_noteOutcome 74 = .ok (.invokevirtual 311, 3) := by decide +kernel
theorem dX11_noteOutcome_77 : decode cX11_noteOutcome 77 = .ok (.return_, 1) := by decide +kernel
theorem dX11_common_0 : decode cX11_common 0 = .ok (.lload_n 0, 1) := by decide +kernel
theorem dX11_common_1 : decode cX11_common 1 = .ok (.invokestatic 315, 3) := by decide +kernel
theorem dX11_common_4 : decode cX11_common 4 = .ok (.lstore 4, 2) := by decide +kernel
theorem dX11_common_6 : decode cX11_common 6 = .ok (.lload_n 2, 1) := by decide +kernel
theorem dX11_common_7 : decode cX11_common 7 = .ok (.invokestatic 315, 3) := by decide +kernel
theorem dX11_common_10 : decode cX11_common 10 = .ok (.lstore 6, 2) := by decide +kernel
theorem dX11_common_12 : decode cX11_common 12 = .ok (.iconst 0, 1) := by decide +kernel
theorem dX11_common_13 : decode cX11_common 13 = .ok (.istore 8, 2) := by decide +kernel
theorem dX11_common_15 : decode cX11_common 15 = .ok (.iload 8, 2) := by decide +kernel
theorem dX11_common_17 : decode cX11_common 17 = .ok (.bipush 100, 2) := by decide +kernel
theorem dX11_common_19 : decode cX11_common 19 = .ok (.if_icmp .ge 31, 3) := by decide +kernel
theorem dX11_common_22 : decode cX11_common 22 = .ok (.lload 6, 2) := by decide +kernel
theorem dX11_common_24 : decode cX11_common 24 = .ok (.lconst 0, 1) := by decide +kernel
theorem dX11_common_25 : decode cX11_common 25 = .ok (.lcmp, 1) := by decide +kernel
theorem dX11_common_26 : decode cX11_common 26 = .ok (.ifCond .eq 24, 3) := by decide +kernel
theorem dX11_common_29 : decode cX11_common 29 = .ok (.lload 4, 2) := by decide +kernel
theorem dX11_common_31 : decode cX11_common 31 = .ok (.lload 6, 2) := by decide +kernel
theorem dX11_common_33 : decode cX11_common 33 = .ok (.lrem, 1) := by decide +kernel
theorem dX11_common_34 : decode cX11_common 34 = .ok (.lstore 9, 2) := by decide +kernel
theorem dX11_common_36 : decode cX11_common 36 = .ok (.lload 6, 2) := by decide +kernel
theorem dX11_common_38 : decode cX11_common 38 = .ok (.lstore 4, 2) := by decide +kernel
theorem dX11_common_40 : decode cX11_common 40 = .ok (.lload 9, 2) := by decide +kernel
theorem dX11_common_42 : decode cX11_common 42 = .ok (.lstore 6, 2) := by decide +kernel
theorem dX11_common_44 : decode cX11_common 44 = .ok (.iinc 8 1, 3) := by decide +kernel
theorem dX11_common_47 : decode cX11_common 47 = .ok (.goto (-32), 3) := by decide +kernel
theorem dX11_common_50 : decode cX11_common 50 = .ok (.lload 4, 2) := by decide +kernel
theorem dX11_common_52 : decode cX11_common 52 = .ok (.lreturn, 1) := by decide +kernel
theorem dX12_init_0 : decode cX12_init 0 = .ok (.aload_n 0, 1) := by decide +kernel
theorem dX12_init_1 : decode cX12_init 1 = .ok (.invokespecial 1, 3) := by decide +kernel
theorem dX12_init_4 : decode cX12_init 4 = .ok (.aload_n 0, 1) := by decide +kernel
theorem dX12_init_5 : decode cX12_init 5 = .ok (.sipush 200, 3) := by decide +kernel
theorem dX12_init_8 : decode cX12_init 8 = .ok (.newarray .byte, 2) := by decide +kernel
theorem dX12_init_10 : decode cX12_init 10 = .ok (.putfield 7, 3) := by decide +kernel
theorem dX12_init_13 : decode cX12_init 13 = .ok (.aload_n 0, 1) := by decide +kernel
theorem dX12_init_14 : decode cX12_init 14 = .ok (.iconst 1, 1) := by decide +kernel
theorem dX12_init_15 : decode cX12_init 15 = .ok (.putfield 13, 3) := by decide +kernel
theorem dX12_init_18 : decode cX12_init 18 = .ok (.aload_n 0, 1) := by decide +kernel
theorem dX12_init_19 : decode cX12_init 19 = .ok (.iconst 1, 1) := by decide +kernel
theorem dX12_init_20 : decode cX12_init 20 = .ok (.putfield 17, 3) := by decide +kernel
theorem dX12_init_23 : decode cX12_init 23 = .ok (.aload_n 0, 1) := by decide +kernel
theorem dX12_init_24 : decode cX12_init 24 = .ok (.iconst 5, 1) := by decide +kernel
theorem dX12_init_25 : decode cX12_init 25 = .ok (.putfield 20, 3) := by decide +kernel
theorem dX12_init_28 : decode cX12_init 28 = .ok (.aload_n 0, 1) := by decide +kernel
theorem dX12_init_29 : decode cX12_init 29 = .ok (.bipush 10, 2) := by decide +kernel
theorem dX12_init_31 : decode cX12_init 31 = .ok (.newarray .boolean, 2) := by decide +kernel
theorem dX12_init_33 : decode cX12_init 33 = .ok (.putfield 23, 3) := by decide +kernel
theorem dX12_init_36 : decode cX12_init 36 = .ok (.aload_n 0, 1) := by decide +kernel
theorem dX12_init_37 : decode cX12_init 37 = .ok (.bipush 10, 2) := by decide +kernel
theorem dX12_init_39 : decode cX12_init 39 = .ok (.newarray .int, 2) := by decide +kernel
theorem dX12_init_41 : decode cX12_init 41 = .ok (.putfield 27, 3) := by decide +kernel
theorem dX12_init_44 : decode cX12_init 44 = .ok (.aload_n 0, 1) := by decide +kernel
theorem dX12_init_45 : decode cX12_init 45 = .ok (.bipush 10, 2) := by decide +kernel
theorem dX12_init_47 : decode cX12_init 47 = .ok (.newarray .int, 2) := by decide +kernel
theorem dX12_init_49 : decode cX12_init 49 = .ok (.putfield 31, 3) := by decide +kernel
theorem dX12_init_52 : decode cX12_init 52 = .ok (.aload_n 0, 1) := by decide +kernel
theorem dX12_init_53 : decode cX12_init 53 = .ok (.bipush 10, 2) := by decide +kernel
theorem dX12_init_55 : decode cX12_init 55 = .ok (.newarray .int, 2) := by decide +kernel
theorem dX12_init_57 : decode cX12_init 57 = .ok (.putfield 34, 3) := by decide +kernel
theorem dX12_init_60 : decode cX12_init 60 = .ok (.aload_n 0, 1) := by decide +kernel
theorem dX12_init_61 : decode cX12_init 61 = .ok (.sipush 500, 3) := by decide +kernel
theorem dX12_init_64 : decode cX12_init 64 = .ok (.newarray .long, 2) := by decide +kernel
theorem dX12_init_66 : decode cX12_init 66 = .ok (.putfield 37, 3) := by decide +kernel
theorem dX12_init_69 : decode cX12_init 69 = .ok (.aload_n 0, 1) := by decide +kernel
theorem dX12_init_70 : decode cX12_init 70 = .ok (.sipush 401, 3) := by decide +kernel
theorem dX12_init_73 : decode cX12_init 73 = .ok (.newarray .long, 2) := by decide +kernel
theorem dX12_init_75 : decode cX12_init 75 = .ok (.putfield 41, 3) := by decide +kernel
theorem dX12_init_78 : decode cX12_init 78 = .ok (.aload_n 0, 1) := by decide +kernel
theorem dX12_init_79 : decode cX12_init 79 = .ok (.sipush 401, 3) := by decide +kernel
theorem dX12_init_82 : decode cX12_init 82 = .ok (.newarray .long, 2) := by decide +kernel
theorem dX12_init_84 : decode cX12_init 84 = .ok (.putfield 44, 3) := by decide +kernel
theorem dX12_init_87 : decode cX12_init 87 = .ok (.aload_n 0, 1) := by decide +kernel
theorem dX12_init_88 : decode cX12_init 88 = .ok (.bipush 64, 2) := by decide +kernel
theorem dX12_init_90 : decode cX12_init 90 = .ok (.newarray .long, 2) := by decide +kernel
theorem dX12_init_92 : decode cX12_init 92 = .ok (.putfield 47, 3) := by decide +kernel
theorem dX12_init_95 : decode cX12_init 95 = .ok (.aload_n 0, 1) := by decide +kernel
theorem dX12_init_96 : decode cX12_init 96 = .ok (.bipush 64, 2) := by decide +kernel
theorem dX12_init_98 : decode cX12_init 98 = .ok (.newarray .int, 2) := by decide +kernel
theorem dX12_init_100 : decode cX12_init 100 = .ok (.putfield 50, 3) := by decide +kernel
theorem dX12_init_103 : decode cX12_init 103 = .ok (.aload_n 0, 1) := by decide +kernel
theorem dX12_init_104 : decode cX12_init 104 = .ok (.iconst 1, 1) := by decide +kernel
theorem dX12_init_105 : decode cX12_init 105 = .ok (.putfield 53, 3) := by decide +kernel
theorem dX12_init_108 : decode cX12_init 108 = .ok (.aload_n 0, 1) := by decide +kernel
theorem dX12_init_109 : decode cX12_init 109 = .ok (.bipush 10, 2) := by decide +kernel
theorem dX12_init_111 : decode cX12_init 111 = .ok (.putfield 56, 3) := by decide +kernel
theorem dX12_init_114 : decode cX12_init 114 = .ok (.aload_n 0, 1) := by decide +kernel
theorem dX12_init_115 : decode cX12_init 115 = .ok (.bipush 10, 2) := by decide +kernel
theorem dX12_init_117 : decode cX12_init 117 = .ok (.putfield 59, 3) := by decide +kernel
theorem dX12_init_120 : decode cX12_init 120 = .ok (.aload_n 0, 1) := by decide +kernel
theorem dX12_init_121 : decode cX12_init 121 = .ok (.bipush 10, 2) := by decide +kernel
theorem dX12_init_123 : decode cX12_init 123 = .ok (.putfield 62, 3) := by decide +kernel
theorem dX12_init_126 : decode cX12_init 126 = .ok (.aload_n 0, 1) := by decide +kernel
theorem dX12_init_127 : decode cX12_init 127 = .ok (.bipush 25, 2) := by decide +kernel
theorem dX12_init_129 : decode cX12_init 129 = .ok (.newarray .int, 2) := by decide +kernel
theorem dX12_init_131 : decode cX12_init 131 = .ok (.dup, 1) := by decide +kernel
theorem dX12_init_132 : decode cX12_init 132 = .ok (.iconst 0, 1) := by decide +kernel
theorem dX12_init_133 : decode cX12_init 133 = .ok (.iconst 0, 1) := by decide +kernel
theorem dX12_init_134 : decode cX12_init 134 = .ok (.iastore, 1) := by decide +kernel
theorem dX12_init_135 : decode cX12_init 135 = .ok (.dup, 1) := by decide +kernel
theorem dX12_init_136 : decode cX12_init 136 = .ok (.iconst 1, 1) := by decide +kernel
theorem dX12_init_137 : decode cX12_init 137 = .ok (.iconst 1, 1) := by decide +kernel
theorem dX12_init_138 : decode cX12_init 138 = .ok (.iastore, 1) := by decide +kernel
theorem dX12_init_139 : decode cX12_init 139 = .ok (.dup, 1) := by decide +kernel
theorem dX12_init_140 : decode cX12_init 140 = .ok (.iconst 2, 1) := by decide +kernel
theorem dX12_init_141 : decode cX12_init 141 = .ok (.iconst 2, 1) := by decide +kernel
theorem dX12_init_142 : decode cX12_init 142 = .ok (.iastore, 1) := by decide +kernel
theorem dX12_init_143 : decode cX12_init 143 = .ok (.dup, 1) := by decide +kernel
theorem dX12_init_144 : decode cX12_init 144 = .ok (.iconst 3, 1) := by decide +kernel
theorem dX12_init_145 : decode cX12_init 145 = .ok (.iconst 3, 1) := by decide +kernel
theorem dX12_init_146 : decode cX12_init 146 = .ok (.iastore, 1) := by decide +kernel
theorem dX12_init_147 : decode cX12_init 147 = .ok (.dup, 1) := by decide +kernel
theorem dX12_init_148 : decode cX12_init 148 = .ok (.iconst 4, 1) := by decide +kernel
theorem dX12_init_149 : decode cX12_init 149 = .ok (.iconst 4, 1) := by decide +kernel
theorem dX12_init_150 : decode cX12_init 150 = .ok (.iastore, 1) := by decide +kernel
theorem dX12_init_151 : decode cX12_init 151 = .ok (.dup, 1) := by decide +kernel
theorem dX12_init_152 : decode cX12_init 152 = .ok (.iconst 5, 1) := by decide +kernel
theorem dX12_init_153 : decode cX12_init 153 = .ok (.iconst 5, 1) := by decide +kernel
theorem dX12_init_154 : decode cX12_init 154 = .ok (.iastore, 1) := by decide +kernel
theorem dX12_init_155 : decode cX12_init 155 = .ok (.dup, 1) := by decide +kernel
theorem dX12_init_156 : decode cX12_init 156 = .ok (.bipush 6, 2) := by decide +kernel
theorem dX12_init_158 : decode cX12_init 158 = .ok (.bipush 6, 2) := by decide +kernel
theorem dX12_init_160 : decode cX12_init 160 = .ok (.iastore, 1) := by decide +kernel
theorem dX12_init_161 : decode cX12_init 161 = .ok (.dup, 1) := by decide +kernel
theorem dX12_init_162 : decode cX12_init 162 = .ok (.bipush 7, 2) := by decide +kernel
theorem dX12_init_164 : decode cX12_init 164 = .ok (.bipush 7, 2) := by decide +kernel
theorem dX12_init_166 : decode cX12_init 166 = .ok (.iastore, 1) := by decide +kernel
theorem dX12_init_167 : decode cX12_init 167 = .ok (.dup, 1) := by decide +kernel
theorem dX12_init_168 : decode cX12_init 168 = .ok (.bipush 8, 2) := by decide +kernel
theorem dX12_init_170 : decode cX12_init 170 = .ok (.bipush 8, 2) := by decide +kernel
theorem dX12_init_172 : decode cX12_init 172 = .ok (.iastore, 1) := by decide +kernel
theorem dX12_init_173 : decode cX12_init 173 = .ok (.dup, 1) := by decide +kernel
theorem dX12_init_174 : decode cX12_init 174 = .ok (.bipush 9, 2) := by decide +kernel
theorem dX12_init_176 : decode cX12_init 176 = .ok (.bipush 9, 2) := by decide +kernel
theorem dX12_init_178 : decode cX12_init 178 = .ok (.iastore, 1) := by decide +kernel
theorem dX12_init_179 : decode cX12_init 179 = .ok (.dup, 1) := by decide +kernel
theorem dX12_init_180 : decode cX12_init 180 = .ok (.bipush 10, 2) := by decide +kernel
theorem dX12_init_182 : decode cX12_init 182 = .ok (.iconst 0, 1) := by decide +kernel
theorem dX12_init_183 : decode cX12_init 183 = .ok (.iastore, 1) := by decide +kernel
theorem dX12_init_184 : decode cX12_init 184 = .ok (.dup, 1) := by decide +kernel
theorem dX12_init_185 : decode cX12_init 185 = .ok (.bipush 11, 2) := by decide +kernel
theorem dX12_init_187 : decode cX12_init 187 = .ok (.iconst 0, 1) := by decide +kernel
theorem dX12_init_188 : decode cX12_init 188 = .ok (.iastore, 1) := by decide +kernel
theorem dX12_init_189 : decode cX12_init 189 = .ok (.dup, 1) := by decide +kernel
theorem dX12_init_190 : decode cX12_init 190 = .ok (.bipush 12, 2) := by decide +kernel
theorem dX12_init_192 : decode cX12_init 192 = .ok (.iconst 0, 1) := by decide +kernel
theorem dX12_init_193 : decode cX12_init 193 = .ok (.iastore, 1) := by decide +kernel
theorem dX12_init_194 : decode cX12_init 194 = .ok (.dup, 1) := by decide +kernel
theorem dX12_init_195 : decode cX12_init 195 = .ok (.bipush 13, 2) := by decide +kernel
theorem dX12_init_197 : decode cX12_init 197 = .ok (.iconst 0, 1) := by decide +kernel
theorem dX12_init_198 : decode cX12_init 198 = .ok (.iastore, 1) := by decide +kernel
theorem dX12_init_199 : decode cX12_init 199 = .ok (.dup, 1) := by decide +kernel
theorem dX12_init_200 : decode cX12_init 200 = .ok (.bipush 14, 2) := by decide +kernel
theorem dX12_init_202 : decode cX12_init 202 = .ok (.iconst 0, 1) := by decide +kernel
theorem dX12_init_203 : decode cX12_init 203 = .ok (.iastore, 1) := by decide +kernel
theorem dX12_init_204 : decode cX12_init 204 = .ok (.dup, 1) := by decide +kernel
theorem dX12_init_205 : decode cX12_init 205 = .ok (.bipush 15, 2) := by decide +kernel
theorem dX12_init_207 : decode cX12_init 207 = .ok (.iconst 0, 1) := by decide +kernel
theorem dX12_init_208 : decode cX12_init 208 = .ok (.iastore, 1) := by decide +kernel
theorem dX12_init_209 : decode cX12_init 209 = .ok (.dup, 1) := by decide +kernel
theorem dX12_init_210 : decode cX12_init 210 = .ok (.bipush 16, 2) := by decide +kernel
theorem dX12_init_212 : decode cX12_init 212 = .ok (.iconst 0, 1) := by decide +kernel
theorem dX12_init_213 : decode cX12_init 213 = .ok (.iastore, 1) := by decide +kernel
theorem dX12_init_214 : decode cX12_init 214 = .ok (.dup, 1) := by decide +kernel
theorem dX12_init_215 : decode cX12_init 215 = .ok (.bipush 17, 2) := by decide +kernel
theorem dX12_init_217 : decode cX12_init 217 = .ok (.iconst 0, 1) := by decide +kernel
theorem dX12_init_218 : decode cX12_init 218 = .ok (.iastore, 1) := by decide +kernel
theorem dX12_init_219 : decode cX12_init 219 = .ok (.dup, 1) := by decide +kernel
theorem dX12_init_220 : decode cX12_init 220 = .ok (.bipush 18, 2) := by decide +kernel
theorem dX12_init_222 : decode cX12_init 222 = .ok (.iconst 0, 1) := by decide +kernel
theorem dX12_init_223 : decode cX12_init 223 = .ok (.iastore, 1) := by decide +kernel
theorem dX12_init_224 : decode cX12_init 224 = .ok (.dup, 1) := by decide +kernel
theorem dX12_init_225 : decode cX12_init 225 = .ok (.bipush 19, 2) := by decide +kernel
theorem dX12_init_227 : decode cX12_init 227 = .ok (.iconst 0, 1) := by decide +kernel
theorem dX12_init_228 : decode cX12_init 228 = .ok (.iastore, 1) := by decide +kernel
theorem dX12_init_229 : decode cX12_init 229 = .ok (.dup, 1) := by decide +kernel
theorem dX12_init_230 : decode cX12_init 230 = .ok (.bipush 20, 2) := by decide +kernel
theorem dX12_init_232 : decode cX12_init 232 = .ok (.iconst 0, 1) := by decide +kernel
theorem dX12_init_233 : decode cX12_init 233 = .ok (.iastore, 1) := by decide +kernel
theorem dX12_init_234 : decode cX12_init 234 = .ok (.dup, 1) := by decide +kernel
theorem dX12_init_235 : decode cX12_init 235 = .ok (.bipush 21, 2) := by decide +kernel
theorem dX12_init_237 : decode cX12_init 237 = .ok (.iconst 0, 1) := by decide +kernel
theorem dX12_init_238 : decode cX12_init 238 = .ok (.iastore, 1) := by decide +kernel
theorem dX12_init_239 : decode cX12_init 239 = .ok (.dup, 1) := by decide +kernel
theorem dX12_init_240 : decode cX12_init 240 = .ok (.bipush 22, 2) := by decide +kernel
theorem dX12_init_242 : decode cX12_init 242 = .ok (.iconst 0, 1) := by decide +kernel
theorem dX12_init_243 : decode cX12_init 243 = .ok (.iastore, 1) := by decide +kernel
theorem dX12_init_244 : decode cX12_init 244 = .ok (.dup, 1) := by decide +kernel
theorem dX12_init_245 : decode cX12_init 245 = .ok (.bipush 23, 2) := by decide +kernel
theorem dX12_init_247 : decode cX12_init 247 = .ok (.iconst 0, 1) := by decide +kernel
theorem dX12_init_248 : decode cX12_init 248 = .ok (.iastore, 1) := by decide +kernel
theorem dX12_init_249 : decode cX12_init 249 = .ok (.dup, 1) := by decide +kernel
theorem dX12_init_250 : decode cX12_init 250 = .ok (.bipush 24, 2) := by decide +kernel
theorem dX12_init_252 : decode cX12_init 252 = .ok (.iconst 0, 1) := by decide +kernel
theorem dX12_init_253 : decode cX12_init 253 = .ok (.iastore, 1) := by decide +kernel
theorem dX12_init_254 : decode cX12_init 254 = .ok (.putfield 65, 3) := by decide +kernel
theorem dX12_init_257 : decode cX12_init 257 = .ok (.aload_n 0, 1) := by decide +kernel
theorem dX12_init_258 : decode cX12_init 258 = .ok (.bipush 25, 2) := by decide +kernel
theorem dX12_init_260 : decode cX12_init 260 = .ok (.newarray .int, 2) := by decide +kernel
theorem dX12_init_262 : decode cX12_init 262 = .ok (.putfield 68, 3) := by decide +kernel
theorem dX12_init_265 : decode cX12_init 265 = .ok (.aload_n 0, 1) := by decide +kernel
theorem dX12_init_266 : decode cX12_init 266 = .ok (.bipush 25, 2) := by decide +kernel
theorem dX12_init_268 : decode cX12_init 268 = .ok (.newarray .int, 2) := by decide +kernel
theorem dX12_init_270 : decode cX12_init 270 = .ok (.putfield 71, 3) := by decide +kernel
theorem dX12_init_273 : decode cX12_init 273 = .ok (.aload_n 0, 1) := by decide +kernel
theorem dX12_init_274 : decode cX12_init 274 = .ok (.bipush 25, 2) := by decide +kernel
theorem dX12_init_276 : decode cX12_init 276 = .ok (.newarray .int, 2) := by decide +kernel
theorem dX12_init_278 : decode cX12_init 278 = .ok (.putfield 74, 3) := by decide +kernel
theorem dX12_init_281 : decode cX12_init 281 = .ok (.aload_n 0, 1) := by decide +kernel
theorem dX12_init_282 : decode cX12_init 282 = .ok (.sipush 301, 3) := by decide +kernel
theorem dX12_init_285 : decode cX12_init 285 = .ok (.newarray .int, 2) := by decide +kernel
theorem dX12_init_287 : decode cX12_init 287 = .ok (.putfield 77, 3) := by decide +kernel
theorem dX12_init_290 : decode cX12_init 290 = .ok (.aload_n 0, 1) := by decide +kernel
theorem dX12_init_291 : decode cX12_init 291 = .ok (.sipush 301, 3) := by decide +kernel
theorem dX12_init_294 : decode cX12_init 294 = .ok (.newarray .int, 2) := by decide +kernel
theorem dX12_init_296 : decode cX12_init 296 = .ok (.putfield 80, 3) := by decide +kernel
theorem dX12_init_299 : decode cX12_init 299 = .ok (.aload_n 0, 1) := by decide +kernel
theorem dX12_init_300 : decode cX12_init 300 = .ok (.sipush 300, 3) := by decide +kernel
theorem dX12_init_303 : decode cX12_init 303 = .ok (.newarray .int, 2) := by decide +kernel
theorem dX12_init_305 : decode cX12_init 305 = .ok (.putfield 83, 3) := by decide +kernel
theorem dX12_init_308 : decode cX12_init 308 = .ok (.aload_n 0, 1) := by decide +kernel
theorem dX12_init_309 : decode cX12_init 309 = .ok (.sipush 300, 3) := by decide +kernel
theorem dX12_init_312 : decode cX12_init 312 = .ok (.newarray .int, 2) := by decide +kernel
theorem dX12_init_314 : decode cX12_init 314 = .ok (.putfield 86, 3) := by decide +kernel
theorem dX12_init_317 : decode cX12_init 317 = .ok (.aload_n 0, 1) := by decide +kernel
theorem dX12_init_318 : decode cX12_init 318 = .ok (.sipush 450, 3) := by decide +kernel
theorem dX12_init_321 : decode cX12_init 321 = .ok (.newarray .int, 2) := by decide +kernel
theorem dX12_init_323 : decode cX12_init 323 = .ok (.putfield 89, 3) := by decide +kernel
theorem dX12_init_326 : decode cX12_init 326 = .ok (.aload_n 0, 1) := by decide +kernel
theorem dX12_init_327 : decode cX12_init 327 = .ok (.sipush 450, 3) := by decide +kernel
theorem dX12_init_330 : decode cX12_init 330 = .ok (.newarray .int, 2) := by decide +kernel
theorem dX12_init_332 : decode cX12_init 332 = .ok (.putfield 92, 3) := by decide +kernel
theorem dX12_init_335 : decode cX12_init 335 = .ok (.aload_n 0, 1) := by decide +kernel
theorem dX12_init_336 : decode cX12_init 336 = .ok (.sipush 450, 3) := by decide +kernel
theorem dX12_init_339 : decode cX12_init 339 = .ok (.newarray .int, 2) := by decide +kernel
theorem dX12_init_341 : decode cX12_init 341 = .ok (.putfield 95, 3) := by decide +kernel
theorem dX12_init_344 : decode cX12_init 344 = .ok (.aload_n 0, 1) := by decide +kernel
theorem dX12_init_345 : decode cX12_init 345 = .ok (.sipush 450, 3) := by decide +kernel
theorem dX12_init_348 : decode cX12_init 348 = .ok (.newarray .int, 2) := by decide +kernel
theorem dX12_init_350 : decode cX12_init 350 = .ok (.putfield 98, 3) := by decide +kernel
theorem dX12_init_353 : decode cX12_init 353 = .ok (.aload_n 0, 1) := by decide +kernel
theorem dX12_init_354 : decode cX12_init 354 = .ok (.sipush 450, 3) := by decide +kernel
theorem dX12_init_357 : decode cX12_init 357 = .ok (.newarray .int, 2) := by decide +kernel
theorem dX12_init_359 : decode cX12_init 359 = .ok (.putfield 101, 3) := by decide +kernel
theorem dX12_init_362 : decode cX12_init 362 = .ok (.aload_n 0, 1) := by decide +kernel
theorem dX12_init_363 : decode cX12_init 363 = .ok (.sipush 450, 3) := by decide +kernel
theorem dX12_init_366 : decode cX12_init 366 = .ok (.newarray .int, 2) := by decide +kernel
theorem dX12_init_368 : decode cX12_init 368 = .ok (.putfield 104, 3) := by decide +kernel
theorem dX12_init_371 : decode cX12_init 371 = .ok (.return_, 1) := by decide +kernel
theorem dX12_thrown_0 : decode cX12_thrown 0 = .ok (.aload_n 0, 1) := by decide +kernel
theorem dX12_thrown_1 : decode cX12_thrown 1 = .ok (.getfield 107, 3) := by decide +kernel
theorem dX12_thrown_4 : decode cX12_thrown 4 = .ok (.ireturn, 1) := by decide +kernel
theorem dX12_throwsIf_0 : decode cX12_throwsIf 0 = .ok (.aload_n 0, 1) := by decide +kernel
theorem dX12_throwsIf_1 : decode cX12_throwsIf 1 = .ok (.iload_n 1, 1) := by decide +kernel
theorem dX12_throwsIf_2 : decode cX12_throwsIf 2 = .ok (.ifCond .eq 7, 3) := by decide +kernel
theorem dX12_throwsIf_5 : decode cX12_throwsIf 5 = .ok (.iconst 1, 1) := by decide +kernel
theorem dX12_throwsIf_6 : decode cX12_throwsIf 6 = .ok (.goto 4, 3) := by decide +kernel
theorem dX12_throwsIf_9 : decode cX12_throwsIf 9 = .ok (.iconst 0, 1) := by decide +kernel
theorem dX12_throwsIf_10 : decode cX12_throwsIf 10 = .ok (.putfield 107, 3) := by decide +kernel
theorem dX12_throwsIf_13 : decode cX12_throwsIf 13 = .ok (.iload_n 1, 1) := by decide +kernel
theorem dX12_throwsIf_14 : decode cX12_throwsIf 14 = .ok (.ireturn, 1) := by decide +kernel
theorem dX12_feed_0 : decode cX12_feed 0 = .ok (.aload_n 0, 1) := by decide +kernel
theorem dX12_feed_1 : decode cX12_feed 1 = .ok (.iconst 0, 1) := by decide +kernel
theorem dX12_feed_2 : decode cX12_feed 2 = .ok (.putfield 107, 3) := by decide +kernel
theorem dX12_feed_5 : decode cX12_feed 5 = .ok (.aload_n 0, 1) := by decide +kernel
theorem dX12_feed_6 : decode cX12_feed 6 = .ok (.getfield 110, 3) := by decide +kernel
theorem dX12_feed_9 : decode cX12_feed 9 = .ok (.bipush 20, 2) := by decide +kernel
theorem dX12_feed_11 : decode cX12_feed 11 = .ok (.iadd, 1) := by decide +kernel
theorem dX12_feed_12 : decode cX12_feed 12 = .ok (.sipush 200, 3) := by decide +kernel
theorem dX12_feed_15 : decode cX12_feed 15 = .ok (.if_icmp .le 5, 3) := by decide +kernel
theorem dX12_feed_18 : decode cX12_feed 18 = .ok (.iconst (-1), 1) := by decide +kernel
theorem dX12_feed_19 : decode cX12_feed 19 = .ok (.ireturn, 1) := by decide +kernel
theorem dX12_feed_20 : decode cX12_feed 20 = .ok (.aload_n 0, 1) := by decide +kernel
theorem dX12_feed_21 : decode cX12_feed 21 = .ok (.iload_n 1, 1) := by decide +kernel
theorem dX12_feed_22 : decode cX12_feed 22 = .ok (.invokevirtual 113, 3) := by decide +kernel
theorem dX12_feed_25 : decode cX12_feed 25 = .ok (.aload_n 0, 1) := by decide +kernel
theorem dX12_feed_26 : decode cX12_feed 26 = .ok (.iload_n 2, 1) := by decide +kernel
theorem dX12_feed_27 : decode cX12_feed 27 = .ok (.invokevirtual 113, 3) := by decide +kernel
theorem dX12_feed_30 : decode cX12_feed 30 = .ok (.aload_n 0, 1) := by decide +kernel
theorem dX12_feed_31 : decode cX12_feed 31 = .ok (.iload_n 3, 1) := by decide +kernel
theorem dX12_feed_32 : decode cX12_feed 32 = .ok (.invokevirtual 113, 3) := by decide +kernel
theorem dX12_feed_35 : decode cX12_feed 35 = .ok (.aload_n 0, 1) := by decide +kernel
theorem dX12_feed_36 : decode cX12_feed 36 = .ok (.iload 4, 2) := by decide +kernel
theorem dX12_feed_38 : decode cX12_feed 38 = .ok (.invokevirtual 113, 3) := by decide +kernel
theorem dX12_feed_41 : decode cX12_feed 41 = .ok (.aload_n 0, 1) := by decide +kernel
theorem dX12_feed_42 : decode cX12_feed 42 = .ok (.iload 5, 2) := by decide +kernel
theorem dX12_feed_44 : decode cX12_feed 44 = .ok (.invokevirtual 113, 3) := by decide +kernel
theorem dX12_feed_47 : decode cX12_feed 47 = .ok (.aload_n 0, 1) := by decide +kernel
theorem dX12_feed_48 : decode cX12_feed 48 = .ok (.getfield 110, 3) := by decide +kernel
theorem dX12_feed_51 : decode cX12_feed 51 = .ok (.ireturn, 1) := by decide +kernel
theorem dX12_four_0 : decode cX12_four 0 = .ok (.bipush 24, 2) := by decide +kernel
theorem dX12_four_2 : decode cX12_four 2 = .ok (.istore_n 2, 1) := by decide +kernel
theorem dX12_four_3 : decode cX12_four 3 = .ok (.iload_n 2, 1) := by decide +kernel
theorem dX12_four_4 : decode cX12_four 4 = .ok (.ifCond .lt 32, 3) := by decide +kernel
theorem dX12_four_7 : decode cX12_four 7 = .ok (.aload_n 0, 1) := by decide +kernel
theorem dX12_four_8 : decode cX12_four 8 = .ok (.getfield 7, 3) := by decide +kernel
theorem dX12_four_11 : decode cX12_four 11 = .ok (.aload_n 0, 1) := by decide +kernel
theorem dX12_four_12 : decode cX12_four 12 = .ok (.getfield 110, 3) := by decide +kernel
theorem dX12_four_15 : decode cX12_four 15 = .ok (.iload_n 1, 1) := by decide +kernel
theorem dX12_four_16 : decode cX12_four 16 = .ok (.iload_n 2, 1) := by decide +kernel
theorem dX12_four_17 : decode cX12_four 17 = .ok (.ishr, 1) := by decide +kernel
theorem dX12_four_18 : decode cX12_four 18 = .ok (.i2b, 1) := by decide +kernel
theorem dX12_four_19 : decode cX12_four 19 = .ok (.bastore, 1) := by decide +kernel
theorem dX12_four_20 : decode cX12_four 20 = .ok (.aload_n 0, 1) := by decide +kernel
theorem dX12_four_21 : decode cX12_four 21 = .ok (.dup, 1) := by decide +kernel
theorem dX12_four_22 : decode cX12_four 22 = .ok (.getfield 110, 3) := by decide +kernel
theorem dX12_four_25 : decode cX12_four 25 = .ok (.iconst 1, 1) := by decide +kernel
theorem dX12_four_26 : decode cX12_four 26 = .ok (.iadd, 1) := by decide +kernel
theorem dX12_four_27 : decode cX12_four 27 = .ok (.putfield 110, 3) := by decide +kernel
theorem dX12_four_30 : decode cX12_four 30 = .ok (.iinc 2 (-8), 3) := by decide +kernel
theorem dX12_four_33 : decode cX12_four 33 = .ok (.goto (-30), 3) := by decide +kernel
theorem dX12_four_36 : decode cX12_four 36 = .ok (.return_, 1) := by decide +kernel
theorem dX12_end_0 : decode cX12_end 0 = .ok (.aload_n 0, 1) := by decide +kernel
theorem dX12_end_1 : decode cX12_end 1 = .ok (.iconst 0, 1) := by decide +kernel
theorem dX12_end_2 : decode cX12_end 2 = .ok (.putfield 107, 3) := by decide +kernel
theorem dX12_end_5 : decode cX12_end 5 = .ok (.iload_n 1, 1) := by decide +kernel
theorem dX12_end_6 : decode cX12_end 6 = .ok (.ifCond .lt 11, 3) := by decide +kernel
theorem dX12_end_9 : decode cX12_end 9 = .ok (.iload_n 1, 1) := by decide +kernel
theorem dX12_end_10 : decode cX12_end 10 = .ok (.aload_n 0, 1) := by decide +kernel
theorem dX12_end_11 : decode cX12_end 11 = .ok (.getfield 110, 3) := by decide +kernel
theorem dX12_end_14 : decode cX12_end 14 = .ok (.if_icmp .le 5, 3) := by decide +kernel
theorem dX12_end_17 : decode cX12_end 17 = .ok (.iconst 0, 1) := by decide +kernel
theorem dX12_end_18 : decode cX12_end 18 = .ok (.ireturn, 1) := by decide +kernel
theorem dX12_end_19 : decode cX12_end 19 = .ok (.aload_n 0, 1) := by decide +kernel
theorem dX12_end_20 : decode cX12_end 20 = .ok (.iload_n 1, 1) := by decide +kernel
theorem dX12_end_21 : decode cX12_end 21 = .ok (.putfield 110, 3) := by decide +kernel
theorem dX12_end_24 : decode cX12_end 24 = .ok (.iconst 1, 1) := by decide +kernel
theorem dX12_end_25 : decode cX12_end 25 = .ok (.ireturn, 1) := by decide +kernel
theorem dX12_taken_0 : decode cX12_taken 0 = .ok (.aload_n 0, 1) := by decide +kernel
theorem dX12_taken_1 : decode cX12_taken 1 = .ok (.getfield 110, 3) := by decide +kernel
theorem dX12_taken_4 : decode cX12_taken 4 = .ok (.istore_n 1, 1) := by decide +kernel
theorem dX12_taken_5 : decode cX12_taken 5 = .ok (.aload_n 0, 1) := by decide +kernel
theorem dX12_taken_6 : decode cX12_taken 6 = .ok (.iconst 0, 1) := by decide +kernel
theorem dX12_taken_7 : decode cX12_taken 7 = .ok (.putfield 110, 3) := by decide +kernel
theorem dX12_taken_10 : decode cX12_taken 10 = .ok (.iload_n 1, 1) := by decide +kernel
theorem dX12_taken_11 : decode cX12_taken 11 = .ok (.ireturn, 1) := by decide +kernel
theorem dX12_isSquare_0 : decode cX12_isSquare 0 = .ok (.iconst 0, 1) := by decide +kernel
theorem dX12_isSquare_1 : decode cX12_isSquare 1 = .ok (.istore_n 1, 1) := by decide +kernel
theorem dX12_isSquare_2 : decode cX12_isSquare 2 = .ok (.iload_n 1, 1) := by decide +kernel
theorem dX12_isSquare_3 : decode cX12_isSquare 3 = .ok (.iload_n 1, 1) := by decide +kernel
theorem dX12_isSquare_4 : decode cX12_isSquare 4 = .ok (.imul, 1) := by decide +kernel
theorem dX12_isSquare_5 : decode cX12_isSquare 5 = .ok (.iload_n 0, 1) := by decide +kernel
theorem dX12_isSquare_6 : decode cX12_isSquare 6 = .ok (.if_icmp .gt 18, 3) := by decide +kernel
theorem dX12_isSquare_9 : decode cX12_isSquare 9 = .ok (.iload_n 1, 1) := by decide +kernel
theorem dX12_isSquare_10 : decode cX12_isSquare 10 = .ok (.iload_n 1, 1) := by decide +kernel
theorem dX12_isSquare_11 : decode cX12_isSquare 11 = .ok (.imul, 1) := by decide +kernel
theorem dX12_isSquare_12 : decode cX12_isSquare 12 = .ok (.iload_n 0, 1) := by decide +kernel
theorem dX12_isSquare_13 : decode cX12_isSquare 13 = .ok (.if_icmp .ne 5, 3) := by decide +kernel
theorem dX12_isSquare_16 : decode cX12_isSquare 16 = .ok (.iconst 1, 1) := by decide +kernel
theorem dX12_isSquare_17 : decode cX12_isSquare 17 = .ok (.ireturn, 1) := by decide +kernel
theorem dX12_isSquare_18 : decode cX12_isSquare 18 = .ok (.iinc 1 1, 3) := by decide +kernel
theorem dX12_isSquare_21 : decode cX12_isSquare 21 = .ok (.goto (-19), 3) := by decide +kernel
theorem dX12_isSquare_24 : decode cX12_isSquare 24 = .ok (.iconst 0, 1) := by decide +kernel
theorem dX12_isSquare_25 : decode cX12_isSquare 25 = .ok (.ireturn, 1) := by decide +kernel
theorem dX12_base_0 : decode cX12_base 0 = .ok (.aload_n 0, 1) := by decide +kernel
theorem dX12_base_1 : decode cX12_base 1 = .ok (.iconst 0, 1) := by decide +kernel
theorem dX12_base_2 : decode cX12_base 2 = .ok (.putfield 107, 3) := by decide +kernel
theorem dX12_base_5 : decode cX12_base 5 = .ok (.iload_n 1, 1) := by decide +kernel
theorem dX12_base_6 : decode cX12_base 6 = .ok (.iconst 1, 1) := by decide +kernel
theorem dX12_base_7 : decode cX12_base 7 = .ok (.if_icmp .lt 54, 3) := by decide +kernel
theorem dX12_base_10 : decode cX12_base 10 = .ok (.iload_n 1, 1) := by decide +kernel
theorem dX12_base_11 : decode cX12_base 11 = .ok (.bipush 9, 2) := by decide +kernel
theorem dX12_base_13 : decode cX12_base 13 = .ok (.if_icmp .gt 48, 3) := by decide +kernel
theorem dX12_base_16 : decode cX12_base 16 = .ok (.iload_n 2, 1) := by decide +kernel
theorem dX12_base_17 : decode cX12_base 17 = .ok (.bipush (-8), 2) := by decide +kernel
theorem dX12_base_19 : decode cX12_base 19 = .ok (.if_icmp .lt 42, 3) := by decide +kernel
theorem dX12_base_22 : decode cX12_base 22 = .ok (.iload_n 2, 1) := by decide +kernel
theorem dX12_base_23 : decode cX12_base 23 = .ok (.bipush 9, 2) := by decide +kernel
theorem dX12_base_25 : decode cX12_base 25 = .ok (.if_icmp .gt 36, 3) := by decide +kernel
theorem dX12_base_28 : decode cX12_base 28 = .ok (.iload_n 2, 1) := by decide +kernel
theorem dX12_base_29 : decode cX12_base 29 = .ok (.ifCond .eq 32, 3) := by decide +kernel
theorem dX12_base_32 : decode cX12_base 32 = .ok (.iload_n 2, 1) := by decide +kernel
theorem dX12_base_33 : decode cX12_base 33 = .ok (.iload_n 1, 1) := by decide +kernel
theorem dX12_base_34 : decode cX12_base 34 = .ok (.if_icmp .gt 27, 3) := by decide +kernel
theorem dX12_base_37 : decode cX12_base 37 = .ok (.iload_n 2, 1) := by decide +kernel
theorem dX12_base_38 : decode cX12_base 38 = .ok (.ifCond .ge 10, 3) := by decide +kernel
theorem dX12_base_41 : decode cX12_base 41 = .ok (.iload_n 1, 1) := by decide +kernel
theorem dX12_base_42 : decode cX12_base 42 = .ok (.iload_n 2, 1) := by decide +kernel
theorem dX12_base_43 : decode cX12_base 43 = .ok (.iadd, 1) := by decide +kernel
theorem dX12_base_44 : decode cX12_base 44 = .ok (.iconst 2, 1) := by decide +kernel
theorem dX12_base_45 : decode cX12_base 45 = .ok (.if_icmp .lt 16, 3) := by decide +kernel
theorem dX12_base_48 : decode cX12_base 48 = .ok (.iload_n 1, 1) := by decide +kernel
theorem dX12_base_49 : decode cX12_base 49 = .ok (.iload_n 1, 1) := by decide +kernel
theorem dX12_base_50 : decode cX12_base 50 = .ok (.imul, 1) := by decide +kernel
theorem dX12_base_51 : decode cX12_base 51 = .ok (.iconst 4, 1) := by decide +kernel
theorem dX12_base_52 : decode cX12_base 52 = .ok (.iload_n 2, 1) := by decide +kernel
theorem dX12_base_53 : decode cX12_base 53 = .ok (.imul, 1) := by decide +kernel
theorem dX12_base_54 : decode cX12_base 54 = .ok (.iadd, 1) := by decide +kernel
theorem dX12_base_55 : decode cX12_base 55 = .ok (.invokestatic 117, 3) := by decide +kernel
theorem dX12_base_58 : decode cX12_base 58 = .ok (.ifCond .eq 5, 3) := by decide +kernel
theorem dX12_base_61 : decode cX12_base 61 = .ok (.iconst 0, 1) := by decide +kernel
theorem dX12_base_62 : decode cX12_base 62 = .ok (.ireturn, 1) := by decide +kernel
theorem dX12_base_63 : decode cX12_base 63 = .ok (.aload_n 0, 1) := by decide +kernel
theorem dX12_base_64 : decode cX12_base 64 = .ok (.iload_n 1, 1) := by decide +kernel
theorem dX12_base_65 : decode cX12_base 65 = .ok (.putfield 13, 3) := by decide +kernel
theorem dX12_base_68 : decode cX12_base 68 = .ok (.aload_n 0, 1) := by decide +kernel
theorem dX12_base_69 : decode cX12_base 69 = .ok (.iload_n 2, 1) := by decide +kernel
theorem dX12_base_70 : decode cX12_base 70 = .ok (.putfield 17, 3) := by decide +kernel
theorem dX12_base_73 : decode cX12_base 73 = .ok (.aload_n 0, 1) := by decide +kernel
theorem dX12_base_74 : decode cX12_base 74 = .ok (.aload_n 0, 1) := by decide +kernel
theorem dX12_base_75 : decode cX12_base 75 = .ok (.getfield 13, 3) := by decide +kernel
theorem dX12_base_78 : decode cX12_base 78 = .ok (.aload_n 0, 1) := by decide +kernel
theorem dX12_base_79 : decode cX12_base 79 = .ok (.getfield 13, 3) := by decide +kernel
theorem dX12_base_82 : decode cX12_base 82 = .ok (.imul, 1) := by decide +kernel
theorem dX12_base_83 : decode cX12_base 83 = .ok (.iconst 4, 1) := by decide +kernel
theorem dX12_base_84 : decode cX12_base 84 = .ok (.aload_n 0, 1) := by decide +kernel
theorem dX12_base_85 : decode cX12_base 85 = .ok (.getfield 17, 3) := by decide +kernel
theorem dX12_base_88 : decode cX12_base 88 = .ok (.imul, 1) := by decide +kernel
theorem dX12_base_89 : decode cX12_base 89 = .ok (.iadd, 1) := by decide +kernel
theorem dX12_base_90 : decode cX12_base 90 = .ok (.putfield 20, 3) := by decide +kernel
theorem dX12_base_93 : decode cX12_base 93 = .ok (.iconst 0, 1) := by decide +kernel
theorem dX12_base_94 : decode cX12_base 94 = .ok (.istore_n 3, 1) := by decide +kernel
theorem dX12_base_95 : decode cX12_base 95 = .ok (.iload_n 3, 1) := by decide +kernel
theorem dX12_base_96 : decode cX12_base 96 = .ok (.bipush 10, 2) := by decide +kernel
theorem dX12_base_98 : decode cX12_base 98 = .ok (.if_icmp .ge 16, 3) := by decide +kernel
theorem dX12_base_101 : decode cX12_base 101 = .ok (.aload_n 0, 1) := by decide +kernel
theorem dX12_base_102 : decode cX12_base 102 = .ok (.getfield 23, 3) := by decide +kernel
theorem dX12_base_105 : decode cX12_base 105 = .ok (.iload_n 3, 1) := by decide +kernel
theorem dX12_base_106 : decode cX12_base 106 = .ok (.iconst 0, 1) := by decide +kernel
theorem dX12_base_107 : decode cX12_base 107 = .ok (.bastore, 1) := by decide +kernel
theorem dX12_base_108 : decode cX12_base 108 = .ok (.iinc 3 1, 3) := by decide +kernel
theorem dX12_base_111 : decode cX12_base 111 = .ok (.goto (-16), 3) := by decide +kernel
theorem dX12_base_114 : decode cX12_base 114 = .ok (.aload_n 0, 1) := by decide +kernel
theorem dX12_base_115 : decode cX12_base 115 = .ok (.iconst 0, 1) := by decide +kernel
theorem dX12_base_116 : decode cX12_base 116 = .ok (.putfield 121, 3) := by decide +kernel
theorem dX12_base_119 : decode cX12_base 119 = .ok (.iconst 1, 1) := by decide +kernel
theorem dX12_base_120 : decode cX12_base 120 = .ok (.ireturn, 1) := by decide +kernel
theorem dX12_sign_0 : decode cX12_sign 0 = .ok (.ldc2_w 125, 3) := by decide +kernel
theorem dX12_sign_3 : decode cX12_sign 3 = .ok (.lload_n 1, 1) := by decide +kernel
theorem dX12_sign_4 : decode cX12_sign 4 = .ok (.lmul, 1) := by decide +kernel
theorem dX12_sign_5 : decode cX12_sign 5 = .ok (.lload_n 3, 1) := by decide +kernel
theorem dX12_sign_6 : decode cX12_sign 6 = .ok (.aload_n 0, 1) := by decide +kernel
theorem dX12_sign_7 : decode cX12_sign 7 = .ok (.getfield 13, 3) := by decide +kernel
theorem dX12_sign_10 : decode cX12_sign 10 = .ok (.i2l, 1) := by decide +kernel
theorem dX12_sign_11 : decode cX12_sign 11 = .ok (.lmul, 1) := by decide +kernel
theorem dX12_sign_12 : decode cX12_sign 12 = .ok (.ladd, 1) := by decide +kernel
theorem dX12_sign_13 : decode cX12_sign 13 = .ok (.lstore 5, 2) := by decide +kernel
theorem dX12_sign_15 : decode cX12_sign 15 = .ok (.lload 5, 2) := by decide +kernel
theorem dX12_sign_17 : decode cX12_sign 17 = .ok (.lconst 0, 1) := by decide +kernel
theorem dX12_sign_18 : decode cX12_sign 18 = .ok (.lcmp, 1) := by decide +kernel
theorem dX12_sign_19 : decode cX12_sign 19 = .ok (.ifCond .ne 11, 3) := by decide +kernel
theorem dX12_sign_22 : decode cX12_sign 22 = .ok (.lload_n 3, 1) := by decide +kernel
theorem dX12_sign_23 : decode cX12_sign 23 = .ok (.lconst 0, 1) := by decide +kernel
theorem dX12_sign_24 : decode cX12_sign 24 = .ok (.lcmp, 1) := by decide +kernel
theorem dX12_sign_25 : decode cX12_sign 25 = .ok (.ifCond .ne 5, 3) := by decide +kernel
theorem dX12_sign_28 : decode cX12_sign 28 = .ok (.iconst 0, 1) := by decide +kernel
theorem dX12_sign_29 : decode cX12_sign 29 = .ok (.ireturn, 1) := by decide +kernel
theorem dX12_sign_30 : decode cX12_sign 30 = .ok (.lload 5, 2) := by decide +kernel
theorem dX12_sign_32 : decode cX12_sign 32 = .ok (.lconst 0, 1) := by decide +kernel
theorem dX12_sign_33 : decode cX12_sign 33 = .ok (.lcmp, 1) := by decide +kernel
theorem dX12_sign_34 : decode cX12_sign 34 = .ok (.ifCond .lt 11, 3) := by decide +kernel
theorem dX12_sign_37 : decode cX12_sign 37 = .ok (.lload_n 3, 1) := by decide +kernel
theorem dX12_sign_38 : decode cX12_sign 38 = .ok (.lconst 0, 1) := by decide +kernel
theorem dX12_sign_39 : decode cX12_sign 39 = .ok (.lcmp, 1) := by decide +kernel
theorem dX12_sign_40 : decode cX12_sign 40 = .ok (.ifCond .lt 5, 3) := by decide +kernel
theorem dX12_sign_43 : decode cX12_sign 43 = .ok (.iconst 1, 1) := by decide +kernel
theorem dX12_sign_44 : decode cX12_sign 44 = .ok (.ireturn, 1) := by decide +kernel
theorem dX12_sign_45 : decode cX12_sign 45 = .ok (.lload 5, 2) := by decide +kernel
theorem dX12_sign_47 : decode cX12_sign 47 = .ok (.lconst 0, 1) := by decide +kernel
theorem dX12_sign_48 : decode cX12_sign 48 = .ok (.lcmp, 1) := by decide +kernel
theorem dX12_sign_49 : decode cX12_sign 49 = .ok (.ifCond .gt 11, 3) := by decide +kernel
theorem dX12_sign_52 : decode cX12_sign 52 = .ok (.lload_n 3, 1) := by decide +kernel
theorem dX12_sign_53 : decode cX12_sign 53 = .ok (.lconst 0, 1) := by decide +kernel
theorem dX12_sign_54 : decode cX12_sign 54 = .ok (.lcmp, 1) := by decide +kernel
theorem dX12_sign_55 : decode cX12_sign 55 = .ok (.ifCond .gt 5, 3) := by decide +kernel
theorem dX12_sign_58 : decode cX12_sign 58 = .ok (.iconst (-1), 1) := by decide +kernel
theorem dX12_sign_59 : decode cX12_sign 59 = .ok (.ireturn, 1) := by decide +kernel
theorem dX12_sign_60 : decode cX12_sign 60 = .ok (.lload 5, 2) := by decide +kernel
theorem dX12_sign_62 : decode cX12_sign 62 = .ok (.lload 5, 2) := by decide +kernel
theorem dX12_sign_64 : decode cX12_sign 64 = .ok (.lmul, 1) := by decide +kernel
theorem dX12_sign_65 : decode cX12_sign 65 = .ok (.lload_n 3, 1) := by decide +kernel
theorem dX12_sign_66 : decode cX12_sign 66 = .ok (.lload_n 3, 1) := by decide +kernel
theorem dX12_sign_67 : decode cX12_sign 67 = .ok (.lmul, 1) := by decide +kernel
theorem dX12_sign_68 : decode cX12_sign 68 = .ok (.aload_n 0, 1) := by decide +kernel
theorem dX12_sign_69 : decode cX12_sign 69 = .ok (.getfield 20, 3) := by decide +kernel
theorem dX12_sign_72 : decode cX12_sign 72 = .ok (.i2l, 1) := by decide +kernel
theorem dX12_sign_73 : decode cX12_sign 73 = .ok (.lmul, 1) := by decide +kernel
theorem dX12_sign_74 : decode cX12_sign 74 = .ok (.lsub, 1) := by decide +kernel
theorem dX12_sign_75 : decode cX12_sign 75 = .ok (.lstore 7, 2) := by decide +kernel
theorem dX12_sign_77 : decode cX12_sign 77 = .ok (.lload 7, 2) := by decide +kernel
theorem dX12_sign_79 : decode cX12_sign 79 = .ok (.lconst 0, 1) := by decide +kernel
theorem dX12_sign_80 : decode cX12_sign 80 = .ok (.lcmp, 1) := by decide +kernel
theorem dX12_sign_81 : decode cX12_sign 81 = .ok (.ifCond .le 7, 3) := by decide +kernel
theorem dX12_sign_84 : decode cX12_sign 84 = .ok (.iconst 1, 1) := by decide +kernel
theorem dX12_sign_85 : decode cX12_sign 85 = .ok (.goto 4, 3) := by decide +kernel
theorem dX12_sign_88 : decode cX12_sign 88 = .ok (.iconst 0, 1) := by decide +kernel
theorem dX12_sign_89 : decode cX12_sign 89 = .ok (.lload 5, 2) := by decide +kernel
theorem dX12_sign_91 : decode cX12_sign 91 = .ok (.lconst 0, 1) := by decide +kernel
theorem dX12_sign_92 : decode cX12_sign 92 = .ok (.lcmp, 1) := by decide +kernel
theorem dX12_sign_93 : decode cX12_sign 93 = .ok (.ifCond .le 7, 3) := by decide +kernel
theorem dX12_sign_96 : decode cX12_sign 96 = .ok (.iconst 1, 1) := by decide +kernel
theorem dX12_sign_97 : decode cX12_sign 97 = .ok (.goto 4, 3) := by decide +kernel
theorem dX12_sign_100 : decode cX12_sign 100 = .ok (.iconst 0, 1) := by decide +kernel
theorem dX12_sign_101 : decode cX12_sign 101 = .ok (.if_icmp .ne 7, 3) := by decide +kernel
theorem dX12_sign_104 : decode cX12_sign 104 = .ok (.iconst 1, 1) := by decide +kernel
theorem dX12_sign_105 : decode cX12_sign 105 = .ok (.goto 4, 3) := by decide +kernel
theorem dX12_sign_108 : decode cX12_sign 108 = .ok (.iconst (-1), 1) := by decide +kernel
theorem dX12_sign_109 : decode cX12_sign 109 = .ok (.ireturn, 1) := by decide +kernel
theorem dX12_common_0 : decode cX12_common 0 = .ok (.lload_n 0, 1) := by decide +kernel
theorem dX12_common_1 : decode cX12_common 1 = .ok (.lconst 0, 1) := by decide +kernel
theorem dX12_common_2 : decode cX12_common 2 = .ok (.lcmp, 1) := by decide +kernel
theorem dX12_common_3 : decode cX12_common 3 = .ok (.ifCond .ge 8, 3) := by decide +kernel
theorem dX12_common_6 : decode cX12_common 6 = .ok (.lload_n 0, 1) := by decide +kernel
theorem dX12_common_7 : decode cX12_common 7 = .ok (.lneg, 1) := by decide +kernel
theorem dX12_common_8 : decode cX12_common 8 = .ok (.goto 4, 3) := by decide +kernel
theorem dX12_common_11 : decode cX12_common 11 = .ok (.lload_n 0, 1) := by decide +kernel
theorem dX12_common_12 : decode cX12_common 12 = .ok (.lstore 4, 2) := by decide +kernel
