theorem dX0_init_0 : decode cX0_init 0 = .ok (.aload_n 0, 1) := by decide +kernel
theorem dX0_init_1 : decode cX0_init 1 = .ok (.invokespecial 1, 3) := by decide +kernel
theorem dX0_init_4 : decode cX0_init 4 = .ok (.aload_n 0, 1) := by decide +kernel
theorem dX0_init_5 : decode cX0_init 5 = .ok (.lconst 1, 1) := by decide +kernel
theorem dX0_init_6 : decode cX0_init 6 = .ok (.putfield 7, 3) := by decide +kernel
theorem dX0_init_9 : decode cX0_init 9 = .ok (.return_, 1) := by decide +kernel
theorem dX0_take_0 : decode cX0_take 0 = .ok (.lload 5, 2) := by decide +kernel
theorem dX0_take_2 : decode cX0_take 2 = .ok (.lconst 0, 1) := by decide +kernel
theorem dX0_take_3 : decode cX0_take 3 = .ok (.lcmp, 1) := by decide +kernel
theorem dX0_take_4 : decode cX0_take 4 = .ok (.ifCond .gt 5, 3) := by decide +kernel
theorem dX0_take_7 : decode cX0_take 7 = .ok (.iconst 0, 1) := by decide +kernel
theorem dX0_take_8 : decode cX0_take 8 = .ok (.ireturn, 1) := by decide +kernel
theorem dX0_take_9 : decode cX0_take 9 = .ok (.lload_n 1, 1) := by decide +kernel
theorem dX0_take_10 : decode cX0_take 10 = .ok (.lload_n 3, 1) := by decide +kernel
theorem dX0_take_11 : decode cX0_take 11 = .ok (.invokestatic 13, 3) := by decide +kernel
theorem dX0_take_14 : decode cX0_take 14 = .ok (.lload 5, 2) := by decide +kernel
theorem dX0_take_16 : decode cX0_take 16 = .ok (.invokestatic 13, 3) := by decide +kernel
theorem dX0_take_19 : decode cX0_take 19 = .ok (.lstore 7, 2) := by decide +kernel
theorem dX0_take_21 : decode cX0_take 21 = .ok (.lload 7, 2) := by decide +kernel
theorem dX0_take_23 : decode cX0_take 23 = .ok (.lconst 0, 1) := by decide +kernel
theorem dX0_take_24 : decode cX0_take 24 = .ok (.lcmp, 1) := by decide +kernel
theorem dX0_take_25 : decode cX0_take 25 = .ok (.ifCond .gt 5, 3) := by decide +kernel
theorem dX0_take_28 : decode cX0_take 28 = .ok (.iconst 0, 1) := by decide +kernel
theorem dX0_take_29 : decode cX0_take 29 = .ok (.ireturn, 1) := by decide +kernel
theorem dX0_take_30 : decode cX0_take 30 = .ok (.lload_n 1, 1) := by decide +kernel
theorem dX0_take_31 : decode cX0_take 31 = .ok (.lload 7, 2) := by decide +kernel
theorem dX0_take_33 : decode cX0_take 33 = .ok (.ldiv, 1) := by decide +kernel
theorem dX0_take_34 : decode cX0_take 34 = .ok (.lstore 9, 2) := by decide +kernel
theorem dX0_take_36 : decode cX0_take 36 = .ok (.lload_n 3, 1) := by decide +kernel
theorem dX0_take_37 : decode cX0_take 37 = .ok (.lload 7, 2) := by decide +kernel
theorem dX0_take_39 : decode cX0_take 39 = .ok (.ldiv, 1) := by decide +kernel
theorem dX0_take_40 : decode cX0_take 40 = .ok (.lstore 11, 2) := by decide +kernel
theorem dX0_take_42 : decode cX0_take 42 = .ok (.lload 5, 2) := by decide +kernel
theorem dX0_take_44 : decode cX0_take 44 = .ok (.lload 7, 2) := by decide +kernel
theorem dX0_take_46 : decode cX0_take 46 = .ok (.ldiv, 1) := by decide +kernel
theorem dX0_take_47 : decode cX0_take 47 = .ok (.lstore 13, 2) := by decide +kernel
theorem dX0_take_49 : decode cX0_take 49 = .ok (.lload 9, 2) := by decide +kernel
theorem dX0_take_51 : decode cX0_take 51 = .ok (.ldc2_w 19, 3) := by decide +kernel
theorem dX0_take_54 : decode cX0_take 54 = .ok (.invokestatic 21, 3) := by decide +kernel
theorem dX0_take_57 : decode cX0_take 57 = .ok (.ifCond .ne 23, 3) := by decide +kernel
theorem dX0_take_60 : decode cX0_take 60 = .ok (.lload 11, 2) := by decide +kernel
theorem dX0_take_62 : decode cX0_take 62 = .ok (.ldc2_w 19, 3) := by decide +kernel
theorem dX0_take_65 : decode cX0_take 65 = .ok (.invokestatic 21, 3) := by decide +kernel
theorem dX0_take_68 : decode cX0_take 68 = .ok (.ifCond .ne 12, 3) := by decide +kernel
theorem dX0_take_71 : decode cX0_take 71 = .ok (.lload 13, 2) := by decide +kernel
theorem dX0_take_73 : decode cX0_take 73 = .ok (.ldc2_w 25, 3) := by decide +kernel
theorem dX0_take_76 : decode cX0_take 76 = .ok (.lcmp, 1) := by decide +kernel
theorem dX0_take_77 : decode cX0_take 77 = .ok (.ifCond .le 5, 3) := by decide +kernel
theorem dX0_take_80 : decode cX0_take 80 = .ok (.iconst 0, 1) := by decide +kernel
theorem dX0_take_81 : decode cX0_take 81 = .ok (.ireturn, 1) := by decide +kernel
theorem dX0_take_82 : decode cX0_take 82 = .ok (.aload_n 0, 1) := by decide +kernel
theorem dX0_take_83 : decode cX0_take 83 = .ok (.lload 9, 2) := by decide +kernel
theorem dX0_take_85 : decode cX0_take 85 = .ok (.putfield 27, 3) := by decide +kernel
theorem dX0_take_88 : decode cX0_take 88 = .ok (.aload_n 0, 1) := by decide +kernel
theorem dX0_take_89 : decode cX0_take 89 = .ok (.lload 11, 2) := by decide +kernel
theorem dX0_take_91 : decode cX0_take 91 = .ok (.putfield 30, 3) := by decide +kernel
theorem dX0_take_94 : decode cX0_take 94 = .ok (.aload_n 0, 1) := by decide +kernel
theorem dX0_take_95 : decode cX0_take 95 = .ok (.lload 13, 2) := by decide +kernel
theorem dX0_take_97 : decode cX0_take 97 = .ok (.putfield 7, 3) := by decide +kernel
theorem dX0_take_100 : decode cX0_take 100 = .ok (.aload_n 0, 1) := by decide +kernel
theorem dX0_take_101 : decode cX0_take 101 = .ok (.iconst 1, 1) := by decide +kernel
theorem dX0_take_102 : decode cX0_take 102 = .ok (.putfield 33, 3) := by decide +kernel
theorem dX0_take_105 : decode cX0_take 105 = .ok (.iconst 1, 1) := by decide +kernel
theorem dX0_take_106 : decode cX0_take 106 = .ok (.ireturn, 1) := by decide +kernel
theorem dX0_copy_0 : decode cX0_copy 0 = .ok (.aload_n 0, 1) := by decide +kernel
theorem dX0_copy_1 : decode cX0_copy 1 = .ok (.aload_n 1, 1) := by decide +kernel
theorem dX0_copy_2 : decode cX0_copy 2 = .ok (.getfield 27, 3) := by decide +kernel
theorem dX0_copy_5 : decode cX0_copy 5 = .ok (.aload_n 1, 1) := by decide +kernel
theorem dX0_copy_6 : decode cX0_copy 6 = .ok (.getfield 30, 3) := by decide +kernel
theorem dX0_copy_9 : decode cX0_copy 9 = .ok (.aload_n 1, 1) := by decide +kernel
theorem dX0_copy_10 : decode cX0_copy 10 = .ok (.getfield 7, 3) := by decide +kernel
theorem dX0_copy_13 : decode cX0_copy 13 = .ok (.invokevirtual 37, 3) := by decide +kernel
theorem dX0_copy_16 : decode cX0_copy 16 = .ok (.ireturn, 1) := by decide +kernel
theorem dX1_init_0 : decode cX1_init 0 = .ok (.aload_n 0, 1) := by decide +kernel
theorem dX1_init_1 : decode cX1_init 1 = .ok (.invokespecial 1, 3) := by decide +kernel
theorem dX1_init_4 : decode cX1_init 4 = .ok (.aload_n 0, 1) := by decide +kernel
theorem dX1_init_5 : decode cX1_init 5 = .ok (.lconst 1, 1) := by decide +kernel
theorem dX1_init_6 : decode cX1_init 6 = .ok (.putfield 7, 3) := by decide +kernel
theorem dX1_init_9 : decode cX1_init 9 = .ok (.return_, 1) := by decide +kernel
theorem dX1_of_0 : decode cX1_of 0 = .ok (.aload_n 0, 1) := by decide +kernel
theorem dX1_of_1 : decode cX1_of 1 = .ok (.aload_n 1, 1) := by decide +kernel
theorem dX1_of_2 : decode cX1_of 2 = .ok (.getfield 13, 3) := by decide +kernel
theorem dX1_of_5 : decode cX1_of 5 = .ok (.putfield 18, 3) := by decide +kernel
theorem dX1_of_8 : decode cX1_of 8 = .ok (.aload_n 0, 1) := by decide +kernel
theorem dX1_of_9 : decode cX1_of 9 = .ok (.aload_n 1, 1) := by decide +kernel
theorem dX1_of_10 : decode cX1_of 10 = .ok (.getfield 19, 3) := by decide +kernel
theorem dX1_of_13 : decode cX1_of 13 = .ok (.putfield 22, 3) := by decide +kernel
theorem dX1_of_16 : decode cX1_of 16 = .ok (.aload_n 0, 1) := by decide +kernel
theorem dX1_of_17 : decode cX1_of 17 = .ok (.aload_n 1, 1) := by decide +kernel
theorem dX1_of_18 : decode cX1_of 18 = .ok (.getfield 23, 3) := by decide +kernel
theorem dX1_of_21 : decode cX1_of 21 = .ok (.putfield 7, 3) := by decide +kernel
theorem dX1_of_24 : decode cX1_of 24 = .ok (.return_, 1) := by decide +kernel
theorem dX1_isNothing_0 : decode cX1_isNothing 0 = .ok (.aload_n 0, 1) := by decide +kernel
theorem dX1_isNothing_1 : decode cX1_isNothing 1 = .ok (.getfield 18, 3) := by decide +kernel
theorem dX1_isNothing_4 : decode cX1_isNothing 4 = .ok (.lconst 0, 1) := by decide +kernel
theorem dX1_isNothing_5 : decode cX1_isNothing 5 = .ok (.lcmp, 1) := by decide +kernel
theorem dX1_isNothing_6 : decode cX1_isNothing 6 = .ok (.ifCond .ne 16, 3) := by decide +kernel
theorem dX1_isNothing_9 : decode cX1_isNothing 9 = .ok (.aload_n 0, 1) := by decide +kernel
theorem dX1_isNothing_10 : decode cX1_isNothing 10 = .ok (.getfield 22, 3) := by decide +kernel
theorem dX1_isNothing_13 : decode cX1_isNothing 13 = .ok (.lconst 0, 1) := by decide +kernel
theorem dX1_isNothing_14 : decode cX1_isNothing 14 = .ok (.lcmp, 1) := by decide +kernel
theorem dX1_isNothing_15 : decode cX1_isNothing 15 = .ok (.ifCond .ne 7, 3) := by decide +kernel
theorem dX1_isNothing_18 : decode cX1_isNothing 18 = .ok (.iconst 1, 1) := by decide +kernel
theorem dX1_isNothing_19 : decode cX1_isNothing 19 = .ok (.goto 4, 3) := by decide +kernel
theorem dX1_isNothing_22 : decode cX1_isNothing 22 = .ok (.iconst 0, 1) := by decide +kernel
theorem dX1_isNothing_23 : decode cX1_isNothing 23 = .ok (.ireturn, 1) := by decide +kernel
theorem dX1_greatestPower_0 : decode cX1_greatestPower 0 = .ok (.iconst 0, 1) := by decide +kernel
theorem dX1_greatestPower_1 : decode cX1_greatestPower 1 = .ok (.istore_n 2, 1) := by decide +kernel
theorem dX1_greatestPower_2 : decode cX1_greatestPower 2 = .ok (.iconst 1, 1) := by decide +kernel
theorem dX1_greatestPower_3 : decode cX1_greatestPower 3 = .ok (.istore_n 3, 1) := by decide +kernel
theorem dX1_greatestPower_4 : decode cX1_greatestPower 4 = .ok (.iload_n 3, 1) := by decide +kernel
theorem dX1_greatestPower_5 : decode cX1_greatestPower 5 = .ok (.aload_n 1, 1) := by decide +kernel
theorem dX1_greatestPower_6 : decode cX1_greatestPower 6 = .ok (.getfield 24, 3) := by decide +kernel
theorem dX1_greatestPower_9 : decode cX1_greatestPower 9 = .ok (.if_icmp .ge 20, 3) := by decide +kernel
theorem dX1_greatestPower_12 : decode cX1_greatestPower 12 = .ok (.aload_n 0, 1) := by decide +kernel
theorem dX1_greatestPower_13 : decode cX1_greatestPower 13 = .ok (.aload_n 1, 1) := by decide +kernel
theorem dX1_greatestPower_14 : decode cX1_greatestPower 14 = .ok (.iload_n 3, 1) := by decide +kernel
theorem dX1_greatestPower_15 : decode cX1_greatestPower 15 = .ok (.invokevirtual 30, 3) := by decide +kernel
theorem dX1_greatestPower_18 : decode cX1_greatestPower 18 = .ok (.ifCond .eq 11, 3) := by decide +kernel
theorem dX1_greatestPower_21 : decode cX1_greatestPower 21 = .ok (.iload_n 3, 1) := by decide +kernel
theorem dX1_greatestPower_22 : decode cX1_greatestPower 22 = .ok (.istore_n 2, 1) := by decide +kernel
theorem dX1_greatestPower_23 : decode cX1_greatestPower 23 = .ok (.iinc 3 1, 3) := by decide +kernel
theorem dX1_greatestPower_26 : decode cX1_greatestPower 26 = .ok (.goto (-22), 3) := by decide +kernel
theorem dX1_greatestPower_29 : decode cX1_greatestPower 29 = .ok (.iload_n 2, 1) := by decide +kernel
theorem dX1_greatestPower_30 : decode cX1_greatestPower 30 = .ok (.ireturn, 1) := by decide +kernel
theorem dX1_holds_0 : decode cX1_holds 0 = .ok (.aload_n 1, 1) := by decide +kernel
theorem dX1_holds_1 : decode cX1_holds 1 = .ok (.aload_n 0, 1) := by decide +kernel
theorem dX1_holds_2 : decode cX1_holds 2 = .ok (.getfield 18, 3) := by decide +kernel
theorem dX1_holds_5 : decode cX1_holds 5 = .ok (.aload_n 0, 1) := by decide +kernel
theorem dX1_holds_6 : decode cX1_holds 6 = .ok (.getfield 7, 3) := by decide +kernel
theorem dX1_holds_9 : decode cX1_holds 9 = .ok (.aload_n 1, 1) := by decide +kernel
theorem dX1_holds_10 : decode cX1_holds 10 = .ok (.getfield 34, 3) := by decide +kernel
theorem dX1_holds_13 : decode cX1_holds 13 = .ok (.iload_n 2, 1) := by decide +kernel
theorem dX1_holds_14 : decode cX1_holds 14 = .ok (.laload, 1) := by decide +kernel
theorem dX1_holds_15 : decode cX1_holds 15 = .ok (.lmul, 1) := by decide +kernel
theorem dX1_holds_16 : decode cX1_holds 16 = .ok (.lsub, 1) := by decide +kernel
theorem dX1_holds_17 : decode cX1_holds 17 = .ok (.aload_n 0, 1) := by decide +kernel
theorem dX1_holds_18 : decode cX1_holds 18 = .ok (.getfield 22, 3) := by decide +kernel
theorem dX1_holds_21 : decode cX1_holds 21 = .ok (.aload_n 0, 1) := by decide +kernel
theorem dX1_holds_22 : decode cX1_holds 22 = .ok (.getfield 7, 3) := by decide +kernel
theorem dX1_holds_25 : decode cX1_holds 25 = .ok (.aload_n 1, 1) := by decide +kernel
theorem dX1_holds_26 : decode cX1_holds 26 = .ok (.getfield 38, 3) := by decide +kernel
theorem dX1_holds_29 : decode cX1_holds 29 = .ok (.iload_n 2, 1) := by decide +kernel
theorem dX1_holds_30 : decode cX1_holds 30 = .ok (.laload, 1) := by decide +kernel
theorem dX1_holds_31 : decode cX1_holds 31 = .ok (.lmul, 1) := by decide +kernel
theorem dX1_holds_32 : decode cX1_holds 32 = .ok (.lsub, 1) := by decide +kernel
theorem dX1_holds_33 : decode cX1_holds 33 = .ok (.invokevirtual 41, 3) := by decide +kernel
theorem dX1_holds_36 : decode cX1_holds 36 = .ok (.ifCond .lt 7, 3) := by decide +kernel
theorem dX1_holds_39 : decode cX1_holds 39 = .ok (.iconst 1, 1) := by decide +kernel
theorem dX1_holds_40 : decode cX1_holds 40 = .ok (.goto 4, 3) := by decide +kernel
theorem dX1_holds_43 : decode cX1_holds 43 = .ok (.iconst 0, 1) := by decide +kernel
theorem dX1_holds_44 : decode cX1_holds 44 = .ok (.ireturn, 1) := by decide +kernel
theorem dX1_peel_0 : decode cX1_peel 0 = .ok (.iconst 0, 1) := by decide +kernel
theorem dX1_peel_1 : decode cX1_peel 1 = .ok (.istore_n 3, 1) := by decide +kernel
theorem dX1_peel_2 : decode cX1_peel 2 = .ok (.iload_n 2, 1) := by decide +kernel
theorem dX1_peel_3 : decode cX1_peel 3 = .ok (.ifCond .lt 11, 3) := by decide +kernel
theorem dX1_peel_6 : decode cX1_peel 6 = .ok (.iload_n 2, 1) := by decide +kernel
theorem dX1_peel_7 : decode cX1_peel 7 = .ok (.aload_n 1, 1) := by decide +kernel
theorem dX1_peel_8 : decode cX1_peel 8 = .ok (.getfield 24, 3) := by decide +kernel
theorem dX1_peel_11 : decode cX1_peel 11 = .ok (.if_icmp .lt 5, 3) := by decide +kernel
theorem dX1_peel_14 : decode cX1_peel 14 = .ok (.iload_n 3, 1) := by decide +kernel
theorem dX1_peel_15 : decode cX1_peel 15 = .ok (.ireturn, 1) := by decide +kernel
theorem dX1_peel_16 : decode cX1_peel 16 = .ok (.aload_n 1, 1) := by decide +kernel
theorem dX1_peel_17 : decode cX1_peel 17 = .ok (.invokevirtual 45, 3) := by decide +kernel
theorem dX1_peel_20 : decode cX1_peel 20 = .ok (.istore 4, 2) := by decide +kernel
theorem dX1_peel_22 : decode cX1_peel 22 = .ok (.iload 4, 2) := by decide +kernel
theorem dX1_peel_24 : decode cX1_peel 24 = .ok (.ifCond .le 61, 3) := by decide +kernel
theorem dX1_peel_27 : decode cX1_peel 27 = .ok (.aload_n 0, 1) := by decide +kernel
theorem dX1_peel_28 : decode cX1_peel 28 = .ok (.aload_n 1, 1) := by decide +kernel
theorem dX1_peel_29 : decode cX1_peel 29 = .ok (.iload_n 2, 1) := by decide +kernel
theorem dX1_peel_30 : decode cX1_peel 30 = .ok (.invokevirtual 30, 3) := by decide +kernel
theorem dX1_peel_33 : decode cX1_peel 33 = .ok (.ifCond .eq 52, 3) := by decide +kernel
theorem dX1_peel_36 : decode cX1_peel 36 = .ok (.aload_n 0, 1) := by decide +kernel
theorem dX1_peel_37 : decode cX1_peel 37 = .ok (.dup, 1) := by decide +kernel
theorem dX1_peel_38 : decode cX1_peel 38 = .ok (.getfield 18, 3) := by decide +kernel
theorem dX1_peel_41 : decode cX1_peel 41 = .ok (.aload_n 0, 1) := by decide +kernel
theorem dX1_peel_42 : decode cX1_peel 42 = .ok (.getfield 7, 3) := by decide +kernel
theorem dX1_peel_45 : decode cX1_peel 45 = .ok (.aload_n 1, 1) := by decide +kernel
theorem dX1_peel_46 : decode cX1_peel 46 = .ok (.getfield 34, 3) := by decide +kernel
theorem dX1_peel_49 : decode cX1_peel 49 = .ok (.iload_n 2, 1) := by decide +kernel
theorem dX1_peel_50 : decode cX1_peel 50 = .ok (.laload, 1) := by decide +kernel
theorem dX1_peel_51 : decode cX1_peel 51 = .ok (.lmul, 1) := by decide +kernel
theorem dX1_peel_52 : decode cX1_peel 52 = .ok (.lsub, 1) := by decide +kernel
theorem dX1_peel_53 : decode cX1_peel 53 = .ok (.putfield 18, 3) := by decide +kernel
theorem dX1_peel_56 : decode cX1_peel 56 = .ok (.aload_n 0, 1) := by decide +kernel
theorem dX1_peel_57 : decode cX1_peel 57 = .ok (.dup, 1) := by decide +kernel
theorem dX1_peel_58 : decode cX1_peel 58 = .ok (.getfield 22, 3) := by decide +kernel
theorem dX1_peel_61 : decode cX1_peel 61 = .ok (.aload_n 0, 1) := by decide +kernel
theorem dX1_peel_62 : decode cX1_peel 62 = .ok (.getfield 7, 3) := by decide +kernel
theorem dX1_peel_65 : decode cX1_peel 65 = .ok (.aload_n 1, 1) := by decide +kernel
theorem dX1_peel_66 : decode cX1_peel 66 = .ok (.getfield 38, 3) := by decide +kernel
theorem dX1_peel_69 : decode cX1_peel 69 = .ok (.iload_n 2, 1) := by decide +kernel
theorem dX1_peel_70 : decode cX1_peel 70 = .ok (.laload, 1) := by decide +kernel
theorem dX1_peel_71 : decode cX1_peel 71 = .ok (.lmul, 1) := by decide +kernel
theorem dX1_peel_72 : decode cX1_peel 72 = .ok (.lsub, 1) := by decide +kernel
theorem dX1_peel_73 : decode cX1_peel 73 = .ok (.putfield 22, 3) := by decide +kernel
theorem dX1_peel_76 : decode cX1_peel 76 = .ok (.iinc 3 1, 3) := by decide +kernel
theorem dX1_peel_79 : decode cX1_peel 79 = .ok (.iinc 4 (-1), 3) := by decide +kernel
theorem dX1_peel_82 : decode cX1_peel 82 = .ok (.goto (-60), 3) := by decide +kernel
theorem dX1_peel_85 : decode cX1_peel 85 = .ok (.iload_n 3, 1) := by decide +kernel
theorem dX1_peel_86 : decode cX1_peel 86 = .ok (.ireturn, 1) := by decide +kernel
theorem dX1_multiplyByX_0 : decode cX1_multiplyByX 0 = .ok (.aload_n 0, 1) := by decide +kernel
theorem dX1_multiplyByX_1 : decode cX1_multiplyByX 1 = .ok (.getfield 18, 3) := by decide +kernel
theorem dX1_multiplyByX_4 : decode cX1_multiplyByX 4 = .ok (.lstore_n 2, 1) := by decide +kernel
theorem dX1_multiplyByX_5 : decode cX1_multiplyByX 5 = .ok (.aload_n 0, 1) := by decide +kernel
theorem dX1_multiplyByX_6 : decode cX1_multiplyByX 6 = .ok (.aload_n 1, 1) := by decide +kernel
theorem dX1_multiplyByX_7 : decode cX1_multiplyByX 7 = .ok (.getfield 49, 3) := by decide +kernel
theorem dX1_multiplyByX_10 : decode cX1_multiplyByX 10 = .ok (.i2l, 1) := by decide +kernel
theorem dX1_multiplyByX_11 : decode cX1_multiplyByX 11 = .ok (.aload_n 0, 1) := by decide +kernel
theorem dX1_multiplyByX_12 : decode cX1_multiplyByX 12 = .ok (.getfield 22, 3) := by decide +kernel
theorem dX1_multiplyByX_15 : decode cX1_multiplyByX 15 = .ok (.lmul, 1) := by decide +kernel
theorem dX1_multiplyByX_16 : decode cX1_multiplyByX 16 = .ok (.putfield 18, 3) := by decide +kernel
theorem dX1_multiplyByX_19 : decode cX1_multiplyByX 19 = .ok (.aload_n 0, 1) := by decide +kernel
theorem dX1_multiplyByX_20 : decode cX1_multiplyByX 20 = .ok (.lload_n 2, 1) := by decide +kernel
theorem dX1_multiplyByX_21 : decode cX1_multiplyByX 21 = .ok (.aload_n 1, 1) := by decide +kernel
theorem dX1_multiplyByX_22 : decode cX1_multiplyByX 22 = .ok (.getfield 52, 3) := by decide +kernel
theorem dX1_multiplyByX_25 : decode cX1_multiplyByX 25 = .ok (.i2l, 1) := by decide +kernel
theorem dX1_multiplyByX_26 : decode cX1_multiplyByX 26 = .ok (.aload_n 0, 1) := by decide +kernel
theorem dX1_multiplyByX_27 : decode cX1_multiplyByX 27 = .ok (.getfield 22, 3) := by decide +kernel
theorem dX1_multiplyByX_30 : decode cX1_multiplyByX 30 = .ok (.lmul, 1) := by decide +kernel
theorem dX1_multiplyByX_31 : decode cX1_multiplyByX 31 = .ok (.ladd, 1) := by decide +kernel
theorem dX1_multiplyByX_32 : decode cX1_multiplyByX 32 = .ok (.putfield 22, 3) := by decide +kernel
theorem dX1_multiplyByX_35 : decode cX1_multiplyByX 35 = .ok (.return_, 1) := by decide +kernel
theorem dX2_init_0 : decode cX2_init 0 = .ok (.aload_n 0, 1) := by decide +kernel
theorem dX2_init_1 : decode cX2_init 1 = .ok (.invokespecial 1, 3) := by decide +kernel
theorem dX2_init_4 : decode cX2_init 4 = .ok (.aload_n 0, 1) := by decide +kernel
theorem dX2_init_5 : decode cX2_init 5 = .ok (.bipush 25, 2) := by decide +kernel
theorem dX2_init_7 : decode cX2_init 7 = .ok (.newarray .int, 2) := by decide +kernel
theorem dX2_init_9 : decode cX2_init 9 = .ok (.putfield 9, 3) := by decide +kernel
theorem dX2_init_12 : decode cX2_init 12 = .ok (.aload_n 0, 1) := by decide +kernel
theorem dX2_init_13 : decode cX2_init 13 = .ok (.bipush 25, 2) := by decide +kernel
theorem dX2_init_15 : decode cX2_init 15 = .ok (.newarray .int, 2) := by decide +kernel
theorem dX2_init_17 : decode cX2_init 17 = .ok (.putfield 13, 3) := by decide +kernel
theorem dX2_init_20 : decode cX2_init 20 = .ok (.aload_n 0, 1) := by decide +kernel
theorem dX2_init_21 : decode cX2_init 21 = .ok (.bipush 25, 2) := by decide +kernel
theorem dX2_init_23 : decode cX2_init 23 = .ok (.newarray .int, 2) := by decide +kernel
theorem dX2_init_25 : decode cX2_init 25 = .ok (.putfield 16, 3) := by decide +kernel
theorem dX2_init_28 : decode cX2_init 28 = .ok (.aload_n 0, 1) := by decide +kernel
theorem dX2_init_29 : decode cX2_init 29 = .ok (.sipush 625, 3) := by decide +kernel
theorem dX2_init_32 : decode cX2_init 32 = .ok (.newarray .int, 2) := by decide +kernel
theorem dX2_init_34 : decode cX2_init 34 = .ok (.putfield 19, 3) := by decide +kernel
theorem dX2_init_37 : decode cX2_init 37 = .ok (.aload_n 0, 1) := by decide +kernel
theorem dX2_init_38 : decode cX2_init 38 = .ok (.bipush 10, 2) := by decide +kernel
theorem dX2_init_40 : decode cX2_init 40 = .ok (.invokevirtual 22, 3) := by decide +kernel
theorem dX2_init_43 : decode cX2_init 43 = .ok (.pop, 1) := by decide +kernel
theorem dX2_init_44 : decode cX2_init 44 = .ok (.iconst 0, 1) := by decide +kernel
theorem dX2_init_45 : decode cX2_init 45 = .ok (.istore_n 1, 1) := by decide +kernel
theorem dX2_init_46 : decode cX2_init 46 = .ok (.iload_n 1, 1) := by decide +kernel
theorem dX2_init_47 : decode cX2_init 47 = .ok (.aload_n 0, 1) := by decide +kernel
theorem dX2_init_48 : decode cX2_init 48 = .ok (.getfield 26, 3) := by decide +kernel
theorem dX2_init_51 : decode cX2_init 51 = .ok (.if_icmp .ge 29, 3) := by decide +kernel
theorem dX2_init_54 : decode cX2_init 54 = .ok (.aload_n 0, 1) := by decide +kernel
theorem dX2_init_55 : decode cX2_init 55 = .ok (.getfield 9, 3) := by decide +kernel
theorem dX2_init_58 : decode cX2_init 58 = .ok (.iload_n 1, 1) := by decide +kernel
theorem dX2_init_59 : decode cX2_init 59 = .ok (.iload_n 1, 1) := by decide +kernel
theorem dX2_init_60 : decode cX2_init 60 = .ok (.iastore, 1) := by decide +kernel
theorem dX2_init_61 : decode cX2_init 61 = .ok (.aload_n 0, 1) := by decide +kernel
theorem dX2_init_62 : decode cX2_init 62 = .ok (.getfield 16, 3) := by decide +kernel
theorem dX2_init_65 : decode cX2_init 65 = .ok (.iload_n 1, 1) := by decide +kernel
theorem dX2_init_66 : decode cX2_init 66 = .ok (.aload_n 0, 1) := by decide +kernel
theorem dX2_init_67 : decode cX2_init 67 = .ok (.iload_n 1, 1) := by decide +kernel
theorem dX2_init_68 : decode cX2_init 68 = .ok (.i2l, 1) := by decide +kernel
theorem dX2_init_69 : decode cX2_init 69 = .ok (.lconst 0, 1) := by decide +kernel
theorem dX2_init_70 : decode cX2_init 70 = .ok (.invokevirtual 30, 3) := by decide +kernel
theorem dX2_init_73 : decode cX2_init 73 = .ok (.iastore, 1) := by decide +kernel
theorem dX2_init_74 : decode cX2_init 74 = .ok (.iinc 1 1, 3) := by decide +kernel
theorem dX2_init_77 : decode cX2_init 77 = .ok (.goto (-31), 3) := by decide +kernel
theorem dX2_init_80 : decode cX2_init 80 = .ok (.aload_n 0, 1) := by decide +kernel
theorem dX2_init_81 : decode cX2_init 81 = .ok (.invokevirtual 34, 3) := by decide +kernel
theorem dX2_init_84 : decode cX2_init 84 = .ok (.return_, 1) := by decide +kernel
theorem dX2_becomeSingle_0 : decode cX2_becomeSingle 0 = .ok (.iload_n 1, 1) := by decide +kernel
theorem dX2_becomeSingle_1 : decode cX2_becomeSingle 1 = .ok (.i2l, 1) := by decide +kernel
theorem dX2_becomeSingle_2 : decode cX2_becomeSingle 2 = .ok (.ldc2_w 37, 3) := by decide +kernel
theorem dX2_becomeSingle_5 : decode cX2_becomeSingle 5 = .ok (.invokestatic 39, 3) := by decide +kernel
theorem dX2_becomeSingle_8 : decode cX2_becomeSingle 8 = .ok (.ifCond .ne 12, 3) := by decide +kernel
theorem dX2_becomeSingle_11 : decode cX2_becomeSingle 11 = .ok (.iload_n 1, 1) := by decide +kernel
theorem dX2_becomeSingle_12 : decode cX2_becomeSingle 12 = .ok (.i2l, 1) := by decide +kernel
theorem dX2_becomeSingle_13 : decode cX2_becomeSingle 13 = .ok (.lconst 1, 1) := by decide +kernel
theorem dX2_becomeSingle_14 : decode cX2_becomeSingle 14 = .ok (.invokestatic 39, 3) := by decide +kernel
theorem dX2_becomeSingle_17 : decode cX2_becomeSingle 17 = .ok (.ifCond .ne 5, 3) := by decide +kernel
theorem dX2_becomeSingle_20 : decode cX2_becomeSingle 20 = .ok (.iconst 0, 1) := by decide +kernel
theorem dX2_becomeSingle_21 : decode cX2_becomeSingle 21 = .ok (.ireturn, 1) := by decide +kernel
theorem dX2_becomeSingle_22 : decode cX2_becomeSingle 22 = .ok (.aload_n 0, 1) := by decide +kernel
theorem dX2_becomeSingle_23 : decode cX2_becomeSingle 23 = .ok (.iconst 1, 1) := by decide +kernel
theorem dX2_becomeSingle_24 : decode cX2_becomeSingle 24 = .ok (.putfield 45, 3) := by decide +kernel
theorem dX2_becomeSingle_27 : decode cX2_becomeSingle 27 = .ok (.aload_n 0, 1) := by decide +kernel
theorem dX2_becomeSingle_28 : decode cX2_becomeSingle 28 = .ok (.iconst 0, 1) := by decide +kernel
theorem dX2_becomeSingle_29 : decode cX2_becomeSingle 29 = .ok (.putfield 48, 3) := by decide +kernel
theorem dX2_becomeSingle_32 : decode cX2_becomeSingle 32 = .ok (.aload_n 0, 1) := by decide +kernel
theorem dX2_becomeSingle_33 : decode cX2_becomeSingle 33 = .ok (.iconst 0, 1) := by decide +kernel
theorem dX2_becomeSingle_34 : decode cX2_becomeSingle 34 = .ok (.putfield 51, 3) := by decide +kernel
theorem dX2_becomeSingle_37 : decode cX2_becomeSingle 37 = .ok (.aload_n 0, 1) := by decide +kernel
theorem dX2_becomeSingle_38 : decode cX2_becomeSingle 38 = .ok (.lconst 1, 1) := by decide +kernel
theorem dX2_becomeSingle_39 : decode cX2_becomeSingle 39 = .ok (.lconst 0, 1) := by decide +kernel
theorem dX2_becomeSingle_40 : decode cX2_becomeSingle 40 = .ok (.iload_n 1, 1) := by decide +kernel
theorem dX2_becomeSingle_41 : decode cX2_becomeSingle 41 = .ok (.i2l, 1) := by decide +kernel
theorem dX2_becomeSingle_42 : decode cX2_becomeSingle 42 = .ok (.invokevirtual 54, 3) := by decide +kernel
theorem dX2_becomeSingle_45 : decode cX2_becomeSingle 45 = .ok (.iconst 1, 1) := by decide +kernel
theorem dX2_becomeSingle_46 : decode cX2_becomeSingle 46 = .ok (.ireturn, 1) := by decide +kernel
theorem dX2_becomeDouble_0 : decode cX2_becomeDouble 0 = .ok (.iload_n 1, 1) := by decide +kernel
theorem dX2_becomeDouble_1 : decode cX2_becomeDouble 1 = .ok (.i2l, 1) := by decide +kernel
theorem dX2_becomeDouble_2 : decode cX2_becomeDouble 2 = .ok (.ldc2_w 58, 3) := by decide +kernel
theorem dX2_becomeDouble_5 : decode cX2_becomeDouble 5 = .ok (.invokestatic 39, 3) := by decide +kernel
theorem dX2_becomeDouble_8 : decode cX2_becomeDouble 8 = .ok (.ifCond .ne 37, 3) := by decide +kernel
theorem dX2_becomeDouble_11 : decode cX2_becomeDouble 11 = .ok (.iload_n 2, 1) := by decide +kernel
theorem dX2_becomeDouble_12 : decode cX2_becomeDouble 12 = .ok (.i2l, 1) := by decide +kernel
theorem dX2_becomeDouble_13 : decode cX2_becomeDouble 13 = .ok (.ldc2_w 58, 3) := by decide +kernel
theorem dX2_becomeDouble_16 : decode cX2_becomeDouble 16 = .ok (.invokestatic 39, 3) := by decide +kernel
theorem dX2_becomeDouble_19 : decode cX2_becomeDouble 19 = .ok (.ifCond .ne 26, 3) := by decide +kernel
theorem dX2_becomeDouble_22 : decode cX2_becomeDouble 22 = .ok (.iload_n 3, 1) := by decide +kernel
theorem dX2_becomeDouble_23 : decode cX2_becomeDouble 23 = .ok (.i2l, 1) := by decide +kernel
theorem dX2_becomeDouble_24 : decode cX2_becomeDouble 24 = .ok (.ldc2_w 60, 3) := by decide +kernel
theorem dX2_becomeDouble_27 : decode cX2_becomeDouble 27 = .ok (.invokestatic 39, 3) := by decide +kernel
theorem dX2_becomeDouble_30 : decode cX2_becomeDouble 30 = .ok (.ifCond .ne 15, 3) := by decide +kernel
theorem dX2_becomeDouble_33 : decode cX2_becomeDouble 33 = .ok (.iload 4, 2) := by decide +kernel
theorem dX2_becomeDouble_35 : decode cX2_becomeDouble 35 = .ok (.i2l, 1) := by decide +kernel
theorem dX2_becomeDouble_36 : decode cX2_becomeDouble 36 = .ok (.ldc2_w 60, 3) := by decide +kernel
theorem dX2_becomeDouble_39 : decode cX2_becomeDouble 39 = .ok (.invokestatic 39, 3) := by decide +kernel
theorem dX2_becomeDouble_42 : decode cX2_becomeDouble 42 = .ok (.ifCond .eq 5, 3) := by decide +kernel
theorem dX2_becomeDouble_45 : decode cX2_becomeDouble 45 = .ok (.iconst 0, 1) := by decide +kernel
theorem dX2_becomeDouble_46 : decode cX2_becomeDouble 46 = .ok (.ireturn, 1) := by decide +kernel
theorem dX2_becomeDouble_47 : decode cX2_becomeDouble 47 = .ok (.iload_n 3, 1) := by decide +kernel
theorem dX2_becomeDouble_48 : decode cX2_becomeDouble 48 = .ok (.i2l, 1) := by decide +kernel
theorem dX2_becomeDouble_49 : decode cX2_becomeDouble 49 = .ok (.iload_n 3, 1) := by decide +kernel
theorem dX2_becomeDouble_50 : decode cX2_becomeDouble 50 = .ok (.i2l, 1) := by decide +kernel
theorem dX2_becomeDouble_51 : decode cX2_becomeDouble 51 = .ok (.lmul, 1) := by decide +kernel
theorem dX2_becomeDouble_52 : decode cX2_becomeDouble 52 = .ok (.iload_n 1, 1) := by decide +kernel
theorem dX2_becomeDouble_53 : decode cX2_becomeDouble 53 = .ok (.i2l, 1) := by decide +kernel
theorem dX2_becomeDouble_54 : decode cX2_becomeDouble 54 = .ok (.iload_n 3, 1) := by decide +kernel
theorem dX2_becomeDouble_55 : decode cX2_becomeDouble 55 = .ok (.i2l, 1) := by decide +kernel
theorem dX2_becomeDouble_56 : decode cX2_becomeDouble 56 = .ok (.lmul, 1) := by decide +kernel
theorem dX2_becomeDouble_57 : decode cX2_becomeDouble 57 = .ok (.iload 4, 2) := by decide +kernel
theorem dX2_becomeDouble_59 : decode cX2_becomeDouble 59 = .ok (.i2l, 1) := by decide +kernel
theorem dX2_becomeDouble_60 : decode cX2_becomeDouble 60 = .ok (.lmul, 1) := by decide +kernel
theorem dX2_becomeDouble_61 : decode cX2_becomeDouble 61 = .ok (.ladd, 1) := by decide +kernel
theorem dX2_becomeDouble_62 : decode cX2_becomeDouble 62 = .ok (.iload_n 2, 1) := by decide +kernel
theorem dX2_becomeDouble_63 : decode cX2_becomeDouble 63 = .ok (.i2l, 1) := by decide +kernel
theorem dX2_becomeDouble_64 : decode cX2_becomeDouble 64 = .ok (.iload 4, 2) := by decide +kernel
theorem dX2_becomeDouble_66 : decode cX2_becomeDouble 66 = .ok (.i2l, 1) := by decide +kernel
theorem dX2_becomeDouble_67 : decode cX2_becomeDouble 67 = .ok (.lmul, 1) := by decide +kernel
theorem dX2_becomeDouble_68 : decode cX2_becomeDouble 68 = .ok (.iload 4, 2) := by decide +kernel
theorem dX2_becomeDouble_70 : decode cX2_becomeDouble 70 = .ok (.i2l, 1) := by decide +kernel
theorem dX2_becomeDouble_71 : decode cX2_becomeDouble 71 = .ok (.lmul, 1) := by decide +kernel
theorem dX2_becomeDouble_72 : decode cX2_becomeDouble 72 = .ok (.lsub, 1) := by decide +kernel
theorem dX2_becomeDouble_73 : decode cX2_becomeDouble 73 = .ok (.lstore 5, 2) := by decide +kernel
theorem dX2_becomeDouble_75 : decode cX2_becomeDouble 75 = .ok (.lload 5, 2) := by decide +kernel
theorem dX2_becomeDouble_77 : decode cX2_becomeDouble 77 = .ok (.ldc2_w 37, 3) := by decide +kernel
theorem dX2_becomeDouble_80 : decode cX2_becomeDouble 80 = .ok (.invokestatic 39, 3) := by decide +kernel
theorem dX2_becomeDouble_83 : decode cX2_becomeDouble 83 = .ok (.ifCond .ne 12, 3) := by decide +kernel
theorem dX2_becomeDouble_86 : decode cX2_becomeDouble 86 = .ok (.lload 5, 2) := by decide +kernel
theorem dX2_becomeDouble_88 : decode cX2_becomeDouble 88 = .ok (.lconst 1, 1) := by decide +kernel
theorem dX2_becomeDouble_89 : decode cX2_becomeDouble 89 = .ok (.invokestatic 39, 3) := by decide +kernel
theorem dX2_becomeDouble_92 : decode cX2_becomeDouble 92 = .ok (.ifCond .ne 5, 3) := by decide +kernel
theorem dX2_becomeDouble_95 : decode cX2_becomeDouble 95 = .ok (.iconst 0, 1) := by decide +kernel
theorem dX2_becomeDouble_96 : decode cX2_becomeDouble 96 = .ok (.ireturn, 1) := by decide +kernel
theorem dX2_becomeDouble_97 : decode cX2_becomeDouble 97 = .ok (.aload_n 0, 1) := by decide +kernel
theorem dX2_becomeDouble_98 : decode cX2_becomeDouble 98 = .ok (.iconst 2, 1) := by decide +kernel
theorem dX2_becomeDouble_99 : decode cX2_becomeDouble 99 = .ok (.putfield 45, 3) := by decide +kernel
theorem dX2_becomeDouble_102 : decode cX2_becomeDouble 102 = .ok (.aload_n 0, 1) := by decide +kernel
theorem dX2_becomeDouble_103 : decode cX2_becomeDouble 103 = .ok (.iload_n 1, 1) := by decide +kernel
theorem dX2_becomeDouble_104 : decode cX2_becomeDouble 104 = .ok (.putfield 48, 3) := by decide +kernel
theorem dX2_becomeDouble_107 : decode cX2_becomeDouble 107 = .ok (.aload_n 0, 1) := by decide +kernel
theorem dX2_becomeDouble_108 : decode cX2_becomeDouble 108 = .ok (.iload_n 2, 1) := by decide +kernel
theorem dX2_becomeDouble_109 : decode cX2_becomeDouble 109 = .ok (.putfield 51, 3) := by decide +kernel
theorem dX2_becomeDouble_112 : decode cX2_becomeDouble 112 = .ok (.aload_n 0, 1) := by decide +kernel
theorem dX2_becomeDouble_113 : decode cX2_becomeDouble 113 = .ok (.iload_n 3, 1) := by decide +kernel
theorem dX2_becomeDouble_114 : decode cX2_becomeDouble 114 = .ok (.i2l, 1) := by decide +kernel
theorem dX2_becomeDouble_115 : decode cX2_becomeDouble 115 = .ok (.iload_n 1, 1) := by decide +kernel
theorem dX2_becomeDouble_116 : decode cX2_becomeDouble 116 = .ok (.i2l, 1) := by decide +kernel
theorem dX2_becomeDouble_117 : decode cX2_becomeDouble 117 = .ok (.iload 4, 2) := by decide +kernel
theorem dX2_becomeDouble_119 : decode cX2_becomeDouble 119 = .ok (.i2l, 1) := by decide +kernel
theorem dX2_becomeDouble_120 : decode cX2_becomeDouble 120 = .ok (.lmul, 1) := by decide +kernel
theorem dX2_becomeDouble_121 : decode cX2_becomeDouble 121 = .ok (.ladd, 1) := by decide +kernel
theorem dX2_becomeDouble_122 : decode cX2_becomeDouble 122 = .ok (.iload 4, 2) := by decide +kernel
theorem dX2_becomeDouble_124 : decode cX2_becomeDouble 124 = .ok (.ineg, 1) := by decide +kernel
theorem dX2_becomeDouble_125 : decode cX2_becomeDouble 125 = .ok (.i2l, 1) := by decide +kernel
theorem dX2_becomeDouble_126 : decode cX2_becomeDouble 126 = .ok (.lload 5, 2) := by decide +kernel
theorem dX2_becomeDouble_128 : decode cX2_becomeDouble 128 = .ok (.invokevirtual 54, 3) := by decide +kernel
theorem dX2_becomeDouble_131 : decode cX2_becomeDouble 131 = .ok (.iconst 1, 1) := by decide +kernel
theorem dX2_becomeDouble_132 : decode cX2_becomeDouble 132 = .ok (.ireturn, 1) := by decide +kernel
theorem dX2_become_0 : decode cX2_become 0 = .ok (.aload_n 0, 1) := by decide +kernel
theorem dX2_become_1 : decode cX2_become 1 = .ok (.lload_n 1, 1) := by decide +kernel
theorem dX2_become_2 : decode cX2_become 2 = .ok (.putfield 62, 3) := by decide +kernel
theorem dX2_become_5 : decode cX2_become 5 = .ok (.aload_n 0, 1) := by decide +kernel
theorem dX2_become_6 : decode cX2_become 6 = .ok (.lload_n 3, 1) := by decide +kernel
theorem dX2_become_7 : decode cX2_become 7 = .ok (.putfield 66, 3) := by decide +kernel
theorem dX2_become_10 : decode cX2_become 10 = .ok (.aload_n 0, 1) := by decide +kernel
theorem dX2_become_11 : decode cX2_become 11 = .ok (.lload 5, 2) := by decide +kernel
theorem dX2_become_13 : decode cX2_become 13 = .ok (.putfield 69, 3) := by decide +kernel
theorem dX2_become_16 : decode cX2_become 16 = .ok (.aload_n 0, 1) := by decide +kernel
theorem dX2_become_17 : decode cX2_become 17 = .ok (.lload 5, 2) := by decide +kernel
theorem dX2_become_19 : decode cX2_become 19 = .ok (.invokestatic 72, 3) := by decide +kernel
theorem dX2_become_22 : decode cX2_become 22 = .ok (.l2i, 1) := by decide +kernel
theorem dX2_become_23 : decode cX2_become 23 = .ok (.putfield 26, 3) := by decide +kernel
theorem dX2_become_26 : decode cX2_become 26 = .ok (.aload_n 0, 1) := by decide +kernel
theorem dX2_become_27 : decode cX2_become 27 = .ok (.iconst 0, 1) := by decide +kernel
theorem dX2_become_28 : decode cX2_become 28 = .ok (.putfield 78, 3) := by decide +kernel
theorem dX2_become_31 : decode cX2_become 31 = .ok (.return_, 1) := by decide +kernel
theorem dX2_takeDigits_0 : decode cX2_takeDigits 0 = .ok (.aload_n 1, 1) := by decide +kernel
theorem dX2_takeDigits_1 : decode cX2_takeDigits 1 = .ok (.getfield 81, 3) := by decide +kernel
theorem dX2_takeDigits_4 : decode cX2_takeDigits 4 = .ok (.aload_n 0, 1) := by decide +kernel
theorem dX2_takeDigits_5 : decode cX2_takeDigits 5 = .ok (.getfield 26, 3) := by decide +kernel
theorem dX2_takeDigits_8 : decode cX2_takeDigits 8 = .ok (.aload_n 0, 1) := by decide +kernel
theorem dX2_takeDigits_9 : decode cX2_takeDigits 9 = .ok (.getfield 45, 3) := by decide +kernel
theorem dX2_takeDigits_12 : decode cX2_takeDigits 12 = .ok (.imul, 1) := by decide +kernel
theorem dX2_takeDigits_13 : decode cX2_takeDigits 13 = .ok (.if_icmp .ne 11, 3) := by decide +kernel
theorem dX2_takeDigits_16 : decode cX2_takeDigits 16 = .ok (.aload_n 0, 1) := by decide +kernel
theorem dX2_takeDigits_17 : decode cX2_takeDigits 17 = .ok (.aload_n 1, 1) := by decide +kernel
theorem dX2_takeDigits_18 : decode cX2_takeDigits 18 = .ok (.invokevirtual 84, 3) := by decide +kernel
theorem dX2_takeDigits_21 : decode cX2_takeDigits 21 = .ok (.ifCond .ne 5, 3) := by decide +kernel
theorem dX2_takeDigits_24 : decode cX2_takeDigits 24 = .ok (.iconst 0, 1) := by decide +kernel
theorem dX2_takeDigits_25 : decode cX2_takeDigits 25 = .ok (.ireturn, 1) := by decide +kernel
theorem dX2_takeDigits_26 : decode cX2_takeDigits 26 = .ok (.iconst 0, 1) := by decide +kernel
theorem dX2_takeDigits_27 : decode cX2_takeDigits 27 = .ok (.istore_n 2, 1) := by decide +kernel
theorem dX2_takeDigits_28 : decode cX2_takeDigits 28 = .ok (.iload_n 2, 1) := by decide +kernel
theorem dX2_takeDigits_29 : decode cX2_takeDigits 29 = .ok (.aload_n 0, 1) := by decide +kernel
theorem dX2_takeDigits_30 : decode cX2_takeDigits 30 = .ok (.getfield 26, 3) := by decide +kernel
theorem dX2_takeDigits_33 : decode cX2_takeDigits 33 = .ok (.if_icmp .ge 43, 3) := by decide +kernel
theorem dX2_takeDigits_36 : decode cX2_takeDigits 36 = .ok (.iload_n 2, 1) := by decide +kernel
theorem dX2_takeDigits_37 : decode cX2_takeDigits 37 = .ok (.bipush 25, 2) := by decide +kernel
theorem dX2_takeDigits_39 : decode cX2_takeDigits 39 = .ok (.if_icmp .ge 37, 3) := by decide +kernel
theorem dX2_takeDigits_42 : decode cX2_takeDigits 42 = .ok (.aload_n 0, 1) := by decide +kernel
theorem dX2_takeDigits_43 : decode cX2_takeDigits 43 = .ok (.getfield 9, 3) := by decide +kernel
theorem dX2_takeDigits_46 : decode cX2_takeDigits 46 = .ok (.iload_n 2, 1) := by decide +kernel
theorem dX2_takeDigits_47 : decode cX2_takeDigits 47 = .ok (.aload_n 1, 1) := by decide +kernel
theorem dX2_takeDigits_48 : decode cX2_takeDigits 48 = .ok (.iload_n 2, 1) := by decide +kernel
theorem dX2_takeDigits_49 : decode cX2_takeDigits 49 = .ok (.aload_n 0, 1) := by decide +kernel
theorem dX2_takeDigits_50 : decode cX2_takeDigits 50 = .ok (.getfield 45, 3) := by decide +kernel
theorem dX2_takeDigits_53 : decode cX2_takeDigits 53 = .ok (.imul, 1) := by decide +kernel
theorem dX2_takeDigits_54 : decode cX2_takeDigits 54 = .ok (.invokevirtual 88, 3) := by decide +kernel
theorem dX2_takeDigits_57 : decode cX2_takeDigits 57 = .ok (.iastore, 1) := by decide +kernel
theorem dX2_takeDigits_58 : decode cX2_takeDigits 58 = .ok (.aload_n 0, 1) := by decide +kernel
theorem dX2_takeDigits_59 : decode cX2_takeDigits 59 = .ok (.getfield 13, 3) := by decide +kernel
theorem dX2_takeDigits_62 : decode cX2_takeDigits 62 = .ok (.iload_n 2, 1) := by decide +kernel
theorem dX2_takeDigits_63 : decode cX2_takeDigits 63 = .ok (.aload_n 0, 1) := by decide +kernel
theorem dX2_takeDigits_64 : decode cX2_takeDigits 64 = .ok (.aload_n 1, 1) := by decide +kernel
theorem dX2_takeDigits_65 : decode cX2_takeDigits 65 = .ok (.iload_n 2, 1) := by decide +kernel
theorem dX2_takeDigits_66 : decode cX2_takeDigits 66 = .ok (.invokevirtual 92, 3) := by decide +kernel
theorem dX2_takeDigits_69 : decode cX2_takeDigits 69 = .ok (.iastore, 1) := by decide +kernel
theorem dX2_takeDigits_70 : decode cX2_takeDigits 70 = .ok (.iinc 2 1, 3) := by decide +kernel
theorem dX2_takeDigits_73 : decode cX2_takeDigits 73 = .ok (.goto (-45), 3) := by decide +kernel
theorem dX2_takeDigits_76 : decode cX2_takeDigits 76 = .ok (.aload_n 0, 1) := by decide +kernel
theorem dX2_takeDigits_77 : decode cX2_takeDigits 77 = .ok (.invokevirtual 34, 3) := by decide +kernel
theorem dX2_takeDigits_80 : decode cX2_takeDigits 80 = .ok (.iconst 1, 1) := by decide +kernel
theorem dX2_takeDigits_81 : decode cX2_takeDigits 81 = .ok (.ireturn, 1) := by decide +kernel
theorem dX2_zOf_0 : decode cX2_zOf 0 = .ok (.aload_n 0, 1) := by decide +kernel
theorem dX2_zOf_1 : decode cX2_zOf 1 = .ok (.getfield 45, 3) := by decide +kernel
theorem dX2_zOf_4 : decode cX2_zOf 4 = .ok (.iconst 1, 1) := by decide +kernel
theorem dX2_zOf_5 : decode cX2_zOf 5 = .ok (.if_icmp .ne 7, 3) := by decide +kernel
theorem dX2_zOf_8 : decode cX2_zOf 8 = .ok (.iconst 0, 1) := by decide +kernel
theorem dX2_zOf_9 : decode cX2_zOf 9 = .ok (.goto 15, 3) := by decide +kernel
theorem dX2_zOf_12 : decode cX2_zOf 12 = .ok (.aload_n 1, 1) := by decide +kernel
theorem dX2_zOf_13 : decode cX2_zOf 13 = .ok (.iload_n 2, 1) := by decide +kernel
theorem dX2_zOf_14 : decode cX2_zOf 14 = .ok (.aload_n 0, 1) := by decide +kernel
theorem dX2_zOf_15 : decode cX2_zOf 15 = .ok (.getfield 45, 3) := by decide +kernel
theorem dX2_zOf_18 : decode cX2_zOf 18 = .ok (.imul, 1) := by decide +kernel
theorem dX2_zOf_19 : decode cX2_zOf 19 = .ok (.iconst 1, 1) := by decide +kernel
theorem dX2_zOf_20 : decode cX2_zOf 20 = .ok (.iadd, 1) := by decide +kernel
theorem dX2_zOf_21 : decode cX2_zOf 21 = .ok (.invokevirtual 88, 3) := by decide +kernel
theorem dX2_zOf_24 : decode cX2_zOf 24 = .ok (.ireturn, 1) := by decide +kernel
theorem dX2_fillKeys_0 : decode cX2_fillKeys 0 = .ok (.iconst 0, 1) := by decide +kernel
theorem dX2_fillKeys_1 : decode cX2_fillKeys 1 = .ok (.istore_n 2, 1) := by decide +kernel
theorem dX2_fillKeys_2 : decode cX2_fillKeys 2 = .ok (.iload_n 2, 1) := by decide +kernel
theorem dX2_fillKeys_3 : decode cX2_fillKeys 3 = .ok (.aload_n 0, 1) := by decide +kernel
theorem dX2_fillKeys_4 : decode cX2_fillKeys 4 = .ok (.getfield 26, 3) := by decide +kernel
theorem dX2_fillKeys_7 : decode cX2_fillKeys 7 = .ok (.if_icmp .ge 73, 3) := by decide +kernel
theorem dX2_fillKeys_10 : decode cX2_fillKeys 10 = .ok (.iload_n 2, 1) := by decide +kernel
theorem dX2_fillKeys_11 : decode cX2_fillKeys 11 = .ok (.bipush 25, 2) := by decide +kernel
theorem dX2_fillKeys_13 : decode cX2_fillKeys 13 = .ok (.if_icmp .ge 67, 3) := by decide +kernel
theorem dX2_fillKeys_16 : decode cX2_fillKeys 16 = .ok (.aload_n 0, 1) := by decide +kernel
theorem dX2_fillKeys_17 : decode cX2_fillKeys 17 = .ok (.getfield 16, 3) := by decide +kernel
theorem dX2_fillKeys_20 : decode cX2_fillKeys 20 = .ok (.iload_n 2, 1) := by decide +kernel
theorem dX2_fillKeys_21 : decode cX2_fillKeys 21 = .ok (.aload_n 0, 1) := by decide +kernel
theorem dX2_fillKeys_22 : decode cX2_fillKeys 22 = .ok (.aload_n 1, 1) := by decide +kernel
theorem dX2_fillKeys_23 : decode cX2_fillKeys 23 = .ok (.iload_n 2, 1) := by decide +kernel
theorem dX2_fillKeys_24 : decode cX2_fillKeys 24 = .ok (.aload_n 0, 1) := by decide +kernel
theorem dX2_fillKeys_25 : decode cX2_fillKeys 25 = .ok (.getfield 45, 3) := by decide +kernel
theorem dX2_fillKeys_28 : decode cX2_fillKeys 28 = .ok (.imul, 1) := by decide +kernel
theorem dX2_fillKeys_29 : decode cX2_fillKeys 29 = .ok (.invokevirtual 88, 3) := by decide +kernel
theorem dX2_fillKeys_32 : decode cX2_fillKeys 32 = .ok (.i2l, 1) := by decide +kernel
theorem dX2_fillKeys_33 : decode cX2_fillKeys 33 = .ok (.aload_n 0, 1) := by decide +kernel
theorem dX2_fillKeys_34 : decode cX2_fillKeys 34 = .ok (.aload_n 1, 1) := by decide +kernel
theorem dX2_fillKeys_35 : decode cX2_fillKeys 35 = .ok (.iload_n 2, 1) := by decide +kernel
theorem dX2_fillKeys_36 : decode cX2_fillKeys 36 = .ok (.invokevirtual 92, 3) := by decide +kernel
theorem dX2_fillKeys_39 : decode cX2_fillKeys 39 = .ok (.i2l, 1) := by decide +kernel
theorem dX2_fillKeys_40 : decode cX2_fillKeys 40 = .ok (.invokevirtual 30, 3) := by decide +kernel
theorem dX2_fillKeys_43 : decode cX2_fillKeys 43 = .ok (.iastore, 1) := by decide +kernel
theorem dX2_fillKeys_44 : decode cX2_fillKeys 44 = .ok (.iconst 0, 1) := by decide +kernel
theorem dX2_fillKeys_45 : decode cX2_fillKeys 45 = .ok (.istore_n 3, 1) := by decide +kernel
theorem dX2_fillKeys_46 : decode cX2_fillKeys 46 = .ok (.iload_n 3, 1) := by decide +kernel
theorem dX2_fillKeys_47 : decode cX2_fillKeys 47 = .ok (.iload_n 2, 1) := by decide +kernel
theorem dX2_fillKeys_48 : decode cX2_fillKeys 48 = .ok (.if_icmp .ge 26, 3) := by decide +kernel
theorem dX2_fillKeys_51 : decode cX2_fillKeys 51 = .ok (.aload_n 0, 1) := by decide +kernel
theorem dX2_fillKeys_52 : decode cX2_fillKeys 52 = .ok (.getfield 16, 3) := by decide +kernel
theorem dX2_fillKeys_55 : decode cX2_fillKeys 55 = .ok (.iload_n 3, 1) := by decide +kernel
theorem dX2_fillKeys_56 : decode cX2_fillKeys 56 = .ok (.iaload, 1) := by decide +kernel
theorem dX2_fillKeys_57 : decode cX2_fillKeys 57 = .ok (.aload_n 0, 1) := by decide +kernel
theorem dX2_fillKeys_58 : decode cX2_fillKeys 58 = .ok (.getfield 16, 3) := by decide +kernel
theorem dX2_fillKeys_61 : decode cX2_fillKeys 61 = .ok (.iload_n 2, 1) := by decide +kernel
theorem dX2_fillKeys_62 : decode cX2_fillKeys 62 = .ok (.iaload, 1) := by decide +kernel
theorem dX2_fillKeys_63 : decode cX2_fillKeys 63 = .ok (.if_icmp .ne 5, 3) := by decide +kernel
theorem dX2_fillKeys_66 : decode cX2_fillKeys 66 = .ok (.iconst 0, 1) := by decide +kernel
theorem dX2_fillKeys_67 : decode cX2_fillKeys 67 = .ok (.ireturn, 1) := by decide +kernel
theorem dX2_fillKeys_68 : decode cX2_fillKeys 68 = .ok (.iinc 3 1, 3) := by decide +kernel
theorem dX2_fillKeys_71 : decode cX2_fillKeys 71 = .ok (.goto (-25), 3) := by decide +kernel
theorem dX2_fillKeys_74 : decode cX2_fillKeys 74 = .ok (.iinc 2 1, 3) := by decide +kernel
theorem dX2_fillKeys_77 : decode cX2_fillKeys 77 = .ok (.goto (-75), 3) := by decide +kernel
theorem dX2_fillKeys_80 : decode cX2_fillKeys 80 = .ok (.iconst 1, 1) := by decide +kernel
theorem dX2_fillKeys_81 : decode cX2_fillKeys 81 = .ok (.ireturn, 1) := by decide +kernel
theorem dX2_keepDigits_0 : decode cX2_keepDigits 0 = .ok (.iconst 0, 1) := by decide +kernel
theorem dX2_keepDigits_1 : decode cX2_keepDigits 1 = .ok (.istore_n 1, 1) := by decide +kernel
theorem dX2_keepDigits_2 : decode cX2_keepDigits 2 = .ok (.iload_n 1, 1) := by decide +kernel
theorem dX2_keepDigits_3 : decode cX2_keepDigits 3 = .ok (.aload_n 0, 1) := by decide +kernel
theorem dX2_keepDigits_4 : decode cX2_keepDigits 4 = .ok (.getfield 26, 3) := by decide +kernel
theorem dX2_keepDigits_7 : decode cX2_keepDigits 7 = .ok (.if_icmp .ge 42, 3) := by decide +kernel
theorem dX2_keepDigits_10 : decode cX2_keepDigits 10 = .ok (.iload_n 1, 1) := by decide +kernel
theorem dX2_keepDigits_11 : decode cX2_keepDigits 11 = .ok (.bipush 25, 2) := by decide +kernel
theorem dX2_keepDigits_13 : decode cX2_keepDigits 13 = .ok (.if_icmp .ge 36, 3) := by decide +kernel
theorem dX2_keepDigits_16 : decode cX2_keepDigits 16 = .ok (.aload_n 0, 1) := by decide +kernel
theorem dX2_keepDigits_17 : decode cX2_keepDigits 17 = .ok (.getfield 16, 3) := by decide +kernel
theorem dX2_keepDigits_20 : decode cX2_keepDigits 20 = .ok (.iload_n 1, 1) := by decide +kernel
theorem dX2_keepDigits_21 : decode cX2_keepDigits 21 = .ok (.iaload, 1) := by decide +kernel
theorem dX2_keepDigits_22 : decode cX2_keepDigits 22 = .ok (.istore_n 2, 1) := by decide +kernel
theorem dX2_keepDigits_23 : decode cX2_keepDigits 23 = .ok (.iload_n 2, 1) := by decide +kernel
theorem dX2_keepDigits_24 : decode cX2_keepDigits 24 = .ok (.ifCond .lt 19, 3) := by decide +kernel
theorem dX2_keepDigits_27 : decode cX2_keepDigits 27 = .ok (.iload_n 2, 1) := by decide +kernel
theorem dX2_keepDigits_28 : decode cX2_keepDigits 28 = .ok (.aload_n 0, 1) := by decide +kernel
theorem dX2_keepDigits_29 : decode cX2_keepDigits 29 = .ok (.getfield 19, 3) := by decide +kernel
theorem dX2_keepDigits_32 : decode cX2_keepDigits 32 = .ok (.arraylength, 1) := by decide +kernel
theorem dX2_keepDigits_33 : decode cX2_keepDigits 33 = .ok (.if_icmp .ge 10, 3) := by decide +kernel
theorem dX2_keepDigits_36 : decode cX2_keepDigits 36 = .ok (.aload_n 0, 1) := by decide +kernel
theorem dX2_keepDigits_37 : decode cX2_keepDigits 37 = .ok (.getfield 19, 3) := by decide +kernel
theorem dX2_keepDigits_40 : decode cX2_keepDigits 40 = .ok (.iload_n 2, 1) := by decide +kernel
theorem dX2_keepDigits_41 : decode cX2_keepDigits 41 = .ok (.iload_n 1, 1) := by decide +kernel
theorem dX2_keepDigits_42 : decode cX2_keepDigits 42 = .ok (.iastore, 1) := by decide +kernel
theorem dX2_keepDigits_43 : decode cX2_keepDigits 43 = .ok (.iinc 1 1, 3) := by decide +kernel
theorem dX2_keepDigits_46 : decode cX2_keepDigits 46 = .ok (.goto (-44), 3) := by decide +kernel
theorem dX2_keepDigits_49 : decode cX2_keepDigits 49 = .ok (.aload_n 0, 1) := by decide +kernel
theorem dX2_keepDigits_50 : decode cX2_keepDigits 50 = .ok (.aload_n 0, 1) := by decide +kernel
theorem dX2_keepDigits_51 : decode cX2_keepDigits 51 = .ok (.getfield 26, 3) := by decide +kernel
theorem dX2_keepDigits_54 : decode cX2_keepDigits 54 = .ok (.putfield 78, 3) := by decide +kernel
theorem dX2_keepDigits_57 : decode cX2_keepDigits 57 = .ok (.return_, 1) := by decide +kernel
theorem dX2_timesSideY_0 : decode cX2_timesSideY 0 = .ok (.lload_n 1, 1) := by decide +kernel
theorem dX2_timesSideY_1 : decode cX2_timesSideY 1 = .ok (.aload_n 0, 1) := by decide +kernel
theorem dX2_timesSideY_2 : decode cX2_timesSideY 2 = .ok (.getfield 62, 3) := by decide +kernel
theorem dX2_timesSideY_5 : decode cX2_timesSideY 5 = .ok (.lmul, 1) := by decide +kernel
theorem dX2_timesSideY_6 : decode cX2_timesSideY 6 = .ok (.aload_n 0, 1) := by decide +kernel
theorem dX2_timesSideY_7 : decode cX2_timesSideY 7 = .ok (.getfield 51, 3) := by decide +kernel
theorem dX2_timesSideY_10 : decode cX2_timesSideY 10 = .ok (.i2l, 1) := by decide +kernel
theorem dX2_timesSideY_11 : decode cX2_timesSideY 11 = .ok (.lload_n 3, 1) := by decide +kernel
theorem dX2_timesSideY_12 : decode cX2_timesSideY 12 = .ok (.lmul, 1) := by decide +kernel
theorem dX2_timesSideY_13 : decode cX2_timesSideY 13 = .ok (.aload_n 0, 1) := by decide +kernel
theorem dX2_timesSideY_14 : decode cX2_timesSideY 14 = .ok (.getfield 66, 3) := by decide +kernel
theorem dX2_timesSideY_17 : decode cX2_timesSideY 17 = .ok (.lmul, 1) := by decide +kernel
theorem dX2_timesSideY_18 : decode cX2_timesSideY 18 = .ok (.ladd, 1) := by decide +kernel
theorem dX2_timesSideY_19 : decode cX2_timesSideY 19 = .ok (.lreturn, 1) := by decide +kernel
theorem dX2_timesSideZ_0 : decode cX2_timesSideZ 0 = .ok (.lload_n 1, 1) := by decide +kernel
theorem dX2_timesSideZ_1 : decode cX2_timesSideZ 1 = .ok (.aload_n 0, 1) := by decide +kernel
theorem dX2_timesSideZ_2 : decode cX2_timesSideZ 2 = .ok (.getfield 66, 3) := by decide +kernel
theorem dX2_timesSideZ_5 : decode cX2_timesSideZ 5 = .ok (.lmul, 1) := by decide +kernel
theorem dX2_timesSideZ_6 : decode cX2_timesSideZ 6 = .ok (.lload_n 3, 1) := by decide +kernel
theorem dX2_timesSideZ_7 : decode cX2_timesSideZ 7 = .ok (.aload_n 0, 1) := by decide +kernel
theorem dX2_timesSideZ_8 : decode cX2_timesSideZ 8 = .ok (.getfield 62, 3) := by decide +kernel
theorem dX2_timesSideZ_11 : decode cX2_timesSideZ 11 = .ok (.lmul, 1) := by decide +kernel
theorem dX2_timesSideZ_12 : decode cX2_timesSideZ 12 = .ok (.ladd, 1) := by decide +kernel
theorem dX2_timesSideZ_13 : decode cX2_timesSideZ 13 = .ok (.aload_n 0, 1) := by decide +kernel
theorem dX2_timesSideZ_14 : decode cX2_timesSideZ 14 = .ok (.getfield 48, 3) := by decide +kernel
theorem dX2_timesSideZ_17 : decode cX2_timesSideZ 17 = .ok (.i2l, 1) := by decide +kernel
theorem dX2_timesSideZ_18 : decode cX2_timesSideZ 18 = .ok (.lload_n 3, 1) := by decide +kernel
theorem dX2_timesSideZ_19 : decode cX2_timesSideZ 19 = .ok (.lmul, 1) := by decide +kernel
theorem dX2_timesSideZ_20 : decode cX2_timesSideZ 20 = .ok (.aload_n 0, 1) := by decide +kernel
theorem dX2_timesSideZ_21 : decode cX2_timesSideZ 21 = .ok (.getfield 66, 3) := by decide +kernel
theorem dX2_timesSideZ_24 : decode cX2_timesSideZ 24 = .ok (.lmul, 1) := by decide +kernel
theorem dX2_timesSideZ_25 : decode cX2_timesSideZ 25 = .ok (.ladd, 1) := by decide +kernel
theorem dX2_timesSideZ_26 : decode cX2_timesSideZ 26 = .ok (.lreturn, 1) := by decide +kernel
theorem dX2_keyOf_0 : decode cX2_keyOf 0 = .ok (.aload_n 0, 1) := by decide +kernel
theorem dX2_keyOf_1 : decode cX2_keyOf 1 = .ok (.getfield 26, 3) := by decide +kernel
theorem dX2_keyOf_4 : decode cX2_keyOf 4 = .ok (.ifCond .gt 5, 3) := by decide +kernel
theorem dX2_keyOf_7 : decode cX2_keyOf 7 = .ok (.iconst 0, 1) := by decide +kernel
theorem dX2_keyOf_8 : decode cX2_keyOf 8 = .ok (.ireturn, 1) := by decide +kernel
theorem dX2_keyOf_9 : decode cX2_keyOf 9 = .ok (.aload_n 0, 1) := by decide +kernel
theorem dX2_keyOf_10 : decode cX2_keyOf 10 = .ok (.lload_n 1, 1) := by decide +kernel
theorem dX2_keyOf_11 : decode cX2_keyOf 11 = .ok (.lload_n 3, 1) := by decide +kernel
theorem dX2_keyOf_12 : decode cX2_keyOf 12 = .ok (.invokevirtual 96, 3) := by decide +kernel
theorem dX2_keyOf_15 : decode cX2_keyOf 15 = .ok (.aload_n 0, 1) := by decide +kernel
theorem dX2_keyOf_16 : decode cX2_keyOf 16 = .ok (.getfield 26, 3) := by decide +kernel
theorem dX2_keyOf_19 : decode cX2_keyOf 19 = .ok (.i2l, 1) := by decide +kernel
theorem dX2_keyOf_20 : decode cX2_keyOf 20 = .ok (.invokestatic 100, 3) := by decide +kernel
theorem dX2_keyOf_23 : decode cX2_keyOf 23 = .ok (.lstore 5, 2) := by decide +kernel
theorem dX2_keyOf_25 : decode cX2_keyOf 25 = .ok (.aload_n 0, 1) := by decide +kernel
theorem dX2_keyOf_26 : decode cX2_keyOf 26 = .ok (.lload_n 1, 1) := by decide +kernel
theorem dX2_keyOf_27 : decode cX2_keyOf 27 = .ok (.lload_n 3, 1) := by decide +kernel
theorem dX2_keyOf_28 : decode cX2_keyOf 28 = .ok (.invokevirtual 103, 3) := by decide +kernel
theorem dX2_keyOf_31 : decode cX2_keyOf 31 = .ok (.aload_n 0, 1) := by decide +kernel
theorem dX2_keyOf_32 : decode cX2_keyOf 32 = .ok (.getfield 26, 3) := by decide +kernel
theorem dX2_keyOf_35 : decode cX2_keyOf 35 = .ok (.i2l, 1) := by decide +kernel
theorem dX2_keyOf_36 : decode cX2_keyOf 36 = .ok (.invokestatic 100, 3) := by decide +kernel
theorem dX2_keyOf_39 : decode cX2_keyOf 39 = .ok (.lstore 7, 2) := by decide +kernel
theorem dX2_keyOf_41 : decode cX2_keyOf 41 = .ok (.lload 5, 2) := by decide +kernel
theorem dX2_keyOf_43 : decode cX2_keyOf 43 = .ok (.aload_n 0, 1) := by decide +kernel
theorem dX2_keyOf_44 : decode cX2_keyOf 44 = .ok (.getfield 26, 3) := by decide +kernel
theorem dX2_keyOf_47 : decode cX2_keyOf 47 = .ok (.i2l, 1) := by decide +kernel
theorem dX2_keyOf_48 : decode cX2_keyOf 48 = .ok (.lmul, 1) := by decide +kernel
theorem dX2_keyOf_49 : decode cX2_keyOf 49 = .ok (.lload 7, 2) := by decide +kernel
theorem dX2_keyOf_51 : decode cX2_keyOf 51 = .ok (.ladd, 1) := by decide +kernel
theorem dX2_keyOf_52 : decode cX2_keyOf 52 = .ok (.l2i, 1) := by decide +kernel
theorem dX2_keyOf_53 : decode cX2_keyOf 53 = .ok (.ireturn, 1) := by decide +kernel
theorem dX2_step_0 : decode cX2_step 0 = .ok (.aload_n 0, 1) := by decide +kernel
theorem dX2_step_1 : decode cX2_step 1 = .ok (.lload_n 1, 1) := by decide +kernel
theorem dX2_step_2 : decode cX2_step 2 = .ok (.lload_n 3, 1) := by decide +kernel
theorem dX2_step_3 : decode cX2_step 3 = .ok (.invokevirtual 30, 3) := by decide +kernel
theorem dX2_step_6 : decode cX2_step 6 = .ok (.istore 5, 2) := by decide +kernel
theorem dX2_step_8 : decode cX2_step 8 = .ok (.iload 5, 2) := by decide +kernel
theorem dX2_step_10 : decode cX2_step 10 = .ok (.ifCond .lt 23, 3) := by decide +kernel
theorem dX2_step_13 : decode cX2_step 13 = .ok (.iload 5, 2) := by decide +kernel
theorem dX2_step_15 : decode cX2_step 15 = .ok (.aload_n 0, 1) := by decide +kernel
theorem dX2_step_16 : decode cX2_step 16 = .ok (.getfield 19, 3) := by decide +kernel
theorem dX2_step_19 : decode cX2_step 19 = .ok (.arraylength, 1) := by decide +kernel
theorem dX2_step_20 : decode cX2_step 20 = .ok (.if_icmp .ge 13, 3) := by decide +kernel
theorem dX2_step_23 : decode cX2_step 23 = .ok (.aload_n 0, 1) := by decide +kernel
theorem dX2_step_24 : decode cX2_step 24 = .ok (.getfield 19, 3) := by decide +kernel
theorem dX2_step_27 : decode cX2_step 27 = .ok (.iload 5, 2) := by decide +kernel
theorem dX2_step_29 : decode cX2_step 29 = .ok (.iaload, 1) := by decide +kernel
theorem dX2_step_30 : decode cX2_step 30 = .ok (.goto 4, 3) := by decide +kernel
theorem dX2_step_33 : decode cX2_step 33 = .ok (.iconst 0, 1) := by decide +kernel
theorem dX2_step_34 : decode cX2_step 34 = .ok (.istore 6, 2) := by decide +kernel
theorem dX2_step_36 : decode cX2_step 36 = .ok (.iload 6, 2) := by decide +kernel
theorem dX2_step_38 : decode cX2_step 38 = .ok (.ifCond .lt 77, 3) := by decide +kernel
theorem dX2_step_41 : decode cX2_step 41 = .ok (.iload 6, 2) := by decide +kernel
theorem dX2_step_43 : decode cX2_step 43 = .ok (.bipush 25, 2) := by decide +kernel
theorem dX2_step_45 : decode cX2_step 45 = .ok (.if_icmp .ge 70, 3) := by decide +kernel
theorem dX2_step_48 : decode cX2_step 48 = .ok (.aload_n 0, 1) := by decide +kernel
theorem dX2_step_49 : decode cX2_step 49 = .ok (.getfield 69, 3) := by decide +kernel
theorem dX2_step_52 : decode cX2_step 52 = .ok (.lconst 0, 1) := by decide +kernel
theorem dX2_step_53 : decode cX2_step 53 = .ok (.lcmp, 1) := by decide +kernel
theorem dX2_step_54 : decode cX2_step 54 = .ok (.ifCond .eq 61, 3) := by decide +kernel
theorem dX2_step_57 : decode cX2_step 57 = .ok (.lload_n 1, 1) := by decide +kernel
theorem dX2_step_58 : decode cX2_step 58 = .ok (.aload_n 0, 1) := by decide +kernel
theorem dX2_step_59 : decode cX2_step 59 = .ok (.getfield 9, 3) := by decide +kernel
theorem dX2_step_62 : decode cX2_step 62 = .ok (.iload 6, 2) := by decide +kernel
theorem dX2_step_64 : decode cX2_step 64 = .ok (.iaload, 1) := by decide +kernel
theorem dX2_step_65 : decode cX2_step 65 = .ok (.i2l, 1) := by decide +kernel
theorem dX2_step_66 : decode cX2_step 66 = .ok (.lsub, 1) := by decide +kernel
theorem dX2_step_67 : decode cX2_step 67 = .ok (.lstore 7, 2) := by decide +kernel
theorem dX2_step_69 : decode cX2_step 69 = .ok (.lload_n 3, 1) := by decide +kernel
theorem dX2_step_70 : decode cX2_step 70 = .ok (.aload_n 0, 1) := by decide +kernel
theorem dX2_step_71 : decode cX2_step 71 = .ok (.getfield 13, 3) := by decide +kernel
theorem dX2_step_74 : decode cX2_step 74 = .ok (.iload 6, 2) := by decide +kernel
theorem dX2_step_76 : decode cX2_step 76 = .ok (.iaload, 1) := by decide +kernel
theorem dX2_step_77 : decode cX2_step 77 = .ok (.i2l, 1) := by decide +kernel
theorem dX2_step_78 : decode cX2_step 78 = .ok (.lsub, 1) := by decide +kernel
theorem dX2_step_79 : decode cX2_step 79 = .ok (.lstore 9, 2) := by decide +kernel
theorem dX2_step_81 : decode cX2_step 81 = .ok (.aload_n 0, 1) := by decide +kernel
theorem dX2_step_82 : decode cX2_step 82 = .ok (.aload_n 0, 1) := by decide +kernel
theorem dX2_step_83 : decode cX2_step 83 = .ok (.lload 7, 2) := by decide +kernel
theorem dX2_step_85 : decode cX2_step 85 = .ok (.lload 9, 2) := by decide +kernel
theorem dX2_step_87 : decode cX2_step 87 = .ok (.invokevirtual 96, 3) := by decide +kernel
theorem dX2_step_90 : decode cX2_step 90 = .ok (.aload_n 0, 1) := by decide +kernel
theorem dX2_step_91 : decode cX2_step 91 = .ok (.getfield 69, 3) := by decide +kernel
theorem dX2_step_94 : decode cX2_step 94 = .ok (.ldiv, 1) := by decide +kernel
theorem dX2_step_95 : decode cX2_step 95 = .ok (.putfield 106, 3) := by decide +kernel
theorem dX2_step_98 : decode cX2_step 98 = .ok (.aload_n 0, 1) := by decide +kernel
theorem dX2_step_99 : decode cX2_step 99 = .ok (.aload_n 0, 1) := by decide +kernel
theorem dX2_step_100 : decode cX2_step 100 = .ok (.lload 7, 2) := by decide +kernel
theorem dX2_step_102 : decode cX2_step 102 = .ok (.lload 9, 2) := by decide +kernel
theorem dX2_step_104 : decode cX2_step 104 = .ok (.invokevirtual 103, 3) := by decide +kernel
theorem dX2_step_107 : decode cX2_step 107 = .ok (.aload_n 0, 1) := by decide +kernel
theorem dX2_step_108 : decode cX2_step 108 = .ok (.getfield 69, 3) := by decide +kernel
theorem dX2_step_111 : decode cX2_step 111 = .ok (.ldiv, 1) := by decide +kernel
theorem dX2_step_112 : decode cX2_step 112 = .ok (.putfield 109, 3) := by decide +kernel
theorem dX2_step_115 : decode cX2_step 115 = .ok (.iload 6, 2) := by decide +kernel
theorem dX2_step_117 : decode cX2_step 117 = .ok (.ireturn, 1) := by decide +kernel
theorem dX3_init_0 : decode cX3_init 0 = .ok (.aload_n 0, 1) := by decide +kernel
theorem dX3_init_1 : decode cX3_init 1 = .ok (.invokespecial 3, 3) := by decide +kernel
theorem dX3_init_4 : decode cX3_init 4 = .ok (.aload_n 0, 1) := by decide +kernel
theorem dX3_init_5 : decode cX3_init 5 = .ok (.bipush 48, 2) := by decide +kernel
theorem dX3_init_7 : decode cX3_init 7 = .ok (.newarray .long, 2) := by decide +kernel
theorem dX3_init_9 : decode cX3_init 9 = .ok (.putfield 11, 3) := by decide +kernel
theorem dX3_init_12 : decode cX3_init 12 = .ok (.aload_n 0, 1) := by decide +kernel
theorem dX3_init_13 : decode cX3_init 13 = .ok (.bipush 48, 2) := by decide +kernel
theorem dX3_init_15 : decode cX3_init 15 = .ok (.newarray .long, 2) := by decide +kernel
theorem dX3_init_17 : decode cX3_init 17 = .ok (.putfield 15, 3) := by decide +kernel
theorem dX3_init_20 : decode cX3_init 20 = .ok (.aload_n 0, 1) := by decide +kernel
theorem dX3_init_21 : decode cX3_init 21 = .ok (.bipush 48, 2) := by decide +kernel
theorem dX3_init_23 : decode cX3_init 23 = .ok (.newarray .long, 2) := by decide +kernel
theorem dX3_init_25 : decode cX3_init 25 = .ok (.putfield 18, 3) := by decide +kernel
theorem dX3_init_28 : decode cX3_init 28 = .ok (.aload_n 0, 1) := by decide +kernel
theorem dX3_init_29 : decode cX3_init 29 = .ok (.iconst 1, 1) := by decide +kernel
theorem dX3_init_30 : decode cX3_init 30 = .ok (.iconst 1, 1) := by decide +kernel
theorem dX3_init_31 : decode cX3_init 31 = .ok (.invokevirtual 21, 3) := by decide +kernel
theorem dX3_init_34 : decode cX3_init 34 = .ok (.pop, 1) := by decide +kernel
theorem dX3_init_35 : decode cX3_init 35 = .ok (.return_, 1) := by decide +kernel
theorem dX3_change_0 : decode cX3_change 0 = .ok (.iload_n 1, 1) := by decide +kernel
theorem dX3_change_1 : decode cX3_change 1 = .ok (.iconst 1, 1) := by decide +kernel
theorem dX3_change_2 : decode cX3_change 2 = .ok (.if_icmp .lt 25, 3) := by decide +kernel
theorem dX3_change_5 : decode cX3_change 5 = .ok (.iload_n 1, 1) := by decide +kernel
theorem dX3_change_6 : decode cX3_change 6 = .ok (.bipush 9, 2) := by decide +kernel
theorem dX3_change_8 : decode cX3_change 8 = .ok (.if_icmp .gt 19, 3) := by decide +kernel
theorem dX3_change_11 : decode cX3_change 11 = .ok (.iload_n 2, 1) := by decide +kernel
theorem dX3_change_12 : decode cX3_change 12 = .ok (.bipush (-8), 2) := by decide +kernel
theorem dX3_change_14 : decode cX3_change 14 = .ok (.if_icmp .lt 13, 3) := by decide +kernel
theorem dX3_change_17 : decode cX3_change 17 = .ok (.iload_n 2, 1) := by decide +kernel
theorem dX3_change_18 : decode cX3_change 18 = .ok (.bipush 9, 2) := by decide +kernel
theorem dX3_change_20 : decode cX3_change 20 = .ok (.if_icmp .gt 7, 3) := by decide +kernel
theorem dX3_change_23 : decode cX3_change 23 = .ok (.iload_n 2, 1) := by decide +kernel
theorem dX3_change_24 : decode cX3_change 24 = .ok (.ifCond .ne 5, 3) := by decide +kernel
theorem dX3_change_27 : decode cX3_change 27 = .ok (.iconst 0, 1) := by decide +kernel
theorem dX3_change_28 : decode cX3_change 28 = .ok (.ireturn, 1) := by decide +kernel
theorem dX3_change_29 : decode cX3_change 29 = .ok (.iload_n 2, 1) := by decide +kernel
theorem dX3_change_30 : decode cX3_change 30 = .ok (.ifCond .le 11, 3) := by decide +kernel
theorem dX3_change_33 : decode cX3_change 33 = .ok (.iload_n 2, 1) := by decide +kernel
theorem dX3_change_34 : decode cX3_change 34 = .ok (.iload_n 1, 1) := by decide +kernel
theorem dX3_change_35 : decode cX3_change 35 = .ok (.if_icmp .le 15, 3) := by decide +kernel
theorem dX3_change_38 : decode cX3_change 38 = .ok (.goto 10, 3) := by decide +kernel
theorem dX3_change_41 : decode cX3_change 41 = .ok (.iload_n 1, 1) := by decide +kernel
theorem dX3_change_42 : decode cX3_change 42 = .ok (.iload_n 2, 1) := by decide +kernel
theorem dX3_change_43 : decode cX3_change 43 = .ok (.iadd, 1) := by decide +kernel
theorem dX3_change_44 : decode cX3_change 44 = .ok (.iconst 2, 1) := by decide +kernel
theorem dX3_change_45 : decode cX3_change 45 = .ok (.if_icmp .ge 5, 3) := by decide +kernel
theorem dX3_change_48 : decode cX3_change 48 = .ok (.iconst 0, 1) := by decide +kernel
theorem dX3_change_49 : decode cX3_change 49 = .ok (.ireturn, 1) := by decide +kernel
theorem dX3_change_50 : decode cX3_change 50 = .ok (.aload_n 0, 1) := by decide +kernel
theorem dX3_change_51 : decode cX3_change 51 = .ok (.iload_n 1, 1) := by decide +kernel
theorem dX3_change_52 : decode cX3_change 52 = .ok (.putfield 25, 3) := by decide +kernel
theorem dX3_change_55 : decode cX3_change 55 = .ok (.aload_n 0, 1) := by decide +kernel
theorem dX3_change_56 : decode cX3_change 56 = .ok (.iload_n 2, 1) := by decide +kernel
theorem dX3_change_57 : decode cX3_change 57 = .ok (.putfield 29, 3) := by decide +kernel
theorem dX3_change_60 : decode cX3_change 60 = .ok (.aload_n 0, 1) := by decide +kernel
theorem dX3_change_61 : decode cX3_change 61 = .ok (.aload_n 0, 1) := by decide +kernel
theorem dX3_change_62 : decode cX3_change 62 = .ok (.getfield 25, 3) := by decide +kernel
theorem dX3_change_65 : decode cX3_change 65 = .ok (.i2l, 1) := by decide +kernel
theorem dX3_change_66 : decode cX3_change 66 = .ok (.aload_n 0, 1) := by decide +kernel
theorem dX3_change_67 : decode cX3_change 67 = .ok (.getfield 25, 3) := by decide +kernel
theorem dX3_change_70 : decode cX3_change 70 = .ok (.i2l, 1) := by decide +kernel
theorem dX3_change_71 : decode cX3_change 71 = .ok (.lmul, 1) := by decide +kernel
theorem dX3_change_72 : decode cX3_change 72 = .ok (.ldc2_w 32, 3) := by decide +kernel
theorem dX3_change_75 : decode cX3_change 75 = .ok (.aload_n 0, 1) := by decide +kernel
theorem dX3_change_76 : decode cX3_change 76 = .ok (.getfield 29, 3) := by decide +kernel
theorem dX3_change_79 : decode cX3_change 79 = .ok (.i2l, 1) := by decide +kernel
theorem dX3_change_80 : decode cX3_change 80 = .ok (.lmul, 1) := by decide +kernel
theorem dX3_change_81 : decode cX3_change 81 = .ok (.ladd, 1) := by decide +kernel
theorem dX3_change_82 : decode cX3_change 82 = .ok (.putfield 34, 3) := by decide +kernel
theorem dX3_change_85 : decode cX3_change 85 = .ok (.aload_n 0, 1) := by decide +kernel
theorem dX3_change_86 : decode cX3_change 86 = .ok (.invokevirtual 38, 3) := by decide +kernel
theorem dX3_change_89 : decode cX3_change 89 = .ok (.aload_n 0, 1) := by decide +kernel
theorem dX3_change_90 : decode cX3_change 90 = .ok (.invokevirtual 41, 3) := by decide +kernel
theorem dX3_change_93 : decode cX3_change 93 = .ok (.iconst 1, 1) := by decide +kernel
theorem dX3_change_94 : decode cX3_change 94 = .ok (.ireturn, 1) := by decide +kernel
theorem dX3_fillPowers_0 : decode cX3_fillPowers 0 = .ok (.aload_n 0, 1) := by decide +kernel
theorem dX3_fillPowers_1 : decode cX3_fillPowers 1 = .ok (.getfield 11, 3) := by decide +kernel
theorem dX3_fillPowers_4 : decode cX3_fillPowers 4 = .ok (.iconst 0, 1) := by decide +kernel
theorem dX3_fillPowers_5 : decode cX3_fillPowers 5 = .ok (.lconst 1, 1) := by decide +kernel
theorem dX3_fillPowers_6 : decode cX3_fillPowers 6 = .ok (.lastore, 1) := by decide +kernel
theorem dX3_fillPowers_7 : decode cX3_fillPowers 7 = .ok (.aload_n 0, 1) := by decide +kernel
theorem dX3_fillPowers_8 : decode cX3_fillPowers 8 = .ok (.getfield 15, 3) := by decide +kernel
theorem dX3_fillPowers_11 : decode cX3_fillPowers 11 = .ok (.iconst 0, 1) := by decide +kernel
theorem dX3_fillPowers_12 : decode cX3_fillPowers 12 = .ok (.lconst 0, 1) := by decide +kernel
theorem dX3_fillPowers_13 : decode cX3_fillPowers 13 = .ok (.lastore, 1) := by decide +kernel
theorem dX3_fillPowers_14 : decode cX3_fillPowers 14 = .ok (.aload_n 0, 1) := by decide +kernel
theorem dX3_fillPowers_15 : decode cX3_fillPowers 15 = .ok (.iconst 1, 1) := by decide +kernel
theorem dX3_fillPowers_16 : decode cX3_fillPowers 16 = .ok (.putfield 44, 3) := by decide +kernel
theorem dX3_fillPowers_19 : decode cX3_fillPowers 19 = .ok (.iconst 1, 1) := by decide +kernel
theorem dX3_fillPowers_20 : decode cX3_fillPowers 20 = .ok (.istore_n 1, 1) := by decide +kernel
theorem dX3_fillPowers_21 : decode cX3_fillPowers 21 = .ok (.iload_n 1, 1) := by decide +kernel
theorem dX3_fillPowers_22 : decode cX3_fillPowers 22 = .ok (.bipush 48, 2) := by decide +kernel
theorem dX3_fillPowers_24 : decode cX3_fillPowers 24 = .ok (.if_icmp .ge 83, 3) := by decide +kernel
theorem dX3_fillPowers_27 : decode cX3_fillPowers 27 = .ok (.aload_n 0, 1) := by decide +kernel
theorem dX3_fillPowers_28 : decode cX3_fillPowers 28 = .ok (.getfield 15, 3) := by decide +kernel
theorem dX3_fillPowers_31 : decode cX3_fillPowers 31 = .ok (.iload_n 1, 1) := by decide +kernel
theorem dX3_fillPowers_32 : decode cX3_fillPowers 32 = .ok (.iconst 1, 1) := by decide +kernel
theorem dX3_fillPowers_33 : decode cX3_fillPowers 33 = .ok (.isub, 1) := by decide +kernel
theorem dX3_fillPowers_34 : decode cX3_fillPowers 34 = .ok (.laload, 1) := by decide +kernel
theorem dX3_fillPowers_35 : decode cX3_fillPowers 35 = .ok (.ldc2_w 47, 3) := by decide +kernel
theorem dX3_fillPowers_38 : decode cX3_fillPowers 38 = .ok (.lcmp, 1) := by decide +kernel
theorem dX3_fillPowers_39 : decode cX3_fillPowers 39 = .ok (.ifCond .gt 68, 3) := by decide +kernel
theorem dX3_fillPowers_42 : decode cX3_fillPowers 42 = .ok (.aload_n 0, 1) := by decide +kernel
theorem dX3_fillPowers_43 : decode cX3_fillPowers 43 = .ok (.getfield 11, 3) := by decide +kernel
theorem dX3_fillPowers_46 : decode cX3_fillPowers 46 = .ok (.iload_n 1, 1) := by decide +kernel
theorem dX3_fillPowers_47 : decode cX3_fillPowers 47 = .ok (.aload_n 0, 1) := by decide +kernel
theorem dX3_fillPowers_48 : decode cX3_fillPowers 48 = .ok (.getfield 29, 3) := by decide +kernel
theorem dX3_fillPowers_51 : decode cX3_fillPowers 51 = .ok (.i2l, 1) := by decide +kernel
theorem dX3_fillPowers_52 : decode cX3_fillPowers 52 = .ok (.aload_n 0, 1) := by decide +kernel
theorem dX3_fillPowers_53 : decode cX3_fillPowers 53 = .ok (.getfield 15, 3) := by decide +kernel
theorem dX3_fillPowers_56 : decode cX3_fillPowers 56 = .ok (.iload_n 1, 1) := by decide +kernel
theorem dX3_fillPowers_57 : decode cX3_fillPowers 57 = .ok (.iconst 1, 1) := by decide +kernel
theorem dX3_fillPowers_58 : decode cX3_fillPowers 58 = .ok (.isub, 1) := by decide +kernel
theorem dX3_fillPowers_59 : decode cX3_fillPowers 59 = .ok (.laload, 1) := by decide +kernel
theorem dX3_fillPowers_60 : decode cX3_fillPowers 60 = .ok (.lmul, 1) := by decide +kernel
theorem dX3_fillPowers_61 : decode cX3_fillPowers 61 = .ok (.lastore, 1) := by decide +kernel
theorem dX3_fillPowers_62 : decode cX3_fillPowers 62 = .ok (.aload_n 0, 1) := by decide +kernel
theorem dX3_fillPowers_63 : decode cX3_fillPowers 63 = .ok (.getfield 15, 3) := by decide +kernel
theorem dX3_fillPowers_66 : decode cX3_fillPowers 66 = .ok (.iload_n 1, 1) := by decide +kernel
theorem dX3_fillPowers_67 : decode cX3_fillPowers 67 = .ok (.aload_n 0, 1) := by decide +kernel
theorem dX3_fillPowers_68 : decode cX3_fillPowers 68 = .ok (.getfield 11, 3) := by decide +kernel
theorem dX3_fillPowers_71 : decode cX3_fillPowers 71 = .ok (.iload_n 1, 1) := by decide +kernel
theorem dX3_fillPowers_72 : decode cX3_fillPowers 72 = .ok (.iconst 1, 1) := by decide +kernel
theorem dX3_fillPowers_73 : decode cX3_fillPowers 73 = .ok (.isub, 1) := by decide +kernel
theorem dX3_fillPowers_74 : decode cX3_fillPowers 74 = .ok (.laload, 1) := by decide +kernel
theorem dX3_fillPowers_75 : decode cX3_fillPowers 75 = .ok (.aload_n 0, 1) := by decide +kernel
theorem dX3_fillPowers_76 : decode cX3_fillPowers 76 = .ok (.getfield 25, 3) := by decide +kernel
theorem dX3_fillPowers_79 : decode cX3_fillPowers 79 = .ok (.i2l, 1) := by decide +kernel
theorem dX3_fillPowers_80 : decode cX3_fillPowers 80 = .ok (.aload_n 0, 1) := by decide +kernel
theorem dX3_fillPowers_81 : decode cX3_fillPowers 81 = .ok (.getfield 15, 3) := by decide +kernel
theorem dX3_fillPowers_84 : decode cX3_fillPowers 84 = .ok (.iload_n 1, 1) := by decide +kernel
theorem dX3_fillPowers_85 : decode cX3_fillPowers 85 = .ok (.iconst 1, 1) := by decide +kernel
theorem dX3_fillPowers_86 : decode cX3_fillPowers 86 = .ok (.isub, 1) := by decide +kernel
theorem dX3_fillPowers_87 : decode cX3_fillPowers 87 = .ok (.laload, 1) := by decide +kernel
theorem dX3_fillPowers_88 : decode cX3_fillPowers 88 = .ok (.lmul, 1) := by decide +kernel
theorem dX3_fillPowers_89 : decode cX3_fillPowers 89 = .ok (.ladd, 1) := by decide +kernel
theorem dX3_fillPowers_90 : decode cX3_fillPowers 90 = .ok (.lastore, 1) := by decide +kernel
theorem dX3_fillPowers_91 : decode cX3_fillPowers 91 = .ok (.aload_n 0, 1) := by decide +kernel
theorem dX3_fillPowers_92 : decode cX3_fillPowers 92 = .ok (.dup, 1) := by decide +kernel
theorem dX3_fillPowers_93 : decode cX3_fillPowers 93 = .ok (.getfield 44, 3) := by decide +kernel
theorem dX3_fillPowers_96 : decode cX3_fillPowers 96 = .ok (.iconst 1, 1) := by decide +kernel
theorem dX3_fillPowers_97 : decode cX3_fillPowers 97 = .ok (.iadd, 1) := by decide +kernel
theorem dX3_fillPowers_98 : decode cX3_fillPowers 98 = .ok (.putfield 44, 3) := by decide +kernel
theorem dX3_fillPowers_101 : decode cX3_fillPowers 101 = .ok (.iinc 1 1, 3) := by decide +kernel
theorem dX3_fillPowers_104 : decode cX3_fillPowers 104 = .ok (.goto (-83), 3) := by decide +kernel
theorem dX3_fillPowers_107 : decode cX3_fillPowers 107 = .ok (.return_, 1) := by decide +kernel
theorem dX3_fillRowCounts_0 : decode cX3_fillRowCounts 0 = .ok (.aload_n 0, 1) := by decide +kernel
theorem dX3_fillRowCounts_1 : decode cX3_fillRowCounts 1 = .ok (.getfield 18, 3) := by decide +kernel
theorem dX3_fillRowCounts_4 : decode cX3_fillRowCounts 4 = .ok (.iconst 0, 1) := by decide +kernel
theorem dX3_fillRowCounts_5 : decode cX3_fillRowCounts 5 = .ok (.lconst 1, 1) := by decide +kernel
theorem dX3_fillRowCounts_6 : decode cX3_fillRowCounts 6 = .ok (.lastore, 1) := by decide +kernel
theorem dX3_fillRowCounts_7 : decode cX3_fillRowCounts 7 = .ok (.aload_n 0, 1) := by decide +kernel
theorem dX3_fillRowCounts_8 : decode cX3_fillRowCounts 8 = .ok (.getfield 18, 3) := by decide +kernel
theorem dX3_fillRowCounts_11 : decode cX3_fillRowCounts 11 = .ok (.iconst 1, 1) := by decide +kernel
theorem dX3_fillRowCounts_12 : decode cX3_fillRowCounts 12 = .ok (.aload_n 0, 1) := by decide +kernel
theorem dX3_fillRowCounts_13 : decode cX3_fillRowCounts 13 = .ok (.invokevirtual 49, 3) := by decide +kernel
theorem dX3_fillRowCounts_16 : decode cX3_fillRowCounts 16 = .ok (.iconst 1, 1) := by decide +kernel
theorem dX3_fillRowCounts_17 : decode cX3_fillRowCounts 17 = .ok (.iadd, 1) := by decide +kernel
theorem dX3_fillRowCounts_18 : decode cX3_fillRowCounts 18 = .ok (.i2l, 1) := by decide +kernel
theorem dX3_fillRowCounts_19 : decode cX3_fillRowCounts 19 = .ok (.lastore, 1) := by decide +kernel
theorem dX3_fillRowCounts_20 : decode cX3_fillRowCounts 20 = .ok (.aload_n 0, 1) := by decide +kernel
theorem dX3_fillRowCounts_21 : decode cX3_fillRowCounts 21 = .ok (.iconst 2, 1) := by decide +kernel
theorem dX3_fillRowCounts_22 : decode cX3_fillRowCounts 22 = .ok (.putfield 53, 3) := by decide +kernel
theorem dX3_fillRowCounts_25 : decode cX3_fillRowCounts 25 = .ok (.iconst 2, 1) := by decide +kernel
theorem dX3_fillRowCounts_26 : decode cX3_fillRowCounts 26 = .ok (.istore_n 1, 1) := by decide +kernel
theorem dX3_fillRowCounts_27 : decode cX3_fillRowCounts 27 = .ok (.iload_n 1, 1) := by decide +kernel
theorem dX3_fillRowCounts_28 : decode cX3_fillRowCounts 28 = .ok (.bipush 48, 2) := by decide +kernel
theorem dX3_fillRowCounts_30 : decode cX3_fillRowCounts 30 = .ok (.if_icmp .ge 75, 3) := by decide +kernel
theorem dX3_fillRowCounts_33 : decode cX3_fillRowCounts 33 = .ok (.iload_n 1, 1) := by decide +kernel
theorem dX3_fillRowCounts_34 : decode cX3_fillRowCounts 34 = .ok (.bipush 16, 2) := by decide +kernel
theorem dX3_fillRowCounts_36 : decode cX3_fillRowCounts 36 = .ok (.if_icmp .le 18, 3) := by decide +kernel
theorem dX3_fillRowCounts_39 : decode cX3_fillRowCounts 39 = .ok (.aload_n 0, 1) := by decide +kernel
theorem dX3_fillRowCounts_40 : decode cX3_fillRowCounts 40 = .ok (.getfield 18, 3) := by decide +kernel
theorem dX3_fillRowCounts_43 : decode cX3_fillRowCounts 43 = .ok (.iload_n 1, 1) := by decide +kernel
theorem dX3_fillRowCounts_44 : decode cX3_fillRowCounts 44 = .ok (.iconst 1, 1) := by decide +kernel
theorem dX3_fillRowCounts_45 : decode cX3_fillRowCounts 45 = .ok (.isub, 1) := by decide +kernel
theorem dX3_fillRowCounts_46 : decode cX3_fillRowCounts 46 = .ok (.laload, 1) := by decide +kernel
theorem dX3_fillRowCounts_47 : decode cX3_fillRowCounts 47 = .ok (.ldc2_w 47, 3) := by decide +kernel
theorem dX3_fillRowCounts_50 : decode cX3_fillRowCounts 50 = .ok (.lcmp, 1) := by decide +kernel
theorem dX3_fillRowCounts_51 : decode cX3_fillRowCounts 51 = .ok (.ifCond .gt 54, 3) := by decide +kernel
theorem dX3_fillRowCounts_54 : decode cX3_fillRowCounts 54 = .ok (.aload_n 0, 1) := by decide +kernel
theorem dX3_fillRowCounts_55 : decode cX3_fillRowCounts 55 = .ok (.getfield 18, 3) := by decide +kernel
theorem dX3_fillRowCounts_58 : decode cX3_fillRowCounts 58 = .ok (.iload_n 1, 1) := by decide +kernel
theorem dX3_fillRowCounts_59 : decode cX3_fillRowCounts 59 = .ok (.aload_n 0, 1) := by decide +kernel
theorem dX3_fillRowCounts_60 : decode cX3_fillRowCounts 60 = .ok (.getfield 25, 3) := by decide +kernel
theorem dX3_fillRowCounts_63 : decode cX3_fillRowCounts 63 = .ok (.i2l, 1) := by decide +kernel
theorem dX3_fillRowCounts_64 : decode cX3_fillRowCounts 64 = .ok (.aload_n 0, 1) := by decide +kernel
theorem dX3_fillRowCounts_65 : decode cX3_fillRowCounts 65 = .ok (.getfield 18, 3) := by decide +kernel
theorem dX3_fillRowCounts_68 : decode cX3_fillRowCounts 68 = .ok (.iload_n 1, 1) := by decide +kernel
theorem dX3_fillRowCounts_69 : decode cX3_fillRowCounts 69 = .ok (.iconst 1, 1) := by decide +kernel
theorem dX3_fillRowCounts_70 : decode cX3_fillRowCounts 70 = .ok (.isub, 1) := by decide +kernel
theorem dX3_fillRowCounts_71 : decode cX3_fillRowCounts 71 = .ok (.laload, 1) := by decide +kernel
theorem dX3_fillRowCounts_72 : decode cX3_fillRowCounts 72 = .ok (.lmul, 1) := by decide +kernel
theorem dX3_fillRowCounts_73 : decode cX3_fillRowCounts 73 = .ok (.aload_n 0, 1) := by decide +kernel
theorem dX3_fillRowCounts_74 : decode cX3_fillRowCounts 74 = .ok (.getfield 29, 3) := by decide +kernel
theorem dX3_fillRowCounts_77 : decode cX3_fillRowCounts 77 = .ok (.i2l, 1) := by decide +kernel
theorem dX3_fillRowCounts_78 : decode cX3_fillRowCounts 78 = .ok (.aload_n 0, 1) := by decide +kernel
theorem dX3_fillRowCounts_79 : decode cX3_fillRowCounts 79 = .ok (.getfield 18, 3) := by decide +kernel
theorem dX3_fillRowCounts_82 : decode cX3_fillRowCounts 82 = .ok (.iload_n 1, 1) := by decide +kernel
theorem dX3_fillRowCounts_83 : decode cX3_fillRowCounts 83 = .ok (.iconst 2, 1) := by decide +kernel
theorem dX3_fillRowCounts_84 : decode cX3_fillRowCounts 84 = .ok (.isub, 1) := by decide +kernel
theorem dX3_fillRowCounts_85 : decode cX3_fillRowCounts 85 = .ok (.laload, 1) := by decide +kernel
theorem dX3_fillRowCounts_86 : decode cX3_fillRowCounts 86 = .ok (.lmul, 1) := by decide +kernel
theorem dX3_fillRowCounts_87 : decode cX3_fillRowCounts 87 = .ok (.ladd, 1) := by decide +kernel
theorem dX3_fillRowCounts_88 : decode cX3_fillRowCounts 88 = .ok (.lastore, 1) := by decide +kernel
theorem dX3_fillRowCounts_89 : decode cX3_fillRowCounts 89 = .ok (.aload_n 0, 1) := by decide +kernel
theorem dX3_fillRowCounts_90 : decode cX3_fillRowCounts 90 = .ok (.dup, 1) := by decide +kernel
theorem dX3_fillRowCounts_91 : decode cX3_fillRowCounts 91 = .ok (.getfield 53, 3) := by decide +kernel
theorem dX3_fillRowCounts_94 : decode cX3_fillRowCounts 94 = .ok (.iconst 1, 1) := by decide +kernel
theorem dX3_fillRowCounts_95 : decode cX3_fillRowCounts 95 = .ok (.iadd, 1) := by decide +kernel
theorem dX3_fillRowCounts_96 : decode cX3_fillRowCounts 96 = .ok (.putfield 53, 3) := by decide +kernel
theorem dX3_fillRowCounts_99 : decode cX3_fillRowCounts 99 = .ok (.iinc 1 1, 3) := by decide +kernel
theorem dX3_fillRowCounts_102 : decode cX3_fillRowCounts 102 = .ok (.goto (-75), 3) := by decide +kernel
theorem dX3_fillRowCounts_105 : decode cX3_fillRowCounts 105 = .ok (.return_, 1) := by decide +kernel
theorem dX3_top_0 : decode cX3_top 0 = .ok (.aload_n 0, 1) := by decide +kernel
theorem dX3_top_1 : decode cX3_top 1 = .ok (.getfield 29, 3) := by decide +kernel
theorem dX3_top_4 : decode cX3_top 4 = .ok (.ifCond .le 10, 3) := by decide +kernel
theorem dX3_top_7 : decode cX3_top 7 = .ok (.aload_n 0, 1) := by decide +kernel
theorem dX3_top_8 : decode cX3_top 8 = .ok (.getfield 25, 3) := by decide +kernel
theorem dX3_top_11 : decode cX3_top 11 = .ok (.goto 9, 3) := by decide +kernel
theorem dX3_top_14 : decode cX3_top 14 = .ok (.aload_n 0, 1) := by decide +kernel
theorem dX3_top_15 : decode cX3_top 15 = .ok (.getfield 25, 3) := by decide +kernel
theorem dX3_top_18 : decode cX3_top 18 = .ok (.iconst 1, 1) := by decide +kernel
theorem dX3_top_19 : decode cX3_top 19 = .ok (.isub, 1) := by decide +kernel
theorem dX3_top_20 : decode cX3_top 20 = .ok (.ireturn, 1) := by decide +kernel
theorem dX3_digitOfOne_0 : decode cX3_digitOfOne 0 = .ok (.aload_n 0, 1) := by decide +kernel
theorem dX3_digitOfOne_1 : decode cX3_digitOfOne 1 = .ok (.getfield 29, 3) := by decide +kernel
theorem dX3_digitOfOne_4 : decode cX3_digitOfOne 4 = .ok (.ifCond .le 29, 3) := by decide +kernel
theorem dX3_digitOfOne_7 : decode cX3_digitOfOne 7 = .ok (.iload_n 1, 1) := by decide +kernel
theorem dX3_digitOfOne_8 : decode cX3_digitOfOne 8 = .ok (.iconst 1, 1) := by decide +kernel
theorem dX3_digitOfOne_9 : decode cX3_digitOfOne 9 = .ok (.if_icmp .ne 10, 3) := by decide +kernel
theorem dX3_digitOfOne_12 : decode cX3_digitOfOne 12 = .ok (.aload_n 0, 1) := by decide +kernel
theorem dX3_digitOfOne_13 : decode cX3_digitOfOne 13 = .ok (.getfield 25, 3) := by decide +kernel
theorem dX3_digitOfOne_16 : decode cX3_digitOfOne 16 = .ok (.goto 16, 3) := by decide +kernel
theorem dX3_digitOfOne_19 : decode cX3_digitOfOne 19 = .ok (.iload_n 1, 1) := by decide +kernel
theorem dX3_digitOfOne_20 : decode cX3_digitOfOne 20 = .ok (.iconst 2, 1) := by decide +kernel
theorem dX3_digitOfOne_21 : decode cX3_digitOfOne 21 = .ok (.if_icmp .ne 10, 3) := by decide +kernel
theorem dX3_digitOfOne_24 : decode cX3_digitOfOne 24 = .ok (.aload_n 0, 1) := by decide +kernel
theorem dX3_digitOfOne_25 : decode cX3_digitOfOne 25 = .ok (.getfield 29, 3) := by decide +kernel
theorem dX3_digitOfOne_28 : decode cX3_digitOfOne 28 = .ok (.goto 4, 3) := by decide +kernel
theorem dX3_digitOfOne_31 : decode cX3_digitOfOne 31 = .ok (.iconst 0, 1) := by decide +kernel
theorem dX3_digitOfOne_32 : decode cX3_digitOfOne 32 = .ok (.ireturn, 1) := by decide +kernel
theorem dX3_digitOfOne_33 : decode cX3_digitOfOne 33 = .ok (.iload_n 1, 1) := by decide +kernel
theorem dX3_digitOfOne_34 : decode cX3_digitOfOne 34 = .ok (.iconst 1, 1) := by decide +kernel
theorem dX3_digitOfOne_35 : decode cX3_digitOfOne 35 = .ok (.if_icmp .ne 12, 3) := by decide +kernel
theorem dX3_digitOfOne_38 : decode cX3_digitOfOne 38 = .ok (.aload_n 0, 1) := by decide +kernel
theorem dX3_digitOfOne_39 : decode cX3_digitOfOne 39 = .ok (.getfield 25, 3) := by decide +kernel
theorem dX3_digitOfOne_42 : decode cX3_digitOfOne 42 = .ok (.iconst 1, 1) := by decide +kernel
theorem dX3_digitOfOne_43 : decode cX3_digitOfOne 43 = .ok (.isub, 1) := by decide +kernel
theorem dX3_digitOfOne_44 : decode cX3_digitOfOne 44 = .ok (.goto 14, 3) := by decide +kernel
theorem dX3_digitOfOne_47 : decode cX3_digitOfOne 47 = .ok (.aload_n 0, 1) := by decide +kernel
theorem dX3_digitOfOne_48 : decode cX3_digitOfOne 48 = .ok (.getfield 25, 3) := by decide +kernel
theorem dX3_digitOfOne_51 : decode cX3_digitOfOne 51 = .ok (.aload_n 0, 1) := by decide +kernel
theorem dX3_digitOfOne_52 : decode cX3_digitOfOne 52 = .ok (.getfield 29, 3) := by decide +kernel
theorem dX3_digitOfOne_55 : decode cX3_digitOfOne 55 = .ok (.iadd, 1) := by decide +kernel
theorem dX3_digitOfOne_56 : decode cX3_digitOfOne 56 = .ok (.iconst 1, 1) := by decide +kernel
theorem dX3_digitOfOne_57 : decode cX3_digitOfOne 57 = .ok (.isub, 1) := by decide +kernel
theorem dX3_digitOfOne_58 : decode cX3_digitOfOne 58 = .ok (.ireturn, 1) := by decide +kernel
theorem dX3_digitOfBar_0 : decode cX3_digitOfBar 0 = .ok (.aload_n 0, 1) := by decide +kernel
theorem dX3_digitOfBar_1 : decode cX3_digitOfBar 1 = .ok (.getfield 29, 3) := by decide +kernel
theorem dX3_digitOfBar_4 : decode cX3_digitOfBar 4 = .ok (.ifCond .le 24, 3) := by decide +kernel
theorem dX3_digitOfBar_7 : decode cX3_digitOfBar 7 = .ok (.iload_n 1, 1) := by decide +kernel
theorem dX3_digitOfBar_8 : decode cX3_digitOfBar 8 = .ok (.iconst 2, 1) := by decide +kernel
theorem dX3_digitOfBar_9 : decode cX3_digitOfBar 9 = .ok (.irem, 1) := by decide +kernel
theorem dX3_digitOfBar_10 : decode cX3_digitOfBar 10 = .ok (.iconst 1, 1) := by decide +kernel
theorem dX3_digitOfBar_11 : decode cX3_digitOfBar 11 = .ok (.if_icmp .ne 10, 3) := by decide +kernel
theorem dX3_digitOfBar_14 : decode cX3_digitOfBar 14 = .ok (.aload_n 0, 1) := by decide +kernel
theorem dX3_digitOfBar_15 : decode cX3_digitOfBar 15 = .ok (.getfield 25, 3) := by decide +kernel
theorem dX3_digitOfBar_18 : decode cX3_digitOfBar 18 = .ok (.goto 9, 3) := by decide +kernel
theorem dX3_digitOfBar_21 : decode cX3_digitOfBar 21 = .ok (.aload_n 0, 1) := by decide +kernel
theorem dX3_digitOfBar_22 : decode cX3_digitOfBar 22 = .ok (.getfield 29, 3) := by decide +kernel
theorem dX3_digitOfBar_25 : decode cX3_digitOfBar 25 = .ok (.iconst 1, 1) := by decide +kernel
theorem dX3_digitOfBar_26 : decode cX3_digitOfBar 26 = .ok (.isub, 1) := by decide +kernel
theorem dX3_digitOfBar_27 : decode cX3_digitOfBar 27 = .ok (.ireturn, 1) := by decide +kernel
theorem dX3_digitOfBar_28 : decode cX3_digitOfBar 28 = .ok (.aload_n 0, 1) := by decide +kernel
theorem dX3_digitOfBar_29 : decode cX3_digitOfBar 29 = .ok (.iload_n 1, 1) := by decide +kernel
theorem dX3_digitOfBar_30 : decode cX3_digitOfBar 30 = .ok (.invokevirtual 56, 3) := by decide +kernel
theorem dX3_digitOfBar_33 : decode cX3_digitOfBar 33 = .ok (.ireturn, 1) := by decide +kernel
theorem dX3_rowCount_0 : decode cX3_rowCount 0 = .ok (.iload_n 1, 1) := by decide +kernel
theorem dX3_rowCount_1 : decode cX3_rowCount 1 = .ok (.ifCond .lt 20, 3) := by decide +kernel
theorem dX3_rowCount_4 : decode cX3_rowCount 4 = .ok (.iload_n 1, 1) := by decide +kernel
theorem dX3_rowCount_5 : decode cX3_rowCount 5 = .ok (.aload_n 0, 1) := by decide +kernel
theorem dX3_rowCount_6 : decode cX3_rowCount 6 = .ok (.getfield 53, 3) := by decide +kernel
theorem dX3_rowCount_9 : decode cX3_rowCount 9 = .ok (.if_icmp .ge 12, 3) := by decide +kernel
theorem dX3_rowCount_12 : decode cX3_rowCount 12 = .ok (.aload_n 0, 1) := by decide +kernel
theorem dX3_rowCount_13 : decode cX3_rowCount 13 = .ok (.getfield 18, 3) := by decide +kernel
theorem dX3_rowCount_16 : decode cX3_rowCount 16 = .ok (.iload_n 1, 1) := by decide +kernel
theorem dX3_rowCount_17 : decode cX3_rowCount 17 = .ok (.laload, 1) := by decide +kernel
theorem dX3_rowCount_18 : decode cX3_rowCount 18 = .ok (.goto 4, 3) := by decide +kernel
theorem dX3_rowCount_21 : decode cX3_rowCount 21 = .ok (.lconst 0, 1) := by decide +kernel
theorem dX3_rowCount_22 : decode cX3_rowCount 22 = .ok (.lreturn, 1) := by decide +kernel
theorem dX3_sign_0 : decode cX3_sign 0 = .ok (.ldc2_w 60, 3) := by decide +kernel
theorem dX3_sign_3 : decode cX3_sign 3 = .ok (.lload_n 1, 1) := by decide +kernel
theorem dX3_sign_4 : decode cX3_sign 4 = .ok (.lmul, 1) := by decide +kernel
theorem dX3_sign_5 : decode cX3_sign 5 = .ok (.aload_n 0, 1) := by decide +kernel
theorem dX3_sign_6 : decode cX3_sign 6 = .ok (.getfield 25, 3) := by decide +kernel
theorem dX3_sign_9 : decode cX3_sign 9 = .ok (.i2l, 1) := by decide +kernel
theorem dX3_sign_10 : decode cX3_sign 10 = .ok (.lload_n 3, 1) := by decide +kernel
theorem dX3_sign_11 : decode cX3_sign 11 = .ok (.lmul, 1) := by decide +kernel
theorem dX3_sign_12 : decode cX3_sign 12 = .ok (.ladd, 1) := by decide +kernel
theorem dX3_sign_13 : decode cX3_sign 13 = .ok (.lstore 5, 2) := by decide +kernel
theorem dX3_sign_15 : decode cX3_sign 15 = .ok (.lload 5, 2) := by decide +kernel
theorem dX3_sign_17 : decode cX3_sign 17 = .ok (.lconst 0, 1) := by decide +kernel
theorem dX3_sign_18 : decode cX3_sign 18 = .ok (.lcmp, 1) := by decide +kernel
theorem dX3_sign_19 : decode cX3_sign 19 = .ok (.ifCond .lt 28, 3) := by decide +kernel
theorem dX3_sign_22 : decode cX3_sign 22 = .ok (.lload_n 3, 1) := by decide +kernel
theorem dX3_sign_23 : decode cX3_sign 23 = .ok (.lconst 0, 1) := by decide +kernel
theorem dX3_sign_24 : decode cX3_sign 24 = .ok (.lcmp, 1) := by decide +kernel
theorem dX3_sign_25 : decode cX3_sign 25 = .ok (.ifCond .lt 22, 3) := by decide +kernel
theorem dX3_sign_28 : decode cX3_sign 28 = .ok (.lload 5, 2) := by decide +kernel
theorem dX3_sign_30 : decode cX3_sign 30 = .ok (.lconst 0, 1) := by decide +kernel
theorem dX3_sign_31 : decode cX3_sign 31 = .ok (.lcmp, 1) := by decide +kernel
theorem dX3_sign_32 : decode cX3_sign 32 = .ok (.ifCond .ne 13, 3) := by decide +kernel
theorem dX3_sign_35 : decode cX3_sign 35 = .ok (.lload_n 3, 1) := by decide +kernel
theorem dX3_sign_36 : decode cX3_sign 36 = .ok (.lconst 0, 1) := by decide +kernel
theorem dX3_sign_37 : decode cX3_sign 37 = .ok (.lcmp, 1) := by decide +kernel
theorem dX3_sign_38 : decode cX3_sign 38 = .ok (.ifCond .ne 7, 3) := by decide +kernel
theorem dX3_sign_41 : decode cX3_sign 41 = .ok (.iconst 0, 1) := by decide +kernel
theorem dX3_sign_42 : decode cX3_sign 42 = .ok (.goto 4, 3) := by decide +kernel
theorem dX3_sign_45 : decode cX3_sign 45 = .ok (.iconst 1, 1) := by decide +kernel
theorem dX3_sign_46 : decode cX3_sign 46 = .ok (.ireturn, 1) := by decide +kernel
theorem dX3_sign_47 : decode cX3_sign 47 = .ok (.lload 5, 2) := by decide +kernel
theorem dX3_sign_49 : decode cX3_sign 49 = .ok (.lconst 0, 1) := by decide +kernel
theorem dX3_sign_50 : decode cX3_sign 50 = .ok (.lcmp, 1) := by decide +kernel
theorem dX3_sign_51 : decode cX3_sign 51 = .ok (.ifCond .gt 11, 3) := by decide +kernel
theorem dX3_sign_54 : decode cX3_sign 54 = .ok (.lload_n 3, 1) := by decide +kernel
theorem dX3_sign_55 : decode cX3_sign 55 = .ok (.lconst 0, 1) := by decide +kernel
theorem dX3_sign_56 : decode cX3_sign 56 = .ok (.lcmp, 1) := by decide +kernel
theorem dX3_sign_57 : decode cX3_sign 57 = .ok (.ifCond .gt 5, 3) := by decide +kernel
theorem dX3_sign_60 : decode cX3_sign 60 = .ok (.iconst (-1), 1) := by decide +kernel
theorem dX3_sign_61 : decode cX3_sign 61 = .ok (.ireturn, 1) := by decide +kernel
theorem dX3_sign_62 : decode cX3_sign 62 = .ok (.lload 5, 2) := by decide +kernel
theorem dX3_sign_64 : decode cX3_sign 64 = .ok (.lload 5, 2) := by decide +kernel
theorem dX3_sign_66 : decode cX3_sign 66 = .ok (.lmul, 1) := by decide +kernel
theorem dX3_sign_67 : decode cX3_sign 67 = .ok (.aload_n 0, 1) := by decide +kernel
theorem dX3_sign_68 : decode cX3_sign 68 = .ok (.getfield 34, 3) := by decide +kernel
theorem dX3_sign_71 : decode cX3_sign 71 = .ok (.lload_n 3, 1) := by decide +kernel
theorem dX3_sign_72 : decode cX3_sign 72 = .ok (.lmul, 1) := by decide +kernel
theorem dX3_sign_73 : decode cX3_sign 73 = .ok (.lload_n 3, 1) := by decide +kernel
theorem dX3_sign_74 : decode cX3_sign 74 = .ok (.lmul, 1) := by decide +kernel
theorem dX3_sign_75 : decode cX3_sign 75 = .ok (.lcmp, 1) := by decide +kernel
theorem dX3_sign_76 : decode cX3_sign 76 = .ok (.ifCond .le 7, 3) := by decide +kernel
theorem dX3_sign_79 : decode cX3_sign 79 = .ok (.iconst 1, 1) := by decide +kernel
theorem dX3_sign_80 : decode cX3_sign 80 = .ok (.goto 4, 3) := by decide +kernel
theorem dX3_sign_83 : decode cX3_sign 83 = .ok (.iconst 0, 1) := by decide +kernel
theorem dX3_sign_84 : decode cX3_sign 84 = .ok (.istore 7, 2) := by decide +kernel
theorem dX3_sign_86 : decode cX3_sign 86 = .ok (.iload 7, 2) := by decide +kernel
theorem dX3_sign_88 : decode cX3_sign 88 = .ok (.lload 5, 2) := by decide +kernel
theorem dX3_sign_90 : decode cX3_sign 90 = .ok (.lconst 0, 1) := by decide +kernel
theorem dX3_sign_91 : decode cX3_sign 91 = .ok (.lcmp, 1) := by decide +kernel
theorem dX3_sign_92 : decode cX3_sign 92 = .ok (.ifCond .le 7, 3) := by decide +kernel
theorem dX3_sign_95 : decode cX3_sign 95 = .ok (.iconst 1, 1) := by decide +kernel
theorem dX3_sign_96 : decode cX3_sign 96 = .ok (.goto 4, 3) := by decide +kernel
theorem dX3_sign_99 : decode cX3_sign 99 = .ok (.iconst 0, 1) := by decide +kernel
theorem dX3_sign_100 : decode cX3_sign 100 = .ok (.if_icmp .ne 7, 3) := by decide +kernel
theorem dX3_sign_103 : decode cX3_sign 103 = .ok (.iconst 1, 1) := by decide +kernel
theorem dX3_sign_104 : decode cX3_sign 104 = .ok (.goto 4, 3) := by decide +kernel
theorem dX3_sign_107 : decode cX3_sign 107 = .ok (.iconst (-1), 1) := by decide +kernel
theorem dX3_sign_108 : decode cX3_sign 108 = .ok (.ireturn, 1) := by decide +kernel
theorem dX3_wholeBelow_0 : decode cX3_wholeBelow 0 = .ok (.aload_n 0, 1) := by decide +kernel
theorem dX3_wholeBelow_1 : decode cX3_wholeBelow 1 = .ok (.getfield 34, 3) := by decide +kernel
theorem dX3_wholeBelow_4 : decode cX3_wholeBelow 4 = .ok (.aload_n 1, 1) := by decide +kernel
theorem dX3_wholeBelow_5 : decode cX3_wholeBelow 5 = .ok (.getfield 62, 3) := by decide +kernel
theorem dX3_wholeBelow_8 : decode cX3_wholeBelow 8 = .ok (.lmul, 1) := by decide +kernel
theorem dX3_wholeBelow_9 : decode cX3_wholeBelow 9 = .ok (.aload_n 1, 1) := by decide +kernel
theorem dX3_wholeBelow_10 : decode cX3_wholeBelow 10 = .ok (.getfield 62, 3) := by decide +kernel
theorem dX3_wholeBelow_13 : decode cX3_wholeBelow 13 = .ok (.lmul, 1) := by decide +kernel
theorem dX3_wholeBelow_14 : decode cX3_wholeBelow 14 = .ok (.invokestatic 67, 3) := by decide +kernel
theorem dX3_wholeBelow_17 : decode cX3_wholeBelow 17 = .ok (.lstore_n 2, 1) := by decide +kernel
theorem dX3_wholeBelow_18 : decode cX3_wholeBelow 18 = .ok (.aload_n 1, 1) := by decide +kernel
theorem dX3_wholeBelow_19 : decode cX3_wholeBelow 19 = .ok (.getfield 62, 3) := by decide +kernel
theorem dX3_wholeBelow_22 : decode cX3_wholeBelow 22 = .ok (.lconst 0, 1) := by decide +kernel
theorem dX3_wholeBelow_23 : decode cX3_wholeBelow 23 = .ok (.lcmp, 1) := by decide +kernel
theorem dX3_wholeBelow_24 : decode cX3_wholeBelow 24 = .ok (.ifCond .lt 7, 3) := by decide +kernel
theorem dX3_wholeBelow_27 : decode cX3_wholeBelow 27 = .ok (.lload_n 2, 1) := by decide +kernel
theorem dX3_wholeBelow_28 : decode cX3_wholeBelow 28 = .ok (.goto 7, 3) := by decide +kernel
theorem dX3_wholeBelow_31 : decode cX3_wholeBelow 31 = .ok (.lload_n 2, 1) := by decide +kernel
theorem dX3_wholeBelow_32 : decode cX3_wholeBelow 32 = .ok (.lneg, 1) := by decide +kernel
theorem dX3_wholeBelow_33 : decode cX3_wholeBelow 33 = .ok (.lconst 1, 1) := by decide +kernel
theorem dX3_wholeBelow_34 : decode cX3_wholeBelow 34 = .ok (.lsub, 1) := by decide +kernel
theorem dX3_wholeBelow_35 : decode cX3_wholeBelow 35 = .ok (.lstore 4, 2) := by decide +kernel
theorem dX3_wholeBelow_37 : decode cX3_wholeBelow 37 = .ok (.ldc2_w 60, 3) := by decide +kernel
theorem dX3_wholeBelow_40 : decode cX3_wholeBelow 40 = .ok (.aload_n 1, 1) := by decide +kernel
theorem dX3_wholeBelow_41 : decode cX3_wholeBelow 41 = .ok (.getfield 71, 3) := by decide +kernel
theorem dX3_wholeBelow_44 : decode cX3_wholeBelow 44 = .ok (.lmul, 1) := by decide +kernel
theorem dX3_wholeBelow_45 : decode cX3_wholeBelow 45 = .ok (.lstore 6, 2) := by decide +kernel
theorem dX3_wholeBelow_47 : decode cX3_wholeBelow 47 = .ok (.lload 6, 2) := by decide +kernel
theorem dX3_wholeBelow_49 : decode cX3_wholeBelow 49 = .ok (.lconst 0, 1) := by decide +kernel
theorem dX3_wholeBelow_50 : decode cX3_wholeBelow 50 = .ok (.lcmp, 1) := by decide +kernel
theorem dX3_wholeBelow_51 : decode cX3_wholeBelow 51 = .ok (.ifCond .le 33, 3) := by decide +kernel
theorem dX3_wholeBelow_54 : decode cX3_wholeBelow 54 = .ok (.ldc2_w 60, 3) := by decide +kernel
theorem dX3_wholeBelow_57 : decode cX3_wholeBelow 57 = .ok (.aload_n 1, 1) := by decide +kernel
theorem dX3_wholeBelow_58 : decode cX3_wholeBelow 58 = .ok (.getfield 74, 3) := by decide +kernel
theorem dX3_wholeBelow_61 : decode cX3_wholeBelow 61 = .ok (.lmul, 1) := by decide +kernel
theorem dX3_wholeBelow_62 : decode cX3_wholeBelow 62 = .ok (.aload_n 0, 1) := by decide +kernel
theorem dX3_wholeBelow_63 : decode cX3_wholeBelow 63 = .ok (.getfield 25, 3) := by decide +kernel
theorem dX3_wholeBelow_66 : decode cX3_wholeBelow 66 = .ok (.i2l, 1) := by decide +kernel
theorem dX3_wholeBelow_67 : decode cX3_wholeBelow 67 = .ok (.aload_n 1, 1) := by decide +kernel
theorem dX3_wholeBelow_68 : decode cX3_wholeBelow 68 = .ok (.getfield 62, 3) := by decide +kernel
theorem dX3_wholeBelow_71 : decode cX3_wholeBelow 71 = .ok (.lmul, 1) := by decide +kernel
theorem dX3_wholeBelow_72 : decode cX3_wholeBelow 72 = .ok (.ladd, 1) := by decide +kernel
theorem dX3_wholeBelow_73 : decode cX3_wholeBelow 73 = .ok (.lload 4, 2) := by decide +kernel
theorem dX3_wholeBelow_75 : decode cX3_wholeBelow 75 = .ok (.ladd, 1) := by decide +kernel
theorem dX3_wholeBelow_76 : decode cX3_wholeBelow 76 = .ok (.lload 6, 2) := by decide +kernel
theorem dX3_wholeBelow_78 : decode cX3_wholeBelow 78 = .ok (.invokestatic 77, 3) := by decide +kernel
theorem dX3_wholeBelow_81 : decode cX3_wholeBelow 81 = .ok (.goto 4, 3) := by decide +kernel
theorem dX3_wholeBelow_84 : decode cX3_wholeBelow 84 = .ok (.lconst 0, 1) := by decide +kernel
theorem dX3_wholeBelow_85 : decode cX3_wholeBelow 85 = .ok (.lreturn, 1) := by decide +kernel
theorem dX3_squareRoot_0 : decode cX3_squareRoot 0 = .ok (.lconst 0, 1) := by decide +kernel
theorem dX3_squareRoot_1 : decode cX3_squareRoot 1 = .ok (.lstore_n 2, 1) := by decide +kernel
theorem dX3_squareRoot_2 : decode cX3_squareRoot 2 = .ok (.bipush 20, 2) := by decide +kernel
theorem dX3_squareRoot_4 : decode cX3_squareRoot 4 = .ok (.istore 4, 2) := by decide +kernel
theorem dX3_squareRoot_6 : decode cX3_squareRoot 6 = .ok (.iload 4, 2) := by decide +kernel
theorem dX3_squareRoot_8 : decode cX3_squareRoot 8 = .ok (.ifCond .lt 30, 3) := by decide +kernel
theorem dX3_squareRoot_11 : decode cX3_squareRoot 11 = .ok (.lload_n 2, 1) := by decide +kernel
theorem dX3_squareRoot_12 : decode cX3_squareRoot 12 = .ok (.lconst 1, 1) := by decide +kernel
theorem dX3_squareRoot_13 : decode cX3_squareRoot 13 = .ok (.iload 4, 2) := by decide +kernel
theorem dX3_squareRoot_15 : decode cX3_squareRoot 15 = .ok (.lshl, 1) := by decide +kernel
theorem dX3_squareRoot_16 : decode cX3_squareRoot 16 = .ok (.ladd, 1) := by decide +kernel
theorem dX3_squareRoot_17 : decode cX3_squareRoot 17 = .ok (.lstore 5, 2) := by decide +kernel
theorem dX3_squareRoot_19 : decode cX3_squareRoot 19 = .ok (.lload 5, 2) := by decide +kernel
theorem dX3_squareRoot_21 : decode cX3_squareRoot 21 = .ok (.lload 5, 2) := by decide +kernel
theorem dX3_squareRoot_23 : decode cX3_squareRoot 23 = .ok (.lmul, 1) := by decide +kernel
theorem dX3_squareRoot_24 : decode cX3_squareRoot 24 = .ok (.lload_n 0, 1) := by decide +kernel
theorem dX3_squareRoot_25 : decode cX3_squareRoot 25 = .ok (.lcmp, 1) := by decide +kernel
theorem dX3_squareRoot_26 : decode cX3_squareRoot 26 = .ok (.ifCond .gt 6, 3) := by decide +kernel
theorem dX3_squareRoot_29 : decode cX3_squareRoot 29 = .ok (.lload 5, 2) := by decide +kernel
theorem dX3_squareRoot_31 : decode cX3_squareRoot 31 = .ok (.lstore_n 2, 1) := by decide +kernel
theorem dX3_squareRoot_32 : decode cX3_squareRoot 32 = .ok (.iinc 4 (-1), 3) := by decide +kernel
theorem dX3_squareRoot_35 : decode cX3_squareRoot 35 = .ok (.goto (-29), 3) := by decide +kernel
theorem dX3_squareRoot_38 : decode cX3_squareRoot 38 = .ok (.lload_n 2, 1) := by decide +kernel
theorem dX3_squareRoot_39 : decode cX3_squareRoot 39 = .ok (.lreturn, 1) := by decide +kernel
theorem dX3_join_0 : decode cX3_join 0 = .ok (.aload_n 1, 1) := by decide +kernel
theorem dX3_join_1 : decode cX3_join 1 = .ok (.aload_n 2, 1) := by decide +kernel
theorem dX3_join_2 : decode cX3_join 2 = .ok (.getfield 74, 3) := by decide +kernel
theorem dX3_join_5 : decode cX3_join 5 = .ok (.aload_n 3, 1) := by decide +kernel
theorem dX3_join_6 : decode cX3_join 6 = .ok (.getfield 71, 3) := by decide +kernel
theorem dX3_join_9 : decode cX3_join 9 = .ok (.lmul, 1) := by decide +kernel
theorem dX3_join_10 : decode cX3_join 10 = .ok (.iload 4, 2) := by decide +kernel
theorem dX3_join_12 : decode cX3_join 12 = .ok (.i2l, 1) := by decide +kernel
theorem dX3_join_13 : decode cX3_join 13 = .ok (.aload_n 3, 1) := by decide +kernel
theorem dX3_join_14 : decode cX3_join 14 = .ok (.getfield 74, 3) := by decide +kernel
theorem dX3_join_17 : decode cX3_join 17 = .ok (.lmul, 1) := by decide +kernel
theorem dX3_join_18 : decode cX3_join 18 = .ok (.aload_n 2, 1) := by decide +kernel
theorem dX3_join_19 : decode cX3_join 19 = .ok (.getfield 71, 3) := by decide +kernel
theorem dX3_join_22 : decode cX3_join 22 = .ok (.lmul, 1) := by decide +kernel
theorem dX3_join_23 : decode cX3_join 23 = .ok (.ladd, 1) := by decide +kernel
theorem dX3_join_24 : decode cX3_join 24 = .ok (.aload_n 2, 1) := by decide +kernel
theorem dX3_join_25 : decode cX3_join 25 = .ok (.getfield 62, 3) := by decide +kernel
theorem dX3_join_28 : decode cX3_join 28 = .ok (.aload_n 3, 1) := by decide +kernel
theorem dX3_join_29 : decode cX3_join 29 = .ok (.getfield 71, 3) := by decide +kernel
theorem dX3_join_32 : decode cX3_join 32 = .ok (.lmul, 1) := by decide +kernel
theorem dX3_join_33 : decode cX3_join 33 = .ok (.iload 4, 2) := by decide +kernel
theorem dX3_join_35 : decode cX3_join 35 = .ok (.i2l, 1) := by decide +kernel
theorem dX3_join_36 : decode cX3_join 36 = .ok (.aload_n 3, 1) := by decide +kernel
theorem dX3_join_37 : decode cX3_join 37 = .ok (.getfield 62, 3) := by decide +kernel
theorem dX3_join_40 : decode cX3_join 40 = .ok (.lmul, 1) := by decide +kernel
theorem dX3_join_41 : decode cX3_join 41 = .ok (.aload_n 2, 1) := by decide +kernel
theorem dX3_join_42 : decode cX3_join 42 = .ok (.getfield 71, 3) := by decide +kernel
theorem dX3_join_45 : decode cX3_join 45 = .ok (.lmul, 1) := by decide +kernel
theorem dX3_join_46 : decode cX3_join 46 = .ok (.ladd, 1) := by decide +kernel
theorem dX3_join_47 : decode cX3_join 47 = .ok (.aload_n 2, 1) := by decide +kernel
theorem dX3_join_48 : decode cX3_join 48 = .ok (.getfield 71, 3) := by decide +kernel
theorem dX3_join_51 : decode cX3_join 51 = .ok (.aload_n 3, 1) := by decide +kernel
theorem dX3_join_52 : decode cX3_join 52 = .ok (.getfield 71, 3) := by decide +kernel
theorem dX3_join_55 : decode cX3_join 55 = .ok (.lmul, 1) := by decide +kernel
theorem dX3_join_56 : decode cX3_join 56 = .ok (.invokevirtual 83, 3) := by decide +kernel
theorem dX3_join_59 : decode cX3_join 59 = .ok (.ireturn, 1) := by decide +kernel
theorem dX3_multiply_0 : decode cX3_multiply 0 = .ok (.aload_n 1, 1) := by decide +kernel
theorem dX3_multiply_1 : decode cX3_multiply 1 = .ok (.aload_n 2, 1) := by decide +kernel
theorem dX3_multiply_2 : decode cX3_multiply 2 = .ok (.getfield 74, 3) := by decide +kernel
theorem dX3_multiply_5 : decode cX3_multiply 5 = .ok (.aload_n 3, 1) := by decide +kernel
theorem dX3_multiply_6 : decode cX3_multiply 6 = .ok (.getfield 74, 3) := by decide +kernel
theorem dX3_multiply_9 : decode cX3_multiply 9 = .ok (.lmul, 1) := by decide +kernel
theorem dX3_multiply_10 : decode cX3_multiply 10 = .ok (.aload_n 0, 1) := by decide +kernel
theorem dX3_multiply_11 : decode cX3_multiply 11 = .ok (.getfield 29, 3) := by decide +kernel
theorem dX3_multiply_14 : decode cX3_multiply 14 = .ok (.i2l, 1) := by decide +kernel
theorem dX3_multiply_15 : decode cX3_multiply 15 = .ok (.aload_n 2, 1) := by decide +kernel
theorem dX3_multiply_16 : decode cX3_multiply 16 = .ok (.getfield 62, 3) := by decide +kernel
theorem dX3_multiply_19 : decode cX3_multiply 19 = .ok (.lmul, 1) := by decide +kernel
theorem dX3_multiply_20 : decode cX3_multiply 20 = .ok (.aload_n 3, 1) := by decide +kernel
theorem dX3_multiply_21 : decode cX3_multiply 21 = .ok (.getfield 62, 3) := by decide +kernel
theorem dX3_multiply_24 : decode cX3_multiply 24 = .ok (.lmul, 1) := by decide +kernel
theorem dX3_multiply_25 : decode cX3_multiply 25 = .ok (.ladd, 1) := by decide +kernel
theorem dX3_multiply_26 : decode cX3_multiply 26 = .ok (.aload_n 2, 1) := by decide +kernel
theorem dX3_multiply_27 : decode cX3_multiply 27 = .ok (.getfield 74, 3) := by decide +kernel
theorem dX3_multiply_30 : decode cX3_multiply 30 = .ok (.aload_n 3, 1) := by decide +kernel
theorem dX3_multiply_31 : decode cX3_multiply 31 = .ok (.getfield 62, 3) := by decide +kernel
theorem dX3_multiply_34 : decode cX3_multiply 34 = .ok (.lmul, 1) := by decide +kernel
theorem dX3_multiply_35 : decode cX3_multiply 35 = .ok (.aload_n 2, 1) := by decide +kernel
theorem dX3_multiply_36 : decode cX3_multiply 36 = .ok (.getfield 62, 3) := by decide +kernel
theorem dX3_multiply_39 : decode cX3_multiply 39 = .ok (.aload_n 3, 1) := by decide +kernel
theorem dX3_multiply_40 : decode cX3_multiply 40 = .ok (.getfield 74, 3) := by decide +kernel
theorem dX3_multiply_43 : decode cX3_multiply 43 = .ok (.lmul, 1) := by decide +kernel
theorem dX3_multiply_44 : decode cX3_multiply 44 = .ok (.ladd, 1) := by decide +kernel
theorem dX3_multiply_45 : decode cX3_multiply 45 = .ok (.aload_n 0, 1) := by decide +kernel
theorem dX3_multiply_46 : decode cX3_multiply 46 = .ok (.getfield 25, 3) := by decide +kernel
theorem dX3_multiply_49 : decode cX3_multiply 49 = .ok (.i2l, 1) := by decide +kernel
theorem dX3_multiply_50 : decode cX3_multiply 50 = .ok (.aload_n 2, 1) := by decide +kernel
theorem dX3_multiply_51 : decode cX3_multiply 51 = .ok (.getfield 62, 3) := by decide +kernel
theorem dX3_multiply_54 : decode cX3_multiply 54 = .ok (.lmul, 1) := by decide +kernel
theorem dX3_multiply_55 : decode cX3_multiply 55 = .ok (.aload_n 3, 1) := by decide +kernel
theorem dX3_multiply_56 : decode cX3_multiply 56 = .ok (.getfield 62, 3) := by decide +kernel
theorem dX3_multiply_59 : decode cX3_multiply 59 = .ok (.lmul, 1) := by decide +kernel
theorem dX3_multiply_60 : decode cX3_multiply 60 = .ok (.ladd, 1) := by decide +kernel
theorem dX3_multiply_61 : decode cX3_multiply 61 = .ok (.aload_n 2, 1) := by decide +kernel
theorem dX3_multiply_62 : decode cX3_multiply 62 = .ok (.getfield 71, 3) := by decide +kernel
theorem dX3_multiply_65 : decode cX3_multiply 65 = .ok (.aload_n 3, 1) := by decide +kernel
theorem dX3_multiply_66 : decode cX3_multiply 66 = .ok (.getfield 71, 3) := by decide +kernel
theorem dX3_multiply_69 : decode cX3_multiply 69 = .ok (.lmul, 1) := by decide +kernel
theorem dX3_multiply_70 : decode cX3_multiply 70 = .ok (.invokevirtual 83, 3) := by decide +kernel
theorem dX3_multiply_73 : decode cX3_multiply 73 = .ok (.ireturn, 1) := by decide +kernel
theorem dX3_divide_0 : decode cX3_divide 0 = .ok (.aload_n 3, 1) := by decide +kernel
theorem dX3_divide_1 : decode cX3_divide 1 = .ok (.getfield 74, 3) := by decide +kernel
theorem dX3_divide_4 : decode cX3_divide 4 = .ok (.aload_n 3, 1) := by decide +kernel
theorem dX3_divide_5 : decode cX3_divide 5 = .ok (.getfield 74, 3) := by decide +kernel
theorem dX3_divide_8 : decode cX3_divide 8 = .ok (.lmul, 1) := by decide +kernel
theorem dX3_divide_9 : decode cX3_divide 9 = .ok (.aload_n 0, 1) := by decide +kernel
theorem dX3_divide_10 : decode cX3_divide 10 = .ok (.getfield 25, 3) := by decide +kernel
theorem dX3_divide_13 : decode cX3_divide 13 = .ok (.i2l, 1) := by decide +kernel
theorem dX3_divide_14 : decode cX3_divide 14 = .ok (.aload_n 3, 1) := by decide +kernel
theorem dX3_divide_15 : decode cX3_divide 15 = .ok (.getfield 74, 3) := by decide +kernel
theorem dX3_divide_18 : decode cX3_divide 18 = .ok (.lmul, 1) := by decide +kernel
theorem dX3_divide_19 : decode cX3_divide 19 = .ok (.aload_n 3, 1) := by decide +kernel
theorem dX3_divide_20 : decode cX3_divide 20 = .ok (.getfield 62, 3) := by decide +kernel
theorem dX3_divide_23 : decode cX3_divide 23 = .ok (.lmul, 1) := by decide +kernel
theorem dX3_divide_24 : decode cX3_divide 24 = .ok (.ladd, 1) := by decide +kernel
theorem dX3_divide_25 : decode cX3_divide 25 = .ok (.aload_n 0, 1) := by decide +kernel
theorem dX3_divide_26 : decode cX3_divide 26 = .ok (.getfield 29, 3) := by decide +kernel
theorem dX3_divide_29 : decode cX3_divide 29 = .ok (.i2l, 1) := by decide +kernel
theorem dX3_divide_30 : decode cX3_divide 30 = .ok (.aload_n 3, 1) := by decide +kernel
theorem dX3_divide_31 : decode cX3_divide 31 = .ok (.getfield 62, 3) := by decide +kernel
theorem dX3_divide_34 : decode cX3_divide 34 = .ok (.lmul, 1) := by decide +kernel
theorem dX3_divide_35 : decode cX3_divide 35 = .ok (.aload_n 3, 1) := by decide +kernel
theorem dX3_divide_36 : decode cX3_divide 36 = .ok (.getfield 62, 3) := by decide +kernel
theorem dX3_divide_39 : decode cX3_divide 39 = .ok (.lmul, 1) := by decide +kernel
theorem dX3_divide_40 : decode cX3_divide 40 = .ok (.lsub, 1) := by decide +kernel
theorem dX3_divide_41 : decode cX3_divide 41 = .ok (.lstore 4, 2) := by decide +kernel
theorem dX3_divide_43 : decode cX3_divide 43 = .ok (.lload 4, 2) := by decide +kernel
theorem dX3_divide_45 : decode cX3_divide 45 = .ok (.lconst 0, 1) := by decide +kernel
theorem dX3_divide_46 : decode cX3_divide 46 = .ok (.lcmp, 1) := by decide +kernel
theorem dX3_divide_47 : decode cX3_divide 47 = .ok (.ifCond .ne 5, 3) := by decide +kernel
theorem dX3_divide_50 : decode cX3_divide 50 = .ok (.iconst 0, 1) := by decide +kernel
theorem dX3_divide_51 : decode cX3_divide 51 = .ok (.ireturn, 1) := by decide +kernel
theorem dX3_divide_52 : decode cX3_divide 52 = .ok (.lload 4, 2) := by decide +kernel
theorem dX3_divide_54 : decode cX3_divide 54 = .ok (.lconst 0, 1) := by decide +kernel
theorem dX3_divide_55 : decode cX3_divide 55 = .ok (.lcmp, 1) := by decide +kernel
theorem dX3_divide_56 : decode cX3_divide 56 = .ok (.ifCond .le 10, 3) := by decide +kernel
theorem dX3_divide_59 : decode cX3_divide 59 = .ok (.aload_n 3, 1) := by decide +kernel
theorem dX3_divide_60 : decode cX3_divide 60 = .ok (.getfield 71, 3) := by decide +kernel
theorem dX3_divide_63 : decode cX3_divide 63 = .ok (.goto 8, 3) := by decide +kernel
theorem dX3_divide_66 : decode cX3_divide 66 = .ok (.aload_n 3, 1) := by decide +kernel
theorem dX3_divide_67 : decode cX3_divide 67 = .ok (.getfield 71, 3) := by decide +kernel
theorem dX3_divide_70 : decode cX3_divide 70 = .ok (.lneg, 1) := by decide +kernel
theorem dX3_divide_71 : decode cX3_divide 71 = .ok (.lstore 6, 2) := by decide +kernel
theorem dX3_divide_73 : decode cX3_divide 73 = .ok (.aload_n 3, 1) := by decide +kernel
theorem dX3_divide_74 : decode cX3_divide 74 = .ok (.getfield 74, 3) := by decide +kernel
theorem dX3_divide_77 : decode cX3_divide 77 = .ok (.aload_n 0, 1) := by decide +kernel
theorem dX3_divide_78 : decode cX3_divide 78 = .ok (.getfield 25, 3) := by decide +kernel
theorem dX3_divide_81 : decode cX3_divide 81 = .ok (.i2l, 1) := by decide +kernel
theorem dX3_divide_82 : decode cX3_divide 82 = .ok (.aload_n 3, 1) := by decide +kernel
theorem dX3_divide_83 : decode cX3_divide 83 = .ok (.getfield 62, 3) := by decide +kernel
theorem dX3_divide_86 : decode cX3_divide 86 = .ok (.lmul, 1) := by decide +kernel
theorem dX3_divide_87 : decode cX3_divide 87 = .ok (.ladd, 1) := by decide +kernel
theorem dX3_divide_88 : decode cX3_divide 88 = .ok (.lstore 8, 2) := by decide +kernel
theorem dX3_divide_90 : decode cX3_divide 90 = .ok (.aload_n 3, 1) := by decide +kernel
theorem dX3_divide_91 : decode cX3_divide 91 = .ok (.getfield 62, 3) := by decide +kernel
theorem dX3_divide_94 : decode cX3_divide 94 = .ok (.lneg, 1) := by decide +kernel
theorem dX3_divide_95 : decode cX3_divide 95 = .ok (.lstore 10, 2) := by decide +kernel
theorem dX3_divide_97 : decode cX3_divide 97 = .ok (.aload_n 2, 1) := by decide +kernel
theorem dX3_divide_98 : decode cX3_divide 98 = .ok (.getfield 74, 3) := by decide +kernel
theorem dX3_divide_101 : decode cX3_divide 101 = .ok (.lload 8, 2) := by decide +kernel
theorem dX3_divide_103 : decode cX3_divide 103 = .ok (.lmul, 1) := by decide +kernel
theorem dX3_divide_104 : decode cX3_divide 104 = .ok (.aload_n 0, 1) := by decide +kernel
theorem dX3_divide_105 : decode cX3_divide 105 = .ok (.getfield 29, 3) := by decide +kernel
theorem dX3_divide_108 : decode cX3_divide 108 = .ok (.i2l, 1) := by decide +kernel
theorem dX3_divide_109 : decode cX3_divide 109 = .ok (.aload_n 2, 1) := by decide +kernel
theorem dX3_divide_110 : decode cX3_divide 110 = .ok (.getfield 62, 3) := by decide +kernel
theorem dX3_divide_113 : decode cX3_divide 113 = .ok (.lmul, 1) := by decide +kernel
theorem dX3_divide_114 : decode cX3_divide 114 = .ok (.lload 10, 2) := by decide +kernel
theorem dX3_divide_116 : decode cX3_divide 116 = .ok (.lmul, 1) := by decide +kernel
theorem dX3_divide_117 : decode cX3_divide 117 = .ok (.ladd, 1) := by decide +kernel
theorem dX3_divide_118 : decode cX3_divide 118 = .ok (.lstore 12, 2) := by decide +kernel
theorem dX3_divide_120 : decode cX3_divide 120 = .ok (.aload_n 2, 1) := by decide +kernel
theorem dX3_divide_121 : decode cX3_divide 121 = .ok (.getfield 74, 3) := by decide +kernel
theorem dX3_divide_124 : decode cX3_divide 124 = .ok (.lload 10, 2) := by decide +kernel
theorem dX3_divide_126 : decode cX3_divide 126 = .ok (.lmul, 1) := by decide +kernel
theorem dX3_divide_127 : decode cX3_divide 127 = .ok (.aload_n 2, 1) := by decide +kernel
theorem dX3_divide_128 : decode cX3_divide 128 = .ok (.getfield 62, 3) := by decide +kernel
theorem dX3_divide_131 : decode cX3_divide 131 = .ok (.lload 8, 2) := by decide +kernel
theorem dX3_divide_133 : decode cX3_divide 133 = .ok (.lmul, 1) := by decide +kernel
theorem dX3_divide_134 : decode cX3_divide 134 = .ok (.ladd, 1) := by decide +kernel
theorem dX3_divide_135 : decode cX3_divide 135 = .ok (.aload_n 0, 1) := by decide +kernel
theorem dX3_divide_136 : decode cX3_divide 136 = .ok (.getfield 25, 3) := by decide +kernel
theorem dX3_divide_139 : decode cX3_divide 139 = .ok (.i2l, 1) := by decide +kernel
theorem dX3_divide_140 : decode cX3_divide 140 = .ok (.aload_n 2, 1) := by decide +kernel
theorem dX3_divide_141 : decode cX3_divide 141 = .ok (.getfield 62, 3) := by decide +kernel
theorem dX3_divide_144 : decode cX3_divide 144 = .ok (.lmul, 1) := by decide +kernel
theorem dX3_divide_145 : decode cX3_divide 145 = .ok (.lload 10, 2) := by decide +kernel
theorem dX3_divide_147 : decode cX3_divide 147 = .ok (.lmul, 1) := by decide +kernel
theorem dX3_divide_148 : decode cX3_divide 148 = .ok (.ladd, 1) := by decide +kernel
theorem dX3_divide_149 : decode cX3_divide 149 = .ok (.lstore 14, 2) := by decide +kernel
theorem dX3_divide_151 : decode cX3_divide 151 = .ok (.aload_n 1, 1) := by decide +kernel
theorem dX3_divide_152 : decode cX3_divide 152 = .ok (.lload 6, 2) := by decide +kernel
theorem dX3_divide_154 : decode cX3_divide 154 = .ok (.lload 12, 2) := by decide +kernel
theorem dX3_divide_156 : decode cX3_divide 156 = .ok (.lmul, 1) := by decide +kernel
theorem dX3_divide_157 : decode cX3_divide 157 = .ok (.lload 6, 2) := by decide +kernel
theorem dX3_divide_159 : decode cX3_divide 159 = .ok (.lload 14, 2) := by decide +kernel
theorem dX3_divide_161 : decode cX3_divide 161 = .ok (.lmul, 1) := by decide +kernel
theorem dX3_divide_162 : decode cX3_divide 162 = .ok (.aload_n 2, 1) := by decide +kernel
theorem dX3_divide_163 : decode cX3_divide 163 = .ok (.getfield 71, 3) := by decide +kernel
theorem dX3_divide_166 : decode cX3_divide 166 = .ok (.lload 4, 2) := by decide +kernel
theorem dX3_divide_168 : decode cX3_divide 168 = .ok (.invokestatic 87, 3) := by decide +kernel
theorem dX3_divide_171 : decode cX3_divide 171 = .ok (.lmul, 1) := by decide +kernel
theorem dX3_divide_172 : decode cX3_divide 172 = .ok (.invokevirtual 83, 3) := by decide +kernel
theorem dX3_divide_175 : decode cX3_divide 175 = .ok (.ireturn, 1) := by decide +kernel
theorem dX3_multiplyByX_0 : decode cX3_multiplyByX 0 = .ok (.aload_n 1, 1) := by decide +kernel
theorem dX3_multiplyByX_1 : decode cX3_multiplyByX 1 = .ok (.aload_n 0, 1) := by decide +kernel
theorem dX3_multiplyByX_2 : decode cX3_multiplyByX 2 = .ok (.getfield 29, 3) := by decide +kernel
theorem dX3_multiplyByX_5 : decode cX3_multiplyByX 5 = .ok (.i2l, 1) := by decide +kernel
theorem dX3_multiplyByX_6 : decode cX3_multiplyByX 6 = .ok (.aload_n 1, 1) := by decide +kernel
theorem dX3_multiplyByX_7 : decode cX3_multiplyByX 7 = .ok (.getfield 62, 3) := by decide +kernel
theorem dX3_multiplyByX_10 : decode cX3_multiplyByX 10 = .ok (.lmul, 1) := by decide +kernel
theorem dX3_multiplyByX_11 : decode cX3_multiplyByX 11 = .ok (.aload_n 1, 1) := by decide +kernel
theorem dX3_multiplyByX_12 : decode cX3_multiplyByX 12 = .ok (.getfield 74, 3) := by decide +kernel
theorem dX3_multiplyByX_15 : decode cX3_multiplyByX 15 = .ok (.aload_n 0, 1) := by decide +kernel
theorem dX3_multiplyByX_16 : decode cX3_multiplyByX 16 = .ok (.getfield 25, 3) := by decide +kernel
theorem dX3_multiplyByX_19 : decode cX3_multiplyByX 19 = .ok (.i2l, 1) := by decide +kernel
theorem dX3_multiplyByX_20 : decode cX3_multiplyByX 20 = .ok (.aload_n 1, 1) := by decide +kernel
theorem dX3_multiplyByX_21 : decode cX3_multiplyByX 21 = .ok (.getfield 62, 3) := by decide +kernel
theorem dX3_multiplyByX_24 : decode cX3_multiplyByX 24 = .ok (.lmul, 1) := by decide +kernel
theorem dX3_multiplyByX_25 : decode cX3_multiplyByX 25 = .ok (.ladd, 1) := by decide +kernel
theorem dX3_multiplyByX_26 : decode cX3_multiplyByX 26 = .ok (.aload_n 1, 1) := by decide +kernel
theorem dX3_multiplyByX_27 : decode cX3_multiplyByX 27 = .ok (.getfield 71, 3) := by decide +kernel
theorem dX3_multiplyByX_30 : decode cX3_multiplyByX 30 = .ok (.invokevirtual 83, 3) := by decide +kernel
theorem dX3_multiplyByX_33 : decode cX3_multiplyByX 33 = .ok (.ireturn, 1) := by decide +kernel
theorem dX3_divideByX_0 : decode cX3_divideByX 0 = .ok (.aload_n 0, 1) := by decide +kernel
theorem dX3_divideByX_1 : decode cX3_divideByX 1 = .ok (.getfield 29, 3) := by decide +kernel
theorem dX3_divideByX_4 : decode cX3_divideByX 4 = .ok (.ifCond .le 7, 3) := by decide +kernel
theorem dX3_divideByX_7 : decode cX3_divideByX 7 = .ok (.iconst 1, 1) := by decide +kernel
theorem dX3_divideByX_8 : decode cX3_divideByX 8 = .ok (.goto 4, 3) := by decide +kernel
theorem dX3_divideByX_11 : decode cX3_divideByX 11 = .ok (.iconst (-1), 1) := by decide +kernel
theorem dX3_divideByX_12 : decode cX3_divideByX 12 = .ok (.istore_n 2, 1) := by decide +kernel
theorem dX3_divideByX_13 : decode cX3_divideByX 13 = .ok (.aload_n 1, 1) := by decide +kernel
theorem dX3_divideByX_14 : decode cX3_divideByX 14 = .ok (.iload_n 2, 1) := by decide +kernel
theorem dX3_divideByX_15 : decode cX3_divideByX 15 = .ok (.i2l, 1) := by decide +kernel
theorem dX3_divideByX_16 : decode cX3_divideByX 16 = .ok (.aload_n 0, 1) := by decide +kernel
theorem dX3_divideByX_17 : decode cX3_divideByX 17 = .ok (.getfield 29, 3) := by decide +kernel
theorem dX3_divideByX_20 : decode cX3_divideByX 20 = .ok (.i2l, 1) := by decide +kernel
theorem dX3_divideByX_21 : decode cX3_divideByX 21 = .ok (.aload_n 1, 1) := by decide +kernel
theorem dX3_divideByX_22 : decode cX3_divideByX 22 = .ok (.getfield 62, 3) := by decide +kernel
theorem dX3_divideByX_25 : decode cX3_divideByX 25 = .ok (.lmul, 1) := by decide +kernel
theorem dX3_divideByX_26 : decode cX3_divideByX 26 = .ok (.aload_n 0, 1) := by decide +kernel
theorem dX3_divideByX_27 : decode cX3_divideByX 27 = .ok (.getfield 25, 3) := by decide +kernel
theorem dX3_divideByX_30 : decode cX3_divideByX 30 = .ok (.i2l, 1) := by decide +kernel
theorem dX3_divideByX_31 : decode cX3_divideByX 31 = .ok (.aload_n 1, 1) := by decide +kernel
theorem dX3_divideByX_32 : decode cX3_divideByX 32 = .ok (.getfield 74, 3) := by decide +kernel
theorem dX3_divideByX_35 : decode cX3_divideByX 35 = .ok (.lmul, 1) := by decide +kernel
theorem dX3_divideByX_36 : decode cX3_divideByX 36 = .ok (.lsub, 1) := by decide +kernel
theorem dX3_divideByX_37 : decode cX3_divideByX 37 = .ok (.lmul, 1) := by decide +kernel
theorem dX3_divideByX_38 : decode cX3_divideByX 38 = .ok (.iload_n 2, 1) := by decide +kernel
theorem dX3_divideByX_39 : decode cX3_divideByX 39 = .ok (.i2l, 1) := by decide +kernel
theorem dX3_divideByX_40 : decode cX3_divideByX 40 = .ok (.aload_n 1, 1) := by decide +kernel
theorem dX3_divideByX_41 : decode cX3_divideByX 41 = .ok (.getfield 74, 3) := by decide +kernel
theorem dX3_divideByX_44 : decode cX3_divideByX 44 = .ok (.lmul, 1) := by decide +kernel
theorem dX3_divideByX_45 : decode cX3_divideByX 45 = .ok (.aload_n 1, 1) := by decide +kernel
theorem dX3_divideByX_46 : decode cX3_divideByX 46 = .ok (.getfield 71, 3) := by decide +kernel
theorem dX3_divideByX_49 : decode cX3_divideByX 49 = .ok (.iload_n 2, 1) := by decide +kernel
theorem dX3_divideByX_50 : decode cX3_divideByX 50 = .ok (.i2l, 1) := by decide +kernel
theorem dX3_divideByX_51 : decode cX3_divideByX 51 = .ok (.lmul, 1) := by decide +kernel
theorem dX3_divideByX_52 : decode cX3_divideByX 52 = .ok (.aload_n 0, 1) := by decide +kernel
theorem dX3_divideByX_53 : decode cX3_divideByX 53 = .ok (.getfield 29, 3) := by decide +kernel
theorem dX3_divideByX_56 : decode cX3_divideByX 56 = .ok (.i2l, 1) := by decide +kernel
theorem dX3_divideByX_57 : decode cX3_divideByX 57 = .ok (.lmul, 1) := by decide +kernel
theorem dX3_divideByX_58 : decode cX3_divideByX 58 = .ok (.invokevirtual 83, 3) := by decide +kernel
theorem dX3_divideByX_61 : decode cX3_divideByX 61 = .ok (.ireturn, 1) := by decide +kernel
theorem dX3_putWhole_0 : decode cX3_putWhole 0 = .ok (.iload_n 2, 1) := by decide +kernel
theorem dX3_putWhole_1 : decode cX3_putWhole 1 = .ok (.i2l, 1) := by decide +kernel
theorem dX3_putWhole_2 : decode cX3_putWhole 2 = .ok (.lstore_n 3, 1) := by decide +kernel
theorem dX3_putWhole_3 : decode cX3_putWhole 3 = .ok (.lconst 0, 1) := by decide +kernel
theorem dX3_putWhole_4 : decode cX3_putWhole 4 = .ok (.lstore 5, 2) := by decide +kernel
theorem dX3_putWhole_6 : decode cX3_putWhole 6 = .ok (.lconst 0, 1) := by decide +kernel
theorem dX3_putWhole_7 : decode cX3_putWhole 7 = .ok (.lstore 7, 2) := by decide +kernel
theorem dX3_putWhole_9 : decode cX3_putWhole 9 = .ok (.aload_n 0, 1) := by decide +kernel
theorem dX3_putWhole_10 : decode cX3_putWhole 10 = .ok (.getfield 53, 3) := by decide +kernel
theorem dX3_putWhole_13 : decode cX3_putWhole 13 = .ok (.aload_n 0, 1) := by decide +kernel
theorem dX3_putWhole_14 : decode cX3_putWhole 14 = .ok (.getfield 44, 3) := by decide +kernel
theorem dX3_putWhole_17 : decode cX3_putWhole 17 = .ok (.invokestatic 90, 3) := by decide +kernel
theorem dX3_putWhole_20 : decode cX3_putWhole 20 = .ok (.iconst 1, 1) := by decide +kernel
theorem dX3_putWhole_21 : decode cX3_putWhole 21 = .ok (.isub, 1) := by decide +kernel
theorem dX3_putWhole_22 : decode cX3_putWhole 22 = .ok (.istore 9, 2) := by decide +kernel
theorem dX3_putWhole_24 : decode cX3_putWhole 24 = .ok (.iload 9, 2) := by decide +kernel
theorem dX3_putWhole_26 : decode cX3_putWhole 26 = .ok (.ifCond .lt 75, 3) := by decide +kernel
theorem dX3_putWhole_29 : decode cX3_putWhole 29 = .ok (.aload_n 0, 1) := by decide +kernel
theorem dX3_putWhole_30 : decode cX3_putWhole 30 = .ok (.getfield 18, 3) := by decide +kernel
theorem dX3_putWhole_33 : decode cX3_putWhole 33 = .ok (.iload 9, 2) := by decide +kernel
theorem dX3_putWhole_35 : decode cX3_putWhole 35 = .ok (.laload, 1) := by decide +kernel
theorem dX3_putWhole_36 : decode cX3_putWhole 36 = .ok (.lconst 0, 1) := by decide +kernel
theorem dX3_putWhole_37 : decode cX3_putWhole 37 = .ok (.lcmp, 1) := by decide +kernel
theorem dX3_putWhole_38 : decode cX3_putWhole 38 = .ok (.ifCond .le 57, 3) := by decide +kernel
theorem dX3_putWhole_41 : decode cX3_putWhole 41 = .ok (.lload_n 3, 1) := by decide +kernel
theorem dX3_putWhole_42 : decode cX3_putWhole 42 = .ok (.aload_n 0, 1) := by decide +kernel
theorem dX3_putWhole_43 : decode cX3_putWhole 43 = .ok (.getfield 18, 3) := by decide +kernel
theorem dX3_putWhole_46 : decode cX3_putWhole 46 = .ok (.iload 9, 2) := by decide +kernel
theorem dX3_putWhole_48 : decode cX3_putWhole 48 = .ok (.laload, 1) := by decide +kernel
theorem dX3_putWhole_49 : decode cX3_putWhole 49 = .ok (.ldiv, 1) := by decide +kernel
theorem dX3_putWhole_50 : decode cX3_putWhole 50 = .ok (.lstore 10, 2) := by decide +kernel
theorem dX3_putWhole_52 : decode cX3_putWhole 52 = .ok (.lload_n 3, 1) := by decide +kernel
theorem dX3_putWhole_53 : decode cX3_putWhole 53 = .ok (.lload 10, 2) := by decide +kernel
theorem dX3_putWhole_55 : decode cX3_putWhole 55 = .ok (.aload_n 0, 1) := by decide +kernel
theorem dX3_putWhole_56 : decode cX3_putWhole 56 = .ok (.getfield 18, 3) := by decide +kernel
theorem dX3_putWhole_59 : decode cX3_putWhole 59 = .ok (.iload 9, 2) := by decide +kernel
theorem dX3_putWhole_61 : decode cX3_putWhole 61 = .ok (.laload, 1) := by decide +kernel
theorem dX3_putWhole_62 : decode cX3_putWhole 62 = .ok (.lmul, 1) := by decide +kernel
theorem dX3_putWhole_63 : decode cX3_putWhole 63 = .ok (.lsub, 1) := by decide +kernel
theorem dX3_putWhole_64 : decode cX3_putWhole 64 = .ok (.lstore_n 3, 1) := by decide +kernel
theorem dX3_putWhole_65 : decode cX3_putWhole 65 = .ok (.lload 5, 2) := by decide +kernel
theorem dX3_putWhole_67 : decode cX3_putWhole 67 = .ok (.lload 10, 2) := by decide +kernel
theorem dX3_putWhole_69 : decode cX3_putWhole 69 = .ok (.aload_n 0, 1) := by decide +kernel
theorem dX3_putWhole_70 : decode cX3_putWhole 70 = .ok (.getfield 11, 3) := by decide +kernel
theorem dX3_putWhole_73 : decode cX3_putWhole 73 = .ok (.iload 9, 2) := by decide +kernel
theorem dX3_putWhole_75 : decode cX3_putWhole 75 = .ok (.laload, 1) := by decide +kernel
theorem dX3_putWhole_76 : decode cX3_putWhole 76 = .ok (.lmul, 1) := by decide +kernel
theorem dX3_putWhole_77 : decode cX3_putWhole 77 = .ok (.ladd, 1) := by decide +kernel
theorem dX3_putWhole_78 : decode cX3_putWhole 78 = .ok (.lstore 5, 2) := by decide +kernel
theorem dX3_putWhole_80 : decode cX3_putWhole 80 = .ok (.lload 7, 2) := by decide +kernel
theorem dX3_putWhole_82 : decode cX3_putWhole 82 = .ok (.lload 10, 2) := by decide +kernel
theorem dX3_putWhole_84 : decode cX3_putWhole 84 = .ok (.aload_n 0, 1) := by decide +kernel
theorem dX3_putWhole_85 : decode cX3_putWhole 85 = .ok (.getfield 15, 3) := by decide +kernel
theorem dX3_putWhole_88 : decode cX3_putWhole 88 = .ok (.iload 9, 2) := by decide +kernel
theorem dX3_putWhole_90 : decode cX3_putWhole 90 = .ok (.laload, 1) := by decide +kernel
theorem dX3_putWhole_91 : decode cX3_putWhole 91 = .ok (.lmul, 1) := by decide +kernel
theorem dX3_putWhole_92 : decode cX3_putWhole 92 = .ok (.ladd, 1) := by decide +kernel
theorem dX3_putWhole_93 : decode cX3_putWhole 93 = .ok (.lstore 7, 2) := by decide +kernel
theorem dX3_putWhole_95 : decode cX3_putWhole 95 = .ok (.iinc 9 (-1), 3) := by decide +kernel
theorem dX3_putWhole_98 : decode cX3_putWhole 98 = .ok (.goto (-74), 3) := by decide +kernel
theorem dX3_putWhole_101 : decode cX3_putWhole 101 = .ok (.aload_n 1, 1) := by decide +kernel
theorem dX3_putWhole_102 : decode cX3_putWhole 102 = .ok (.lload 5, 2) := by decide +kernel
theorem dX3_putWhole_104 : decode cX3_putWhole 104 = .ok (.lload 7, 2) := by decide +kernel
theorem dX3_putWhole_106 : decode cX3_putWhole 106 = .ok (.lconst 1, 1) := by decide +kernel
theorem dX3_putWhole_107 : decode cX3_putWhole 107 = .ok (.invokevirtual 83, 3) := by decide +kernel
theorem dX3_putWhole_110 : decode cX3_putWhole 110 = .ok (.ireturn, 1) := by decide +kernel
theorem dX4_init_0 : decode cX4_init 0 = .ok (.aload_n 0, 1) := by decide +kernel
theorem dX4_init_1 : decode cX4_init 1 = .ok (.invokespecial 1, 3) := by decide +kernel
theorem dX4_init_4 : decode cX4_init 4 = .ok (.aload_n 0, 1) := by decide +kernel
theorem dX4_init_5 : decode cX4_init 5 = .ok (.sipush 441, 3) := by decide +kernel
theorem dX4_init_8 : decode cX4_init 8 = .ok (.newarray .int, 2) := by decide +kernel
theorem dX4_init_10 : decode cX4_init 10 = .ok (.putfield 9, 3) := by decide +kernel
theorem dX4_init_13 : decode cX4_init 13 = .ok (.aload_n 0, 1) := by decide +kernel
theorem dX4_init_14 : decode cX4_init 14 = .ok (.sipush 441, 3) := by decide +kernel
theorem dX4_init_17 : decode cX4_init 17 = .ok (.newarray .int, 2) := by decide +kernel
theorem dX4_init_19 : decode cX4_init 19 = .ok (.putfield 13, 3) := by decide +kernel
theorem dX4_init_22 : decode cX4_init 22 = .ok (.aload_n 0, 1) := by decide +kernel
theorem dX4_init_23 : decode cX4_init 23 = .ok (.sipush 441, 3) := by decide +kernel
theorem dX4_init_26 : decode cX4_init 26 = .ok (.newarray .int, 2) := by decide +kernel
theorem dX4_init_28 : decode cX4_init 28 = .ok (.putfield 16, 3) := by decide +kernel
theorem dX4_init_31 : decode cX4_init 31 = .ok (.return_, 1) := by decide +kernel
theorem dX4_include_0 : decode cX4_include 0 = .ok (.iconst 0, 1) := by decide +kernel
theorem dX4_include_1 : decode cX4_include 1 = .ok (.istore 4, 2) := by decide +kernel
theorem dX4_include_3 : decode cX4_include 3 = .ok (.iload 4, 2) := by decide +kernel
theorem dX4_include_5 : decode cX4_include 5 = .ok (.aload_n 0, 1) := by decide +kernel
theorem dX4_include_6 : decode cX4_include 6 = .ok (.getfield 19, 3) := by decide +kernel
theorem dX4_include_9 : decode cX4_include 9 = .ok (.if_icmp .ge 20, 3) := by decide +kernel
theorem dX4_include_12 : decode cX4_include 12 = .ok (.aload_n 0, 1) := by decide +kernel
theorem dX4_include_13 : decode cX4_include 13 = .ok (.iload 4, 2) := by decide +kernel
theorem dX4_include_15 : decode cX4_include 15 = .ok (.iload_n 2, 1) := by decide +kernel
theorem dX4_include_16 : decode cX4_include 16 = .ok (.iload_n 3, 1) := by decide +kernel
theorem dX4_include_17 : decode cX4_include 17 = .ok (.invokevirtual 23, 3) := by decide +kernel
theorem dX4_include_20 : decode cX4_include 20 = .ok (.ifCond .eq 9, 3) := by decide +kernel
theorem dX4_include_23 : decode cX4_include 23 = .ok (.iinc 4 1, 3) := by decide +kernel
theorem dX4_include_26 : decode cX4_include 26 = .ok (.goto (-23), 3) := by decide +kernel
theorem dX4_include_29 : decode cX4_include 29 = .ok (.iload 4, 2) := by decide +kernel
theorem dX4_include_31 : decode cX4_include 31 = .ok (.aload_n 0, 1) := by decide +kernel
theorem dX4_include_32 : decode cX4_include 32 = .ok (.getfield 19, 3) := by decide +kernel
theorem dX4_include_35 : decode cX4_include 35 = .ok (.if_icmp .ge 29, 3) := by decide +kernel
theorem dX4_include_38 : decode cX4_include 38 = .ok (.aload_n 0, 1) := by decide +kernel
theorem dX4_include_39 : decode cX4_include 39 = .ok (.getfield 13, 3) := by decide +kernel
theorem dX4_include_42 : decode cX4_include 42 = .ok (.iload 4, 2) := by decide +kernel
theorem dX4_include_44 : decode cX4_include 44 = .ok (.iaload, 1) := by decide +kernel
theorem dX4_include_45 : decode cX4_include 45 = .ok (.iload_n 2, 1) := by decide +kernel
theorem dX4_include_46 : decode cX4_include 46 = .ok (.if_icmp .ne 18, 3) := by decide +kernel
theorem dX4_include_49 : decode cX4_include 49 = .ok (.aload_n 0, 1) := by decide +kernel
theorem dX4_include_50 : decode cX4_include 50 = .ok (.getfield 16, 3) := by decide +kernel
theorem dX4_include_53 : decode cX4_include 53 = .ok (.iload 4, 2) := by decide +kernel
theorem dX4_include_55 : decode cX4_include 55 = .ok (.iaload, 1) := by decide +kernel
theorem dX4_include_56 : decode cX4_include 56 = .ok (.iload_n 3, 1) := by decide +kernel
theorem dX4_include_57 : decode cX4_include 57 = .ok (.if_icmp .ne 7, 3) := by decide +kernel
theorem dX4_include_60 : decode cX4_include 60 = .ok (.iconst 1, 1) := by decide +kernel
theorem dX4_include_61 : decode cX4_include 61 = .ok (.goto 4, 3) := by decide +kernel
theorem dX4_include_64 : decode cX4_include 64 = .ok (.iconst 0, 1) := by decide +kernel
theorem dX4_include_65 : decode cX4_include 65 = .ok (.istore 5, 2) := by decide +kernel
theorem dX4_include_67 : decode cX4_include 67 = .ok (.iload 5, 2) := by decide +kernel
theorem dX4_include_69 : decode cX4_include 69 = .ok (.ifCond .ne 13, 3) := by decide +kernel
theorem dX4_include_72 : decode cX4_include 72 = .ok (.aload_n 0, 1) := by decide +kernel
theorem dX4_include_73 : decode cX4_include 73 = .ok (.getfield 19, 3) := by decide +kernel
theorem dX4_include_76 : decode cX4_include 76 = .ok (.sipush 441, 3) := by decide +kernel
theorem dX4_include_79 : decode cX4_include 79 = .ok (.if_icmp .lt 4, 3) := by decide +kernel
theorem dX4_include_82 : decode cX4_include 82 = .ok (.return_, 1) := by decide +kernel
theorem dX4_include_83 : decode cX4_include 83 = .ok (.aload_n 0, 1) := by decide +kernel
theorem dX4_include_84 : decode cX4_include 84 = .ok (.getfield 19, 3) := by decide +kernel
theorem dX4_include_87 : decode cX4_include 87 = .ok (.istore 6, 2) := by decide +kernel
theorem dX4_include_89 : decode cX4_include 89 = .ok (.iload 6, 2) := by decide +kernel
theorem dX4_include_91 : decode cX4_include 91 = .ok (.iload 4, 2) := by decide +kernel
theorem dX4_include_93 : decode cX4_include 93 = .ok (.if_icmp .le 57, 3) := by decide +kernel
theorem dX4_include_96 : decode cX4_include 96 = .ok (.aload_n 0, 1) := by decide +kernel
theorem dX4_include_97 : decode cX4_include 97 = .ok (.getfield 9, 3) := by decide +kernel
theorem dX4_include_100 : decode cX4_include 100 = .ok (.iload 6, 2) := by decide +kernel
theorem dX4_include_102 : decode cX4_include 102 = .ok (.aload_n 0, 1) := by decide +kernel
theorem dX4_include_103 : decode cX4_include 103 = .ok (.getfield 9, 3) := by decide +kernel
theorem dX4_include_106 : decode cX4_include 106 = .ok (.iload 6, 2) := by decide +kernel
theorem dX4_include_108 : decode cX4_include 108 = .ok (.iconst 1, 1) := by decide +kernel
theorem dX4_include_109 : decode cX4_include 109 = .ok (.isub, 1) := by decide +kernel
theorem dX4_include_110 : decode cX4_include 110 = .ok (.iaload, 1) := by decide +kernel
theorem dX4_include_111 : decode cX4_include 111 = .ok (.iastore, 1) := by decide +kernel
theorem dX4_include_112 : decode cX4_include 112 = .ok (.aload_n 0, 1) := by decide +kernel
theorem dX4_include_113 : decode cX4_include 113 = .ok (.getfield 13, 3) := by decide +kernel
theorem dX4_include_116 : decode cX4_include 116 = .ok (.iload 6, 2) := by decide +kernel
theorem dX4_include_118 : decode cX4_include 118 = .ok (.aload_n 0, 1) := by decide +kernel
theorem dX4_include_119 : decode cX4_include 119 = .ok (.getfield 13, 3) := by decide +kernel
theorem dX4_include_122 : decode cX4_include 122 = .ok (.iload 6, 2) := by decide +kernel
theorem dX4_include_124 : decode cX4_include 124 = .ok (.iconst 1, 1) := by decide +kernel
theorem dX4_include_125 : decode cX4_include 125 = .ok (.isub, 1) := by decide +kernel
theorem dX4_include_126 : decode cX4_include 126 = .ok (.iaload, 1) := by decide +kernel
theorem dX4_include_127 : decode cX4_include 127 = .ok (.iastore, 1) := by decide +kernel
theorem dX4_include_128 : decode cX4_include 128 = .ok (.aload_n 0, 1) := by decide +kernel
theorem dX4_include_129 : decode cX4_include 129 = .ok (.getfield 16, 3) := by decide +kernel
theorem dX4_include_132 : decode cX4_include 132 = .ok (.iload 6, 2) := by decide +kernel
theorem dX4_include_134 : decode cX4_include 134 = .ok (.aload_n 0, 1) := by decide +kernel
theorem dX4_include_135 : decode cX4_include 135 = .ok (.getfield 16, 3) := by decide +kernel
theorem dX4_include_138 : decode cX4_include 138 = .ok (.iload 6, 2) := by decide +kernel
theorem dX4_include_140 : decode cX4_include 140 = .ok (.iconst 1, 1) := by decide +kernel
theorem dX4_include_141 : decode cX4_include 141 = .ok (.isub, 1) := by decide +kernel
theorem dX4_include_142 : decode cX4_include 142 = .ok (.iaload, 1) := by decide +kernel
theorem dX4_include_143 : decode cX4_include 143 = .ok (.iastore, 1) := by decide +kernel
theorem dX4_include_144 : decode cX4_include 144 = .ok (.iinc 6 (-1), 3) := by decide +kernel
theorem dX4_include_147 : decode cX4_include 147 = .ok (.goto (-58), 3) := by decide +kernel
theorem dX4_include_150 : decode cX4_include 150 = .ok (.aload_n 0, 1) := by decide +kernel
theorem dX4_include_151 : decode cX4_include 151 = .ok (.getfield 9, 3) := by decide +kernel
theorem dX4_include_154 : decode cX4_include 154 = .ok (.iload 4, 2) := by decide +kernel
theorem dX4_include_156 : decode cX4_include 156 = .ok (.iload_n 1, 1) := by decide +kernel
theorem dX4_include_157 : decode cX4_include 157 = .ok (.iastore, 1) := by decide +kernel
theorem dX4_include_158 : decode cX4_include 158 = .ok (.aload_n 0, 1) := by decide +kernel
theorem dX4_include_159 : decode cX4_include 159 = .ok (.getfield 13, 3) := by decide +kernel
theorem dX4_include_162 : decode cX4_include 162 = .ok (.iload 4, 2) := by decide +kernel
theorem dX4_include_164 : decode cX4_include 164 = .ok (.iload_n 2, 1) := by decide +kernel
theorem dX4_include_165 : decode cX4_include 165 = .ok (.iastore, 1) := by decide +kernel
theorem dX4_include_166 : decode cX4_include 166 = .ok (.aload_n 0, 1) := by decide +kernel
theorem dX4_include_167 : decode cX4_include 167 = .ok (.getfield 16, 3) := by decide +kernel
theorem dX4_include_170 : decode cX4_include 170 = .ok (.iload 4, 2) := by decide +kernel
theorem dX4_include_172 : decode cX4_include 172 = .ok (.iload_n 3, 1) := by decide +kernel
theorem dX4_include_173 : decode cX4_include 173 = .ok (.iastore, 1) := by decide +kernel
theorem dX4_include_174 : decode cX4_include 174 = .ok (.aload_n 0, 1) := by decide +kernel
theorem dX4_include_175 : decode cX4_include 175 = .ok (.dup, 1) := by decide +kernel
theorem dX4_include_176 : decode cX4_include 176 = .ok (.getfield 19, 3) := by decide +kernel
theorem dX4_include_179 : decode cX4_include 179 = .ok (.iconst 1, 1) := by decide +kernel
theorem dX4_include_180 : decode cX4_include 180 = .ok (.iadd, 1) := by decide +kernel
theorem dX4_include_181 : decode cX4_include 181 = .ok (.putfield 19, 3) := by decide +kernel
theorem dX4_include_184 : decode cX4_include 184 = .ok (.return_, 1) := by decide +kernel
theorem dX4_isLess_0 : decode cX4_isLess 0 = .ok (.aload_n 0, 1) := by decide +kernel
theorem dX4_isLess_1 : decode cX4_isLess 1 = .ok (.getfield 13, 3) := by decide +kernel
theorem dX4_isLess_4 : decode cX4_isLess 4 = .ok (.iload_n 1, 1) := by decide +kernel
theorem dX4_isLess_5 : decode cX4_isLess 5 = .ok (.iaload, 1) := by decide +kernel
theorem dX4_isLess_6 : decode cX4_isLess 6 = .ok (.iload_n 2, 1) := by decide +kernel
theorem dX4_isLess_7 : decode cX4_isLess 7 = .ok (.if_icmp .lt 23, 3) := by decide +kernel
theorem dX4_isLess_10 : decode cX4_isLess 10 = .ok (.aload_n 0, 1) := by decide +kernel
theorem dX4_isLess_11 : decode cX4_isLess 11 = .ok (.getfield 13, 3) := by decide +kernel
theorem dX4_isLess_14 : decode cX4_isLess 14 = .ok (.iload_n 1, 1) := by decide +kernel
theorem dX4_isLess_15 : decode cX4_isLess 15 = .ok (.iaload, 1) := by decide +kernel
theorem dX4_isLess_16 : decode cX4_isLess 16 = .ok (.iload_n 2, 1) := by decide +kernel
theorem dX4_isLess_17 : decode cX4_isLess 17 = .ok (.if_icmp .ne 17, 3) := by decide +kernel
theorem dX4_isLess_20 : decode cX4_isLess 20 = .ok (.aload_n 0, 1) := by decide +kernel
theorem dX4_isLess_21 : decode cX4_isLess 21 = .ok (.getfield 16, 3) := by decide +kernel
theorem dX4_isLess_24 : decode cX4_isLess 24 = .ok (.iload_n 1, 1) := by decide +kernel
theorem dX4_isLess_25 : decode cX4_isLess 25 = .ok (.iaload, 1) := by decide +kernel
theorem dX4_isLess_26 : decode cX4_isLess 26 = .ok (.iload_n 3, 1) := by decide +kernel
theorem dX4_isLess_27 : decode cX4_isLess 27 = .ok (.if_icmp .ge 7, 3) := by decide +kernel
theorem dX4_isLess_30 : decode cX4_isLess 30 = .ok (.iconst 1, 1) := by decide +kernel
theorem dX4_isLess_31 : decode cX4_isLess 31 = .ok (.goto 4, 3) := by decide +kernel
theorem dX4_isLess_34 : decode cX4_isLess 34 = .ok (.iconst 0, 1) := by decide +kernel
theorem dX4_isLess_35 : decode cX4_isLess 35 = .ok (.ireturn, 1) := by decide +kernel
theorem dX5_init_0 : decode cX5_init 0 = .ok (.aload_n 0, 1) := by decide +kernel
theorem dX5_init_1 : decode cX5_init 1 = .ok (.invokespecial 1, 3) := by decide +kernel
theorem dX5_init_4 : decode cX5_init 4 = .ok (.aload_n 0, 1) := by decide +kernel
theorem dX5_init_5 : decode cX5_init 5 = .ok (.new 7, 3) := by decide +kernel
theorem dX5_init_8 : decode cX5_init 8 = .ok (.dup, 1) := by decide +kernel
theorem dX5_init_9 : decode cX5_init 9 = .ok (.invokespecial 9, 3) := by decide +kernel
theorem dX5_init_12 : decode cX5_init 12 = .ok (.putfield 10, 3) := by decide +kernel
theorem dX5_init_15 : decode cX5_init 15 = .ok (.aload_n 0, 1) := by decide +kernel
theorem dX5_init_16 : decode cX5_init 16 = .ok (.new 7, 3) := by decide +kernel
theorem dX5_init_19 : decode cX5_init 19 = .ok (.dup, 1) := by decide +kernel
theorem dX5_init_20 : decode cX5_init 20 = .ok (.invokespecial 9, 3) := by decide +kernel
theorem dX5_init_23 : decode cX5_init 23 = .ok (.putfield 16, 3) := by decide +kernel
theorem dX5_init_26 : decode cX5_init 26 = .ok (.aload_n 0, 1) := by decide +kernel
theorem dX5_init_27 : decode cX5_init 27 = .ok (.new 7, 3) := by decide +kernel
theorem dX5_init_30 : decode cX5_init 30 = .ok (.dup, 1) := by decide +kernel
theorem dX5_init_31 : decode cX5_init 31 = .ok (.invokespecial 9, 3) := by decide +kernel
theorem dX5_init_34 : decode cX5_init 34 = .ok (.putfield 19, 3) := by decide +kernel
theorem dX5_init_37 : decode cX5_init 37 = .ok (.aload_n 0, 1) := by decide +kernel
theorem dX5_init_38 : decode cX5_init 38 = .ok (.new 7, 3) := by decide +kernel
theorem dX5_init_41 : decode cX5_init 41 = .ok (.dup, 1) := by decide +kernel
theorem dX5_init_42 : decode cX5_init 42 = .ok (.invokespecial 9, 3) := by decide +kernel
theorem dX5_init_45 : decode cX5_init 45 = .ok (.putfield 22, 3) := by decide +kernel
theorem dX5_init_48 : decode cX5_init 48 = .ok (.aload_n 0, 1) := by decide +kernel
theorem dX5_init_49 : decode cX5_init 49 = .ok (.new 7, 3) := by decide +kernel
theorem dX5_init_52 : decode cX5_init 52 = .ok (.dup, 1) := by decide +kernel
theorem dX5_init_53 : decode cX5_init 53 = .ok (.invokespecial 9, 3) := by decide +kernel
theorem dX5_init_56 : decode cX5_init 56 = .ok (.putfield 25, 3) := by decide +kernel
theorem dX5_init_59 : decode cX5_init 59 = .ok (.aload_n 0, 1) := by decide +kernel
theorem dX5_init_60 : decode cX5_init 60 = .ok (.new 7, 3) := by decide +kernel
theorem dX5_init_63 : decode cX5_init 63 = .ok (.dup, 1) := by decide +kernel
theorem dX5_init_64 : decode cX5_init 64 = .ok (.invokespecial 9, 3) := by decide +kernel
theorem dX5_init_67 : decode cX5_init 67 = .ok (.putfield 28, 3) := by decide +kernel
theorem dX5_init_70 : decode cX5_init 70 = .ok (.aload_n 0, 1) := by decide +kernel
theorem dX5_init_71 : decode cX5_init 71 = .ok (.new 31, 3) := by decide +kernel
theorem dX5_init_74 : decode cX5_init 74 = .ok (.dup, 1) := by decide +kernel
theorem dX5_init_75 : decode cX5_init 75 = .ok (.invokespecial 33, 3) := by decide +kernel
theorem dX5_init_78 : decode cX5_init 78 = .ok (.putfield 34, 3) := by decide +kernel
theorem dX5_init_81 : decode cX5_init 81 = .ok (.return_, 1) := by decide +kernel
theorem dX5_reckon_0 : decode cX5_reckon 0 = .ok (.aload_n 2, 1) := by decide +kernel
theorem dX5_reckon_1 : decode cX5_reckon 1 = .ok (.getfield 38, 3) := by decide +kernel
theorem dX5_reckon_4 : decode cX5_reckon 4 = .ok (.istore 5, 2) := by decide +kernel
theorem dX5_reckon_6 : decode cX5_reckon 6 = .ok (.aload_n 0, 1) := by decide +kernel
theorem dX5_reckon_7 : decode cX5_reckon 7 = .ok (.getfield 34, 3) := by decide +kernel
theorem dX5_reckon_10 : decode cX5_reckon 10 = .ok (.invokevirtual 44, 3) := by decide +kernel
theorem dX5_reckon_13 : decode cX5_reckon 13 = .ok (.aload_n 0, 1) := by decide +kernel
theorem dX5_reckon_14 : decode cX5_reckon 14 = .ok (.aload_n 1, 1) := by decide +kernel
theorem dX5_reckon_15 : decode cX5_reckon 15 = .ok (.aload_n 2, 1) := by decide +kernel
theorem dX5_reckon_16 : decode cX5_reckon 16 = .ok (.iload 5, 2) := by decide +kernel
theorem dX5_reckon_18 : decode cX5_reckon 18 = .ok (.iload_n 3, 1) := by decide +kernel
theorem dX5_reckon_19 : decode cX5_reckon 19 = .ok (.isub, 1) := by decide +kernel
theorem dX5_reckon_20 : decode cX5_reckon 20 = .ok (.iconst 1, 1) := by decide +kernel
theorem dX5_reckon_21 : decode cX5_reckon 21 = .ok (.isub, 1) := by decide +kernel
theorem dX5_reckon_22 : decode cX5_reckon 22 = .ok (.iload 5, 2) := by decide +kernel
theorem dX5_reckon_24 : decode cX5_reckon 24 = .ok (.iload_n 3, 1) := by decide +kernel
theorem dX5_reckon_25 : decode cX5_reckon 25 = .ok (.isub, 1) := by decide +kernel
theorem dX5_reckon_26 : decode cX5_reckon 26 = .ok (.invokevirtual 47, 3) := by decide +kernel
theorem dX5_reckon_29 : decode cX5_reckon 29 = .ok (.ifCond .eq 51, 3) := by decide +kernel
theorem dX5_reckon_32 : decode cX5_reckon 32 = .ok (.aload_n 0, 1) := by decide +kernel
theorem dX5_reckon_33 : decode cX5_reckon 33 = .ok (.aload_n 1, 1) := by decide +kernel
theorem dX5_reckon_34 : decode cX5_reckon 34 = .ok (.aload_n 2, 1) := by decide +kernel
theorem dX5_reckon_35 : decode cX5_reckon 35 = .ok (.iload 5, 2) := by decide +kernel
theorem dX5_reckon_37 : decode cX5_reckon 37 = .ok (.iload_n 3, 1) := by decide +kernel
theorem dX5_reckon_38 : decode cX5_reckon 38 = .ok (.isub, 1) := by decide +kernel
theorem dX5_reckon_39 : decode cX5_reckon 39 = .ok (.iload_n 3, 1) := by decide +kernel
theorem dX5_reckon_40 : decode cX5_reckon 40 = .ok (.iload 4, 2) := by decide +kernel
theorem dX5_reckon_42 : decode cX5_reckon 42 = .ok (.isub, 1) := by decide +kernel
theorem dX5_reckon_43 : decode cX5_reckon 43 = .ok (.invokevirtual 51, 3) := by decide +kernel
theorem dX5_reckon_46 : decode cX5_reckon 46 = .ok (.ifCond .eq 34, 3) := by decide +kernel
theorem dX5_reckon_49 : decode cX5_reckon 49 = .ok (.aload_n 0, 1) := by decide +kernel
theorem dX5_reckon_50 : decode cX5_reckon 50 = .ok (.getfield 16, 3) := by decide +kernel
theorem dX5_reckon_53 : decode cX5_reckon 53 = .ok (.aload_n 0, 1) := by decide +kernel
theorem dX5_reckon_54 : decode cX5_reckon 54 = .ok (.getfield 34, 3) := by decide +kernel
theorem dX5_reckon_57 : decode cX5_reckon 57 = .ok (.getfield 54, 3) := by decide +kernel
theorem dX5_reckon_60 : decode cX5_reckon 60 = .ok (.aload_n 0, 1) := by decide +kernel
theorem dX5_reckon_61 : decode cX5_reckon 61 = .ok (.getfield 34, 3) := by decide +kernel
theorem dX5_reckon_64 : decode cX5_reckon 64 = .ok (.getfield 58, 3) := by decide +kernel
theorem dX5_reckon_67 : decode cX5_reckon 67 = .ok (.aload_n 0, 1) := by decide +kernel
theorem dX5_reckon_68 : decode cX5_reckon 68 = .ok (.getfield 34, 3) := by decide +kernel
theorem dX5_reckon_71 : decode cX5_reckon 71 = .ok (.getfield 61, 3) := by decide +kernel
theorem dX5_reckon_74 : decode cX5_reckon 74 = .ok (.invokevirtual 64, 3) := by decide +kernel
theorem dX5_reckon_77 : decode cX5_reckon 77 = .ok (.ifCond .ne 5, 3) := by decide +kernel
theorem dX5_reckon_80 : decode cX5_reckon 80 = .ok (.iconst 0, 1) := by decide +kernel
theorem dX5_reckon_81 : decode cX5_reckon 81 = .ok (.ireturn, 1) := by decide +kernel
theorem dX5_reckon_82 : decode cX5_reckon 82 = .ok (.aload_n 0, 1) := by decide +kernel
theorem dX5_reckon_83 : decode cX5_reckon 83 = .ok (.getfield 19, 3) := by decide +kernel
theorem dX5_reckon_86 : decode cX5_reckon 86 = .ok (.aload_n 0, 1) := by decide +kernel
theorem dX5_reckon_87 : decode cX5_reckon 87 = .ok (.getfield 10, 3) := by decide +kernel
theorem dX5_reckon_90 : decode cX5_reckon 90 = .ok (.invokevirtual 68, 3) := by decide +kernel
theorem dX5_reckon_93 : decode cX5_reckon 93 = .ok (.ifCond .eq 40, 3) := by decide +kernel
theorem dX5_reckon_96 : decode cX5_reckon 96 = .ok (.iload 4, 2) := by decide +kernel
theorem dX5_reckon_98 : decode cX5_reckon 98 = .ok (.ifCond .ne 20, 3) := by decide +kernel
theorem dX5_reckon_101 : decode cX5_reckon 101 = .ok (.aload_n 0, 1) := by decide +kernel
theorem dX5_reckon_102 : decode cX5_reckon 102 = .ok (.getfield 28, 3) := by decide +kernel
theorem dX5_reckon_105 : decode cX5_reckon 105 = .ok (.aload_n 0, 1) := by decide +kernel
theorem dX5_reckon_106 : decode cX5_reckon 106 = .ok (.getfield 16, 3) := by decide +kernel
theorem dX5_reckon_109 : decode cX5_reckon 109 = .ok (.invokevirtual 68, 3) := by decide +kernel
theorem dX5_reckon_112 : decode cX5_reckon 112 = .ok (.ifCond .eq 21, 3) := by decide +kernel
theorem dX5_reckon_115 : decode cX5_reckon 115 = .ok (.goto 14, 3) := by decide +kernel
theorem dX5_reckon_118 : decode cX5_reckon 118 = .ok (.aload_n 0, 1) := by decide +kernel
theorem dX5_reckon_119 : decode cX5_reckon 119 = .ok (.aload_n 1, 1) := by decide +kernel
theorem dX5_reckon_120 : decode cX5_reckon 120 = .ok (.aload_n 2, 1) := by decide +kernel
theorem dX5_reckon_121 : decode cX5_reckon 121 = .ok (.iload 4, 2) := by decide +kernel
theorem dX5_reckon_123 : decode cX5_reckon 123 = .ok (.invokevirtual 72, 3) := by decide +kernel
theorem dX5_reckon_126 : decode cX5_reckon 126 = .ok (.ifCond .eq 7, 3) := by decide +kernel
theorem dX5_reckon_129 : decode cX5_reckon 129 = .ok (.iconst 1, 1) := by decide +kernel
theorem dX5_reckon_130 : decode cX5_reckon 130 = .ok (.goto 4, 3) := by decide +kernel
theorem dX5_reckon_133 : decode cX5_reckon 133 = .ok (.iconst 0, 1) := by decide +kernel
theorem dX5_reckon_134 : decode cX5_reckon 134 = .ok (.ireturn, 1) := by decide +kernel
theorem dX5_addRound_0 : decode cX5_addRound 0 = .ok (.aload_n 0, 1) := by decide +kernel
theorem dX5_addRound_1 : decode cX5_addRound 1 = .ok (.getfield 34, 3) := by decide +kernel
theorem dX5_addRound_4 : decode cX5_addRound 4 = .ok (.invokevirtual 44, 3) := by decide +kernel
theorem dX5_addRound_7 : decode cX5_addRound 7 = .ok (.aload_n 0, 1) := by decide +kernel
theorem dX5_addRound_8 : decode cX5_addRound 8 = .ok (.aload_n 1, 1) := by decide +kernel
theorem dX5_addRound_9 : decode cX5_addRound 9 = .ok (.aload_n 2, 1) := by decide +kernel
theorem dX5_addRound_10 : decode cX5_addRound 10 = .ok (.aload_n 2, 1) := by decide +kernel
theorem dX5_addRound_11 : decode cX5_addRound 11 = .ok (.getfield 38, 3) := by decide +kernel
theorem dX5_addRound_14 : decode cX5_addRound 14 = .ok (.iconst 1, 1) := by decide +kernel
theorem dX5_addRound_15 : decode cX5_addRound 15 = .ok (.isub, 1) := by decide +kernel
theorem dX5_addRound_16 : decode cX5_addRound 16 = .ok (.iload_n 3, 1) := by decide +kernel
theorem dX5_addRound_17 : decode cX5_addRound 17 = .ok (.invokevirtual 47, 3) := by decide +kernel
theorem dX5_addRound_20 : decode cX5_addRound 20 = .ok (.ifCond .eq 146, 3) := by decide +kernel
theorem dX5_addRound_23 : decode cX5_addRound 23 = .ok (.aload_n 0, 1) := by decide +kernel
theorem dX5_addRound_24 : decode cX5_addRound 24 = .ok (.getfield 22, 3) := by decide +kernel
theorem dX5_addRound_27 : decode cX5_addRound 27 = .ok (.aload_n 0, 1) := by decide +kernel
theorem dX5_addRound_28 : decode cX5_addRound 28 = .ok (.getfield 34, 3) := by decide +kernel
theorem dX5_addRound_31 : decode cX5_addRound 31 = .ok (.getfield 54, 3) := by decide +kernel
theorem dX5_addRound_34 : decode cX5_addRound 34 = .ok (.aload_n 0, 1) := by decide +kernel
theorem dX5_addRound_35 : decode cX5_addRound 35 = .ok (.getfield 34, 3) := by decide +kernel
theorem dX5_addRound_38 : decode cX5_addRound 38 = .ok (.getfield 58, 3) := by decide +kernel
theorem dX5_addRound_41 : decode cX5_addRound 41 = .ok (.aload_n 0, 1) := by decide +kernel
theorem dX5_addRound_42 : decode cX5_addRound 42 = .ok (.getfield 34, 3) := by decide +kernel
theorem dX5_addRound_45 : decode cX5_addRound 45 = .ok (.getfield 61, 3) := by decide +kernel
theorem dX5_addRound_48 : decode cX5_addRound 48 = .ok (.invokevirtual 64, 3) := by decide +kernel
theorem dX5_addRound_51 : decode cX5_addRound 51 = .ok (.ifCond .eq 115, 3) := by decide +kernel
theorem dX5_addRound_54 : decode cX5_addRound 54 = .ok (.aload_n 1, 1) := by decide +kernel
theorem dX5_addRound_55 : decode cX5_addRound 55 = .ok (.aload_n 0, 1) := by decide +kernel
theorem dX5_addRound_56 : decode cX5_addRound 56 = .ok (.getfield 10, 3) := by decide +kernel
theorem dX5_addRound_59 : decode cX5_addRound 59 = .ok (.invokevirtual 76, 3) := by decide +kernel
theorem dX5_addRound_62 : decode cX5_addRound 62 = .ok (.ifCond .eq 104, 3) := by decide +kernel
theorem dX5_addRound_65 : decode cX5_addRound 65 = .ok (.aload_n 0, 1) := by decide +kernel
theorem dX5_addRound_66 : decode cX5_addRound 66 = .ok (.getfield 25, 3) := by decide +kernel
theorem dX5_addRound_69 : decode cX5_addRound 69 = .ok (.aload_n 0, 1) := by decide +kernel
theorem dX5_addRound_70 : decode cX5_addRound 70 = .ok (.getfield 10, 3) := by decide +kernel
theorem dX5_addRound_73 : decode cX5_addRound 73 = .ok (.getfield 81, 3) := by decide +kernel
theorem dX5_addRound_76 : decode cX5_addRound 76 = .ok (.aload_n 0, 1) := by decide +kernel
theorem dX5_addRound_77 : decode cX5_addRound 77 = .ok (.getfield 10, 3) := by decide +kernel
theorem dX5_addRound_80 : decode cX5_addRound 80 = .ok (.getfield 82, 3) := by decide +kernel
theorem dX5_addRound_83 : decode cX5_addRound 83 = .ok (.lsub, 1) := by decide +kernel
theorem dX5_addRound_84 : decode cX5_addRound 84 = .ok (.aload_n 0, 1) := by decide +kernel
theorem dX5_addRound_85 : decode cX5_addRound 85 = .ok (.getfield 10, 3) := by decide +kernel
theorem dX5_addRound_88 : decode cX5_addRound 88 = .ok (.getfield 83, 3) := by decide +kernel
theorem dX5_addRound_91 : decode cX5_addRound 91 = .ok (.aload_n 0, 1) := by decide +kernel
theorem dX5_addRound_92 : decode cX5_addRound 92 = .ok (.getfield 10, 3) := by decide +kernel
theorem dX5_addRound_95 : decode cX5_addRound 95 = .ok (.getfield 82, 3) := by decide +kernel
theorem dX5_addRound_98 : decode cX5_addRound 98 = .ok (.invokevirtual 64, 3) := by decide +kernel
theorem dX5_addRound_101 : decode cX5_addRound 101 = .ok (.ifCond .eq 65, 3) := by decide +kernel
theorem dX5_addRound_104 : decode cX5_addRound 104 = .ok (.aload_n 1, 1) := by decide +kernel
theorem dX5_addRound_105 : decode cX5_addRound 105 = .ok (.aload_n 0, 1) := by decide +kernel
theorem dX5_addRound_106 : decode cX5_addRound 106 = .ok (.getfield 28, 3) := by decide +kernel
theorem dX5_addRound_109 : decode cX5_addRound 109 = .ok (.aload_n 0, 1) := by decide +kernel
theorem dX5_addRound_110 : decode cX5_addRound 110 = .ok (.getfield 22, 3) := by decide +kernel
theorem dX5_addRound_113 : decode cX5_addRound 113 = .ok (.aload_n 0, 1) := by decide +kernel
theorem dX5_addRound_114 : decode cX5_addRound 114 = .ok (.getfield 25, 3) := by decide +kernel
theorem dX5_addRound_117 : decode cX5_addRound 117 = .ok (.invokevirtual 84, 3) := by decide +kernel
theorem dX5_addRound_120 : decode cX5_addRound 120 = .ok (.ifCond .eq 46, 3) := by decide +kernel
theorem dX5_addRound_123 : decode cX5_addRound 123 = .ok (.aload_n 1, 1) := by decide +kernel
theorem dX5_addRound_124 : decode cX5_addRound 124 = .ok (.aload_n 0, 1) := by decide +kernel
theorem dX5_addRound_125 : decode cX5_addRound 125 = .ok (.getfield 28, 3) := by decide +kernel
theorem dX5_addRound_128 : decode cX5_addRound 128 = .ok (.aload_n 0, 1) := by decide +kernel
theorem dX5_addRound_129 : decode cX5_addRound 129 = .ok (.getfield 28, 3) := by decide +kernel
theorem dX5_addRound_132 : decode cX5_addRound 132 = .ok (.aload_n 0, 1) := by decide +kernel
theorem dX5_addRound_133 : decode cX5_addRound 133 = .ok (.getfield 19, 3) := by decide +kernel
theorem dX5_addRound_136 : decode cX5_addRound 136 = .ok (.invokevirtual 88, 3) := by decide +kernel
theorem dX5_addRound_139 : decode cX5_addRound 139 = .ok (.ifCond .eq 27, 3) := by decide +kernel
theorem dX5_addRound_142 : decode cX5_addRound 142 = .ok (.aload_n 1, 1) := by decide +kernel
theorem dX5_addRound_143 : decode cX5_addRound 143 = .ok (.aload_n 0, 1) := by decide +kernel
theorem dX5_addRound_144 : decode cX5_addRound 144 = .ok (.getfield 28, 3) := by decide +kernel
theorem dX5_addRound_147 : decode cX5_addRound 147 = .ok (.aload_n 0, 1) := by decide +kernel
theorem dX5_addRound_148 : decode cX5_addRound 148 = .ok (.getfield 28, 3) := by decide +kernel
theorem dX5_addRound_151 : decode cX5_addRound 151 = .ok (.aload_n 0, 1) := by decide +kernel
theorem dX5_addRound_152 : decode cX5_addRound 152 = .ok (.getfield 16, 3) := by decide +kernel
theorem dX5_addRound_155 : decode cX5_addRound 155 = .ok (.iconst 1, 1) := by decide +kernel
theorem dX5_addRound_156 : decode cX5_addRound 156 = .ok (.invokevirtual 91, 3) := by decide +kernel
theorem dX5_addRound_159 : decode cX5_addRound 159 = .ok (.ifCond .eq 7, 3) := by decide +kernel
theorem dX5_addRound_162 : decode cX5_addRound 162 = .ok (.iconst 1, 1) := by decide +kernel
theorem dX5_addRound_163 : decode cX5_addRound 163 = .ok (.goto 4, 3) := by decide +kernel
theorem dX5_addRound_166 : decode cX5_addRound 166 = .ok (.iconst 0, 1) := by decide +kernel
theorem dX5_addRound_167 : decode cX5_addRound 167 = .ok (.ireturn, 1) := by decide +kernel
theorem dX5_addUpward_0 : decode cX5_addUpward 0 = .ok (.aload_n 0, 1) := by decide +kernel
theorem dX5_addUpward_1 : decode cX5_addUpward 1 = .ok (.getfield 10, 3) := by decide +kernel
theorem dX5_addUpward_4 : decode cX5_addUpward 4 = .ok (.lconst 1, 1) := by decide +kernel
theorem dX5_addUpward_5 : decode cX5_addUpward 5 = .ok (.lconst 0, 1) := by decide +kernel
theorem dX5_addUpward_6 : decode cX5_addUpward 6 = .ok (.lconst 1, 1) := by decide +kernel
theorem dX5_addUpward_7 : decode cX5_addUpward 7 = .ok (.invokevirtual 64, 3) := by decide +kernel
theorem dX5_addUpward_10 : decode cX5_addUpward 10 = .ok (.pop, 1) := by decide +kernel
theorem dX5_addUpward_11 : decode cX5_addUpward 11 = .ok (.iconst 0, 1) := by decide +kernel
theorem dX5_addUpward_12 : decode cX5_addUpward 12 = .ok (.istore 5, 2) := by decide +kernel
theorem dX5_addUpward_14 : decode cX5_addUpward 14 = .ok (.iload 5, 2) := by decide +kernel
theorem dX5_addUpward_16 : decode cX5_addUpward 16 = .ok (.iload 4, 2) := by decide +kernel
theorem dX5_addUpward_18 : decode cX5_addUpward 18 = .ok (.if_icmp .ge 46, 3) := by decide +kernel
theorem dX5_addUpward_21 : decode cX5_addUpward 21 = .ok (.iload 5, 2) := by decide +kernel
theorem dX5_addUpward_23 : decode cX5_addUpward 23 = .ok (.ifCond .le 16, 3) := by decide +kernel
theorem dX5_addUpward_26 : decode cX5_addUpward 26 = .ok (.aload_n 1, 1) := by decide +kernel
theorem dX5_addUpward_27 : decode cX5_addUpward 27 = .ok (.aload_n 0, 1) := by decide +kernel
theorem dX5_addUpward_28 : decode cX5_addUpward 28 = .ok (.getfield 10, 3) := by decide +kernel
theorem dX5_addUpward_31 : decode cX5_addUpward 31 = .ok (.invokevirtual 76, 3) := by decide +kernel
theorem dX5_addUpward_34 : decode cX5_addUpward 34 = .ok (.ifCond .ne 5, 3) := by decide +kernel
theorem dX5_addUpward_37 : decode cX5_addUpward 37 = .ok (.iconst 0, 1) := by decide +kernel
theorem dX5_addUpward_38 : decode cX5_addUpward 38 = .ok (.ireturn, 1) := by decide +kernel
theorem dX5_addUpward_39 : decode cX5_addUpward 39 = .ok (.aload_n 0, 1) := by decide +kernel
theorem dX5_addUpward_40 : decode cX5_addUpward 40 = .ok (.getfield 34, 3) := by decide +kernel
theorem dX5_addUpward_43 : decode cX5_addUpward 43 = .ok (.aload_n 2, 1) := by decide +kernel
theorem dX5_addUpward_44 : decode cX5_addUpward 44 = .ok (.iload_n 3, 1) := by decide +kernel
theorem dX5_addUpward_45 : decode cX5_addUpward 45 = .ok (.iload 5, 2) := by decide +kernel
theorem dX5_addUpward_47 : decode cX5_addUpward 47 = .ok (.isub, 1) := by decide +kernel
theorem dX5_addUpward_48 : decode cX5_addUpward 48 = .ok (.invokevirtual 95, 3) := by decide +kernel
theorem dX5_addUpward_51 : decode cX5_addUpward 51 = .ok (.aload_n 0, 1) := by decide +kernel
theorem dX5_addUpward_52 : decode cX5_addUpward 52 = .ok (.getfield 10, 3) := by decide +kernel
theorem dX5_addUpward_55 : decode cX5_addUpward 55 = .ok (.invokevirtual 99, 3) := by decide +kernel
theorem dX5_addUpward_58 : decode cX5_addUpward 58 = .ok (.iinc 5 1, 3) := by decide +kernel
theorem dX5_addUpward_61 : decode cX5_addUpward 61 = .ok (.goto (-47), 3) := by decide +kernel
theorem dX5_addUpward_64 : decode cX5_addUpward 64 = .ok (.iconst 1, 1) := by decide +kernel
theorem dX5_addUpward_65 : decode cX5_addUpward 65 = .ok (.ireturn, 1) := by decide +kernel
theorem dX5_addDownward_0 : decode cX5_addDownward 0 = .ok (.aload_n 0, 1) := by decide +kernel
theorem dX5_addDownward_1 : decode cX5_addDownward 1 = .ok (.getfield 10, 3) := by decide +kernel
theorem dX5_addDownward_4 : decode cX5_addDownward 4 = .ok (.lconst 1, 1) := by decide +kernel
theorem dX5_addDownward_5 : decode cX5_addDownward 5 = .ok (.lconst 0, 1) := by decide +kernel
theorem dX5_addDownward_6 : decode cX5_addDownward 6 = .ok (.lconst 1, 1) := by decide +kernel
theorem dX5_addDownward_7 : decode cX5_addDownward 7 = .ok (.invokevirtual 64, 3) := by decide +kernel
theorem dX5_addDownward_10 : decode cX5_addDownward 10 = .ok (.pop, 1) := by decide +kernel
theorem dX5_addDownward_11 : decode cX5_addDownward 11 = .ok (.iconst 0, 1) := by decide +kernel
theorem dX5_addDownward_12 : decode cX5_addDownward 12 = .ok (.istore 5, 2) := by decide +kernel
theorem dX5_addDownward_14 : decode cX5_addDownward 14 = .ok (.iload 5, 2) := by decide +kernel
theorem dX5_addDownward_16 : decode cX5_addDownward 16 = .ok (.iload 4, 2) := by decide +kernel
theorem dX5_addDownward_18 : decode cX5_addDownward 18 = .ok (.if_icmp .ge 41, 3) := by decide +kernel
theorem dX5_addDownward_21 : decode cX5_addDownward 21 = .ok (.aload_n 1, 1) := by decide +kernel
theorem dX5_addDownward_22 : decode cX5_addDownward 22 = .ok (.aload_n 0, 1) := by decide +kernel
theorem dX5_addDownward_23 : decode cX5_addDownward 23 = .ok (.getfield 10, 3) := by decide +kernel
theorem dX5_addDownward_26 : decode cX5_addDownward 26 = .ok (.invokevirtual 103, 3) := by decide +kernel
theorem dX5_addDownward_29 : decode cX5_addDownward 29 = .ok (.ifCond .ne 5, 3) := by decide +kernel
theorem dX5_addDownward_32 : decode cX5_addDownward 32 = .ok (.iconst 0, 1) := by decide +kernel
theorem dX5_addDownward_33 : decode cX5_addDownward 33 = .ok (.ireturn, 1) := by decide +kernel
theorem dX5_addDownward_34 : decode cX5_addDownward 34 = .ok (.aload_n 0, 1) := by decide +kernel
theorem dX5_addDownward_35 : decode cX5_addDownward 35 = .ok (.getfield 34, 3) := by decide +kernel
theorem dX5_addDownward_38 : decode cX5_addDownward 38 = .ok (.aload_n 2, 1) := by decide +kernel
theorem dX5_addDownward_39 : decode cX5_addDownward 39 = .ok (.iload_n 3, 1) := by decide +kernel
theorem dX5_addDownward_40 : decode cX5_addDownward 40 = .ok (.iload 5, 2) := by decide +kernel
theorem dX5_addDownward_42 : decode cX5_addDownward 42 = .ok (.iadd, 1) := by decide +kernel
theorem dX5_addDownward_43 : decode cX5_addDownward 43 = .ok (.invokevirtual 95, 3) := by decide +kernel
theorem dX5_addDownward_46 : decode cX5_addDownward 46 = .ok (.aload_n 0, 1) := by decide +kernel
theorem dX5_addDownward_47 : decode cX5_addDownward 47 = .ok (.getfield 10, 3) := by decide +kernel
theorem dX5_addDownward_50 : decode cX5_addDownward 50 = .ok (.invokevirtual 99, 3) := by decide +kernel
theorem dX5_addDownward_53 : decode cX5_addDownward 53 = .ok (.iinc 5 1, 3) := by decide +kernel
theorem dX5_addDownward_56 : decode cX5_addDownward 56 = .ok (.goto (-42), 3) := by decide +kernel
theorem dX5_addDownward_59 : decode cX5_addDownward 59 = .ok (.iconst 1, 1) := by decide +kernel
theorem dX5_addDownward_60 : decode cX5_addDownward 60 = .ok (.ireturn, 1) := by decide +kernel
theorem dX6_init_0 : decode cX6_init 0 = .ok (.aload_n 0, 1) := by decide +kernel
theorem dX6_init_1 : decode cX6_init 1 = .ok (.invokespecial 1, 3) := by decide +kernel
theorem dX6_init_4 : decode cX6_init 4 = .ok (.aload_n 0, 1) := by decide +kernel
theorem dX6_init_5 : decode cX6_init 5 = .ok (.lconst 1, 1) := by decide +kernel
theorem dX6_init_6 : decode cX6_init 6 = .ok (.putfield 7, 3) := by decide +kernel
theorem dX6_init_9 : decode cX6_init 9 = .ok (.return_, 1) := by decide +kernel
theorem dX6_clear_0 : decode cX6_clear 0 = .ok (.aload_n 0, 1) := by decide +kernel
theorem dX6_clear_1 : decode cX6_clear 1 = .ok (.lconst 0, 1) := by decide +kernel
theorem dX6_clear_2 : decode cX6_clear 2 = .ok (.putfield 13, 3) := by decide +kernel
theorem dX6_clear_5 : decode cX6_clear 5 = .ok (.aload_n 0, 1) := by decide +kernel
theorem dX6_clear_6 : decode cX6_clear 6 = .ok (.lconst 0, 1) := by decide +kernel
theorem dX6_clear_7 : decode cX6_clear 7 = .ok (.putfield 16, 3) := by decide +kernel
theorem dX6_clear_10 : decode cX6_clear 10 = .ok (.aload_n 0, 1) := by decide +kernel
theorem dX6_clear_11 : decode cX6_clear 11 = .ok (.lconst 1, 1) := by decide +kernel
theorem dX6_clear_12 : decode cX6_clear 12 = .ok (.putfield 7, 3) := by decide +kernel
theorem dX6_clear_15 : decode cX6_clear 15 = .ok (.return_, 1) := by decide +kernel
theorem dX6_add_0 : decode cX6_add 0 = .ok (.aload_n 0, 1) := by decide +kernel
theorem dX6_add_1 : decode cX6_add 1 = .ok (.getfield 13, 3) := by decide +kernel
theorem dX6_add_4 : decode cX6_add 4 = .ok (.aload_n 2, 1) := by decide +kernel
theorem dX6_add_5 : decode cX6_add 5 = .ok (.getfield 19, 3) := by decide +kernel
theorem dX6_add_8 : decode cX6_add 8 = .ok (.lmul, 1) := by decide +kernel
theorem dX6_add_9 : decode cX6_add 9 = .ok (.iload_n 1, 1) := by decide +kernel
theorem dX6_add_10 : decode cX6_add 10 = .ok (.i2l, 1) := by decide +kernel
theorem dX6_add_11 : decode cX6_add 11 = .ok (.aload_n 2, 1) := by decide +kernel
theorem dX6_add_12 : decode cX6_add 12 = .ok (.getfield 22, 3) := by decide +kernel
theorem dX6_add_15 : decode cX6_add 15 = .ok (.lmul, 1) := by decide +kernel
theorem dX6_add_16 : decode cX6_add 16 = .ok (.aload_n 0, 1) := by decide +kernel
theorem dX6_add_17 : decode cX6_add 17 = .ok (.getfield 7, 3) := by decide +kernel
theorem dX6_add_20 : decode cX6_add 20 = .ok (.lmul, 1) := by decide +kernel
theorem dX6_add_21 : decode cX6_add 21 = .ok (.ladd, 1) := by decide +kernel
theorem dX6_add_22 : decode cX6_add 22 = .ok (.lstore_n 3, 1) := by decide +kernel
theorem dX6_add_23 : decode cX6_add 23 = .ok (.aload_n 0, 1) := by decide +kernel
theorem dX6_add_24 : decode cX6_add 24 = .ok (.getfield 16, 3) := by decide +kernel
theorem dX6_add_27 : decode cX6_add 27 = .ok (.aload_n 2, 1) := by decide +kernel
theorem dX6_add_28 : decode cX6_add 28 = .ok (.getfield 19, 3) := by decide +kernel
theorem dX6_add_31 : decode cX6_add 31 = .ok (.lmul, 1) := by decide +kernel
theorem dX6_add_32 : decode cX6_add 32 = .ok (.iload_n 1, 1) := by decide +kernel
theorem dX6_add_33 : decode cX6_add 33 = .ok (.i2l, 1) := by decide +kernel
theorem dX6_add_34 : decode cX6_add 34 = .ok (.aload_n 2, 1) := by decide +kernel
theorem dX6_add_35 : decode cX6_add 35 = .ok (.getfield 23, 3) := by decide +kernel
theorem dX6_add_38 : decode cX6_add 38 = .ok (.lmul, 1) := by decide +kernel
theorem dX6_add_39 : decode cX6_add 39 = .ok (.aload_n 0, 1) := by decide +kernel
theorem dX6_add_40 : decode cX6_add 40 = .ok (.getfield 7, 3) := by decide +kernel
theorem dX6_add_43 : decode cX6_add 43 = .ok (.lmul, 1) := by decide +kernel
theorem dX6_add_44 : decode cX6_add 44 = .ok (.ladd, 1) := by decide +kernel
theorem dX6_add_45 : decode cX6_add 45 = .ok (.lstore 5, 2) := by decide +kernel
theorem dX6_add_47 : decode cX6_add 47 = .ok (.aload_n 0, 1) := by decide +kernel
theorem dX6_add_48 : decode cX6_add 48 = .ok (.getfield 7, 3) := by decide +kernel
theorem dX6_add_51 : decode cX6_add 51 = .ok (.aload_n 2, 1) := by decide +kernel
theorem dX6_add_52 : decode cX6_add 52 = .ok (.getfield 19, 3) := by decide +kernel
theorem dX6_add_55 : decode cX6_add 55 = .ok (.lmul, 1) := by decide +kernel
theorem dX6_add_56 : decode cX6_add 56 = .ok (.lstore 7, 2) := by decide +kernel
theorem dX6_add_58 : decode cX6_add 58 = .ok (.lload_n 3, 1) := by decide +kernel
theorem dX6_add_59 : decode cX6_add 59 = .ok (.lload 5, 2) := by decide +kernel
theorem dX6_add_61 : decode cX6_add 61 = .ok (.invokestatic 24, 3) := by decide +kernel
theorem dX6_add_64 : decode cX6_add 64 = .ok (.lload 7, 2) := by decide +kernel
theorem dX6_add_66 : decode cX6_add 66 = .ok (.invokestatic 24, 3) := by decide +kernel
theorem dX6_add_69 : decode cX6_add 69 = .ok (.lstore 9, 2) := by decide +kernel
theorem dX6_add_71 : decode cX6_add 71 = .ok (.lload 9, 2) := by decide +kernel
theorem dX6_add_73 : decode cX6_add 73 = .ok (.lconst 0, 1) := by decide +kernel
theorem dX6_add_74 : decode cX6_add 74 = .ok (.lcmp, 1) := by decide +kernel
theorem dX6_add_75 : decode cX6_add 75 = .ok (.ifCond .le 29, 3) := by decide +kernel
theorem dX6_add_78 : decode cX6_add 78 = .ok (.aload_n 0, 1) := by decide +kernel
theorem dX6_add_79 : decode cX6_add 79 = .ok (.lload_n 3, 1) := by decide +kernel
theorem dX6_add_80 : decode cX6_add 80 = .ok (.lload 9, 2) := by decide +kernel
theorem dX6_add_82 : decode cX6_add 82 = .ok (.ldiv, 1) := by decide +kernel
theorem dX6_add_83 : decode cX6_add 83 = .ok (.putfield 13, 3) := by decide +kernel
theorem dX6_add_86 : decode cX6_add 86 = .ok (.aload_n 0, 1) := by decide +kernel
theorem dX6_add_87 : decode cX6_add 87 = .ok (.lload 5, 2) := by decide +kernel
theorem dX6_add_89 : decode cX6_add 89 = .ok (.lload 9, 2) := by decide +kernel
theorem dX6_add_91 : decode cX6_add 91 = .ok (.ldiv, 1) := by decide +kernel
theorem dX6_add_92 : decode cX6_add 92 = .ok (.putfield 16, 3) := by decide +kernel
theorem dX6_add_95 : decode cX6_add 95 = .ok (.aload_n 0, 1) := by decide +kernel
theorem dX6_add_96 : decode cX6_add 96 = .ok (.lload 7, 2) := by decide +kernel
theorem dX6_add_98 : decode cX6_add 98 = .ok (.lload 9, 2) := by decide +kernel
theorem dX6_add_100 : decode cX6_add 100 = .ok (.ldiv, 1) := by decide +kernel
theorem dX6_add_101 : decode cX6_add 101 = .ok (.putfield 7, 3) := by decide +kernel
theorem dX6_add_104 : decode cX6_add 104 = .ok (.return_, 1) := by decide +kernel
theorem dX7_init_0 : decode cX7_init 0 = .ok (.aload_n 0, 1) := by decide +kernel
theorem dX7_init_1 : decode cX7_init 1 = .ok (.invokespecial 1, 3) := by decide +kernel
theorem dX7_init_4 : decode cX7_init 4 = .ok (.aload_n 0, 1) := by decide +kernel
theorem dX7_init_5 : decode cX7_init 5 = .ok (.sipush 200, 3) := by decide +kernel
theorem dX7_init_8 : decode cX7_init 8 = .ok (.newarray .byte, 2) := by decide +kernel
theorem dX7_init_10 : decode cX7_init 10 = .ok (.putfield 9, 3) := by decide +kernel
theorem dX7_init_13 : decode cX7_init 13 = .ok (.return_, 1) := by decide +kernel
theorem dX7_hasRoomForFive_0 : decode cX7_hasRoomForFive 0 = .ok (.aload_n 0, 1) := by decide +kernel
theorem dX7_hasRoomForFive_1 : decode cX7_hasRoomForFive 1 = .ok (.getfield 13, 3) := by decide +kernel
theorem dX7_hasRoomForFive_4 : decode cX7_hasRoomForFive 4 = .ok (.bipush 20, 2) := by decide +kernel
theorem dX7_hasRoomForFive_6 : decode cX7_hasRoomForFive 6 = .ok (.iadd, 1) := by decide +kernel
theorem dX7_hasRoomForFive_7 : decode cX7_hasRoomForFive 7 = .ok (.sipush 200, 3) := by decide +kernel
theorem dX7_hasRoomForFive_10 : decode cX7_hasRoomForFive 10 = .ok (.if_icmp .gt 7, 3) := by decide +kernel
theorem dX7_hasRoomForFive_13 : decode cX7_hasRoomForFive 13 = .ok (.iconst 1, 1) := by decide +kernel
theorem dX7_hasRoomForFive_14 : decode cX7_hasRoomForFive 14 = .ok (.goto 4, 3) := by decide +kernel
theorem dX7_hasRoomForFive_17 : decode cX7_hasRoomForFive 17 = .ok (.iconst 0, 1) := by decide +kernel
theorem dX7_hasRoomForFive_18 : decode cX7_hasRoomForFive 18 = .ok (.ireturn, 1) := by decide +kernel
theorem dX7_append_0 : decode cX7_append 0 = .ok (.bipush 24, 2) := by decide +kernel
theorem dX7_append_2 : decode cX7_append 2 = .ok (.istore_n 2, 1) := by decide +kernel
theorem dX7_append_3 : decode cX7_append 3 = .ok (.iload_n 2, 1) := by decide +kernel
theorem dX7_append_4 : decode cX7_append 4 = .ok (.ifCond .lt 42, 3) := by decide +kernel
theorem dX7_append_7 : decode cX7_append 7 = .ok (.aload_n 0, 1) := by decide +kernel
theorem dX7_append_8 : decode cX7_append 8 = .ok (.getfield 13, 3) := by decide +kernel
theorem dX7_append_11 : decode cX7_append 11 = .ok (.sipush 200, 3) := by decide +kernel
theorem dX7_append_14 : decode cX7_append 14 = .ok (.if_icmp .ge 32, 3) := by decide +kernel
theorem dX7_append_17 : decode cX7_append 17 = .ok (.aload_n 0, 1) := by decide +kernel
theorem dX7_append_18 : decode cX7_append 18 = .ok (.getfield 9, 3) := by decide +kernel
theorem dX7_append_21 : decode cX7_append 21 = .ok (.aload_n 0, 1) := by decide +kernel
theorem dX7_append_22 : decode cX7_append 22 = .ok (.getfield 13, 3) := by decide +kernel
theorem dX7_append_25 : decode cX7_append 25 = .ok (.iload_n 1, 1) := by decide +kernel
theorem dX7_append_26 : decode cX7_append 26 = .ok (.iload_n 2, 1) := by decide +kernel
theorem dX7_append_27 : decode cX7_append 27 = .ok (.ishr, 1) := by decide +kernel
theorem dX7_append_28 : decode cX7_append 28 = .ok (.i2b, 1) := by decide +kernel
theorem dX7_append_29 : decode cX7_append 29 = .ok (.bastore, 1) := by decide +kernel
theorem dX7_append_30 : decode cX7_append 30 = .ok (.aload_n 0, 1) := by decide +kernel
theorem dX7_append_31 : decode cX7_append 31 = .ok (.dup, 1) := by decide +kernel
theorem dX7_append_32 : decode cX7_append 32 = .ok (.getfield 13, 3) := by decide +kernel
theorem dX7_append_35 : decode cX7_append 35 = .ok (.iconst 1, 1) := by decide +kernel
theorem dX7_append_36 : decode cX7_append 36 = .ok (.iadd, 1) := by decide +kernel
theorem dX7_append_37 : decode cX7_append 37 = .ok (.putfield 13, 3) := by decide +kernel
theorem dX7_append_40 : decode cX7_append 40 = .ok (.iinc 2 (-8), 3) := by decide +kernel
theorem dX7_append_43 : decode cX7_append 43 = .ok (.goto (-40), 3) := by decide +kernel
theorem dX7_append_46 : decode cX7_append 46 = .ok (.return_, 1) := by decide +kernel
theorem dX7_at_0 : decode cX7_at 0 = .ok (.iload_n 1, 1) := by decide +kernel
theorem dX7_at_1 : decode cX7_at 1 = .ok (.ifCond .lt 20, 3) := by decide +kernel
theorem dX7_at_4 : decode cX7_at 4 = .ok (.iload_n 1, 1) := by decide +kernel
theorem dX7_at_5 : decode cX7_at 5 = .ok (.aload_n 0, 1) := by decide +kernel
theorem dX7_at_6 : decode cX7_at 6 = .ok (.getfield 13, 3) := by decide +kernel
theorem dX7_at_9 : decode cX7_at 9 = .ok (.if_icmp .ge 12, 3) := by decide +kernel
theorem dX7_at_12 : decode cX7_at 12 = .ok (.aload_n 0, 1) := by decide +kernel
theorem dX7_at_13 : decode cX7_at 13 = .ok (.getfield 9, 3) := by decide +kernel
theorem dX7_at_16 : decode cX7_at 16 = .ok (.iload_n 1, 1) := by decide +kernel
theorem dX7_at_17 : decode cX7_at 17 = .ok (.baload, 1) := by decide +kernel
theorem dX7_at_18 : decode cX7_at 18 = .ok (.goto 4, 3) := by decide +kernel
theorem dX7_at_21 : decode cX7_at 21 = .ok (.iconst 0, 1) := by decide +kernel
theorem dX7_at_22 : decode cX7_at 22 = .ok (.ireturn, 1) := by decide +kernel
theorem dX7_hasNegative_0 : decode cX7_hasNegative 0 = .ok (.iconst 0, 1) := by decide +kernel
theorem dX7_hasNegative_1 : decode cX7_hasNegative 1 = .ok (.istore_n 1, 1) := by decide +kernel
theorem dX7_hasNegative_2 : decode cX7_hasNegative 2 = .ok (.iload_n 1, 1) := by decide +kernel
theorem dX7_hasNegative_3 : decode cX7_hasNegative 3 = .ok (.aload_n 0, 1) := by decide +kernel
theorem dX7_hasNegative_4 : decode cX7_hasNegative 4 = .ok (.getfield 13, 3) := by decide +kernel
theorem dX7_hasNegative_7 : decode cX7_hasNegative 7 = .ok (.if_icmp .ge 20, 3) := by decide +kernel
theorem dX7_hasNegative_10 : decode cX7_hasNegative 10 = .ok (.aload_n 0, 1) := by decide +kernel
theorem dX7_hasNegative_11 : decode cX7_hasNegative 11 = .ok (.getfield 9, 3) := by decide +kernel
theorem dX7_hasNegative_14 : decode cX7_hasNegative 14 = .ok (.iload_n 1, 1) := by decide +kernel
theorem dX7_hasNegative_15 : decode cX7_hasNegative 15 = .ok (.baload, 1) := by decide +kernel
theorem dX7_hasNegative_16 : decode cX7_hasNegative 16 = .ok (.ifCond .ge 5, 3) := by decide +kernel
theorem dX7_hasNegative_19 : decode cX7_hasNegative 19 = .ok (.iconst 1, 1) := by decide +kernel
theorem dX7_hasNegative_20 : decode cX7_hasNegative 20 = .ok (.ireturn, 1) := by decide +kernel
theorem dX7_hasNegative_21 : decode cX7_hasNegative 21 = .ok (.iinc 1 1, 3) := by decide +kernel
theorem dX7_hasNegative_24 : decode cX7_hasNegative 24 = .ok (.goto (-22), 3) := by decide +kernel
theorem dX7_hasNegative_27 : decode cX7_hasNegative 27 = .ok (.iconst 0, 1) := by decide +kernel
theorem dX7_hasNegative_28 : decode cX7_hasNegative 28 = .ok (.ireturn, 1) := by decide +kernel
theorem dX8_init_0 : decode cX8_init 0 = .ok (.aload_n 0, 1) := by decide +kernel
theorem dX8_init_1 : decode cX8_init 1 = .ok (.invokespecial 3, 3) := by decide +kernel
theorem dX8_init_4 : decode cX8_init 4 = .ok (.aload_n 0, 1) := by decide +kernel
theorem dX8_init_5 : decode cX8_init 5 = .ok (.bipush 48, 2) := by decide +kernel
theorem dX8_init_7 : decode cX8_init 7 = .ok (.newarray .int, 2) := by decide +kernel
theorem dX8_init_9 : decode cX8_init 9 = .ok (.putfield 11, 3) := by decide +kernel
theorem dX8_init_12 : decode cX8_init 12 = .ok (.aload_n 0, 1) := by decide +kernel
theorem dX8_init_13 : decode cX8_init 13 = .ok (.sipush 400, 3) := by decide +kernel
theorem dX8_init_16 : decode cX8_init 16 = .ok (.newarray .int, 2) := by decide +kernel
theorem dX8_init_18 : decode cX8_init 18 = .ok (.putfield 17, 3) := by decide +kernel
theorem dX8_init_21 : decode cX8_init 21 = .ok (.aload_n 0, 1) := by decide +kernel
theorem dX8_init_22 : decode cX8_init 22 = .ok (.iconst (-1), 1) := by decide +kernel
theorem dX8_init_23 : decode cX8_init 23 = .ok (.putfield 20, 3) := by decide +kernel
theorem dX8_init_26 : decode cX8_init 26 = .ok (.return_, 1) := by decide +kernel
theorem dX8_tell_0 : decode cX8_tell 0 = .ok (.aload_n 3, 1) := by decide +kernel
theorem dX8_tell_1 : decode cX8_tell 1 = .ok (.aload_n 2, 1) := by decide +kernel
theorem dX8_tell_2 : decode cX8_tell 2 = .ok (.invokevirtual 24, 3) := by decide +kernel
theorem dX8_tell_5 : decode cX8_tell 5 = .ok (.aload_n 0, 1) := by decide +kernel
theorem dX8_tell_6 : decode cX8_tell 6 = .ok (.aload_n 3, 1) := by decide +kernel
theorem dX8_tell_7 : decode cX8_tell 7 = .ok (.aload_n 1, 1) := by decide +kernel
theorem dX8_tell_8 : decode cX8_tell 8 = .ok (.invokevirtual 30, 3) := by decide +kernel
theorem dX8_tell_11 : decode cX8_tell 11 = .ok (.aload_n 0, 1) := by decide +kernel
theorem dX8_tell_12 : decode cX8_tell 12 = .ok (.getfield 11, 3) := by decide +kernel
theorem dX8_tell_15 : decode cX8_tell 15 = .ok (.arraylength, 1) := by decide +kernel
theorem dX8_tell_16 : decode cX8_tell 16 = .ok (.iconst 1, 1) := by decide +kernel
theorem dX8_tell_17 : decode cX8_tell 17 = .ok (.isub, 1) := by decide +kernel
theorem dX8_tell_18 : decode cX8_tell 18 = .ok (.invokestatic 34, 3) := by decide +kernel
theorem dX8_tell_21 : decode cX8_tell 21 = .ok (.putfield 40, 3) := by decide +kernel
theorem dX8_tell_24 : decode cX8_tell 24 = .ok (.aload_n 0, 1) := by decide +kernel
theorem dX8_tell_25 : decode cX8_tell 25 = .ok (.getfield 40, 3) := by decide +kernel
theorem dX8_tell_28 : decode cX8_tell 28 = .ok (.istore 5, 2) := by decide +kernel
theorem dX8_tell_30 : decode cX8_tell 30 = .ok (.iload 5, 2) := by decide +kernel
theorem dX8_tell_32 : decode cX8_tell 32 = .ok (.ifCond .lt 23, 3) := by decide +kernel
theorem dX8_tell_35 : decode cX8_tell 35 = .ok (.aload_n 0, 1) := by decide +kernel
theorem dX8_tell_36 : decode cX8_tell 36 = .ok (.getfield 11, 3) := by decide +kernel
theorem dX8_tell_39 : decode cX8_tell 39 = .ok (.iload 5, 2) := by decide +kernel
theorem dX8_tell_41 : decode cX8_tell 41 = .ok (.aload_n 3, 1) := by decide +kernel
theorem dX8_tell_42 : decode cX8_tell 42 = .ok (.aload_n 1, 1) := by decide +kernel
theorem dX8_tell_43 : decode cX8_tell 43 = .ok (.iload 5, 2) := by decide +kernel
theorem dX8_tell_45 : decode cX8_tell 45 = .ok (.invokevirtual 43, 3) := by decide +kernel
