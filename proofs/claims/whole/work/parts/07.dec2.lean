theorem dX12_common_14 : decode cX12_common 14 = .ok (.lload_n 2, 1) := by decide +kernel
theorem dX12_common_15 : decode cX12_common 15 = .ok (.lconst 0, 1) := by decide +kernel
theorem dX12_common_16 : decode cX12_common 16 = .ok (.lcmp, 1) := by decide +kernel
theorem dX12_common_17 : decode cX12_common 17 = .ok (.ifCond .ge 8, 3) := by decide +kernel
theorem dX12_common_20 : decode cX12_common 20 = .ok (.lload_n 2, 1) := by decide +kernel
theorem dX12_common_21 : decode cX12_common 21 = .ok (.lneg, 1) := by decide +kernel
theorem dX12_common_22 : decode cX12_common 22 = .ok (.goto 4, 3) := by decide +kernel
theorem dX12_common_25 : decode cX12_common 25 = .ok (.lload_n 2, 1) := by decide +kernel
theorem dX12_common_26 : decode cX12_common 26 = .ok (.lstore 6, 2) := by decide +kernel
theorem dX12_common_28 : decode cX12_common 28 = .ok (.lload 6, 2) := by decide +kernel
theorem dX12_common_30 : decode cX12_common 30 = .ok (.lconst 0, 1) := by decide +kernel
theorem dX12_common_31 : decode cX12_common 31 = .ok (.lcmp, 1) := by decide +kernel
theorem dX12_common_32 : decode cX12_common 32 = .ok (.ifCond .eq 21, 3) := by decide +kernel
theorem dX12_common_35 : decode cX12_common 35 = .ok (.lload 4, 2) := by decide +kernel
theorem dX12_common_37 : decode cX12_common 37 = .ok (.lload 6, 2) := by decide +kernel
theorem dX12_common_39 : decode cX12_common 39 = .ok (.lrem, 1) := by decide +kernel
theorem dX12_common_40 : decode cX12_common 40 = .ok (.lstore 8, 2) := by decide +kernel
theorem dX12_common_42 : decode cX12_common 42 = .ok (.lload 6, 2) := by decide +kernel
theorem dX12_common_44 : decode cX12_common 44 = .ok (.lstore 4, 2) := by decide +kernel
theorem dX12_common_46 : decode cX12_common 46 = .ok (.lload 8, 2) := by decide +kernel
theorem dX12_common_48 : decode cX12_common 48 = .ok (.lstore 6, 2) := by decide +kernel
theorem dX12_common_50 : decode cX12_common 50 = .ok (.goto (-22), 3) := by decide +kernel
theorem dX12_common_53 : decode cX12_common 53 = .ok (.lload 4, 2) := by decide +kernel
theorem dX12_common_55 : decode cX12_common 55 = .ok (.lreturn, 1) := by decide +kernel
theorem dX12_set_0 : decode cX12_set 0 = .ok (.lload_n 1, 1) := by decide +kernel
theorem dX12_set_1 : decode cX12_set 1 = .ok (.lload_n 3, 1) := by decide +kernel
theorem dX12_set_2 : decode cX12_set 2 = .ok (.invokestatic 127, 3) := by decide +kernel
theorem dX12_set_5 : decode cX12_set 5 = .ok (.lload 5, 2) := by decide +kernel
theorem dX12_set_7 : decode cX12_set 7 = .ok (.invokestatic 127, 3) := by decide +kernel
theorem dX12_set_10 : decode cX12_set 10 = .ok (.lstore 7, 2) := by decide +kernel
theorem dX12_set_12 : decode cX12_set 12 = .ok (.aload_n 0, 1) := by decide +kernel
theorem dX12_set_13 : decode cX12_set 13 = .ok (.lload_n 1, 1) := by decide +kernel
theorem dX12_set_14 : decode cX12_set 14 = .ok (.lload 7, 2) := by decide +kernel
theorem dX12_set_16 : decode cX12_set 16 = .ok (.ldiv, 1) := by decide +kernel
theorem dX12_set_17 : decode cX12_set 17 = .ok (.putfield 131, 3) := by decide +kernel
theorem dX12_set_20 : decode cX12_set 20 = .ok (.aload_n 0, 1) := by decide +kernel
theorem dX12_set_21 : decode cX12_set 21 = .ok (.lload_n 3, 1) := by decide +kernel
theorem dX12_set_22 : decode cX12_set 22 = .ok (.lload 7, 2) := by decide +kernel
theorem dX12_set_24 : decode cX12_set 24 = .ok (.ldiv, 1) := by decide +kernel
theorem dX12_set_25 : decode cX12_set 25 = .ok (.putfield 135, 3) := by decide +kernel
theorem dX12_set_28 : decode cX12_set 28 = .ok (.aload_n 0, 1) := by decide +kernel
theorem dX12_set_29 : decode cX12_set 29 = .ok (.lload 5, 2) := by decide +kernel
theorem dX12_set_31 : decode cX12_set 31 = .ok (.lload 7, 2) := by decide +kernel
theorem dX12_set_33 : decode cX12_set 33 = .ok (.ldiv, 1) := by decide +kernel
theorem dX12_set_34 : decode cX12_set 34 = .ok (.putfield 138, 3) := by decide +kernel
theorem dX12_set_37 : decode cX12_set 37 = .ok (.aload_n 0, 1) := by decide +kernel
theorem dX12_set_38 : decode cX12_set 38 = .ok (.getfield 138, 3) := by decide +kernel
theorem dX12_set_41 : decode cX12_set 41 = .ok (.lconst 0, 1) := by decide +kernel
theorem dX12_set_42 : decode cX12_set 42 = .ok (.lcmp, 1) := by decide +kernel
theorem dX12_set_43 : decode cX12_set 43 = .ok (.ifCond .ge 30, 3) := by decide +kernel
theorem dX12_set_46 : decode cX12_set 46 = .ok (.aload_n 0, 1) := by decide +kernel
theorem dX12_set_47 : decode cX12_set 47 = .ok (.aload_n 0, 1) := by decide +kernel
theorem dX12_set_48 : decode cX12_set 48 = .ok (.getfield 131, 3) := by decide +kernel
theorem dX12_set_51 : decode cX12_set 51 = .ok (.lneg, 1) := by decide +kernel
theorem dX12_set_52 : decode cX12_set 52 = .ok (.putfield 131, 3) := by decide +kernel
theorem dX12_set_55 : decode cX12_set 55 = .ok (.aload_n 0, 1) := by decide +kernel
theorem dX12_set_56 : decode cX12_set 56 = .ok (.aload_n 0, 1) := by decide +kernel
theorem dX12_set_57 : decode cX12_set 57 = .ok (.getfield 135, 3) := by decide +kernel
theorem dX12_set_60 : decode cX12_set 60 = .ok (.lneg, 1) := by decide +kernel
theorem dX12_set_61 : decode cX12_set 61 = .ok (.putfield 135, 3) := by decide +kernel
theorem dX12_set_64 : decode cX12_set 64 = .ok (.aload_n 0, 1) := by decide +kernel
theorem dX12_set_65 : decode cX12_set 65 = .ok (.aload_n 0, 1) := by decide +kernel
theorem dX12_set_66 : decode cX12_set 66 = .ok (.getfield 138, 3) := by decide +kernel
theorem dX12_set_69 : decode cX12_set 69 = .ok (.lneg, 1) := by decide +kernel
theorem dX12_set_70 : decode cX12_set 70 = .ok (.putfield 138, 3) := by decide +kernel
theorem dX12_set_73 : decode cX12_set 73 = .ok (.return_, 1) := by decide +kernel
theorem dX12_isNumber_0 : decode cX12_isNumber 0 = .ok (.aload_n 0, 1) := by decide +kernel
theorem dX12_isNumber_1 : decode cX12_isNumber 1 = .ok (.getfield 131, 3) := by decide +kernel
theorem dX12_isNumber_4 : decode cX12_isNumber 4 = .ok (.ldc2_w 141, 3) := by decide +kernel
theorem dX12_isNumber_7 : decode cX12_isNumber 7 = .ok (.lcmp, 1) := by decide +kernel
theorem dX12_isNumber_8 : decode cX12_isNumber 8 = .ok (.ifCond .lt 51, 3) := by decide +kernel
theorem dX12_isNumber_11 : decode cX12_isNumber 11 = .ok (.aload_n 0, 1) := by decide +kernel
theorem dX12_isNumber_12 : decode cX12_isNumber 12 = .ok (.getfield 131, 3) := by decide +kernel
theorem dX12_isNumber_15 : decode cX12_isNumber 15 = .ok (.ldc2_w 143, 3) := by decide +kernel
theorem dX12_isNumber_18 : decode cX12_isNumber 18 = .ok (.lcmp, 1) := by decide +kernel
theorem dX12_isNumber_19 : decode cX12_isNumber 19 = .ok (.ifCond .gt 40, 3) := by decide +kernel
theorem dX12_isNumber_22 : decode cX12_isNumber 22 = .ok (.aload_n 0, 1) := by decide +kernel
theorem dX12_isNumber_23 : decode cX12_isNumber 23 = .ok (.getfield 135, 3) := by decide +kernel
theorem dX12_isNumber_26 : decode cX12_isNumber 26 = .ok (.ldc2_w 141, 3) := by decide +kernel
theorem dX12_isNumber_29 : decode cX12_isNumber 29 = .ok (.lcmp, 1) := by decide +kernel
theorem dX12_isNumber_30 : decode cX12_isNumber 30 = .ok (.ifCond .lt 29, 3) := by decide +kernel
theorem dX12_isNumber_33 : decode cX12_isNumber 33 = .ok (.aload_n 0, 1) := by decide +kernel
theorem dX12_isNumber_34 : decode cX12_isNumber 34 = .ok (.getfield 135, 3) := by decide +kernel
theorem dX12_isNumber_37 : decode cX12_isNumber 37 = .ok (.ldc2_w 143, 3) := by decide +kernel
theorem dX12_isNumber_40 : decode cX12_isNumber 40 = .ok (.lcmp, 1) := by decide +kernel
theorem dX12_isNumber_41 : decode cX12_isNumber 41 = .ok (.ifCond .gt 18, 3) := by decide +kernel
theorem dX12_isNumber_44 : decode cX12_isNumber 44 = .ok (.aload_n 0, 1) := by decide +kernel
theorem dX12_isNumber_45 : decode cX12_isNumber 45 = .ok (.getfield 138, 3) := by decide +kernel
theorem dX12_isNumber_48 : decode cX12_isNumber 48 = .ok (.ldc2_w 145, 3) := by decide +kernel
theorem dX12_isNumber_51 : decode cX12_isNumber 51 = .ok (.lcmp, 1) := by decide +kernel
theorem dX12_isNumber_52 : decode cX12_isNumber 52 = .ok (.ifCond .gt 7, 3) := by decide +kernel
theorem dX12_isNumber_55 : decode cX12_isNumber 55 = .ok (.iconst 1, 1) := by decide +kernel
theorem dX12_isNumber_56 : decode cX12_isNumber 56 = .ok (.goto 4, 3) := by decide +kernel
theorem dX12_isNumber_59 : decode cX12_isNumber 59 = .ok (.iconst 0, 1) := by decide +kernel
theorem dX12_isNumber_60 : decode cX12_isNumber 60 = .ok (.ireturn, 1) := by decide +kernel
theorem dX12_put_0 : decode cX12_put 0 = .ok (.iload_n 1, 1) := by decide +kernel
theorem dX12_put_1 : decode cX12_put 1 = .ok (.ifCond .lt 16, 3) := by decide +kernel
theorem dX12_put_4 : decode cX12_put 4 = .ok (.iload_n 1, 1) := by decide +kernel
theorem dX12_put_5 : decode cX12_put 5 = .ok (.bipush 10, 2) := by decide +kernel
theorem dX12_put_7 : decode cX12_put 7 = .ok (.if_icmp .ge 10, 3) := by decide +kernel
theorem dX12_put_10 : decode cX12_put 10 = .ok (.aload_n 0, 1) := by decide +kernel
theorem dX12_put_11 : decode cX12_put 11 = .ok (.invokevirtual 147, 3) := by decide +kernel
theorem dX12_put_14 : decode cX12_put 14 = .ok (.ifCond .ne 5, 3) := by decide +kernel
theorem dX12_put_17 : decode cX12_put 17 = .ok (.iconst 0, 1) := by decide +kernel
theorem dX12_put_18 : decode cX12_put 18 = .ok (.ireturn, 1) := by decide +kernel
theorem dX12_put_19 : decode cX12_put 19 = .ok (.aload_n 0, 1) := by decide +kernel
theorem dX12_put_20 : decode cX12_put 20 = .ok (.getfield 23, 3) := by decide +kernel
theorem dX12_put_23 : decode cX12_put 23 = .ok (.iload_n 1, 1) := by decide +kernel
theorem dX12_put_24 : decode cX12_put 24 = .ok (.iconst 1, 1) := by decide +kernel
theorem dX12_put_25 : decode cX12_put 25 = .ok (.bastore, 1) := by decide +kernel
theorem dX12_put_26 : decode cX12_put 26 = .ok (.aload_n 0, 1) := by decide +kernel
theorem dX12_put_27 : decode cX12_put 27 = .ok (.getfield 27, 3) := by decide +kernel
theorem dX12_put_30 : decode cX12_put 30 = .ok (.iload_n 1, 1) := by decide +kernel
theorem dX12_put_31 : decode cX12_put 31 = .ok (.aload_n 0, 1) := by decide +kernel
theorem dX12_put_32 : decode cX12_put 32 = .ok (.getfield 131, 3) := by decide +kernel
theorem dX12_put_35 : decode cX12_put 35 = .ok (.l2i, 1) := by decide +kernel
theorem dX12_put_36 : decode cX12_put 36 = .ok (.iastore, 1) := by decide +kernel
theorem dX12_put_37 : decode cX12_put 37 = .ok (.aload_n 0, 1) := by decide +kernel
theorem dX12_put_38 : decode cX12_put 38 = .ok (.getfield 31, 3) := by decide +kernel
theorem dX12_put_41 : decode cX12_put 41 = .ok (.iload_n 1, 1) := by decide +kernel
theorem dX12_put_42 : decode cX12_put 42 = .ok (.aload_n 0, 1) := by decide +kernel
theorem dX12_put_43 : decode cX12_put 43 = .ok (.getfield 135, 3) := by decide +kernel
theorem dX12_put_46 : decode cX12_put 46 = .ok (.l2i, 1) := by decide +kernel
theorem dX12_put_47 : decode cX12_put 47 = .ok (.iastore, 1) := by decide +kernel
theorem dX12_put_48 : decode cX12_put 48 = .ok (.aload_n 0, 1) := by decide +kernel
theorem dX12_put_49 : decode cX12_put 49 = .ok (.getfield 34, 3) := by decide +kernel
theorem dX12_put_52 : decode cX12_put 52 = .ok (.iload_n 1, 1) := by decide +kernel
theorem dX12_put_53 : decode cX12_put 53 = .ok (.aload_n 0, 1) := by decide +kernel
theorem dX12_put_54 : decode cX12_put 54 = .ok (.getfield 138, 3) := by decide +kernel
theorem dX12_put_57 : decode cX12_put 57 = .ok (.l2i, 1) := by decide +kernel
theorem dX12_put_58 : decode cX12_put 58 = .ok (.iastore, 1) := by decide +kernel
theorem dX12_put_59 : decode cX12_put 59 = .ok (.iconst 1, 1) := by decide +kernel
theorem dX12_put_60 : decode cX12_put 60 = .ok (.ireturn, 1) := by decide +kernel
theorem dX12_number_0 : decode cX12_number 0 = .ok (.aload_n 0, 1) := by decide +kernel
theorem dX12_number_1 : decode cX12_number 1 = .ok (.iconst 0, 1) := by decide +kernel
theorem dX12_number_2 : decode cX12_number 2 = .ok (.putfield 107, 3) := by decide +kernel
theorem dX12_number_5 : decode cX12_number 5 = .ok (.iload 4, 2) := by decide +kernel
theorem dX12_number_7 : decode cX12_number 7 = .ok (.ifCond .gt 5, 3) := by decide +kernel
theorem dX12_number_10 : decode cX12_number 10 = .ok (.iconst 0, 1) := by decide +kernel
theorem dX12_number_11 : decode cX12_number 11 = .ok (.ireturn, 1) := by decide +kernel
theorem dX12_number_12 : decode cX12_number 12 = .ok (.aload_n 0, 1) := by decide +kernel
theorem dX12_number_13 : decode cX12_number 13 = .ok (.iload_n 2, 1) := by decide +kernel
theorem dX12_number_14 : decode cX12_number 14 = .ok (.i2l, 1) := by decide +kernel
theorem dX12_number_15 : decode cX12_number 15 = .ok (.iload_n 3, 1) := by decide +kernel
theorem dX12_number_16 : decode cX12_number 16 = .ok (.i2l, 1) := by decide +kernel
theorem dX12_number_17 : decode cX12_number 17 = .ok (.iload 4, 2) := by decide +kernel
theorem dX12_number_19 : decode cX12_number 19 = .ok (.i2l, 1) := by decide +kernel
theorem dX12_number_20 : decode cX12_number 20 = .ok (.invokevirtual 151, 3) := by decide +kernel
theorem dX12_number_23 : decode cX12_number 23 = .ok (.aload_n 0, 1) := by decide +kernel
theorem dX12_number_24 : decode cX12_number 24 = .ok (.iload_n 1, 1) := by decide +kernel
theorem dX12_number_25 : decode cX12_number 25 = .ok (.invokevirtual 155, 3) := by decide +kernel
theorem dX12_number_28 : decode cX12_number 28 = .ok (.ireturn, 1) := by decide +kernel
theorem dX12_isThere_0 : decode cX12_isThere 0 = .ok (.iload_n 1, 1) := by decide +kernel
theorem dX12_isThere_1 : decode cX12_isThere 1 = .ok (.ifCond .lt 22, 3) := by decide +kernel
theorem dX12_isThere_4 : decode cX12_isThere 4 = .ok (.iload_n 1, 1) := by decide +kernel
theorem dX12_isThere_5 : decode cX12_isThere 5 = .ok (.bipush 10, 2) := by decide +kernel
theorem dX12_isThere_7 : decode cX12_isThere 7 = .ok (.if_icmp .ge 16, 3) := by decide +kernel
theorem dX12_isThere_10 : decode cX12_isThere 10 = .ok (.aload_n 0, 1) := by decide +kernel
theorem dX12_isThere_11 : decode cX12_isThere 11 = .ok (.getfield 23, 3) := by decide +kernel
theorem dX12_isThere_14 : decode cX12_isThere 14 = .ok (.iload_n 1, 1) := by decide +kernel
theorem dX12_isThere_15 : decode cX12_isThere 15 = .ok (.baload, 1) := by decide +kernel
theorem dX12_isThere_16 : decode cX12_isThere 16 = .ok (.ifCond .eq 7, 3) := by decide +kernel
theorem dX12_isThere_19 : decode cX12_isThere 19 = .ok (.iconst 1, 1) := by decide +kernel
theorem dX12_isThere_20 : decode cX12_isThere 20 = .ok (.goto 4, 3) := by decide +kernel
theorem dX12_isThere_23 : decode cX12_isThere 23 = .ok (.iconst 0, 1) := by decide +kernel
theorem dX12_isThere_24 : decode cX12_isThere 24 = .ok (.ireturn, 1) := by decide +kernel
theorem dX12_times_0 : decode cX12_times 0 = .ok (.aload_n 0, 1) := by decide +kernel
theorem dX12_times_1 : decode cX12_times 1 = .ok (.aload_n 0, 1) := by decide +kernel
theorem dX12_times_2 : decode cX12_times 2 = .ok (.getfield 131, 3) := by decide +kernel
theorem dX12_times_5 : decode cX12_times 5 = .ok (.lload_n 1, 1) := by decide +kernel
theorem dX12_times_6 : decode cX12_times 6 = .ok (.lmul, 1) := by decide +kernel
theorem dX12_times_7 : decode cX12_times 7 = .ok (.aload_n 0, 1) := by decide +kernel
theorem dX12_times_8 : decode cX12_times 8 = .ok (.getfield 135, 3) := by decide +kernel
theorem dX12_times_11 : decode cX12_times 11 = .ok (.lload_n 3, 1) := by decide +kernel
theorem dX12_times_12 : decode cX12_times 12 = .ok (.lmul, 1) := by decide +kernel
theorem dX12_times_13 : decode cX12_times 13 = .ok (.aload_n 0, 1) := by decide +kernel
theorem dX12_times_14 : decode cX12_times 14 = .ok (.getfield 17, 3) := by decide +kernel
theorem dX12_times_17 : decode cX12_times 17 = .ok (.i2l, 1) := by decide +kernel
theorem dX12_times_18 : decode cX12_times 18 = .ok (.lmul, 1) := by decide +kernel
theorem dX12_times_19 : decode cX12_times 19 = .ok (.ladd, 1) := by decide +kernel
theorem dX12_times_20 : decode cX12_times 20 = .ok (.aload_n 0, 1) := by decide +kernel
theorem dX12_times_21 : decode cX12_times 21 = .ok (.getfield 131, 3) := by decide +kernel
theorem dX12_times_24 : decode cX12_times 24 = .ok (.lload_n 3, 1) := by decide +kernel
theorem dX12_times_25 : decode cX12_times 25 = .ok (.lmul, 1) := by decide +kernel
theorem dX12_times_26 : decode cX12_times 26 = .ok (.aload_n 0, 1) := by decide +kernel
theorem dX12_times_27 : decode cX12_times 27 = .ok (.getfield 135, 3) := by decide +kernel
theorem dX12_times_30 : decode cX12_times 30 = .ok (.lload_n 1, 1) := by decide +kernel
theorem dX12_times_31 : decode cX12_times 31 = .ok (.lmul, 1) := by decide +kernel
theorem dX12_times_32 : decode cX12_times 32 = .ok (.ladd, 1) := by decide +kernel
theorem dX12_times_33 : decode cX12_times 33 = .ok (.aload_n 0, 1) := by decide +kernel
theorem dX12_times_34 : decode cX12_times 34 = .ok (.getfield 135, 3) := by decide +kernel
theorem dX12_times_37 : decode cX12_times 37 = .ok (.lload_n 3, 1) := by decide +kernel
theorem dX12_times_38 : decode cX12_times 38 = .ok (.lmul, 1) := by decide +kernel
theorem dX12_times_39 : decode cX12_times 39 = .ok (.aload_n 0, 1) := by decide +kernel
theorem dX12_times_40 : decode cX12_times 40 = .ok (.getfield 13, 3) := by decide +kernel
theorem dX12_times_43 : decode cX12_times 43 = .ok (.i2l, 1) := by decide +kernel
theorem dX12_times_44 : decode cX12_times 44 = .ok (.lmul, 1) := by decide +kernel
theorem dX12_times_45 : decode cX12_times 45 = .ok (.ladd, 1) := by decide +kernel
theorem dX12_times_46 : decode cX12_times 46 = .ok (.aload_n 0, 1) := by decide +kernel
theorem dX12_times_47 : decode cX12_times 47 = .ok (.getfield 138, 3) := by decide +kernel
theorem dX12_times_50 : decode cX12_times 50 = .ok (.lload 5, 2) := by decide +kernel
theorem dX12_times_52 : decode cX12_times 52 = .ok (.lmul, 1) := by decide +kernel
theorem dX12_times_53 : decode cX12_times 53 = .ok (.invokevirtual 151, 3) := by decide +kernel
theorem dX12_times_56 : decode cX12_times 56 = .ok (.return_, 1) := by decide +kernel
theorem dX12_by_0 : decode cX12_by 0 = .ok (.lload_n 1, 1) := by decide +kernel
theorem dX12_by_1 : decode cX12_by 1 = .ok (.lload_n 1, 1) := by decide +kernel
theorem dX12_by_2 : decode cX12_by 2 = .ok (.lmul, 1) := by decide +kernel
theorem dX12_by_3 : decode cX12_by 3 = .ok (.aload_n 0, 1) := by decide +kernel
theorem dX12_by_4 : decode cX12_by 4 = .ok (.getfield 13, 3) := by decide +kernel
theorem dX12_by_7 : decode cX12_by 7 = .ok (.i2l, 1) := by decide +kernel
theorem dX12_by_8 : decode cX12_by 8 = .ok (.lload_n 1, 1) := by decide +kernel
theorem dX12_by_9 : decode cX12_by 9 = .ok (.lmul, 1) := by decide +kernel
theorem dX12_by_10 : decode cX12_by 10 = .ok (.lload_n 3, 1) := by decide +kernel
theorem dX12_by_11 : decode cX12_by 11 = .ok (.lmul, 1) := by decide +kernel
theorem dX12_by_12 : decode cX12_by 12 = .ok (.ladd, 1) := by decide +kernel
theorem dX12_by_13 : decode cX12_by 13 = .ok (.aload_n 0, 1) := by decide +kernel
theorem dX12_by_14 : decode cX12_by 14 = .ok (.getfield 17, 3) := by decide +kernel
theorem dX12_by_17 : decode cX12_by 17 = .ok (.i2l, 1) := by decide +kernel
theorem dX12_by_18 : decode cX12_by 18 = .ok (.lload_n 3, 1) := by decide +kernel
theorem dX12_by_19 : decode cX12_by 19 = .ok (.lmul, 1) := by decide +kernel
theorem dX12_by_20 : decode cX12_by 20 = .ok (.lload_n 3, 1) := by decide +kernel
theorem dX12_by_21 : decode cX12_by 21 = .ok (.lmul, 1) := by decide +kernel
theorem dX12_by_22 : decode cX12_by 22 = .ok (.lsub, 1) := by decide +kernel
theorem dX12_by_23 : decode cX12_by 23 = .ok (.lstore 7, 2) := by decide +kernel
theorem dX12_by_25 : decode cX12_by 25 = .ok (.lload_n 1, 1) := by decide +kernel
theorem dX12_by_26 : decode cX12_by 26 = .ok (.aload_n 0, 1) := by decide +kernel
theorem dX12_by_27 : decode cX12_by 27 = .ok (.getfield 13, 3) := by decide +kernel
theorem dX12_by_30 : decode cX12_by 30 = .ok (.i2l, 1) := by decide +kernel
theorem dX12_by_31 : decode cX12_by 31 = .ok (.lload_n 3, 1) := by decide +kernel
theorem dX12_by_32 : decode cX12_by 32 = .ok (.lmul, 1) := by decide +kernel
theorem dX12_by_33 : decode cX12_by 33 = .ok (.ladd, 1) := by decide +kernel
theorem dX12_by_34 : decode cX12_by 34 = .ok (.lload_n 3, 1) := by decide +kernel
theorem dX12_by_35 : decode cX12_by 35 = .ok (.invokestatic 127, 3) := by decide +kernel
theorem dX12_by_38 : decode cX12_by 38 = .ok (.lload 7, 2) := by decide +kernel
theorem dX12_by_40 : decode cX12_by 40 = .ok (.invokestatic 127, 3) := by decide +kernel
theorem dX12_by_43 : decode cX12_by 43 = .ok (.lstore 9, 2) := by decide +kernel
theorem dX12_by_45 : decode cX12_by 45 = .ok (.lload_n 1, 1) := by decide +kernel
theorem dX12_by_46 : decode cX12_by 46 = .ok (.aload_n 0, 1) := by decide +kernel
theorem dX12_by_47 : decode cX12_by 47 = .ok (.getfield 13, 3) := by decide +kernel
theorem dX12_by_50 : decode cX12_by 50 = .ok (.i2l, 1) := by decide +kernel
theorem dX12_by_51 : decode cX12_by 51 = .ok (.lload_n 3, 1) := by decide +kernel
theorem dX12_by_52 : decode cX12_by 52 = .ok (.lmul, 1) := by decide +kernel
theorem dX12_by_53 : decode cX12_by 53 = .ok (.ladd, 1) := by decide +kernel
theorem dX12_by_54 : decode cX12_by 54 = .ok (.lload 9, 2) := by decide +kernel
theorem dX12_by_56 : decode cX12_by 56 = .ok (.ldiv, 1) := by decide +kernel
theorem dX12_by_57 : decode cX12_by 57 = .ok (.lstore 11, 2) := by decide +kernel
theorem dX12_by_59 : decode cX12_by 59 = .ok (.lload_n 3, 1) := by decide +kernel
theorem dX12_by_60 : decode cX12_by 60 = .ok (.lneg, 1) := by decide +kernel
theorem dX12_by_61 : decode cX12_by 61 = .ok (.lload 9, 2) := by decide +kernel
theorem dX12_by_63 : decode cX12_by 63 = .ok (.ldiv, 1) := by decide +kernel
theorem dX12_by_64 : decode cX12_by 64 = .ok (.lstore 13, 2) := by decide +kernel
theorem dX12_by_66 : decode cX12_by 66 = .ok (.aload_n 0, 1) := by decide +kernel
theorem dX12_by_67 : decode cX12_by 67 = .ok (.lload 11, 2) := by decide +kernel
theorem dX12_by_69 : decode cX12_by 69 = .ok (.lload 5, 2) := by decide +kernel
theorem dX12_by_71 : decode cX12_by 71 = .ok (.lmul, 1) := by decide +kernel
theorem dX12_by_72 : decode cX12_by 72 = .ok (.lload 13, 2) := by decide +kernel
theorem dX12_by_74 : decode cX12_by 74 = .ok (.lload 5, 2) := by decide +kernel
theorem dX12_by_76 : decode cX12_by 76 = .ok (.lmul, 1) := by decide +kernel
theorem dX12_by_77 : decode cX12_by 77 = .ok (.lload 7, 2) := by decide +kernel
theorem dX12_by_79 : decode cX12_by 79 = .ok (.lload 9, 2) := by decide +kernel
theorem dX12_by_81 : decode cX12_by 81 = .ok (.ldiv, 1) := by decide +kernel
theorem dX12_by_82 : decode cX12_by 82 = .ok (.invokevirtual 158, 3) := by decide +kernel
theorem dX12_by_85 : decode cX12_by 85 = .ok (.return_, 1) := by decide +kernel
theorem dX12_plus_0 : decode cX12_plus 0 = .ok (.aload_n 0, 1) := by decide +kernel
theorem dX12_plus_1 : decode cX12_plus 1 = .ok (.aload_n 0, 1) := by decide +kernel
theorem dX12_plus_2 : decode cX12_plus 2 = .ok (.getfield 131, 3) := by decide +kernel
theorem dX12_plus_5 : decode cX12_plus 5 = .ok (.lload 5, 2) := by decide +kernel
theorem dX12_plus_7 : decode cX12_plus 7 = .ok (.lmul, 1) := by decide +kernel
theorem dX12_plus_8 : decode cX12_plus 8 = .ok (.lload_n 1, 1) := by decide +kernel
theorem dX12_plus_9 : decode cX12_plus 9 = .ok (.aload_n 0, 1) := by decide +kernel
theorem dX12_plus_10 : decode cX12_plus 10 = .ok (.getfield 138, 3) := by decide +kernel
theorem dX12_plus_13 : decode cX12_plus 13 = .ok (.lmul, 1) := by decide +kernel
theorem dX12_plus_14 : decode cX12_plus 14 = .ok (.ladd, 1) := by decide +kernel
theorem dX12_plus_15 : decode cX12_plus 15 = .ok (.aload_n 0, 1) := by decide +kernel
theorem dX12_plus_16 : decode cX12_plus 16 = .ok (.getfield 135, 3) := by decide +kernel
theorem dX12_plus_19 : decode cX12_plus 19 = .ok (.lload 5, 2) := by decide +kernel
theorem dX12_plus_21 : decode cX12_plus 21 = .ok (.lmul, 1) := by decide +kernel
theorem dX12_plus_22 : decode cX12_plus 22 = .ok (.lload_n 3, 1) := by decide +kernel
theorem dX12_plus_23 : decode cX12_plus 23 = .ok (.aload_n 0, 1) := by decide +kernel
theorem dX12_plus_24 : decode cX12_plus 24 = .ok (.getfield 138, 3) := by decide +kernel
theorem dX12_plus_27 : decode cX12_plus 27 = .ok (.lmul, 1) := by decide +kernel
theorem dX12_plus_28 : decode cX12_plus 28 = .ok (.ladd, 1) := by decide +kernel
theorem dX12_plus_29 : decode cX12_plus 29 = .ok (.aload_n 0, 1) := by decide +kernel
theorem dX12_plus_30 : decode cX12_plus 30 = .ok (.getfield 138, 3) := by decide +kernel
theorem dX12_plus_33 : decode cX12_plus 33 = .ok (.lload 5, 2) := by decide +kernel
theorem dX12_plus_35 : decode cX12_plus 35 = .ok (.lmul, 1) := by decide +kernel
theorem dX12_plus_36 : decode cX12_plus 36 = .ok (.invokevirtual 151, 3) := by decide +kernel
theorem dX12_plus_39 : decode cX12_plus 39 = .ok (.return_, 1) := by decide +kernel
theorem dX12_make_0 : decode cX12_make 0 = .ok (.aload_n 0, 1) := by decide +kernel
theorem dX12_make_1 : decode cX12_make 1 = .ok (.iconst 0, 1) := by decide +kernel
theorem dX12_make_2 : decode cX12_make 2 = .ok (.putfield 107, 3) := by decide +kernel
theorem dX12_make_5 : decode cX12_make 5 = .ok (.aload_n 0, 1) := by decide +kernel
theorem dX12_make_6 : decode cX12_make 6 = .ok (.iload_n 2, 1) := by decide +kernel
theorem dX12_make_7 : decode cX12_make 7 = .ok (.invokevirtual 161, 3) := by decide +kernel
theorem dX12_make_10 : decode cX12_make 10 = .ok (.ifCond .eq 46, 3) := by decide +kernel
theorem dX12_make_13 : decode cX12_make 13 = .ok (.aload_n 0, 1) := by decide +kernel
theorem dX12_make_14 : decode cX12_make 14 = .ok (.iload_n 3, 1) := by decide +kernel
theorem dX12_make_15 : decode cX12_make 15 = .ok (.invokevirtual 161, 3) := by decide +kernel
theorem dX12_make_18 : decode cX12_make 18 = .ok (.ifCond .eq 38, 3) := by decide +kernel
theorem dX12_make_21 : decode cX12_make 21 = .ok (.iload 4, 2) := by decide +kernel
theorem dX12_make_23 : decode cX12_make 23 = .ok (.ifCond .lt 33, 3) := by decide +kernel
theorem dX12_make_26 : decode cX12_make 26 = .ok (.iload 4, 2) := by decide +kernel
theorem dX12_make_28 : decode cX12_make 28 = .ok (.iconst 3, 1) := by decide +kernel
theorem dX12_make_29 : decode cX12_make 29 = .ok (.if_icmp .gt 27, 3) := by decide +kernel
theorem dX12_make_32 : decode cX12_make 32 = .ok (.iload 4, 2) := by decide +kernel
theorem dX12_make_34 : decode cX12_make 34 = .ok (.iconst 3, 1) := by decide +kernel
theorem dX12_make_35 : decode cX12_make 35 = .ok (.if_icmp .ne 23, 3) := by decide +kernel
theorem dX12_make_38 : decode cX12_make 38 = .ok (.aload_n 0, 1) := by decide +kernel
theorem dX12_make_39 : decode cX12_make 39 = .ok (.getfield 27, 3) := by decide +kernel
theorem dX12_make_42 : decode cX12_make 42 = .ok (.iload_n 3, 1) := by decide +kernel
theorem dX12_make_43 : decode cX12_make 43 = .ok (.iaload, 1) := by decide +kernel
theorem dX12_make_44 : decode cX12_make 44 = .ok (.ifCond .ne 14, 3) := by decide +kernel
theorem dX12_make_47 : decode cX12_make 47 = .ok (.aload_n 0, 1) := by decide +kernel
theorem dX12_make_48 : decode cX12_make 48 = .ok (.getfield 31, 3) := by decide +kernel
theorem dX12_make_51 : decode cX12_make 51 = .ok (.iload_n 3, 1) := by decide +kernel
theorem dX12_make_52 : decode cX12_make 52 = .ok (.iaload, 1) := by decide +kernel
theorem dX12_make_53 : decode cX12_make 53 = .ok (.ifCond .ne 5, 3) := by decide +kernel
theorem dX12_make_56 : decode cX12_make 56 = .ok (.iconst 0, 1) := by decide +kernel
theorem dX12_make_57 : decode cX12_make 57 = .ok (.ireturn, 1) := by decide +kernel
theorem dX12_make_58 : decode cX12_make 58 = .ok (.aload_n 0, 1) := by decide +kernel
theorem dX12_make_59 : decode cX12_make 59 = .ok (.aload_n 0, 1) := by decide +kernel
theorem dX12_make_60 : decode cX12_make 60 = .ok (.getfield 27, 3) := by decide +kernel
theorem dX12_make_63 : decode cX12_make 63 = .ok (.iload_n 2, 1) := by decide +kernel
theorem dX12_make_64 : decode cX12_make 64 = .ok (.iaload, 1) := by decide +kernel
theorem dX12_make_65 : decode cX12_make 65 = .ok (.i2l, 1) := by decide +kernel
theorem dX12_make_66 : decode cX12_make 66 = .ok (.aload_n 0, 1) := by decide +kernel
theorem dX12_make_67 : decode cX12_make 67 = .ok (.getfield 31, 3) := by decide +kernel
theorem dX12_make_70 : decode cX12_make 70 = .ok (.iload_n 2, 1) := by decide +kernel
theorem dX12_make_71 : decode cX12_make 71 = .ok (.iaload, 1) := by decide +kernel
theorem dX12_make_72 : decode cX12_make 72 = .ok (.i2l, 1) := by decide +kernel
theorem dX12_make_73 : decode cX12_make 73 = .ok (.aload_n 0, 1) := by decide +kernel
theorem dX12_make_74 : decode cX12_make 74 = .ok (.getfield 34, 3) := by decide +kernel
theorem dX12_make_77 : decode cX12_make 77 = .ok (.iload_n 2, 1) := by decide +kernel
theorem dX12_make_78 : decode cX12_make 78 = .ok (.iaload, 1) := by decide +kernel
theorem dX12_make_79 : decode cX12_make 79 = .ok (.i2l, 1) := by decide +kernel
theorem dX12_make_80 : decode cX12_make 80 = .ok (.invokevirtual 151, 3) := by decide +kernel
theorem dX12_make_83 : decode cX12_make 83 = .ok (.iload 4, 2) := by decide +kernel
theorem dX12_make_85 : decode cX12_make 85 = .ok (.ifCond .ne 31, 3) := by decide +kernel
theorem dX12_make_88 : decode cX12_make 88 = .ok (.aload_n 0, 1) := by decide +kernel
theorem dX12_make_89 : decode cX12_make 89 = .ok (.aload_n 0, 1) := by decide +kernel
theorem dX12_make_90 : decode cX12_make 90 = .ok (.getfield 27, 3) := by decide +kernel
theorem dX12_make_93 : decode cX12_make 93 = .ok (.iload_n 3, 1) := by decide +kernel
theorem dX12_make_94 : decode cX12_make 94 = .ok (.iaload, 1) := by decide +kernel
theorem dX12_make_95 : decode cX12_make 95 = .ok (.i2l, 1) := by decide +kernel
theorem dX12_make_96 : decode cX12_make 96 = .ok (.aload_n 0, 1) := by decide +kernel
theorem dX12_make_97 : decode cX12_make 97 = .ok (.getfield 31, 3) := by decide +kernel
theorem dX12_make_100 : decode cX12_make 100 = .ok (.iload_n 3, 1) := by decide +kernel
theorem dX12_make_101 : decode cX12_make 101 = .ok (.iaload, 1) := by decide +kernel
theorem dX12_make_102 : decode cX12_make 102 = .ok (.i2l, 1) := by decide +kernel
theorem dX12_make_103 : decode cX12_make 103 = .ok (.aload_n 0, 1) := by decide +kernel
theorem dX12_make_104 : decode cX12_make 104 = .ok (.getfield 34, 3) := by decide +kernel
theorem dX12_make_107 : decode cX12_make 107 = .ok (.iload_n 3, 1) := by decide +kernel
theorem dX12_make_108 : decode cX12_make 108 = .ok (.iaload, 1) := by decide +kernel
theorem dX12_make_109 : decode cX12_make 109 = .ok (.i2l, 1) := by decide +kernel
theorem dX12_make_110 : decode cX12_make 110 = .ok (.invokevirtual 164, 3) := by decide +kernel
theorem dX12_make_113 : decode cX12_make 113 = .ok (.goto 98, 3) := by decide +kernel
theorem dX12_make_116 : decode cX12_make 116 = .ok (.iload 4, 2) := by decide +kernel
theorem dX12_make_118 : decode cX12_make 118 = .ok (.iconst 1, 1) := by decide +kernel
theorem dX12_make_119 : decode cX12_make 119 = .ok (.if_icmp .ne 33, 3) := by decide +kernel
theorem dX12_make_122 : decode cX12_make 122 = .ok (.aload_n 0, 1) := by decide +kernel
theorem dX12_make_123 : decode cX12_make 123 = .ok (.aload_n 0, 1) := by decide +kernel
theorem dX12_make_124 : decode cX12_make 124 = .ok (.getfield 27, 3) := by decide +kernel
theorem dX12_make_127 : decode cX12_make 127 = .ok (.iload_n 3, 1) := by decide +kernel
theorem dX12_make_128 : decode cX12_make 128 = .ok (.iaload, 1) := by decide +kernel
theorem dX12_make_129 : decode cX12_make 129 = .ok (.ineg, 1) := by decide +kernel
theorem dX12_make_130 : decode cX12_make 130 = .ok (.i2l, 1) := by decide +kernel
theorem dX12_make_131 : decode cX12_make 131 = .ok (.aload_n 0, 1) := by decide +kernel
theorem dX12_make_132 : decode cX12_make 132 = .ok (.getfield 31, 3) := by decide +kernel
theorem dX12_make_135 : decode cX12_make 135 = .ok (.iload_n 3, 1) := by decide +kernel
theorem dX12_make_136 : decode cX12_make 136 = .ok (.iaload, 1) := by decide +kernel
theorem dX12_make_137 : decode cX12_make 137 = .ok (.ineg, 1) := by decide +kernel
theorem dX12_make_138 : decode cX12_make 138 = .ok (.i2l, 1) := by decide +kernel
theorem dX12_make_139 : decode cX12_make 139 = .ok (.aload_n 0, 1) := by decide +kernel
theorem dX12_make_140 : decode cX12_make 140 = .ok (.getfield 34, 3) := by decide +kernel
theorem dX12_make_143 : decode cX12_make 143 = .ok (.iload_n 3, 1) := by decide +kernel
theorem dX12_make_144 : decode cX12_make 144 = .ok (.iaload, 1) := by decide +kernel
theorem dX12_make_145 : decode cX12_make 145 = .ok (.i2l, 1) := by decide +kernel
theorem dX12_make_146 : decode cX12_make 146 = .ok (.invokevirtual 164, 3) := by decide +kernel
theorem dX12_make_149 : decode cX12_make 149 = .ok (.goto 62, 3) := by decide +kernel
theorem dX12_make_152 : decode cX12_make 152 = .ok (.iload 4, 2) := by decide +kernel
theorem dX12_make_154 : decode cX12_make 154 = .ok (.iconst 2, 1) := by decide +kernel
theorem dX12_make_155 : decode cX12_make 155 = .ok (.if_icmp .ne 31, 3) := by decide +kernel
theorem dX12_make_158 : decode cX12_make 158 = .ok (.aload_n 0, 1) := by decide +kernel
theorem dX12_make_159 : decode cX12_make 159 = .ok (.aload_n 0, 1) := by decide +kernel
theorem dX12_make_160 : decode cX12_make 160 = .ok (.getfield 27, 3) := by decide +kernel
theorem dX12_make_163 : decode cX12_make 163 = .ok (.iload_n 3, 1) := by decide +kernel
theorem dX12_make_164 : decode cX12_make 164 = .ok (.iaload, 1) := by decide +kernel
theorem dX12_make_165 : decode cX12_make 165 = .ok (.i2l, 1) := by decide +kernel
theorem dX12_make_166 : decode cX12_make 166 = .ok (.aload_n 0, 1) := by decide +kernel
theorem dX12_make_167 : decode cX12_make 167 = .ok (.getfield 31, 3) := by decide +kernel
theorem dX12_make_170 : decode cX12_make 170 = .ok (.iload_n 3, 1) := by decide +kernel
theorem dX12_make_171 : decode cX12_make 171 = .ok (.iaload, 1) := by decide +kernel
theorem dX12_make_172 : decode cX12_make 172 = .ok (.i2l, 1) := by decide +kernel
theorem dX12_make_173 : decode cX12_make 173 = .ok (.aload_n 0, 1) := by decide +kernel
theorem dX12_make_174 : decode cX12_make 174 = .ok (.getfield 34, 3) := by decide +kernel
theorem dX12_make_177 : decode cX12_make 177 = .ok (.iload_n 3, 1) := by decide +kernel
theorem dX12_make_178 : decode cX12_make 178 = .ok (.iaload, 1) := by decide +kernel
theorem dX12_make_179 : decode cX12_make 179 = .ok (.i2l, 1) := by decide +kernel
theorem dX12_make_180 : decode cX12_make 180 = .ok (.invokevirtual 158, 3) := by decide +kernel
theorem dX12_make_183 : decode cX12_make 183 = .ok (.goto 28, 3) := by decide +kernel
theorem dX12_make_186 : decode cX12_make 186 = .ok (.aload_n 0, 1) := by decide +kernel
theorem dX12_make_187 : decode cX12_make 187 = .ok (.aload_n 0, 1) := by decide +kernel
theorem dX12_make_188 : decode cX12_make 188 = .ok (.getfield 27, 3) := by decide +kernel
theorem dX12_make_191 : decode cX12_make 191 = .ok (.iload_n 3, 1) := by decide +kernel
theorem dX12_make_192 : decode cX12_make 192 = .ok (.iaload, 1) := by decide +kernel
theorem dX12_make_193 : decode cX12_make 193 = .ok (.i2l, 1) := by decide +kernel
theorem dX12_make_194 : decode cX12_make 194 = .ok (.aload_n 0, 1) := by decide +kernel
theorem dX12_make_195 : decode cX12_make 195 = .ok (.getfield 31, 3) := by decide +kernel
theorem dX12_make_198 : decode cX12_make 198 = .ok (.iload_n 3, 1) := by decide +kernel
theorem dX12_make_199 : decode cX12_make 199 = .ok (.iaload, 1) := by decide +kernel
theorem dX12_make_200 : decode cX12_make 200 = .ok (.i2l, 1) := by decide +kernel
theorem dX12_make_201 : decode cX12_make 201 = .ok (.aload_n 0, 1) := by decide +kernel
theorem dX12_make_202 : decode cX12_make 202 = .ok (.getfield 34, 3) := by decide +kernel
theorem dX12_make_205 : decode cX12_make 205 = .ok (.iload_n 3, 1) := by decide +kernel
theorem dX12_make_206 : decode cX12_make 206 = .ok (.iaload, 1) := by decide +kernel
theorem dX12_make_207 : decode cX12_make 207 = .ok (.i2l, 1) := by decide +kernel
theorem dX12_make_208 : decode cX12_make 208 = .ok (.invokevirtual 167, 3) := by decide +kernel
theorem dX12_make_211 : decode cX12_make 211 = .ok (.aload_n 0, 1) := by decide +kernel
theorem dX12_make_212 : decode cX12_make 212 = .ok (.iload_n 1, 1) := by decide +kernel
theorem dX12_make_213 : decode cX12_make 213 = .ok (.invokevirtual 155, 3) := by decide +kernel
theorem dX12_make_216 : decode cX12_make 216 = .ok (.ireturn, 1) := by decide +kernel
theorem dX12_part_0 : decode cX12_part 0 = .ok (.aload_n 0, 1) := by decide +kernel
theorem dX12_part_1 : decode cX12_part 1 = .ok (.aload_n 0, 1) := by decide +kernel
theorem dX12_part_2 : decode cX12_part 2 = .ok (.iload_n 1, 1) := by decide +kernel
theorem dX12_part_3 : decode cX12_part 3 = .ok (.invokevirtual 161, 3) := by decide +kernel
theorem dX12_part_6 : decode cX12_part 6 = .ok (.ifCond .eq 12, 3) := by decide +kernel
theorem dX12_part_9 : decode cX12_part 9 = .ok (.iload_n 2, 1) := by decide +kernel
theorem dX12_part_10 : decode cX12_part 10 = .ok (.ifCond .lt 8, 3) := by decide +kernel
theorem dX12_part_13 : decode cX12_part 13 = .ok (.iload_n 2, 1) := by decide +kernel
theorem dX12_part_14 : decode cX12_part 14 = .ok (.iconst 2, 1) := by decide +kernel
theorem dX12_part_15 : decode cX12_part 15 = .ok (.if_icmp .le 7, 3) := by decide +kernel
theorem dX12_part_18 : decode cX12_part 18 = .ok (.iconst 1, 1) := by decide +kernel
theorem dX12_part_19 : decode cX12_part 19 = .ok (.goto 4, 3) := by decide +kernel
theorem dX12_part_22 : decode cX12_part 22 = .ok (.iconst 0, 1) := by decide +kernel
theorem dX12_part_23 : decode cX12_part 23 = .ok (.invokevirtual 170, 3) := by decide +kernel
theorem dX12_part_26 : decode cX12_part 26 = .ok (.ifCond .eq 5, 3) := by decide +kernel
theorem dX12_part_29 : decode cX12_part 29 = .ok (.iconst 0, 1) := by decide +kernel
theorem dX12_part_30 : decode cX12_part 30 = .ok (.ireturn, 1) := by decide +kernel
theorem dX12_part_31 : decode cX12_part 31 = .ok (.iload_n 2, 1) := by decide +kernel
theorem dX12_part_32 : decode cX12_part 32 = .ok (.ifCond .ne 12, 3) := by decide +kernel
theorem dX12_part_35 : decode cX12_part 35 = .ok (.aload_n 0, 1) := by decide +kernel
theorem dX12_part_36 : decode cX12_part 36 = .ok (.getfield 27, 3) := by decide +kernel
theorem dX12_part_39 : decode cX12_part 39 = .ok (.iload_n 1, 1) := by decide +kernel
theorem dX12_part_40 : decode cX12_part 40 = .ok (.iaload, 1) := by decide +kernel
theorem dX12_part_41 : decode cX12_part 41 = .ok (.goto 23, 3) := by decide +kernel
theorem dX12_part_44 : decode cX12_part 44 = .ok (.iload_n 2, 1) := by decide +kernel
theorem dX12_part_45 : decode cX12_part 45 = .ok (.iconst 1, 1) := by decide +kernel
theorem dX12_part_46 : decode cX12_part 46 = .ok (.if_icmp .ne 12, 3) := by decide +kernel
theorem dX12_part_49 : decode cX12_part 49 = .ok (.aload_n 0, 1) := by decide +kernel
theorem dX12_part_50 : decode cX12_part 50 = .ok (.getfield 31, 3) := by decide +kernel
theorem dX12_part_53 : decode cX12_part 53 = .ok (.iload_n 1, 1) := by decide +kernel
theorem dX12_part_54 : decode cX12_part 54 = .ok (.iaload, 1) := by decide +kernel
theorem dX12_part_55 : decode cX12_part 55 = .ok (.goto 9, 3) := by decide +kernel
theorem dX12_part_58 : decode cX12_part 58 = .ok (.aload_n 0, 1) := by decide +kernel
theorem dX12_part_59 : decode cX12_part 59 = .ok (.getfield 34, 3) := by decide +kernel
theorem dX12_part_62 : decode cX12_part 62 = .ok (.iload_n 1, 1) := by decide +kernel
theorem dX12_part_63 : decode cX12_part 63 = .ok (.iaload, 1) := by decide +kernel
theorem dX12_part_64 : decode cX12_part 64 = .ok (.ireturn, 1) := by decide +kernel
theorem dX12_compare_0 : decode cX12_compare 0 = .ok (.aload_n 0, 1) := by decide +kernel
theorem dX12_compare_1 : decode cX12_compare 1 = .ok (.iconst 0, 1) := by decide +kernel
theorem dX12_compare_2 : decode cX12_compare 2 = .ok (.putfield 107, 3) := by decide +kernel
theorem dX12_compare_5 : decode cX12_compare 5 = .ok (.aload_n 0, 1) := by decide +kernel
theorem dX12_compare_6 : decode cX12_compare 6 = .ok (.iload_n 1, 1) := by decide +kernel
theorem dX12_compare_7 : decode cX12_compare 7 = .ok (.invokevirtual 161, 3) := by decide +kernel
theorem dX12_compare_10 : decode cX12_compare 10 = .ok (.ifCond .eq 11, 3) := by decide +kernel
theorem dX12_compare_13 : decode cX12_compare 13 = .ok (.aload_n 0, 1) := by decide +kernel
theorem dX12_compare_14 : decode cX12_compare 14 = .ok (.iload_n 2, 1) := by decide +kernel
theorem dX12_compare_15 : decode cX12_compare 15 = .ok (.invokevirtual 161, 3) := by decide +kernel
theorem dX12_compare_18 : decode cX12_compare 18 = .ok (.ifCond .ne 5, 3) := by decide +kernel
theorem dX12_compare_21 : decode cX12_compare 21 = .ok (.iconst 2, 1) := by decide +kernel
theorem dX12_compare_22 : decode cX12_compare 22 = .ok (.ireturn, 1) := by decide +kernel
theorem dX12_compare_23 : decode cX12_compare 23 = .ok (.aload_n 0, 1) := by decide +kernel
theorem dX12_compare_24 : decode cX12_compare 24 = .ok (.aload_n 0, 1) := by decide +kernel
theorem dX12_compare_25 : decode cX12_compare 25 = .ok (.getfield 27, 3) := by decide +kernel
theorem dX12_compare_28 : decode cX12_compare 28 = .ok (.iload_n 1, 1) := by decide +kernel
theorem dX12_compare_29 : decode cX12_compare 29 = .ok (.iaload, 1) := by decide +kernel
theorem dX12_compare_30 : decode cX12_compare 30 = .ok (.i2l, 1) := by decide +kernel
theorem dX12_compare_31 : decode cX12_compare 31 = .ok (.aload_n 0, 1) := by decide +kernel
theorem dX12_compare_32 : decode cX12_compare 32 = .ok (.getfield 34, 3) := by decide +kernel
theorem dX12_compare_35 : decode cX12_compare 35 = .ok (.iload_n 2, 1) := by decide +kernel
theorem dX12_compare_36 : decode cX12_compare 36 = .ok (.iaload, 1) := by decide +kernel
theorem dX12_compare_37 : decode cX12_compare 37 = .ok (.i2l, 1) := by decide +kernel
theorem dX12_compare_38 : decode cX12_compare 38 = .ok (.lmul, 1) := by decide +kernel
theorem dX12_compare_39 : decode cX12_compare 39 = .ok (.aload_n 0, 1) := by decide +kernel
theorem dX12_compare_40 : decode cX12_compare 40 = .ok (.getfield 27, 3) := by decide +kernel
theorem dX12_compare_43 : decode cX12_compare 43 = .ok (.iload_n 2, 1) := by decide +kernel
theorem dX12_compare_44 : decode cX12_compare 44 = .ok (.iaload, 1) := by decide +kernel
theorem dX12_compare_45 : decode cX12_compare 45 = .ok (.i2l, 1) := by decide +kernel
theorem dX12_compare_46 : decode cX12_compare 46 = .ok (.aload_n 0, 1) := by decide +kernel
theorem dX12_compare_47 : decode cX12_compare 47 = .ok (.getfield 34, 3) := by decide +kernel
theorem dX12_compare_50 : decode cX12_compare 50 = .ok (.iload_n 1, 1) := by decide +kernel
theorem dX12_compare_51 : decode cX12_compare 51 = .ok (.iaload, 1) := by decide +kernel
theorem dX12_compare_52 : decode cX12_compare 52 = .ok (.i2l, 1) := by decide +kernel
theorem dX12_compare_53 : decode cX12_compare 53 = .ok (.lmul, 1) := by decide +kernel
theorem dX12_compare_54 : decode cX12_compare 54 = .ok (.lsub, 1) := by decide +kernel
theorem dX12_compare_55 : decode cX12_compare 55 = .ok (.aload_n 0, 1) := by decide +kernel
theorem dX12_compare_56 : decode cX12_compare 56 = .ok (.getfield 31, 3) := by decide +kernel
theorem dX12_compare_59 : decode cX12_compare 59 = .ok (.iload_n 1, 1) := by decide +kernel
theorem dX12_compare_60 : decode cX12_compare 60 = .ok (.iaload, 1) := by decide +kernel
theorem dX12_compare_61 : decode cX12_compare 61 = .ok (.i2l, 1) := by decide +kernel
theorem dX12_compare_62 : decode cX12_compare 62 = .ok (.aload_n 0, 1) := by decide +kernel
theorem dX12_compare_63 : decode cX12_compare 63 = .ok (.getfield 34, 3) := by decide +kernel
theorem dX12_compare_66 : decode cX12_compare 66 = .ok (.iload_n 2, 1) := by decide +kernel
theorem dX12_compare_67 : decode cX12_compare 67 = .ok (.iaload, 1) := by decide +kernel
theorem dX12_compare_68 : decode cX12_compare 68 = .ok (.i2l, 1) := by decide +kernel
theorem dX12_compare_69 : decode cX12_compare 69 = .ok (.lmul, 1) := by decide +kernel
theorem dX12_compare_70 : decode cX12_compare 70 = .ok (.aload_n 0, 1) := by decide +kernel
theorem dX12_compare_71 : decode cX12_compare 71 = .ok (.getfield 31, 3) := by decide +kernel
theorem dX12_compare_74 : decode cX12_compare 74 = .ok (.iload_n 2, 1) := by decide +kernel
theorem dX12_compare_75 : decode cX12_compare 75 = .ok (.iaload, 1) := by decide +kernel
theorem dX12_compare_76 : decode cX12_compare 76 = .ok (.i2l, 1) := by decide +kernel
theorem dX12_compare_77 : decode cX12_compare 77 = .ok (.aload_n 0, 1) := by decide +kernel
theorem dX12_compare_78 : decode cX12_compare 78 = .ok (.getfield 34, 3) := by decide +kernel
theorem dX12_compare_81 : decode cX12_compare 81 = .ok (.iload_n 1, 1) := by decide +kernel
theorem dX12_compare_82 : decode cX12_compare 82 = .ok (.iaload, 1) := by decide +kernel
theorem dX12_compare_83 : decode cX12_compare 83 = .ok (.i2l, 1) := by decide +kernel
theorem dX12_compare_84 : decode cX12_compare 84 = .ok (.lmul, 1) := by decide +kernel
theorem dX12_compare_85 : decode cX12_compare 85 = .ok (.lsub, 1) := by decide +kernel
theorem dX12_compare_86 : decode cX12_compare 86 = .ok (.invokevirtual 174, 3) := by decide +kernel
theorem dX12_compare_89 : decode cX12_compare 89 = .ok (.ireturn, 1) := by decide +kernel
theorem dX12_floorOf_0 : decode cX12_floorOf 0 = .ok (.lconst 0, 1) := by decide +kernel
theorem dX12_floorOf_1 : decode cX12_floorOf 1 = .ok (.lstore 7, 2) := by decide +kernel
theorem dX12_floorOf_3 : decode cX12_floorOf 3 = .ok (.lconst 1, 1) := by decide +kernel
theorem dX12_floorOf_4 : decode cX12_floorOf 4 = .ok (.lstore 9, 2) := by decide +kernel
theorem dX12_floorOf_6 : decode cX12_floorOf 6 = .ok (.aload_n 0, 1) := by decide +kernel
theorem dX12_floorOf_7 : decode cX12_floorOf 7 = .ok (.lload_n 1, 1) := by decide +kernel
theorem dX12_floorOf_8 : decode cX12_floorOf 8 = .ok (.lload 7, 2) := by decide +kernel
theorem dX12_floorOf_10 : decode cX12_floorOf 10 = .ok (.lload 5, 2) := by decide +kernel
theorem dX12_floorOf_12 : decode cX12_floorOf 12 = .ok (.lmul, 1) := by decide +kernel
theorem dX12_floorOf_13 : decode cX12_floorOf 13 = .ok (.lsub, 1) := by decide +kernel
theorem dX12_floorOf_14 : decode cX12_floorOf 14 = .ok (.lload_n 3, 1) := by decide +kernel
theorem dX12_floorOf_15 : decode cX12_floorOf 15 = .ok (.invokevirtual 174, 3) := by decide +kernel
theorem dX12_floorOf_18 : decode cX12_floorOf 18 = .ok (.ifCond .ge 21, 3) := by decide +kernel
theorem dX12_floorOf_21 : decode cX12_floorOf 21 = .ok (.lload 7, 2) := by decide +kernel
theorem dX12_floorOf_23 : decode cX12_floorOf 23 = .ok (.lload 9, 2) := by decide +kernel
theorem dX12_floorOf_25 : decode cX12_floorOf 25 = .ok (.lsub, 1) := by decide +kernel
theorem dX12_floorOf_26 : decode cX12_floorOf 26 = .ok (.lstore 7, 2) := by decide +kernel
theorem dX12_floorOf_28 : decode cX12_floorOf 28 = .ok (.lload 9, 2) := by decide +kernel
theorem dX12_floorOf_30 : decode cX12_floorOf 30 = .ok (.ldc2_w 125, 3) := by decide +kernel
theorem dX12_floorOf_33 : decode cX12_floorOf 33 = .ok (.lmul, 1) := by decide +kernel
theorem dX12_floorOf_34 : decode cX12_floorOf 34 = .ok (.lstore 9, 2) := by decide +kernel
theorem dX12_floorOf_36 : decode cX12_floorOf 36 = .ok (.goto (-30), 3) := by decide +kernel
theorem dX12_floorOf_39 : decode cX12_floorOf 39 = .ok (.lconst 1, 1) := by decide +kernel
theorem dX12_floorOf_40 : decode cX12_floorOf 40 = .ok (.lstore 9, 2) := by decide +kernel
theorem dX12_floorOf_42 : decode cX12_floorOf 42 = .ok (.aload_n 0, 1) := by decide +kernel
theorem dX12_floorOf_43 : decode cX12_floorOf 43 = .ok (.lload_n 1, 1) := by decide +kernel
theorem dX12_floorOf_44 : decode cX12_floorOf 44 = .ok (.lload 7, 2) := by decide +kernel
theorem dX12_floorOf_46 : decode cX12_floorOf 46 = .ok (.lload 9, 2) := by decide +kernel
theorem dX12_floorOf_48 : decode cX12_floorOf 48 = .ok (.ladd, 1) := by decide +kernel
theorem dX12_floorOf_49 : decode cX12_floorOf 49 = .ok (.lload 5, 2) := by decide +kernel
theorem dX12_floorOf_51 : decode cX12_floorOf 51 = .ok (.lmul, 1) := by decide +kernel
theorem dX12_floorOf_52 : decode cX12_floorOf 52 = .ok (.lsub, 1) := by decide +kernel
theorem dX12_floorOf_53 : decode cX12_floorOf 53 = .ok (.lload_n 3, 1) := by decide +kernel
theorem dX12_floorOf_54 : decode cX12_floorOf 54 = .ok (.invokevirtual 174, 3) := by decide +kernel
theorem dX12_floorOf_57 : decode cX12_floorOf 57 = .ok (.ifCond .lt 14, 3) := by decide +kernel
theorem dX12_floorOf_60 : decode cX12_floorOf 60 = .ok (.lload 9, 2) := by decide +kernel
theorem dX12_floorOf_62 : decode cX12_floorOf 62 = .ok (.ldc2_w 125, 3) := by decide +kernel
theorem dX12_floorOf_65 : decode cX12_floorOf 65 = .ok (.lmul, 1) := by decide +kernel
theorem dX12_floorOf_66 : decode cX12_floorOf 66 = .ok (.lstore 9, 2) := by decide +kernel
theorem dX12_floorOf_68 : decode cX12_floorOf 68 = .ok (.goto (-26), 3) := by decide +kernel
theorem dX12_floorOf_71 : decode cX12_floorOf 71 = .ok (.lload 9, 2) := by decide +kernel
theorem dX12_floorOf_73 : decode cX12_floorOf 73 = .ok (.lconst 0, 1) := by decide +kernel
theorem dX12_floorOf_74 : decode cX12_floorOf 74 = .ok (.lcmp, 1) := by decide +kernel
theorem dX12_floorOf_75 : decode cX12_floorOf 75 = .ok (.ifCond .le 39, 3) := by decide +kernel
theorem dX12_floorOf_78 : decode cX12_floorOf 78 = .ok (.aload_n 0, 1) := by decide +kernel
theorem dX12_floorOf_79 : decode cX12_floorOf 79 = .ok (.lload_n 1, 1) := by decide +kernel
theorem dX12_floorOf_80 : decode cX12_floorOf 80 = .ok (.lload 7, 2) := by decide +kernel
theorem dX12_floorOf_82 : decode cX12_floorOf 82 = .ok (.lload 9, 2) := by decide +kernel
theorem dX12_floorOf_84 : decode cX12_floorOf 84 = .ok (.ladd, 1) := by decide +kernel
theorem dX12_floorOf_85 : decode cX12_floorOf 85 = .ok (.lload 5, 2) := by decide +kernel
theorem dX12_floorOf_87 : decode cX12_floorOf 87 = .ok (.lmul, 1) := by decide +kernel
theorem dX12_floorOf_88 : decode cX12_floorOf 88 = .ok (.lsub, 1) := by decide +kernel
theorem dX12_floorOf_89 : decode cX12_floorOf 89 = .ok (.lload_n 3, 1) := by decide +kernel
theorem dX12_floorOf_90 : decode cX12_floorOf 90 = .ok (.invokevirtual 174, 3) := by decide +kernel
theorem dX12_floorOf_93 : decode cX12_floorOf 93 = .ok (.ifCond .lt 10, 3) := by decide +kernel
theorem dX12_floorOf_96 : decode cX12_floorOf 96 = .ok (.lload 7, 2) := by decide +kernel
theorem dX12_floorOf_98 : decode cX12_floorOf 98 = .ok (.lload 9, 2) := by decide +kernel
theorem dX12_floorOf_100 : decode cX12_floorOf 100 = .ok (.ladd, 1) := by decide +kernel
theorem dX12_floorOf_101 : decode cX12_floorOf 101 = .ok (.lstore 7, 2) := by decide +kernel
theorem dX12_floorOf_103 : decode cX12_floorOf 103 = .ok (.lload 9, 2) := by decide +kernel
theorem dX12_floorOf_105 : decode cX12_floorOf 105 = .ok (.ldc2_w 125, 3) := by decide +kernel
theorem dX12_floorOf_108 : decode cX12_floorOf 108 = .ok (.ldiv, 1) := by decide +kernel
theorem dX12_floorOf_109 : decode cX12_floorOf 109 = .ok (.lstore 9, 2) := by decide +kernel
theorem dX12_floorOf_111 : decode cX12_floorOf 111 = .ok (.goto (-40), 3) := by decide +kernel
theorem dX12_floorOf_114 : decode cX12_floorOf 114 = .ok (.lload 7, 2) := by decide +kernel
theorem dX12_floorOf_116 : decode cX12_floorOf 116 = .ok (.lreturn, 1) := by decide +kernel
theorem dX12_floor_0 : decode cX12_floor 0 = .ok (.aload_n 0, 1) := by decide +kernel
theorem dX12_floor_1 : decode cX12_floor 1 = .ok (.aload_n 0, 1) := by decide +kernel
theorem dX12_floor_2 : decode cX12_floor 2 = .ok (.iload_n 1, 1) := by decide +kernel
theorem dX12_floor_3 : decode cX12_floor 3 = .ok (.invokevirtual 161, 3) := by decide +kernel
theorem dX12_floor_6 : decode cX12_floor 6 = .ok (.ifCond .ne 7, 3) := by decide +kernel
theorem dX12_floor_9 : decode cX12_floor 9 = .ok (.iconst 1, 1) := by decide +kernel
theorem dX12_floor_10 : decode cX12_floor 10 = .ok (.goto 4, 3) := by decide +kernel
theorem dX12_floor_13 : decode cX12_floor 13 = .ok (.iconst 0, 1) := by decide +kernel
theorem dX12_floor_14 : decode cX12_floor 14 = .ok (.invokevirtual 170, 3) := by decide +kernel
theorem dX12_floor_17 : decode cX12_floor 17 = .ok (.ifCond .eq 5, 3) := by decide +kernel
theorem dX12_floor_20 : decode cX12_floor 20 = .ok (.lconst 0, 1) := by decide +kernel
theorem dX12_floor_21 : decode cX12_floor 21 = .ok (.lreturn, 1) := by decide +kernel
theorem dX12_floor_22 : decode cX12_floor 22 = .ok (.aload_n 0, 1) := by decide +kernel
theorem dX12_floor_23 : decode cX12_floor 23 = .ok (.aload_n 0, 1) := by decide +kernel
theorem dX12_floor_24 : decode cX12_floor 24 = .ok (.getfield 27, 3) := by decide +kernel
theorem dX12_floor_27 : decode cX12_floor 27 = .ok (.iload_n 1, 1) := by decide +kernel
theorem dX12_floor_28 : decode cX12_floor 28 = .ok (.iaload, 1) := by decide +kernel
theorem dX12_floor_29 : decode cX12_floor 29 = .ok (.i2l, 1) := by decide +kernel
theorem dX12_floor_30 : decode cX12_floor 30 = .ok (.aload_n 0, 1) := by decide +kernel
theorem dX12_floor_31 : decode cX12_floor 31 = .ok (.getfield 31, 3) := by decide +kernel
theorem dX12_floor_34 : decode cX12_floor 34 = .ok (.iload_n 1, 1) := by decide +kernel
theorem dX12_floor_35 : decode cX12_floor 35 = .ok (.iaload, 1) := by decide +kernel
theorem dX12_floor_36 : decode cX12_floor 36 = .ok (.i2l, 1) := by decide +kernel
theorem dX12_floor_37 : decode cX12_floor 37 = .ok (.aload_n 0, 1) := by decide +kernel
theorem dX12_floor_38 : decode cX12_floor 38 = .ok (.getfield 34, 3) := by decide +kernel
theorem dX12_floor_41 : decode cX12_floor 41 = .ok (.iload_n 1, 1) := by decide +kernel
theorem dX12_floor_42 : decode cX12_floor 42 = .ok (.iaload, 1) := by decide +kernel
theorem dX12_floor_43 : decode cX12_floor 43 = .ok (.i2l, 1) := by decide +kernel
theorem dX12_floor_44 : decode cX12_floor 44 = .ok (.invokevirtual 178, 3) := by decide +kernel
theorem dX12_floor_47 : decode cX12_floor 47 = .ok (.lreturn, 1) := by decide +kernel
theorem dX12_whole_0 : decode cX12_whole 0 = .ok (.lconst 1, 1) := by decide +kernel
theorem dX12_whole_1 : decode cX12_whole 1 = .ok (.lstore 7, 2) := by decide +kernel
theorem dX12_whole_3 : decode cX12_whole 3 = .ok (.lconst 0, 1) := by decide +kernel
theorem dX12_whole_4 : decode cX12_whole 4 = .ok (.lstore 9, 2) := by decide +kernel
theorem dX12_whole_6 : decode cX12_whole 6 = .ok (.iconst 0, 1) := by decide +kernel
theorem dX12_whole_7 : decode cX12_whole 7 = .ok (.istore 11, 2) := by decide +kernel
theorem dX12_whole_9 : decode cX12_whole 9 = .ok (.lload 9, 2) := by decide +kernel
theorem dX12_whole_11 : decode cX12_whole 11 = .ok (.aload_n 0, 1) := by decide +kernel
theorem dX12_whole_12 : decode cX12_whole 12 = .ok (.getfield 17, 3) := by decide +kernel
theorem dX12_whole_15 : decode cX12_whole 15 = .ok (.i2l, 1) := by decide +kernel
theorem dX12_whole_16 : decode cX12_whole 16 = .ok (.lmul, 1) := by decide +kernel
theorem dX12_whole_17 : decode cX12_whole 17 = .ok (.lstore 12, 2) := by decide +kernel
theorem dX12_whole_19 : decode cX12_whole 19 = .ok (.lload 7, 2) := by decide +kernel
theorem dX12_whole_21 : decode cX12_whole 21 = .ok (.lload 9, 2) := by decide +kernel
theorem dX12_whole_23 : decode cX12_whole 23 = .ok (.aload_n 0, 1) := by decide +kernel
theorem dX12_whole_24 : decode cX12_whole 24 = .ok (.getfield 13, 3) := by decide +kernel
theorem dX12_whole_27 : decode cX12_whole 27 = .ok (.i2l, 1) := by decide +kernel
theorem dX12_whole_28 : decode cX12_whole 28 = .ok (.lmul, 1) := by decide +kernel
theorem dX12_whole_29 : decode cX12_whole 29 = .ok (.ladd, 1) := by decide +kernel
theorem dX12_whole_30 : decode cX12_whole 30 = .ok (.lstore 14, 2) := by decide +kernel
theorem dX12_whole_32 : decode cX12_whole 32 = .ok (.aload_n 0, 1) := by decide +kernel
theorem dX12_whole_33 : decode cX12_whole 33 = .ok (.lload_n 1, 1) := by decide +kernel
theorem dX12_whole_34 : decode cX12_whole 34 = .ok (.lload 12, 2) := by decide +kernel
theorem dX12_whole_36 : decode cX12_whole 36 = .ok (.lload 5, 2) := by decide +kernel
theorem dX12_whole_38 : decode cX12_whole 38 = .ok (.lmul, 1) := by decide +kernel
theorem dX12_whole_39 : decode cX12_whole 39 = .ok (.lsub, 1) := by decide +kernel
theorem dX12_whole_40 : decode cX12_whole 40 = .ok (.lload_n 3, 1) := by decide +kernel
theorem dX12_whole_41 : decode cX12_whole 41 = .ok (.lload 14, 2) := by decide +kernel
theorem dX12_whole_43 : decode cX12_whole 43 = .ok (.lload 5, 2) := by decide +kernel
theorem dX12_whole_45 : decode cX12_whole 45 = .ok (.lmul, 1) := by decide +kernel
theorem dX12_whole_46 : decode cX12_whole 46 = .ok (.lsub, 1) := by decide +kernel
theorem dX12_whole_47 : decode cX12_whole 47 = .ok (.invokevirtual 174, 3) := by decide +kernel
theorem dX12_whole_50 : decode cX12_whole 50 = .ok (.ifCond .ge 6, 3) := by decide +kernel
theorem dX12_whole_53 : decode cX12_whole 53 = .ok (.goto 17, 3) := by decide +kernel
theorem dX12_whole_56 : decode cX12_whole 56 = .ok (.lload 12, 2) := by decide +kernel
theorem dX12_whole_58 : decode cX12_whole 58 = .ok (.lstore 7, 2) := by decide +kernel
theorem dX12_whole_60 : decode cX12_whole 60 = .ok (.lload 14, 2) := by decide +kernel
theorem dX12_whole_62 : decode cX12_whole 62 = .ok (.lstore 9, 2) := by decide +kernel
theorem dX12_whole_64 : decode cX12_whole 64 = .ok (.iinc 11 1, 3) := by decide +kernel
theorem dX12_whole_67 : decode cX12_whole 67 = .ok (.goto (-58), 3) := by decide +kernel
theorem dX12_whole_70 : decode cX12_whole 70 = .ok (.aload_n 0, 1) := by decide +kernel
theorem dX12_whole_71 : decode cX12_whole 71 = .ok (.iload 11, 2) := by decide +kernel
theorem dX12_whole_73 : decode cX12_whole 73 = .ok (.putfield 182, 3) := by decide +kernel
theorem dX12_whole_76 : decode cX12_whole 76 = .ok (.aload_n 0, 1) := by decide +kernel
theorem dX12_whole_77 : decode cX12_whole 77 = .ok (.iconst 0, 1) := by decide +kernel
theorem dX12_whole_78 : decode cX12_whole 78 = .ok (.putfield 185, 3) := by decide +kernel
theorem dX12_whole_81 : decode cX12_whole 81 = .ok (.lload_n 1, 1) := by decide +kernel
theorem dX12_whole_82 : decode cX12_whole 82 = .ok (.lstore 12, 2) := by decide +kernel
theorem dX12_whole_84 : decode cX12_whole 84 = .ok (.lload_n 3, 1) := by decide +kernel
theorem dX12_whole_85 : decode cX12_whole 85 = .ok (.lstore 14, 2) := by decide +kernel
theorem dX12_whole_87 : decode cX12_whole 87 = .ok (.iload 11, 2) := by decide +kernel
theorem dX12_whole_89 : decode cX12_whole 89 = .ok (.ifCond .lt 118, 3) := by decide +kernel
theorem dX12_whole_92 : decode cX12_whole 92 = .ok (.lconst 0, 1) := by decide +kernel
theorem dX12_whole_93 : decode cX12_whole 93 = .ok (.lstore 16, 2) := by decide +kernel
theorem dX12_whole_95 : decode cX12_whole 95 = .ok (.aload_n 0, 1) := by decide +kernel
theorem dX12_whole_96 : decode cX12_whole 96 = .ok (.lload 12, 2) := by decide +kernel
theorem dX12_whole_98 : decode cX12_whole 98 = .ok (.lload 7, 2) := by decide +kernel
theorem dX12_whole_100 : decode cX12_whole 100 = .ok (.lload 5, 2) := by decide +kernel
theorem dX12_whole_102 : decode cX12_whole 102 = .ok (.lmul, 1) := by decide +kernel
theorem dX12_whole_103 : decode cX12_whole 103 = .ok (.lsub, 1) := by decide +kernel
theorem dX12_whole_104 : decode cX12_whole 104 = .ok (.lload 14, 2) := by decide +kernel
theorem dX12_whole_106 : decode cX12_whole 106 = .ok (.lload 9, 2) := by decide +kernel
theorem dX12_whole_108 : decode cX12_whole 108 = .ok (.lload 5, 2) := by decide +kernel
theorem dX12_whole_110 : decode cX12_whole 110 = .ok (.lmul, 1) := by decide +kernel
theorem dX12_whole_111 : decode cX12_whole 111 = .ok (.lsub, 1) := by decide +kernel
theorem dX12_whole_112 : decode cX12_whole 112 = .ok (.invokevirtual 174, 3) := by decide +kernel
theorem dX12_whole_115 : decode cX12_whole 115 = .ok (.ifCond .lt 32, 3) := by decide +kernel
theorem dX12_whole_118 : decode cX12_whole 118 = .ok (.lload 12, 2) := by decide +kernel
theorem dX12_whole_120 : decode cX12_whole 120 = .ok (.lload 7, 2) := by decide +kernel
theorem dX12_whole_122 : decode cX12_whole 122 = .ok (.lload 5, 2) := by decide +kernel
theorem dX12_whole_124 : decode cX12_whole 124 = .ok (.lmul, 1) := by decide +kernel
theorem dX12_whole_125 : decode cX12_whole 125 = .ok (.lsub, 1) := by decide +kernel
theorem dX12_whole_126 : decode cX12_whole 126 = .ok (.lstore 12, 2) := by decide +kernel
theorem dX12_whole_128 : decode cX12_whole 128 = .ok (.lload 14, 2) := by decide +kernel
theorem dX12_whole_130 : decode cX12_whole 130 = .ok (.lload 9, 2) := by decide +kernel
theorem dX12_whole_132 : decode cX12_whole 132 = .ok (.lload 5, 2) := by decide +kernel
theorem dX12_whole_134 : decode cX12_whole 134 = .ok (.lmul, 1) := by decide +kernel
theorem dX12_whole_135 : decode cX12_whole 135 = .ok (.lsub, 1) := by decide +kernel
theorem dX12_whole_136 : decode cX12_whole 136 = .ok (.lstore 14, 2) := by decide +kernel
theorem dX12_whole_138 : decode cX12_whole 138 = .ok (.lload 16, 2) := by decide +kernel
theorem dX12_whole_140 : decode cX12_whole 140 = .ok (.lconst 1, 1) := by decide +kernel
theorem dX12_whole_141 : decode cX12_whole 141 = .ok (.ladd, 1) := by decide +kernel
theorem dX12_whole_142 : decode cX12_whole 142 = .ok (.lstore 16, 2) := by decide +kernel
theorem dX12_whole_144 : decode cX12_whole 144 = .ok (.goto (-49), 3) := by decide +kernel
theorem dX12_whole_147 : decode cX12_whole 147 = .ok (.aload_n 0, 1) := by decide +kernel
theorem dX12_whole_148 : decode cX12_whole 148 = .ok (.getfield 37, 3) := by decide +kernel
theorem dX12_whole_151 : decode cX12_whole 151 = .ok (.aload_n 0, 1) := by decide +kernel
theorem dX12_whole_152 : decode cX12_whole 152 = .ok (.getfield 185, 3) := by decide +kernel
theorem dX12_whole_155 : decode cX12_whole 155 = .ok (.lload 16, 2) := by decide +kernel
theorem dX12_whole_157 : decode cX12_whole 157 = .ok (.lastore, 1) := by decide +kernel
theorem dX12_whole_158 : decode cX12_whole 158 = .ok (.aload_n 0, 1) := by decide +kernel
theorem dX12_whole_159 : decode cX12_whole 159 = .ok (.dup, 1) := by decide +kernel
theorem dX12_whole_160 : decode cX12_whole 160 = .ok (.getfield 185, 3) := by decide +kernel
theorem dX12_whole_163 : decode cX12_whole 163 = .ok (.iconst 1, 1) := by decide +kernel
theorem dX12_whole_164 : decode cX12_whole 164 = .ok (.iadd, 1) := by decide +kernel
theorem dX12_whole_165 : decode cX12_whole 165 = .ok (.putfield 185, 3) := by decide +kernel
theorem dX12_whole_168 : decode cX12_whole 168 = .ok (.lload 7, 2) := by decide +kernel
theorem dX12_whole_170 : decode cX12_whole 170 = .ok (.lstore 18, 2) := by decide +kernel
theorem dX12_whole_172 : decode cX12_whole 172 = .ok (.lload 9, 2) := by decide +kernel
theorem dX12_whole_174 : decode cX12_whole 174 = .ok (.aload_n 0, 1) := by decide +kernel
theorem dX12_whole_175 : decode cX12_whole 175 = .ok (.getfield 13, 3) := by decide +kernel
theorem dX12_whole_178 : decode cX12_whole 178 = .ok (.i2l, 1) := by decide +kernel
theorem dX12_whole_179 : decode cX12_whole 179 = .ok (.lload 18, 2) := by decide +kernel
theorem dX12_whole_181 : decode cX12_whole 181 = .ok (.aload_n 0, 1) := by decide +kernel
theorem dX12_whole_182 : decode cX12_whole 182 = .ok (.getfield 17, 3) := by decide +kernel
theorem dX12_whole_185 : decode cX12_whole 185 = .ok (.i2l, 1) := by decide +kernel
theorem dX12_whole_186 : decode cX12_whole 186 = .ok (.ldiv, 1) := by decide +kernel
theorem dX12_whole_187 : decode cX12_whole 187 = .ok (.lmul, 1) := by decide +kernel
theorem dX12_whole_188 : decode cX12_whole 188 = .ok (.lsub, 1) := by decide +kernel
theorem dX12_whole_189 : decode cX12_whole 189 = .ok (.lstore 7, 2) := by decide +kernel
theorem dX12_whole_191 : decode cX12_whole 191 = .ok (.lload 18, 2) := by decide +kernel
theorem dX12_whole_193 : decode cX12_whole 193 = .ok (.aload_n 0, 1) := by decide +kernel
theorem dX12_whole_194 : decode cX12_whole 194 = .ok (.getfield 17, 3) := by decide +kernel
theorem dX12_whole_197 : decode cX12_whole 197 = .ok (.i2l, 1) := by decide +kernel
theorem dX12_whole_198 : decode cX12_whole 198 = .ok (.ldiv, 1) := by decide +kernel
theorem dX12_whole_199 : decode cX12_whole 199 = .ok (.lstore 9, 2) := by decide +kernel
theorem dX12_whole_201 : decode cX12_whole 201 = .ok (.iinc 11 (-1), 3) := by decide +kernel
theorem dX12_whole_204 : decode cX12_whole 204 = .ok (.goto (-117), 3) := by decide +kernel
theorem dX12_whole_207 : decode cX12_whole 207 = .ok (.aload_n 0, 1) := by decide +kernel
theorem dX12_whole_208 : decode cX12_whole 208 = .ok (.getfield 41, 3) := by decide +kernel
theorem dX12_whole_211 : decode cX12_whole 211 = .ok (.iconst 0, 1) := by decide +kernel
theorem dX12_whole_212 : decode cX12_whole 212 = .ok (.lload 12, 2) := by decide +kernel
theorem dX12_whole_214 : decode cX12_whole 214 = .ok (.lastore, 1) := by decide +kernel
theorem dX12_whole_215 : decode cX12_whole 215 = .ok (.aload_n 0, 1) := by decide +kernel
theorem dX12_whole_216 : decode cX12_whole 216 = .ok (.getfield 44, 3) := by decide +kernel
theorem dX12_whole_219 : decode cX12_whole 219 = .ok (.iconst 0, 1) := by decide +kernel
theorem dX12_whole_220 : decode cX12_whole 220 = .ok (.lload 14, 2) := by decide +kernel
theorem dX12_whole_222 : decode cX12_whole 222 = .ok (.lastore, 1) := by decide +kernel
theorem dX12_whole_223 : decode cX12_whole 223 = .ok (.return_, 1) := by decide +kernel
theorem dX12_digits_0 : decode cX12_digits 0 = .ok (.aload_n 0, 1) := by decide +kernel
theorem dX12_digits_1 : decode cX12_digits 1 = .ok (.iconst 0, 1) := by decide +kernel
theorem dX12_digits_2 : decode cX12_digits 2 = .ok (.putfield 107, 3) := by decide +kernel
theorem dX12_digits_5 : decode cX12_digits 5 = .ok (.aload_n 0, 1) := by decide +kernel
theorem dX12_digits_6 : decode cX12_digits 6 = .ok (.iload_n 1, 1) := by decide +kernel
theorem dX12_digits_7 : decode cX12_digits 7 = .ok (.invokevirtual 161, 3) := by decide +kernel
theorem dX12_digits_10 : decode cX12_digits 10 = .ok (.ifCond .eq 24, 3) := by decide +kernel
theorem dX12_digits_13 : decode cX12_digits 13 = .ok (.aload_n 0, 1) := by decide +kernel
theorem dX12_digits_14 : decode cX12_digits 14 = .ok (.aload_n 0, 1) := by decide +kernel
theorem dX12_digits_15 : decode cX12_digits 15 = .ok (.getfield 27, 3) := by decide +kernel
theorem dX12_digits_18 : decode cX12_digits 18 = .ok (.iload_n 1, 1) := by decide +kernel
theorem dX12_digits_19 : decode cX12_digits 19 = .ok (.iaload, 1) := by decide +kernel
theorem dX12_digits_20 : decode cX12_digits 20 = .ok (.i2l, 1) := by decide +kernel
theorem dX12_digits_21 : decode cX12_digits 21 = .ok (.aload_n 0, 1) := by decide +kernel
theorem dX12_digits_22 : decode cX12_digits 22 = .ok (.getfield 31, 3) := by decide +kernel
theorem dX12_digits_25 : decode cX12_digits 25 = .ok (.iload_n 1, 1) := by decide +kernel
theorem dX12_digits_26 : decode cX12_digits 26 = .ok (.iaload, 1) := by decide +kernel
theorem dX12_digits_27 : decode cX12_digits 27 = .ok (.i2l, 1) := by decide +kernel
theorem dX12_digits_28 : decode cX12_digits 28 = .ok (.invokevirtual 174, 3) := by decide +kernel
theorem dX12_digits_31 : decode cX12_digits 31 = .ok (.ifCond .ge 5, 3) := by decide +kernel
theorem dX12_digits_34 : decode cX12_digits 34 = .ok (.iconst (-1), 1) := by decide +kernel
theorem dX12_digits_35 : decode cX12_digits 35 = .ok (.ireturn, 1) := by decide +kernel
theorem dX12_digits_36 : decode cX12_digits 36 = .ok (.aload_n 0, 1) := by decide +kernel
theorem dX12_digits_37 : decode cX12_digits 37 = .ok (.getfield 34, 3) := by decide +kernel
theorem dX12_digits_40 : decode cX12_digits 40 = .ok (.iload_n 1, 1) := by decide +kernel
theorem dX12_digits_41 : decode cX12_digits 41 = .ok (.iaload, 1) := by decide +kernel
theorem dX12_digits_42 : decode cX12_digits 42 = .ok (.i2l, 1) := by decide +kernel
theorem dX12_digits_43 : decode cX12_digits 43 = .ok (.lstore_n 2, 1) := by decide +kernel
theorem dX12_digits_44 : decode cX12_digits 44 = .ok (.aload_n 0, 1) := by decide +kernel
theorem dX12_digits_45 : decode cX12_digits 45 = .ok (.aload_n 0, 1) := by decide +kernel
theorem dX12_digits_46 : decode cX12_digits 46 = .ok (.getfield 27, 3) := by decide +kernel
theorem dX12_digits_49 : decode cX12_digits 49 = .ok (.iload_n 1, 1) := by decide +kernel
theorem dX12_digits_50 : decode cX12_digits 50 = .ok (.iaload, 1) := by decide +kernel
theorem dX12_digits_51 : decode cX12_digits 51 = .ok (.i2l, 1) := by decide +kernel
theorem dX12_digits_52 : decode cX12_digits 52 = .ok (.aload_n 0, 1) := by decide +kernel
theorem dX12_digits_53 : decode cX12_digits 53 = .ok (.getfield 31, 3) := by decide +kernel
theorem dX12_digits_56 : decode cX12_digits 56 = .ok (.iload_n 1, 1) := by decide +kernel
theorem dX12_digits_57 : decode cX12_digits 57 = .ok (.iaload, 1) := by decide +kernel
theorem dX12_digits_58 : decode cX12_digits 58 = .ok (.i2l, 1) := by decide +kernel
theorem dX12_digits_59 : decode cX12_digits 59 = .ok (.lload_n 2, 1) := by decide +kernel
theorem dX12_digits_60 : decode cX12_digits 60 = .ok (.invokevirtual 188, 3) := by decide +kernel
theorem dX12_digits_63 : decode cX12_digits 63 = .ok (.aload_n 0, 1) := by decide +kernel
theorem dX12_digits_64 : decode cX12_digits 64 = .ok (.iconst 1, 1) := by decide +kernel
theorem dX12_digits_65 : decode cX12_digits 65 = .ok (.putfield 121, 3) := by decide +kernel
theorem dX12_digits_68 : decode cX12_digits 68 = .ok (.aload_n 0, 1) := by decide +kernel
theorem dX12_digits_69 : decode cX12_digits 69 = .ok (.iconst 0, 1) := by decide +kernel
theorem dX12_digits_70 : decode cX12_digits 70 = .ok (.putfield 191, 3) := by decide +kernel
theorem dX12_digits_73 : decode cX12_digits 73 = .ok (.iconst 0, 1) := by decide +kernel
theorem dX12_digits_74 : decode cX12_digits 74 = .ok (.istore 4, 2) := by decide +kernel
theorem dX12_digits_76 : decode cX12_digits 76 = .ok (.aload_n 0, 1) := by decide +kernel
theorem dX12_digits_77 : decode cX12_digits 77 = .ok (.iload 4, 2) := by decide +kernel
theorem dX12_digits_79 : decode cX12_digits 79 = .ok (.putfield 194, 3) := by decide +kernel
theorem dX12_digits_82 : decode cX12_digits 82 = .ok (.aload_n 0, 1) := by decide +kernel
theorem dX12_digits_83 : decode cX12_digits 83 = .ok (.getfield 41, 3) := by decide +kernel
theorem dX12_digits_86 : decode cX12_digits 86 = .ok (.iload 4, 2) := by decide +kernel
theorem dX12_digits_88 : decode cX12_digits 88 = .ok (.laload, 1) := by decide +kernel
theorem dX12_digits_89 : decode cX12_digits 89 = .ok (.lconst 0, 1) := by decide +kernel
theorem dX12_digits_90 : decode cX12_digits 90 = .ok (.lcmp, 1) := by decide +kernel
theorem dX12_digits_91 : decode cX12_digits 91 = .ok (.ifCond .ne 22, 3) := by decide +kernel
theorem dX12_digits_94 : decode cX12_digits 94 = .ok (.aload_n 0, 1) := by decide +kernel
theorem dX12_digits_95 : decode cX12_digits 95 = .ok (.getfield 44, 3) := by decide +kernel
theorem dX12_digits_98 : decode cX12_digits 98 = .ok (.iload 4, 2) := by decide +kernel
theorem dX12_digits_100 : decode cX12_digits 100 = .ok (.laload, 1) := by decide +kernel
theorem dX12_digits_101 : decode cX12_digits 101 = .ok (.lconst 0, 1) := by decide +kernel
theorem dX12_digits_102 : decode cX12_digits 102 = .ok (.lcmp, 1) := by decide +kernel
theorem dX12_digits_103 : decode cX12_digits 103 = .ok (.ifCond .ne 10, 3) := by decide +kernel
theorem dX12_digits_106 : decode cX12_digits 106 = .ok (.aload_n 0, 1) := by decide +kernel
theorem dX12_digits_107 : decode cX12_digits 107 = .ok (.iconst 0, 1) := by decide +kernel
theorem dX12_digits_108 : decode cX12_digits 108 = .ok (.putfield 197, 3) := by decide +kernel
theorem dX12_digits_111 : decode cX12_digits 111 = .ok (.iconst 0, 1) := by decide +kernel
theorem dX12_digits_112 : decode cX12_digits 112 = .ok (.ireturn, 1) := by decide +kernel
theorem dX12_digits_113 : decode cX12_digits 113 = .ok (.iconst 0, 1) := by decide +kernel
theorem dX12_digits_114 : decode cX12_digits 114 = .ok (.istore 5, 2) := by decide +kernel
theorem dX12_digits_116 : decode cX12_digits 116 = .ok (.iload 5, 2) := by decide +kernel
theorem dX12_digits_118 : decode cX12_digits 118 = .ok (.iload 4, 2) := by decide +kernel
theorem dX12_digits_120 : decode cX12_digits 120 = .ok (.if_icmp .ge 70, 3) := by decide +kernel
theorem dX12_digits_123 : decode cX12_digits 123 = .ok (.aload_n 0, 1) := by decide +kernel
theorem dX12_digits_124 : decode cX12_digits 124 = .ok (.getfield 41, 3) := by decide +kernel
theorem dX12_digits_127 : decode cX12_digits 127 = .ok (.iload 5, 2) := by decide +kernel
theorem dX12_digits_129 : decode cX12_digits 129 = .ok (.laload, 1) := by decide +kernel
theorem dX12_digits_130 : decode cX12_digits 130 = .ok (.aload_n 0, 1) := by decide +kernel
theorem dX12_digits_131 : decode cX12_digits 131 = .ok (.getfield 41, 3) := by decide +kernel
theorem dX12_digits_134 : decode cX12_digits 134 = .ok (.iload 4, 2) := by decide +kernel
theorem dX12_digits_136 : decode cX12_digits 136 = .ok (.laload, 1) := by decide +kernel
theorem dX12_digits_137 : decode cX12_digits 137 = .ok (.lcmp, 1) := by decide +kernel
theorem dX12_digits_138 : decode cX12_digits 138 = .ok (.ifCond .ne 46, 3) := by decide +kernel
theorem dX12_digits_141 : decode cX12_digits 141 = .ok (.aload_n 0, 1) := by decide +kernel
theorem dX12_digits_142 : decode cX12_digits 142 = .ok (.getfield 44, 3) := by decide +kernel
theorem dX12_digits_145 : decode cX12_digits 145 = .ok (.iload 5, 2) := by decide +kernel
theorem dX12_digits_147 : decode cX12_digits 147 = .ok (.laload, 1) := by decide +kernel
theorem dX12_digits_148 : decode cX12_digits 148 = .ok (.aload_n 0, 1) := by decide +kernel
theorem dX12_digits_149 : decode cX12_digits 149 = .ok (.getfield 44, 3) := by decide +kernel
theorem dX12_digits_152 : decode cX12_digits 152 = .ok (.iload 4, 2) := by decide +kernel
theorem dX12_digits_154 : decode cX12_digits 154 = .ok (.laload, 1) := by decide +kernel
theorem dX12_digits_155 : decode cX12_digits 155 = .ok (.lcmp, 1) := by decide +kernel
theorem dX12_digits_156 : decode cX12_digits 156 = .ok (.ifCond .eq 6, 3) := by decide +kernel
theorem dX12_digits_159 : decode cX12_digits 159 = .ok (.goto 25, 3) := by decide +kernel
theorem dX12_digits_162 : decode cX12_digits 162 = .ok (.aload_n 0, 1) := by decide +kernel
theorem dX12_digits_163 : decode cX12_digits 163 = .ok (.iload 5, 2) := by decide +kernel
theorem dX12_digits_165 : decode cX12_digits 165 = .ok (.putfield 194, 3) := by decide +kernel
theorem dX12_digits_168 : decode cX12_digits 168 = .ok (.aload_n 0, 1) := by decide +kernel
theorem dX12_digits_169 : decode cX12_digits 169 = .ok (.iload 4, 2) := by decide +kernel
theorem dX12_digits_171 : decode cX12_digits 171 = .ok (.iload 5, 2) := by decide +kernel
theorem dX12_digits_173 : decode cX12_digits 173 = .ok (.isub, 1) := by decide +kernel
theorem dX12_digits_174 : decode cX12_digits 174 = .ok (.putfield 191, 3) := by decide +kernel
theorem dX12_digits_177 : decode cX12_digits 177 = .ok (.aload_n 0, 1) := by decide +kernel
theorem dX12_digits_178 : decode cX12_digits 178 = .ok (.iconst 1, 1) := by decide +kernel
theorem dX12_digits_179 : decode cX12_digits 179 = .ok (.putfield 197, 3) := by decide +kernel
theorem dX12_digits_182 : decode cX12_digits 182 = .ok (.iconst 1, 1) := by decide +kernel
theorem dX12_digits_183 : decode cX12_digits 183 = .ok (.ireturn, 1) := by decide +kernel
theorem dX12_digits_184 : decode cX12_digits 184 = .ok (.iinc 5 1, 3) := by decide +kernel
theorem dX12_digits_187 : decode cX12_digits 187 = .ok (.goto (-71), 3) := by decide +kernel
theorem dX12_digits_190 : decode cX12_digits 190 = .ok (.iload 4, 2) := by decide +kernel
theorem dX12_digits_192 : decode cX12_digits 192 = .ok (.sipush 400, 3) := by decide +kernel
theorem dX12_digits_195 : decode cX12_digits 195 = .ok (.if_icmp .ne 6, 3) := by decide +kernel
theorem dX12_digits_198 : decode cX12_digits 198 = .ok (.goto 121, 3) := by decide +kernel
theorem dX12_digits_201 : decode cX12_digits 201 = .ok (.aload_n 0, 1) := by decide +kernel
theorem dX12_digits_202 : decode cX12_digits 202 = .ok (.getfield 44, 3) := by decide +kernel
theorem dX12_digits_205 : decode cX12_digits 205 = .ok (.iload 4, 2) := by decide +kernel
theorem dX12_digits_207 : decode cX12_digits 207 = .ok (.laload, 1) := by decide +kernel
theorem dX12_digits_208 : decode cX12_digits 208 = .ok (.aload_n 0, 1) := by decide +kernel
theorem dX12_digits_209 : decode cX12_digits 209 = .ok (.getfield 17, 3) := by decide +kernel
theorem dX12_digits_212 : decode cX12_digits 212 = .ok (.i2l, 1) := by decide +kernel
theorem dX12_digits_213 : decode cX12_digits 213 = .ok (.lmul, 1) := by decide +kernel
theorem dX12_digits_214 : decode cX12_digits 214 = .ok (.lstore 5, 2) := by decide +kernel
theorem dX12_digits_216 : decode cX12_digits 216 = .ok (.aload_n 0, 1) := by decide +kernel
theorem dX12_digits_217 : decode cX12_digits 217 = .ok (.getfield 41, 3) := by decide +kernel
theorem dX12_digits_220 : decode cX12_digits 220 = .ok (.iload 4, 2) := by decide +kernel
theorem dX12_digits_222 : decode cX12_digits 222 = .ok (.laload, 1) := by decide +kernel
theorem dX12_digits_223 : decode cX12_digits 223 = .ok (.aload_n 0, 1) := by decide +kernel
theorem dX12_digits_224 : decode cX12_digits 224 = .ok (.getfield 44, 3) := by decide +kernel
theorem dX12_digits_227 : decode cX12_digits 227 = .ok (.iload 4, 2) := by decide +kernel
theorem dX12_digits_229 : decode cX12_digits 229 = .ok (.laload, 1) := by decide +kernel
theorem dX12_digits_230 : decode cX12_digits 230 = .ok (.aload_n 0, 1) := by decide +kernel
theorem dX12_digits_231 : decode cX12_digits 231 = .ok (.getfield 13, 3) := by decide +kernel
theorem dX12_digits_234 : decode cX12_digits 234 = .ok (.i2l, 1) := by decide +kernel
theorem dX12_digits_235 : decode cX12_digits 235 = .ok (.lmul, 1) := by decide +kernel
theorem dX12_digits_236 : decode cX12_digits 236 = .ok (.ladd, 1) := by decide +kernel
theorem dX12_digits_237 : decode cX12_digits 237 = .ok (.lstore 7, 2) := by decide +kernel
theorem dX12_digits_239 : decode cX12_digits 239 = .ok (.lconst 0, 1) := by decide +kernel
theorem dX12_digits_240 : decode cX12_digits 240 = .ok (.lstore 9, 2) := by decide +kernel
theorem dX12_digits_242 : decode cX12_digits 242 = .ok (.aload_n 0, 1) := by decide +kernel
theorem dX12_digits_243 : decode cX12_digits 243 = .ok (.lload 5, 2) := by decide +kernel
theorem dX12_digits_245 : decode cX12_digits 245 = .ok (.lload_n 2, 1) := by decide +kernel
theorem dX12_digits_246 : decode cX12_digits 246 = .ok (.lsub, 1) := by decide +kernel
theorem dX12_digits_247 : decode cX12_digits 247 = .ok (.lload 7, 2) := by decide +kernel
theorem dX12_digits_249 : decode cX12_digits 249 = .ok (.invokevirtual 174, 3) := by decide +kernel
theorem dX12_digits_252 : decode cX12_digits 252 = .ok (.ifCond .lt 18, 3) := by decide +kernel
theorem dX12_digits_255 : decode cX12_digits 255 = .ok (.lload 5, 2) := by decide +kernel
theorem dX12_digits_257 : decode cX12_digits 257 = .ok (.lload_n 2, 1) := by decide +kernel
theorem dX12_digits_258 : decode cX12_digits 258 = .ok (.lsub, 1) := by decide +kernel
theorem dX12_digits_259 : decode cX12_digits 259 = .ok (.lstore 5, 2) := by decide +kernel
theorem dX12_digits_261 : decode cX12_digits 261 = .ok (.lload 9, 2) := by decide +kernel
theorem dX12_digits_263 : decode cX12_digits 263 = .ok (.lconst 1, 1) := by decide +kernel
theorem dX12_digits_264 : decode cX12_digits 264 = .ok (.ladd, 1) := by decide +kernel
theorem dX12_digits_265 : decode cX12_digits 265 = .ok (.lstore 9, 2) := by decide +kernel
theorem dX12_digits_267 : decode cX12_digits 267 = .ok (.goto (-25), 3) := by decide +kernel
theorem dX12_digits_270 : decode cX12_digits 270 = .ok (.aload_n 0, 1) := by decide +kernel
theorem dX12_digits_271 : decode cX12_digits 271 = .ok (.getfield 37, 3) := by decide +kernel
theorem dX12_digits_274 : decode cX12_digits 274 = .ok (.aload_n 0, 1) := by decide +kernel
theorem dX12_digits_275 : decode cX12_digits 275 = .ok (.getfield 185, 3) := by decide +kernel
theorem dX12_digits_278 : decode cX12_digits 278 = .ok (.lload 9, 2) := by decide +kernel
theorem dX12_digits_280 : decode cX12_digits 280 = .ok (.lastore, 1) := by decide +kernel
theorem dX12_digits_281 : decode cX12_digits 281 = .ok (.aload_n 0, 1) := by decide +kernel
theorem dX12_digits_282 : decode cX12_digits 282 = .ok (.dup, 1) := by decide +kernel
theorem dX12_digits_283 : decode cX12_digits 283 = .ok (.getfield 185, 3) := by decide +kernel
theorem dX12_digits_286 : decode cX12_digits 286 = .ok (.iconst 1, 1) := by decide +kernel
theorem dX12_digits_287 : decode cX12_digits 287 = .ok (.iadd, 1) := by decide +kernel
theorem dX12_digits_288 : decode cX12_digits 288 = .ok (.putfield 185, 3) := by decide +kernel
theorem dX12_digits_291 : decode cX12_digits 291 = .ok (.aload_n 0, 1) := by decide +kernel
theorem dX12_digits_292 : decode cX12_digits 292 = .ok (.getfield 41, 3) := by decide +kernel
theorem dX12_digits_295 : decode cX12_digits 295 = .ok (.iload 4, 2) := by decide +kernel
theorem dX12_digits_297 : decode cX12_digits 297 = .ok (.iconst 1, 1) := by decide +kernel
theorem dX12_digits_298 : decode cX12_digits 298 = .ok (.iadd, 1) := by decide +kernel
theorem dX12_digits_299 : decode cX12_digits 299 = .ok (.lload 5, 2) := by decide +kernel
theorem dX12_digits_301 : decode cX12_digits 301 = .ok (.lastore, 1) := by decide +kernel
theorem dX12_digits_302 : decode cX12_digits 302 = .ok (.aload_n 0, 1) := by decide +kernel
theorem dX12_digits_303 : decode cX12_digits 303 = .ok (.getfield 44, 3) := by decide +kernel
theorem dX12_digits_306 : decode cX12_digits 306 = .ok (.iload 4, 2) := by decide +kernel
theorem dX12_digits_308 : decode cX12_digits 308 = .ok (.iconst 1, 1) := by decide +kernel
theorem dX12_digits_309 : decode cX12_digits 309 = .ok (.iadd, 1) := by decide +kernel
theorem dX12_digits_310 : decode cX12_digits 310 = .ok (.lload 7, 2) := by decide +kernel
theorem dX12_digits_312 : decode cX12_digits 312 = .ok (.lastore, 1) := by decide +kernel
theorem dX12_digits_313 : decode cX12_digits 313 = .ok (.iinc 4 1, 3) := by decide +kernel
theorem dX12_digits_316 : decode cX12_digits 316 = .ok (.goto (-240), 3) := by decide +kernel
theorem dX12_digits_319 : decode cX12_digits 319 = .ok (.aload_n 0, 1) := by decide +kernel
theorem dX12_digits_320 : decode cX12_digits 320 = .ok (.iconst 2, 1) := by decide +kernel
theorem dX12_digits_321 : decode cX12_digits 321 = .ok (.putfield 197, 3) := by decide +kernel
theorem dX12_digits_324 : decode cX12_digits 324 = .ok (.iconst 2, 1) := by decide +kernel
theorem dX12_digits_325 : decode cX12_digits 325 = .ok (.ireturn, 1) := by decide +kernel
theorem dX12_told_0 : decode cX12_told 0 = .ok (.aload_n 0, 1) := by decide +kernel
theorem dX12_told_1 : decode cX12_told 1 = .ok (.iconst 0, 1) := by decide +kernel
theorem dX12_told_2 : decode cX12_told 2 = .ok (.putfield 107, 3) := by decide +kernel
theorem dX12_told_5 : decode cX12_told 5 = .ok (.aload_n 0, 1) := by decide +kernel
theorem dX12_told_6 : decode cX12_told 6 = .ok (.getfield 121, 3) := by decide +kernel
theorem dX12_told_9 : decode cX12_told 9 = .ok (.ifCond .ne 5, 3) := by decide +kernel
theorem dX12_told_12 : decode cX12_told 12 = .ok (.iconst (-1), 1) := by decide +kernel
theorem dX12_told_13 : decode cX12_told 13 = .ok (.ireturn, 1) := by decide +kernel
theorem dX12_told_14 : decode cX12_told 14 = .ok (.iload_n 1, 1) := by decide +kernel
theorem dX12_told_15 : decode cX12_told 15 = .ok (.ifCond .ne 10, 3) := by decide +kernel
theorem dX12_told_18 : decode cX12_told 18 = .ok (.aload_n 0, 1) := by decide +kernel
theorem dX12_told_19 : decode cX12_told 19 = .ok (.getfield 182, 3) := by decide +kernel
theorem dX12_told_22 : decode cX12_told 22 = .ok (.goto 28, 3) := by decide +kernel
theorem dX12_told_25 : decode cX12_told 25 = .ok (.iload_n 1, 1) := by decide +kernel
theorem dX12_told_26 : decode cX12_told 26 = .ok (.iconst 1, 1) := by decide +kernel
theorem dX12_told_27 : decode cX12_told 27 = .ok (.if_icmp .ne 10, 3) := by decide +kernel
theorem dX12_told_30 : decode cX12_told 30 = .ok (.aload_n 0, 1) := by decide +kernel
theorem dX12_told_31 : decode cX12_told 31 = .ok (.getfield 194, 3) := by decide +kernel
theorem dX12_told_34 : decode cX12_told 34 = .ok (.goto 16, 3) := by decide +kernel
theorem dX12_told_37 : decode cX12_told 37 = .ok (.iload_n 1, 1) := by decide +kernel
theorem dX12_told_38 : decode cX12_told 38 = .ok (.iconst 2, 1) := by decide +kernel
theorem dX12_told_39 : decode cX12_told 39 = .ok (.if_icmp .ne 10, 3) := by decide +kernel
theorem dX12_told_42 : decode cX12_told 42 = .ok (.aload_n 0, 1) := by decide +kernel
theorem dX12_told_43 : decode cX12_told 43 = .ok (.getfield 191, 3) := by decide +kernel
theorem dX12_told_46 : decode cX12_told 46 = .ok (.goto 4, 3) := by decide +kernel
theorem dX12_told_49 : decode cX12_told 49 = .ok (.iconst (-1), 1) := by decide +kernel
theorem dX12_told_50 : decode cX12_told 50 = .ok (.ireturn, 1) := by decide +kernel
theorem dX12_digit_0 : decode cX12_digit 0 = .ok (.aload_n 0, 1) := by decide +kernel
theorem dX12_digit_1 : decode cX12_digit 1 = .ok (.iconst 0, 1) := by decide +kernel
theorem dX12_digit_2 : decode cX12_digit 2 = .ok (.putfield 107, 3) := by decide +kernel
theorem dX12_digit_5 : decode cX12_digit 5 = .ok (.aload_n 0, 1) := by decide +kernel
theorem dX12_digit_6 : decode cX12_digit 6 = .ok (.getfield 121, 3) := by decide +kernel
theorem dX12_digit_9 : decode cX12_digit 9 = .ok (.ifCond .ne 5, 3) := by decide +kernel
theorem dX12_digit_12 : decode cX12_digit 12 = .ok (.iconst (-1), 1) := by decide +kernel
theorem dX12_digit_13 : decode cX12_digit 13 = .ok (.ireturn, 1) := by decide +kernel
theorem dX12_digit_14 : decode cX12_digit 14 = .ok (.iload_n 1, 1) := by decide +kernel
theorem dX12_digit_15 : decode cX12_digit 15 = .ok (.aload_n 0, 1) := by decide +kernel
theorem dX12_digit_16 : decode cX12_digit 16 = .ok (.getfield 182, 3) := by decide +kernel
theorem dX12_digit_19 : decode cX12_digit 19 = .ok (.if_icmp .le 5, 3) := by decide +kernel
theorem dX12_digit_22 : decode cX12_digit 22 = .ok (.iconst 0, 1) := by decide +kernel
theorem dX12_digit_23 : decode cX12_digit 23 = .ok (.ireturn, 1) := by decide +kernel
theorem dX12_digit_24 : decode cX12_digit 24 = .ok (.iload_n 1, 1) := by decide +kernel
theorem dX12_digit_25 : decode cX12_digit 25 = .ok (.ifCond .lt 16, 3) := by decide +kernel
theorem dX12_digit_28 : decode cX12_digit 28 = .ok (.aload_n 0, 1) := by decide +kernel
theorem dX12_digit_29 : decode cX12_digit 29 = .ok (.getfield 37, 3) := by decide +kernel
theorem dX12_digit_32 : decode cX12_digit 32 = .ok (.aload_n 0, 1) := by decide +kernel
theorem dX12_digit_33 : decode cX12_digit 33 = .ok (.getfield 182, 3) := by decide +kernel
theorem dX12_digit_36 : decode cX12_digit 36 = .ok (.iload_n 1, 1) := by decide +kernel
theorem dX12_digit_37 : decode cX12_digit 37 = .ok (.isub, 1) := by decide +kernel
theorem dX12_digit_38 : decode cX12_digit 38 = .ok (.laload, 1) := by decide +kernel
theorem dX12_digit_39 : decode cX12_digit 39 = .ok (.l2i, 1) := by decide +kernel
theorem dX12_digit_40 : decode cX12_digit 40 = .ok (.ireturn, 1) := by decide +kernel
theorem dX12_digit_41 : decode cX12_digit 41 = .ok (.iload_n 1, 1) := by decide +kernel
theorem dX12_digit_42 : decode cX12_digit 42 = .ok (.i2l, 1) := by decide +kernel
theorem dX12_digit_43 : decode cX12_digit 43 = .ok (.lneg, 1) := by decide +kernel
theorem dX12_digit_44 : decode cX12_digit 44 = .ok (.lstore_n 2, 1) := by decide +kernel
theorem dX12_digit_45 : decode cX12_digit 45 = .ok (.lload_n 2, 1) := by decide +kernel
theorem dX12_digit_46 : decode cX12_digit 46 = .ok (.aload_n 0, 1) := by decide +kernel
theorem dX12_digit_47 : decode cX12_digit 47 = .ok (.getfield 194, 3) := by decide +kernel
theorem dX12_digit_50 : decode cX12_digit 50 = .ok (.i2l, 1) := by decide +kernel
theorem dX12_digit_51 : decode cX12_digit 51 = .ok (.lcmp, 1) := by decide +kernel
theorem dX12_digit_52 : decode cX12_digit 52 = .ok (.ifCond .le 34, 3) := by decide +kernel
theorem dX12_digit_55 : decode cX12_digit 55 = .ok (.aload_n 0, 1) := by decide +kernel
theorem dX12_digit_56 : decode cX12_digit 56 = .ok (.getfield 191, 3) := by decide +kernel
theorem dX12_digit_59 : decode cX12_digit 59 = .ok (.ifCond .le 27, 3) := by decide +kernel
theorem dX12_digit_62 : decode cX12_digit 62 = .ok (.aload_n 0, 1) := by decide +kernel
theorem dX12_digit_63 : decode cX12_digit 63 = .ok (.getfield 194, 3) := by decide +kernel
theorem dX12_digit_66 : decode cX12_digit 66 = .ok (.i2l, 1) := by decide +kernel
theorem dX12_digit_67 : decode cX12_digit 67 = .ok (.lconst 1, 1) := by decide +kernel
theorem dX12_digit_68 : decode cX12_digit 68 = .ok (.ladd, 1) := by decide +kernel
theorem dX12_digit_69 : decode cX12_digit 69 = .ok (.lload_n 2, 1) := by decide +kernel
theorem dX12_digit_70 : decode cX12_digit 70 = .ok (.aload_n 0, 1) := by decide +kernel
theorem dX12_digit_71 : decode cX12_digit 71 = .ok (.getfield 194, 3) := by decide +kernel
theorem dX12_digit_74 : decode cX12_digit 74 = .ok (.i2l, 1) := by decide +kernel
theorem dX12_digit_75 : decode cX12_digit 75 = .ok (.lsub, 1) := by decide +kernel
theorem dX12_digit_76 : decode cX12_digit 76 = .ok (.lconst 1, 1) := by decide +kernel
theorem dX12_digit_77 : decode cX12_digit 77 = .ok (.lsub, 1) := by decide +kernel
theorem dX12_digit_78 : decode cX12_digit 78 = .ok (.aload_n 0, 1) := by decide +kernel
theorem dX12_digit_79 : decode cX12_digit 79 = .ok (.getfield 191, 3) := by decide +kernel
theorem dX12_digit_82 : decode cX12_digit 82 = .ok (.i2l, 1) := by decide +kernel
theorem dX12_digit_83 : decode cX12_digit 83 = .ok (.lrem, 1) := by decide +kernel
theorem dX12_digit_84 : decode cX12_digit 84 = .ok (.ladd, 1) := by decide +kernel
theorem dX12_digit_85 : decode cX12_digit 85 = .ok (.lstore_n 2, 1) := by decide +kernel
theorem dX12_digit_86 : decode cX12_digit 86 = .ok (.lload_n 2, 1) := by decide +kernel
theorem dX12_digit_87 : decode cX12_digit 87 = .ok (.aload_n 0, 1) := by decide +kernel
theorem dX12_digit_88 : decode cX12_digit 88 = .ok (.getfield 194, 3) := by decide +kernel
theorem dX12_digit_91 : decode cX12_digit 91 = .ok (.aload_n 0, 1) := by decide +kernel
theorem dX12_digit_92 : decode cX12_digit 92 = .ok (.getfield 191, 3) := by decide +kernel
theorem dX12_digit_95 : decode cX12_digit 95 = .ok (.iadd, 1) := by decide +kernel
theorem dX12_digit_96 : decode cX12_digit 96 = .ok (.i2l, 1) := by decide +kernel
theorem dX12_digit_97 : decode cX12_digit 97 = .ok (.lcmp, 1) := by decide +kernel
theorem dX12_digit_98 : decode cX12_digit 98 = .ok (.ifCond .le 17, 3) := by decide +kernel
theorem dX12_digit_101 : decode cX12_digit 101 = .ok (.aload_n 0, 1) := by decide +kernel
theorem dX12_digit_102 : decode cX12_digit 102 = .ok (.getfield 197, 3) := by decide +kernel
theorem dX12_digit_105 : decode cX12_digit 105 = .ok (.iconst 2, 1) := by decide +kernel
theorem dX12_digit_106 : decode cX12_digit 106 = .ok (.if_icmp .ne 7, 3) := by decide +kernel
theorem dX12_digit_109 : decode cX12_digit 109 = .ok (.iconst (-1), 1) := by decide +kernel
theorem dX12_digit_110 : decode cX12_digit 110 = .ok (.goto 4, 3) := by decide +kernel
theorem dX12_digit_113 : decode cX12_digit 113 = .ok (.iconst 0, 1) := by decide +kernel
theorem dX12_digit_114 : decode cX12_digit 114 = .ok (.ireturn, 1) := by decide +kernel
theorem dX12_digit_115 : decode cX12_digit 115 = .ok (.aload_n 0, 1) := by decide +kernel
theorem dX12_digit_116 : decode cX12_digit 116 = .ok (.getfield 37, 3) := by decide +kernel
theorem dX12_digit_119 : decode cX12_digit 119 = .ok (.aload_n 0, 1) := by decide +kernel
theorem dX12_digit_120 : decode cX12_digit 120 = .ok (.getfield 182, 3) := by decide +kernel
theorem dX12_digit_123 : decode cX12_digit 123 = .ok (.lload_n 2, 1) := by decide +kernel
theorem dX12_digit_124 : decode cX12_digit 124 = .ok (.l2i, 1) := by decide +kernel
theorem dX12_digit_125 : decode cX12_digit 125 = .ok (.iadd, 1) := by decide +kernel
theorem dX12_digit_126 : decode cX12_digit 126 = .ok (.laload, 1) := by decide +kernel
theorem dX12_digit_127 : decode cX12_digit 127 = .ok (.l2i, 1) := by decide +kernel
theorem dX12_digit_128 : decode cX12_digit 128 = .ok (.ireturn, 1) := by decide +kernel
theorem dX12_power_0 : decode cX12_power 0 = .ok (.aload_n 0, 1) := by decide +kernel
theorem dX12_power_1 : decode cX12_power 1 = .ok (.lconst 1, 1) := by decide +kernel
theorem dX12_power_2 : decode cX12_power 2 = .ok (.lconst 0, 1) := by decide +kernel
theorem dX12_power_3 : decode cX12_power 3 = .ok (.lconst 1, 1) := by decide +kernel
theorem dX12_power_4 : decode cX12_power 4 = .ok (.invokevirtual 151, 3) := by decide +kernel
theorem dX12_power_7 : decode cX12_power 7 = .ok (.iconst 1, 1) := by decide +kernel
theorem dX12_power_8 : decode cX12_power 8 = .ok (.istore_n 2, 1) := by decide +kernel
theorem dX12_power_9 : decode cX12_power 9 = .ok (.iconst 0, 1) := by decide +kernel
theorem dX12_power_10 : decode cX12_power 10 = .ok (.istore_n 3, 1) := by decide +kernel
theorem dX12_power_11 : decode cX12_power 11 = .ok (.iload_n 3, 1) := by decide +kernel
theorem dX12_power_12 : decode cX12_power 12 = .ok (.iload_n 1, 1) := by decide +kernel
theorem dX12_power_13 : decode cX12_power 13 = .ok (.ifCond .ge 8, 3) := by decide +kernel
theorem dX12_power_16 : decode cX12_power 16 = .ok (.iload_n 1, 1) := by decide +kernel
theorem dX12_power_17 : decode cX12_power 17 = .ok (.ineg, 1) := by decide +kernel
theorem dX12_power_18 : decode cX12_power 18 = .ok (.goto 4, 3) := by decide +kernel
theorem dX12_power_21 : decode cX12_power 21 = .ok (.iload_n 1, 1) := by decide +kernel
theorem dX12_power_22 : decode cX12_power 22 = .ok (.if_icmp .ge 48, 3) := by decide +kernel
theorem dX12_power_25 : decode cX12_power 25 = .ok (.iload_n 2, 1) := by decide +kernel
theorem dX12_power_26 : decode cX12_power 26 = .ok (.ifCond .eq 44, 3) := by decide +kernel
theorem dX12_power_29 : decode cX12_power 29 = .ok (.iload_n 1, 1) := by decide +kernel
theorem dX12_power_30 : decode cX12_power 30 = .ok (.ifCond .le 13, 3) := by decide +kernel
theorem dX12_power_33 : decode cX12_power 33 = .ok (.aload_n 0, 1) := by decide +kernel
theorem dX12_power_34 : decode cX12_power 34 = .ok (.lconst 0, 1) := by decide +kernel
theorem dX12_power_35 : decode cX12_power 35 = .ok (.lconst 1, 1) := by decide +kernel
theorem dX12_power_36 : decode cX12_power 36 = .ok (.lconst 1, 1) := by decide +kernel
theorem dX12_power_37 : decode cX12_power 37 = .ok (.invokevirtual 158, 3) := by decide +kernel
theorem dX12_power_40 : decode cX12_power 40 = .ok (.goto 19, 3) := by decide +kernel
theorem dX12_power_43 : decode cX12_power 43 = .ok (.aload_n 0, 1) := by decide +kernel
theorem dX12_power_44 : decode cX12_power 44 = .ok (.aload_n 0, 1) := by decide +kernel
theorem dX12_power_45 : decode cX12_power 45 = .ok (.getfield 13, 3) := by decide +kernel
theorem dX12_power_48 : decode cX12_power 48 = .ok (.ineg, 1) := by decide +kernel
theorem dX12_power_49 : decode cX12_power 49 = .ok (.i2l, 1) := by decide +kernel
theorem dX12_power_50 : decode cX12_power 50 = .ok (.lconst 1, 1) := by decide +kernel
theorem dX12_power_51 : decode cX12_power 51 = .ok (.aload_n 0, 1) := by decide +kernel
theorem dX12_power_52 : decode cX12_power 52 = .ok (.getfield 17, 3) := by decide +kernel
theorem dX12_power_55 : decode cX12_power 55 = .ok (.i2l, 1) := by decide +kernel
theorem dX12_power_56 : decode cX12_power 56 = .ok (.invokevirtual 158, 3) := by decide +kernel
theorem dX12_power_59 : decode cX12_power 59 = .ok (.aload_n 0, 1) := by decide +kernel
theorem dX12_power_60 : decode cX12_power 60 = .ok (.invokevirtual 147, 3) := by decide +kernel
theorem dX12_power_63 : decode cX12_power 63 = .ok (.istore_n 2, 1) := by decide +kernel
theorem dX12_power_64 : decode cX12_power 64 = .ok (.iinc 3 1, 3) := by decide +kernel
theorem dX12_power_67 : decode cX12_power 67 = .ok (.goto (-56), 3) := by decide +kernel
theorem dX12_power_70 : decode cX12_power 70 = .ok (.iload_n 2, 1) := by decide +kernel
theorem dX12_power_71 : decode cX12_power 71 = .ok (.ireturn, 1) := by decide +kernel
theorem dX12_summed_0 : decode cX12_summed 0 = .ok (.aload_n 0, 1) := by decide +kernel
theorem dX12_summed_1 : decode cX12_summed 1 = .ok (.lconst 0, 1) := by decide +kernel
theorem dX12_summed_2 : decode cX12_summed 2 = .ok (.putfield 200, 3) := by decide +kernel
theorem dX12_summed_5 : decode cX12_summed 5 = .ok (.aload_n 0, 1) := by decide +kernel
theorem dX12_summed_6 : decode cX12_summed 6 = .ok (.lconst 0, 1) := by decide +kernel
theorem dX12_summed_7 : decode cX12_summed 7 = .ok (.putfield 203, 3) := by decide +kernel
theorem dX12_summed_10 : decode cX12_summed 10 = .ok (.aload_n 0, 1) := by decide +kernel
theorem dX12_summed_11 : decode cX12_summed 11 = .ok (.lconst 1, 1) := by decide +kernel
theorem dX12_summed_12 : decode cX12_summed 12 = .ok (.putfield 206, 3) := by decide +kernel
theorem dX12_summed_15 : decode cX12_summed 15 = .ok (.iconst 0, 1) := by decide +kernel
theorem dX12_summed_16 : decode cX12_summed 16 = .ok (.istore 4, 2) := by decide +kernel
theorem dX12_summed_18 : decode cX12_summed 18 = .ok (.iload 4, 2) := by decide +kernel
theorem dX12_summed_20 : decode cX12_summed 20 = .ok (.iload_n 2, 1) := by decide +kernel
theorem dX12_summed_21 : decode cX12_summed 21 = .ok (.if_icmp .ge 96, 3) := by decide +kernel
theorem dX12_summed_24 : decode cX12_summed 24 = .ok (.aload_n 0, 1) := by decide +kernel
theorem dX12_summed_25 : decode cX12_summed 25 = .ok (.iload_n 3, 1) := by decide +kernel
theorem dX12_summed_26 : decode cX12_summed 26 = .ok (.iload 4, 2) := by decide +kernel
theorem dX12_summed_28 : decode cX12_summed 28 = .ok (.isub, 1) := by decide +kernel
theorem dX12_summed_29 : decode cX12_summed 29 = .ok (.invokevirtual 209, 3) := by decide +kernel
theorem dX12_summed_32 : decode cX12_summed 32 = .ok (.ifCond .ne 5, 3) := by decide +kernel
theorem dX12_summed_35 : decode cX12_summed 35 = .ok (.iconst 0, 1) := by decide +kernel
theorem dX12_summed_36 : decode cX12_summed 36 = .ok (.ireturn, 1) := by decide +kernel
theorem dX12_summed_37 : decode cX12_summed 37 = .ok (.aload_n 0, 1) := by decide +kernel
theorem dX12_summed_38 : decode cX12_summed 38 = .ok (.getfield 7, 3) := by decide +kernel
theorem dX12_summed_41 : decode cX12_summed 41 = .ok (.iload_n 1, 1) := by decide +kernel
theorem dX12_summed_42 : decode cX12_summed 42 = .ok (.iload 4, 2) := by decide +kernel
theorem dX12_summed_44 : decode cX12_summed 44 = .ok (.iadd, 1) := by decide +kernel
theorem dX12_summed_45 : decode cX12_summed 45 = .ok (.baload, 1) := by decide +kernel
theorem dX12_summed_46 : decode cX12_summed 46 = .ok (.i2l, 1) := by decide +kernel
theorem dX12_summed_47 : decode cX12_summed 47 = .ok (.lstore 5, 2) := by decide +kernel
theorem dX12_summed_49 : decode cX12_summed 49 = .ok (.aload_n 0, 1) := by decide +kernel
theorem dX12_summed_50 : decode cX12_summed 50 = .ok (.dup, 1) := by decide +kernel
theorem dX12_summed_51 : decode cX12_summed 51 = .ok (.getfield 131, 3) := by decide +kernel
theorem dX12_summed_54 : decode cX12_summed 54 = .ok (.lload 5, 2) := by decide +kernel
theorem dX12_summed_56 : decode cX12_summed 56 = .ok (.lmul, 1) := by decide +kernel
theorem dX12_summed_57 : decode cX12_summed 57 = .ok (.putfield 131, 3) := by decide +kernel
theorem dX12_summed_60 : decode cX12_summed 60 = .ok (.aload_n 0, 1) := by decide +kernel
theorem dX12_summed_61 : decode cX12_summed 61 = .ok (.dup, 1) := by decide +kernel
theorem dX12_summed_62 : decode cX12_summed 62 = .ok (.getfield 135, 3) := by decide +kernel
theorem dX12_summed_65 : decode cX12_summed 65 = .ok (.lload 5, 2) := by decide +kernel
theorem dX12_summed_67 : decode cX12_summed 67 = .ok (.lmul, 1) := by decide +kernel
theorem dX12_summed_68 : decode cX12_summed 68 = .ok (.putfield 135, 3) := by decide +kernel
theorem dX12_summed_71 : decode cX12_summed 71 = .ok (.aload_n 0, 1) := by decide +kernel
theorem dX12_summed_72 : decode cX12_summed 72 = .ok (.aload_n 0, 1) := by decide +kernel
theorem dX12_summed_73 : decode cX12_summed 73 = .ok (.getfield 200, 3) := by decide +kernel
theorem dX12_summed_76 : decode cX12_summed 76 = .ok (.aload_n 0, 1) := by decide +kernel
theorem dX12_summed_77 : decode cX12_summed 77 = .ok (.getfield 203, 3) := by decide +kernel
theorem dX12_summed_80 : decode cX12_summed 80 = .ok (.aload_n 0, 1) := by decide +kernel
theorem dX12_summed_81 : decode cX12_summed 81 = .ok (.getfield 206, 3) := by decide +kernel
theorem dX12_summed_84 : decode cX12_summed 84 = .ok (.invokevirtual 164, 3) := by decide +kernel
theorem dX12_summed_87 : decode cX12_summed 87 = .ok (.aload_n 0, 1) := by decide +kernel
theorem dX12_summed_88 : decode cX12_summed 88 = .ok (.aload_n 0, 1) := by decide +kernel
theorem dX12_summed_89 : decode cX12_summed 89 = .ok (.getfield 131, 3) := by decide +kernel
theorem dX12_summed_92 : decode cX12_summed 92 = .ok (.putfield 200, 3) := by decide +kernel
theorem dX12_summed_95 : decode cX12_summed 95 = .ok (.aload_n 0, 1) := by decide +kernel
theorem dX12_summed_96 : decode cX12_summed 96 = .ok (.aload_n 0, 1) := by decide +kernel
theorem dX12_summed_97 : decode cX12_summed 97 = .ok (.getfield 135, 3) := by decide +kernel
theorem dX12_summed_100 : decode cX12_summed 100 = .ok (.putfield 203, 3) := by decide +kernel
theorem dX12_summed_103 : decode cX12_summed 103 = .ok (.aload_n 0, 1) := by decide +kernel
theorem dX12_summed_104 : decode cX12_summed 104 = .ok (.aload_n 0, 1) := by decide +kernel
theorem dX12_summed_105 : decode cX12_summed 105 = .ok (.getfield 138, 3) := by decide +kernel
theorem dX12_summed_108 : decode cX12_summed 108 = .ok (.putfield 206, 3) := by decide +kernel
theorem dX12_summed_111 : decode cX12_summed 111 = .ok (.iinc 4 1, 3) := by decide +kernel
theorem dX12_summed_114 : decode cX12_summed 114 = .ok (.goto (-96), 3) := by decide +kernel
theorem dX12_summed_117 : decode cX12_summed 117 = .ok (.aload_n 0, 1) := by decide +kernel
theorem dX12_summed_118 : decode cX12_summed 118 = .ok (.aload_n 0, 1) := by decide +kernel
theorem dX12_summed_119 : decode cX12_summed 119 = .ok (.getfield 200, 3) := by decide +kernel
theorem dX12_summed_122 : decode cX12_summed 122 = .ok (.aload_n 0, 1) := by decide +kernel
theorem dX12_summed_123 : decode cX12_summed 123 = .ok (.getfield 203, 3) := by decide +kernel
theorem dX12_summed_126 : decode cX12_summed 126 = .ok (.aload_n 0, 1) := by decide +kernel
theorem dX12_summed_127 : decode cX12_summed 127 = .ok (.getfield 206, 3) := by decide +kernel
theorem dX12_summed_130 : decode cX12_summed 130 = .ok (.invokevirtual 151, 3) := by decide +kernel
theorem dX12_summed_133 : decode cX12_summed 133 = .ok (.aload_n 0, 1) := by decide +kernel
theorem dX12_summed_134 : decode cX12_summed 134 = .ok (.invokevirtual 147, 3) := by decide +kernel
theorem dX12_summed_137 : decode cX12_summed 137 = .ok (.ireturn, 1) := by decide +kernel
theorem dX12_value_0 : decode cX12_value 0 = .ok (.aload_n 0, 1) := by decide +kernel
theorem dX12_value_1 : decode cX12_value 1 = .ok (.iconst 0, 1) := by decide +kernel
theorem dX12_value_2 : decode cX12_value 2 = .ok (.putfield 107, 3) := by decide +kernel
theorem dX12_value_5 : decode cX12_value 5 = .ok (.aload_n 0, 1) := by decide +kernel
theorem dX12_value_6 : decode cX12_value 6 = .ok (.invokevirtual 212, 3) := by decide +kernel
theorem dX12_value_9 : decode cX12_value 9 = .ok (.istore 4, 2) := by decide +kernel
theorem dX12_value_11 : decode cX12_value 11 = .ok (.iload_n 1, 1) := by decide +kernel
theorem dX12_value_12 : decode cX12_value 12 = .ok (.ifCond .lt 28, 3) := by decide +kernel
theorem dX12_value_15 : decode cX12_value 15 = .ok (.iload_n 1, 1) := by decide +kernel
theorem dX12_value_16 : decode cX12_value 16 = .ok (.bipush 10, 2) := by decide +kernel
theorem dX12_value_18 : decode cX12_value 18 = .ok (.if_icmp .ge 22, 3) := by decide +kernel
theorem dX12_value_21 : decode cX12_value 21 = .ok (.iload_n 2, 1) := by decide +kernel
theorem dX12_value_22 : decode cX12_value 22 = .ok (.ifCond .lt 18, 3) := by decide +kernel
theorem dX12_value_25 : decode cX12_value 25 = .ok (.iload_n 2, 1) := by decide +kernel
theorem dX12_value_26 : decode cX12_value 26 = .ok (.iload 4, 2) := by decide +kernel
theorem dX12_value_28 : decode cX12_value 28 = .ok (.if_icmp .gt 12, 3) := by decide +kernel
theorem dX12_value_31 : decode cX12_value 31 = .ok (.iload_n 3, 1) := by decide +kernel
theorem dX12_value_32 : decode cX12_value 32 = .ok (.ifCond .lt 8, 3) := by decide +kernel
theorem dX12_value_35 : decode cX12_value 35 = .ok (.iload_n 3, 1) := by decide +kernel
theorem dX12_value_36 : decode cX12_value 36 = .ok (.iload_n 2, 1) := by decide +kernel
theorem dX12_value_37 : decode cX12_value 37 = .ok (.if_icmp .le 5, 3) := by decide +kernel
theorem dX12_value_40 : decode cX12_value 40 = .ok (.iconst 0, 1) := by decide +kernel
theorem dX12_value_41 : decode cX12_value 41 = .ok (.ireturn, 1) := by decide +kernel
theorem dX12_value_42 : decode cX12_value 42 = .ok (.aload_n 0, 1) := by decide +kernel
theorem dX12_value_43 : decode cX12_value 43 = .ok (.iconst 0, 1) := by decide +kernel
theorem dX12_value_44 : decode cX12_value 44 = .ok (.iload 4, 2) := by decide +kernel
theorem dX12_value_46 : decode cX12_value 46 = .ok (.iload_n 3, 1) := by decide +kernel
theorem dX12_value_47 : decode cX12_value 47 = .ok (.isub, 1) := by decide +kernel
theorem dX12_value_48 : decode cX12_value 48 = .ok (.iload 4, 2) := by decide +kernel
theorem dX12_value_50 : decode cX12_value 50 = .ok (.iload_n 2, 1) := by decide +kernel
theorem dX12_value_51 : decode cX12_value 51 = .ok (.isub, 1) := by decide +kernel
theorem dX12_value_52 : decode cX12_value 52 = .ok (.iconst 1, 1) := by decide +kernel
theorem dX12_value_53 : decode cX12_value 53 = .ok (.isub, 1) := by decide +kernel
theorem dX12_value_54 : decode cX12_value 54 = .ok (.invokevirtual 216, 3) := by decide +kernel
theorem dX12_value_57 : decode cX12_value 57 = .ok (.ifCond .ne 5, 3) := by decide +kernel
theorem dX12_value_60 : decode cX12_value 60 = .ok (.iconst 0, 1) := by decide +kernel
theorem dX12_value_61 : decode cX12_value 61 = .ok (.ireturn, 1) := by decide +kernel
theorem dX12_value_62 : decode cX12_value 62 = .ok (.iload_n 3, 1) := by decide +kernel
theorem dX12_value_63 : decode cX12_value 63 = .ok (.ifCond .ne 9, 3) := by decide +kernel
theorem dX12_value_66 : decode cX12_value 66 = .ok (.aload_n 0, 1) := by decide +kernel
theorem dX12_value_67 : decode cX12_value 67 = .ok (.iload_n 1, 1) := by decide +kernel
theorem dX12_value_68 : decode cX12_value 68 = .ok (.invokevirtual 155, 3) := by decide +kernel
theorem dX12_value_71 : decode cX12_value 71 = .ok (.ireturn, 1) := by decide +kernel
theorem dX12_value_72 : decode cX12_value 72 = .ok (.aload_n 0, 1) := by decide +kernel
theorem dX12_value_73 : decode cX12_value 73 = .ok (.getfield 131, 3) := by decide +kernel
theorem dX12_value_76 : decode cX12_value 76 = .ok (.lstore 5, 2) := by decide +kernel
theorem dX12_value_78 : decode cX12_value 78 = .ok (.aload_n 0, 1) := by decide +kernel
theorem dX12_value_79 : decode cX12_value 79 = .ok (.getfield 135, 3) := by decide +kernel
theorem dX12_value_82 : decode cX12_value 82 = .ok (.lstore 7, 2) := by decide +kernel
theorem dX12_value_84 : decode cX12_value 84 = .ok (.aload_n 0, 1) := by decide +kernel
theorem dX12_value_85 : decode cX12_value 85 = .ok (.getfield 138, 3) := by decide +kernel
theorem dX12_value_88 : decode cX12_value 88 = .ok (.lstore 9, 2) := by decide +kernel
theorem dX12_value_90 : decode cX12_value 90 = .ok (.aload_n 0, 1) := by decide +kernel
theorem dX12_value_91 : decode cX12_value 91 = .ok (.iload 4, 2) := by decide +kernel
theorem dX12_value_93 : decode cX12_value 93 = .ok (.iload_n 3, 1) := by decide +kernel
theorem dX12_value_94 : decode cX12_value 94 = .ok (.isub, 1) := by decide +kernel
theorem dX12_value_95 : decode cX12_value 95 = .ok (.iload_n 3, 1) := by decide +kernel
theorem dX12_value_96 : decode cX12_value 96 = .ok (.iload_n 3, 1) := by decide +kernel
theorem dX12_value_97 : decode cX12_value 97 = .ok (.iconst 1, 1) := by decide +kernel
theorem dX12_value_98 : decode cX12_value 98 = .ok (.isub, 1) := by decide +kernel
theorem dX12_value_99 : decode cX12_value 99 = .ok (.invokevirtual 216, 3) := by decide +kernel
theorem dX12_value_102 : decode cX12_value 102 = .ok (.ifCond .ne 5, 3) := by decide +kernel
theorem dX12_value_105 : decode cX12_value 105 = .ok (.iconst 0, 1) := by decide +kernel
theorem dX12_value_106 : decode cX12_value 106 = .ok (.ireturn, 1) := by decide +kernel
theorem dX12_value_107 : decode cX12_value 107 = .ok (.aload_n 0, 1) := by decide +kernel
theorem dX12_value_108 : decode cX12_value 108 = .ok (.getfield 131, 3) := by decide +kernel
theorem dX12_value_111 : decode cX12_value 111 = .ok (.lstore 11, 2) := by decide +kernel
theorem dX12_value_113 : decode cX12_value 113 = .ok (.aload_n 0, 1) := by decide +kernel
theorem dX12_value_114 : decode cX12_value 114 = .ok (.getfield 135, 3) := by decide +kernel
theorem dX12_value_117 : decode cX12_value 117 = .ok (.lstore 13, 2) := by decide +kernel
theorem dX12_value_119 : decode cX12_value 119 = .ok (.aload_n 0, 1) := by decide +kernel
theorem dX12_value_120 : decode cX12_value 120 = .ok (.getfield 138, 3) := by decide +kernel
theorem dX12_value_123 : decode cX12_value 123 = .ok (.lstore 15, 2) := by decide +kernel
theorem dX12_value_125 : decode cX12_value 125 = .ok (.aload_n 0, 1) := by decide +kernel
theorem dX12_value_126 : decode cX12_value 126 = .ok (.iload_n 3, 1) := by decide +kernel
theorem dX12_value_127 : decode cX12_value 127 = .ok (.invokevirtual 209, 3) := by decide +kernel
theorem dX12_value_130 : decode cX12_value 130 = .ok (.ifCond .ne 5, 3) := by decide +kernel
theorem dX12_value_133 : decode cX12_value 133 = .ok (.iconst 0, 1) := by decide +kernel
theorem dX12_value_134 : decode cX12_value 134 = .ok (.ireturn, 1) := by decide +kernel
theorem dX12_value_135 : decode cX12_value 135 = .ok (.aload_n 0, 1) := by decide +kernel
theorem dX12_value_136 : decode cX12_value 136 = .ok (.aload_n 0, 1) := by decide +kernel
theorem dX12_value_137 : decode cX12_value 137 = .ok (.getfield 131, 3) := by decide +kernel
theorem dX12_value_140 : decode cX12_value 140 = .ok (.lconst 1, 1) := by decide +kernel
theorem dX12_value_141 : decode cX12_value 141 = .ok (.lsub, 1) := by decide +kernel
theorem dX12_value_142 : decode cX12_value 142 = .ok (.aload_n 0, 1) := by decide +kernel
theorem dX12_value_143 : decode cX12_value 143 = .ok (.getfield 135, 3) := by decide +kernel
theorem dX12_value_146 : decode cX12_value 146 = .ok (.lconst 1, 1) := by decide +kernel
theorem dX12_value_147 : decode cX12_value 147 = .ok (.invokevirtual 151, 3) := by decide +kernel
theorem dX12_value_150 : decode cX12_value 150 = .ok (.aload_n 0, 1) := by decide +kernel
theorem dX12_value_151 : decode cX12_value 151 = .ok (.invokevirtual 147, 3) := by decide +kernel
theorem dX12_value_154 : decode cX12_value 154 = .ok (.ifCond .ne 5, 3) := by decide +kernel
theorem dX12_value_157 : decode cX12_value 157 = .ok (.iconst 0, 1) := by decide +kernel
theorem dX12_value_158 : decode cX12_value 158 = .ok (.ireturn, 1) := by decide +kernel
theorem dX12_value_159 : decode cX12_value 159 = .ok (.aload_n 0, 1) := by decide +kernel
theorem dX12_value_160 : decode cX12_value 160 = .ok (.getfield 131, 3) := by decide +kernel
theorem dX12_value_163 : decode cX12_value 163 = .ok (.lstore 17, 2) := by decide +kernel
theorem dX12_value_165 : decode cX12_value 165 = .ok (.aload_n 0, 1) := by decide +kernel
theorem dX12_value_166 : decode cX12_value 166 = .ok (.getfield 135, 3) := by decide +kernel
theorem dX12_value_169 : decode cX12_value 169 = .ok (.lstore 19, 2) := by decide +kernel
theorem dX12_value_171 : decode cX12_value 171 = .ok (.aload_n 0, 1) := by decide +kernel
theorem dX12_value_172 : decode cX12_value 172 = .ok (.lload 11, 2) := by decide +kernel
theorem dX12_value_174 : decode cX12_value 174 = .ok (.lload 13, 2) := by decide +kernel
theorem dX12_value_176 : decode cX12_value 176 = .ok (.lload 15, 2) := by decide +kernel
theorem dX12_value_178 : decode cX12_value 178 = .ok (.invokevirtual 151, 3) := by decide +kernel
theorem dX12_value_181 : decode cX12_value 181 = .ok (.aload_n 0, 1) := by decide +kernel
theorem dX12_value_182 : decode cX12_value 182 = .ok (.lload 17, 2) := by decide +kernel
theorem dX12_value_184 : decode cX12_value 184 = .ok (.lload 19, 2) := by decide +kernel
theorem dX12_value_186 : decode cX12_value 186 = .ok (.lconst 1, 1) := by decide +kernel
theorem dX12_value_187 : decode cX12_value 187 = .ok (.invokevirtual 167, 3) := by decide +kernel
theorem dX12_value_190 : decode cX12_value 190 = .ok (.aload_n 0, 1) := by decide +kernel
theorem dX12_value_191 : decode cX12_value 191 = .ok (.invokevirtual 147, 3) := by decide +kernel
theorem dX12_value_194 : decode cX12_value 194 = .ok (.ifCond .ne 5, 3) := by decide +kernel
theorem dX12_value_197 : decode cX12_value 197 = .ok (.iconst 0, 1) := by decide +kernel
theorem dX12_value_198 : decode cX12_value 198 = .ok (.ireturn, 1) := by decide +kernel
theorem dX12_value_199 : decode cX12_value 199 = .ok (.aload_n 0, 1) := by decide +kernel
theorem dX12_value_200 : decode cX12_value 200 = .ok (.getfield 131, 3) := by decide +kernel
theorem dX12_value_203 : decode cX12_value 203 = .ok (.lstore 11, 2) := by decide +kernel
theorem dX12_value_205 : decode cX12_value 205 = .ok (.aload_n 0, 1) := by decide +kernel
theorem dX12_value_206 : decode cX12_value 206 = .ok (.getfield 135, 3) := by decide +kernel
theorem dX12_value_209 : decode cX12_value 209 = .ok (.lstore 13, 2) := by decide +kernel
theorem dX12_value_211 : decode cX12_value 211 = .ok (.aload_n 0, 1) := by decide +kernel
theorem dX12_value_212 : decode cX12_value 212 = .ok (.getfield 138, 3) := by decide +kernel
theorem dX12_value_215 : decode cX12_value 215 = .ok (.lstore 15, 2) := by decide +kernel
theorem dX12_value_217 : decode cX12_value 217 = .ok (.aload_n 0, 1) := by decide +kernel
theorem dX12_value_218 : decode cX12_value 218 = .ok (.iload_n 3, 1) := by decide +kernel
theorem dX12_value_219 : decode cX12_value 219 = .ok (.iload_n 2, 1) := by decide +kernel
theorem dX12_value_220 : decode cX12_value 220 = .ok (.isub, 1) := by decide +kernel
theorem dX12_value_221 : decode cX12_value 221 = .ok (.invokevirtual 209, 3) := by decide +kernel
theorem dX12_value_224 : decode cX12_value 224 = .ok (.ifCond .ne 5, 3) := by decide +kernel
theorem dX12_value_227 : decode cX12_value 227 = .ok (.iconst 0, 1) := by decide +kernel
theorem dX12_value_228 : decode cX12_value 228 = .ok (.ireturn, 1) := by decide +kernel
theorem dX12_value_229 : decode cX12_value 229 = .ok (.aload_n 0, 1) := by decide +kernel
theorem dX12_value_230 : decode cX12_value 230 = .ok (.lload 11, 2) := by decide +kernel
theorem dX12_value_232 : decode cX12_value 232 = .ok (.lload 13, 2) := by decide +kernel
theorem dX12_value_234 : decode cX12_value 234 = .ok (.lload 15, 2) := by decide +kernel
theorem dX12_value_236 : decode cX12_value 236 = .ok (.invokevirtual 158, 3) := by decide +kernel
theorem dX12_value_239 : decode cX12_value 239 = .ok (.aload_n 0, 1) := by decide +kernel
theorem dX12_value_240 : decode cX12_value 240 = .ok (.invokevirtual 147, 3) := by decide +kernel
theorem dX12_value_243 : decode cX12_value 243 = .ok (.ifCond .ne 5, 3) := by decide +kernel
theorem dX12_value_246 : decode cX12_value 246 = .ok (.iconst 0, 1) := by decide +kernel
theorem dX12_value_247 : decode cX12_value 247 = .ok (.ireturn, 1) := by decide +kernel
theorem dX12_value_248 : decode cX12_value 248 = .ok (.aload_n 0, 1) := by decide +kernel
theorem dX12_value_249 : decode cX12_value 249 = .ok (.lload 5, 2) := by decide +kernel
theorem dX12_value_251 : decode cX12_value 251 = .ok (.lload 7, 2) := by decide +kernel
theorem dX12_value_253 : decode cX12_value 253 = .ok (.lload 9, 2) := by decide +kernel
theorem dX12_value_255 : decode cX12_value 255 = .ok (.invokevirtual 164, 3) := by decide +kernel
theorem dX12_value_258 : decode cX12_value 258 = .ok (.aload_n 0, 1) := by decide +kernel
theorem dX12_value_259 : decode cX12_value 259 = .ok (.iload_n 1, 1) := by decide +kernel
theorem dX12_value_260 : decode cX12_value 260 = .ok (.invokevirtual 155, 3) := by decide +kernel
theorem dX12_value_263 : decode cX12_value 263 = .ok (.ireturn, 1) := by decide +kernel
theorem dX12_bar_0 : decode cX12_bar 0 = .ok (.aload_n 0, 1) := by decide +kernel
theorem dX12_bar_1 : decode cX12_bar 1 = .ok (.getfield 17, 3) := by decide +kernel
theorem dX12_bar_4 : decode cX12_bar 4 = .ok (.ifCond .le 25, 3) := by decide +kernel
theorem dX12_bar_7 : decode cX12_bar 7 = .ok (.iload_n 1, 1) := by decide +kernel
theorem dX12_bar_8 : decode cX12_bar 8 = .ok (.iconst 2, 1) := by decide +kernel
theorem dX12_bar_9 : decode cX12_bar 9 = .ok (.irem, 1) := by decide +kernel
theorem dX12_bar_10 : decode cX12_bar 10 = .ok (.ifCond .ne 10, 3) := by decide +kernel
theorem dX12_bar_13 : decode cX12_bar 13 = .ok (.aload_n 0, 1) := by decide +kernel
theorem dX12_bar_14 : decode cX12_bar 14 = .ok (.getfield 13, 3) := by decide +kernel
theorem dX12_bar_17 : decode cX12_bar 17 = .ok (.goto 36, 3) := by decide +kernel
theorem dX12_bar_20 : decode cX12_bar 20 = .ok (.aload_n 0, 1) := by decide +kernel
theorem dX12_bar_21 : decode cX12_bar 21 = .ok (.getfield 17, 3) := by decide +kernel
theorem dX12_bar_24 : decode cX12_bar 24 = .ok (.iconst 1, 1) := by decide +kernel
theorem dX12_bar_25 : decode cX12_bar 25 = .ok (.isub, 1) := by decide +kernel
theorem dX12_bar_26 : decode cX12_bar 26 = .ok (.goto 27, 3) := by decide +kernel
theorem dX12_bar_29 : decode cX12_bar 29 = .ok (.iload_n 1, 1) := by decide +kernel
theorem dX12_bar_30 : decode cX12_bar 30 = .ok (.ifCond .ne 12, 3) := by decide +kernel
theorem dX12_bar_33 : decode cX12_bar 33 = .ok (.aload_n 0, 1) := by decide +kernel
theorem dX12_bar_34 : decode cX12_bar 34 = .ok (.getfield 13, 3) := by decide +kernel
theorem dX12_bar_37 : decode cX12_bar 37 = .ok (.iconst 1, 1) := by decide +kernel
theorem dX12_bar_38 : decode cX12_bar 38 = .ok (.isub, 1) := by decide +kernel
theorem dX12_bar_39 : decode cX12_bar 39 = .ok (.goto 14, 3) := by decide +kernel
theorem dX12_bar_42 : decode cX12_bar 42 = .ok (.aload_n 0, 1) := by decide +kernel
theorem dX12_bar_43 : decode cX12_bar 43 = .ok (.getfield 13, 3) := by decide +kernel
theorem dX12_bar_46 : decode cX12_bar 46 = .ok (.aload_n 0, 1) := by decide +kernel
theorem dX12_bar_47 : decode cX12_bar 47 = .ok (.getfield 17, 3) := by decide +kernel
theorem dX12_bar_50 : decode cX12_bar 50 = .ok (.iadd, 1) := by decide +kernel
theorem dX12_bar_51 : decode cX12_bar 51 = .ok (.iconst 1, 1) := by decide +kernel
theorem dX12_bar_52 : decode cX12_bar 52 = .ok (.isub, 1) := by decide +kernel
theorem dX12_bar_53 : decode cX12_bar 53 = .ok (.ireturn, 1) := by decide +kernel
theorem dX12_allowed_0 : decode cX12_allowed 0 = .ok (.aload_n 0, 1) := by decide +kernel
theorem dX12_allowed_1 : decode cX12_allowed 1 = .ok (.iconst 0, 1) := by decide +kernel
theorem dX12_allowed_2 : decode cX12_allowed 2 = .ok (.putfield 107, 3) := by decide +kernel
theorem dX12_allowed_5 : decode cX12_allowed 5 = .ok (.aload_n 0, 1) := by decide +kernel
theorem dX12_allowed_6 : decode cX12_allowed 6 = .ok (.invokevirtual 212, 3) := by decide +kernel
theorem dX12_allowed_9 : decode cX12_allowed 9 = .ok (.istore_n 1, 1) := by decide +kernel
theorem dX12_allowed_10 : decode cX12_allowed 10 = .ok (.iconst 0, 1) := by decide +kernel
theorem dX12_allowed_11 : decode cX12_allowed 11 = .ok (.istore_n 2, 1) := by decide +kernel
theorem dX12_allowed_12 : decode cX12_allowed 12 = .ok (.iload_n 2, 1) := by decide +kernel
theorem dX12_allowed_13 : decode cX12_allowed 13 = .ok (.iload_n 1, 1) := by decide +kernel
theorem dX12_allowed_14 : decode cX12_allowed 14 = .ok (.if_icmp .ge 21, 3) := by decide +kernel
theorem dX12_allowed_17 : decode cX12_allowed 17 = .ok (.aload_n 0, 1) := by decide +kernel
theorem dX12_allowed_18 : decode cX12_allowed 18 = .ok (.getfield 7, 3) := by decide +kernel
theorem dX12_allowed_21 : decode cX12_allowed 21 = .ok (.iload_n 2, 1) := by decide +kernel
theorem dX12_allowed_22 : decode cX12_allowed 22 = .ok (.baload, 1) := by decide +kernel
theorem dX12_allowed_23 : decode cX12_allowed 23 = .ok (.ifCond .ge 6, 3) := by decide +kernel
theorem dX12_allowed_26 : decode cX12_allowed 26 = .ok (.bipush (-2), 2) := by decide +kernel
theorem dX12_allowed_28 : decode cX12_allowed 28 = .ok (.ireturn, 1) := by decide +kernel
theorem dX12_allowed_29 : decode cX12_allowed 29 = .ok (.iinc 2 1, 3) := by decide +kernel
theorem dX12_allowed_32 : decode cX12_allowed 32 = .ok (.goto (-20), 3) := by decide +kernel
theorem dX12_allowed_35 : decode cX12_allowed 35 = .ok (.iconst 0, 1) := by decide +kernel
theorem dX12_allowed_36 : decode cX12_allowed 36 = .ok (.istore_n 2, 1) := by decide +kernel
theorem dX12_allowed_37 : decode cX12_allowed 37 = .ok (.iload_n 2, 1) := by decide +kernel
theorem dX12_allowed_38 : decode cX12_allowed 38 = .ok (.iload_n 1, 1) := by decide +kernel
theorem dX12_allowed_39 : decode cX12_allowed 39 = .ok (.if_icmp .ge 65, 3) := by decide +kernel
theorem dX12_allowed_42 : decode cX12_allowed 42 = .ok (.iconst 0, 1) := by decide +kernel
theorem dX12_allowed_43 : decode cX12_allowed 43 = .ok (.istore_n 3, 1) := by decide +kernel
theorem dX12_allowed_44 : decode cX12_allowed 44 = .ok (.iload_n 2, 1) := by decide +kernel
theorem dX12_allowed_45 : decode cX12_allowed 45 = .ok (.iload_n 3, 1) := by decide +kernel
theorem dX12_allowed_46 : decode cX12_allowed 46 = .ok (.iadd, 1) := by decide +kernel
theorem dX12_allowed_47 : decode cX12_allowed 47 = .ok (.iload_n 1, 1) := by decide +kernel
theorem dX12_allowed_48 : decode cX12_allowed 48 = .ok (.if_icmp .ge 25, 3) := by decide +kernel
theorem dX12_allowed_51 : decode cX12_allowed 51 = .ok (.aload_n 0, 1) := by decide +kernel
theorem dX12_allowed_52 : decode cX12_allowed 52 = .ok (.getfield 7, 3) := by decide +kernel
theorem dX12_allowed_55 : decode cX12_allowed 55 = .ok (.iload_n 2, 1) := by decide +kernel
theorem dX12_allowed_56 : decode cX12_allowed 56 = .ok (.iload_n 3, 1) := by decide +kernel
theorem dX12_allowed_57 : decode cX12_allowed 57 = .ok (.iadd, 1) := by decide +kernel
theorem dX12_allowed_58 : decode cX12_allowed 58 = .ok (.baload, 1) := by decide +kernel
theorem dX12_allowed_59 : decode cX12_allowed 59 = .ok (.aload_n 0, 1) := by decide +kernel
theorem dX12_allowed_60 : decode cX12_allowed 60 = .ok (.iload_n 3, 1) := by decide +kernel
theorem dX12_allowed_61 : decode cX12_allowed 61 = .ok (.invokevirtual 220, 3) := by decide +kernel
theorem dX12_allowed_64 : decode cX12_allowed 64 = .ok (.if_icmp .ne 9, 3) := by decide +kernel
theorem dX12_allowed_67 : decode cX12_allowed 67 = .ok (.iinc 3 1, 3) := by decide +kernel
theorem dX12_allowed_70 : decode cX12_allowed 70 = .ok (.goto (-26), 3) := by decide +kernel
theorem dX12_allowed_73 : decode cX12_allowed 73 = .ok (.iload_n 2, 1) := by decide +kernel
theorem dX12_allowed_74 : decode cX12_allowed 74 = .ok (.iload_n 3, 1) := by decide +kernel
theorem dX12_allowed_75 : decode cX12_allowed 75 = .ok (.iadd, 1) := by decide +kernel
theorem dX12_allowed_76 : decode cX12_allowed 76 = .ok (.iload_n 1, 1) := by decide +kernel
theorem dX12_allowed_77 : decode cX12_allowed 77 = .ok (.if_icmp .ge 21, 3) := by decide +kernel
theorem dX12_allowed_80 : decode cX12_allowed 80 = .ok (.aload_n 0, 1) := by decide +kernel
theorem dX12_allowed_81 : decode cX12_allowed 81 = .ok (.getfield 7, 3) := by decide +kernel
theorem dX12_allowed_84 : decode cX12_allowed 84 = .ok (.iload_n 2, 1) := by decide +kernel
theorem dX12_allowed_85 : decode cX12_allowed 85 = .ok (.iload_n 3, 1) := by decide +kernel
theorem dX12_allowed_86 : decode cX12_allowed 86 = .ok (.iadd, 1) := by decide +kernel
theorem dX12_allowed_87 : decode cX12_allowed 87 = .ok (.baload, 1) := by decide +kernel
theorem dX12_allowed_88 : decode cX12_allowed 88 = .ok (.aload_n 0, 1) := by decide +kernel
theorem dX12_allowed_89 : decode cX12_allowed 89 = .ok (.iload_n 3, 1) := by decide +kernel
theorem dX12_allowed_90 : decode cX12_allowed 90 = .ok (.invokevirtual 220, 3) := by decide +kernel
theorem dX12_allowed_93 : decode cX12_allowed 93 = .ok (.if_icmp .le 5, 3) := by decide +kernel
theorem dX12_allowed_96 : decode cX12_allowed 96 = .ok (.iload_n 2, 1) := by decide +kernel
theorem dX12_allowed_97 : decode cX12_allowed 97 = .ok (.ireturn, 1) := by decide +kernel
theorem dX12_allowed_98 : decode cX12_allowed 98 = .ok (.iinc 2 1, 3) := by decide +kernel
theorem dX12_allowed_101 : decode cX12_allowed 101 = .ok (.goto (-64), 3) := by decide +kernel
theorem dX12_allowed_104 : decode cX12_allowed 104 = .ok (.iconst (-1), 1) := by decide +kernel
theorem dX12_allowed_105 : decode cX12_allowed 105 = .ok (.ireturn, 1) := by decide +kernel
theorem dX12_one_0 : decode cX12_one 0 = .ok (.aload_n 0, 1) := by decide +kernel
theorem dX12_one_1 : decode cX12_one 1 = .ok (.iload_n 1, 1) := by decide +kernel
theorem dX12_one_2 : decode cX12_one 2 = .ok (.iconst 1, 1) := by decide +kernel
theorem dX12_one_3 : decode cX12_one 3 = .ok (.if_icmp .lt 9, 3) := by decide +kernel
theorem dX12_one_6 : decode cX12_one 6 = .ok (.iload_n 1, 1) := by decide +kernel
theorem dX12_one_7 : decode cX12_one 7 = .ok (.bipush 60, 2) := by decide +kernel
theorem dX12_one_9 : decode cX12_one 9 = .ok (.if_icmp .le 7, 3) := by decide +kernel
theorem dX12_one_12 : decode cX12_one 12 = .ok (.iconst 1, 1) := by decide +kernel
theorem dX12_one_13 : decode cX12_one 13 = .ok (.goto 4, 3) := by decide +kernel
theorem dX12_one_16 : decode cX12_one 16 = .ok (.iconst 0, 1) := by decide +kernel
theorem dX12_one_17 : decode cX12_one 17 = .ok (.invokevirtual 170, 3) := by decide +kernel
theorem dX12_one_20 : decode cX12_one 20 = .ok (.ifCond .eq 5, 3) := by decide +kernel
theorem dX12_one_23 : decode cX12_one 23 = .ok (.iconst 0, 1) := by decide +kernel
theorem dX12_one_24 : decode cX12_one 24 = .ok (.ireturn, 1) := by decide +kernel
theorem dX12_one_25 : decode cX12_one 25 = .ok (.aload_n 0, 1) := by decide +kernel
theorem dX12_one_26 : decode cX12_one 26 = .ok (.getfield 17, 3) := by decide +kernel
theorem dX12_one_29 : decode cX12_one 29 = .ok (.ifCond .le 29, 3) := by decide +kernel
theorem dX12_one_32 : decode cX12_one 32 = .ok (.iload_n 1, 1) := by decide +kernel
theorem dX12_one_33 : decode cX12_one 33 = .ok (.iconst 1, 1) := by decide +kernel
theorem dX12_one_34 : decode cX12_one 34 = .ok (.if_icmp .ne 10, 3) := by decide +kernel
theorem dX12_one_37 : decode cX12_one 37 = .ok (.aload_n 0, 1) := by decide +kernel
theorem dX12_one_38 : decode cX12_one 38 = .ok (.getfield 13, 3) := by decide +kernel
theorem dX12_one_41 : decode cX12_one 41 = .ok (.goto 16, 3) := by decide +kernel
theorem dX12_one_44 : decode cX12_one 44 = .ok (.iload_n 1, 1) := by decide +kernel
theorem dX12_one_45 : decode cX12_one 45 = .ok (.iconst 2, 1) := by decide +kernel
theorem dX12_one_46 : decode cX12_one 46 = .ok (.if_icmp .ne 10, 3) := by decide +kernel
theorem dX12_one_49 : decode cX12_one 49 = .ok (.aload_n 0, 1) := by decide +kernel
theorem dX12_one_50 : decode cX12_one 50 = .ok (.getfield 17, 3) := by decide +kernel
theorem dX12_one_53 : decode cX12_one 53 = .ok (.goto 4, 3) := by decide +kernel
theorem dX12_one_56 : decode cX12_one 56 = .ok (.iconst 0, 1) := by decide +kernel
theorem dX12_one_57 : decode cX12_one 57 = .ok (.ireturn, 1) := by decide +kernel
theorem dX12_one_58 : decode cX12_one 58 = .ok (.iload_n 1, 1) := by decide +kernel
theorem dX12_one_59 : decode cX12_one 59 = .ok (.iconst 1, 1) := by decide +kernel
theorem dX12_one_60 : decode cX12_one 60 = .ok (.if_icmp .ne 12, 3) := by decide +kernel
theorem dX12_one_63 : decode cX12_one 63 = .ok (.aload_n 0, 1) := by decide +kernel
theorem dX12_one_64 : decode cX12_one 64 = .ok (.getfield 13, 3) := by decide +kernel
theorem dX12_one_67 : decode cX12_one 67 = .ok (.iconst 1, 1) := by decide +kernel
theorem dX12_one_68 : decode cX12_one 68 = .ok (.isub, 1) := by decide +kernel
theorem dX12_one_69 : decode cX12_one 69 = .ok (.goto 14, 3) := by decide +kernel
theorem dX12_one_72 : decode cX12_one 72 = .ok (.aload_n 0, 1) := by decide +kernel
theorem dX12_one_73 : decode cX12_one 73 = .ok (.getfield 13, 3) := by decide +kernel
theorem dX12_one_76 : decode cX12_one 76 = .ok (.aload_n 0, 1) := by decide +kernel
theorem dX12_one_77 : decode cX12_one 77 = .ok (.getfield 17, 3) := by decide +kernel
theorem dX12_one_80 : decode cX12_one 80 = .ok (.iadd, 1) := by decide +kernel
theorem dX12_one_81 : decode cX12_one 81 = .ok (.iconst 1, 1) := by decide +kernel
theorem dX12_one_82 : decode cX12_one 82 = .ok (.isub, 1) := by decide +kernel
theorem dX12_one_83 : decode cX12_one 83 = .ok (.ireturn, 1) := by decide +kernel
theorem dX12_count0_0 : decode cX12_count0 0 = .ok (.aload_n 0, 1) := by decide +kernel
theorem dX12_count0_1 : decode cX12_count0 1 = .ok (.getfield 47, 3) := by decide +kernel
theorem dX12_count0_4 : decode cX12_count0 4 = .ok (.iconst 0, 1) := by decide +kernel
theorem dX12_count0_5 : decode cX12_count0 5 = .ok (.lconst 1, 1) := by decide +kernel
theorem dX12_count0_6 : decode cX12_count0 6 = .ok (.lastore, 1) := by decide +kernel
theorem dX12_count0_7 : decode cX12_count0 7 = .ok (.aload_n 0, 1) := by decide +kernel
theorem dX12_count0_8 : decode cX12_count0 8 = .ok (.getfield 47, 3) := by decide +kernel
theorem dX12_count0_11 : decode cX12_count0 11 = .ok (.iconst 1, 1) := by decide +kernel
theorem dX12_count0_12 : decode cX12_count0 12 = .ok (.lconst 1, 1) := by decide +kernel
theorem dX12_count0_13 : decode cX12_count0 13 = .ok (.lastore, 1) := by decide +kernel
theorem dX12_count0_14 : decode cX12_count0 14 = .ok (.iconst 1, 1) := by decide +kernel
theorem dX12_count0_15 : decode cX12_count0 15 = .ok (.istore_n 2, 1) := by decide +kernel
theorem dX12_count0_16 : decode cX12_count0 16 = .ok (.iload_n 2, 1) := by decide +kernel
theorem dX12_count0_17 : decode cX12_count0 17 = .ok (.iload_n 1, 1) := by decide +kernel
theorem dX12_count0_18 : decode cX12_count0 18 = .ok (.if_icmp .gt 83, 3) := by decide +kernel
theorem dX12_count0_21 : decode cX12_count0 21 = .ok (.aload_n 0, 1) := by decide +kernel
theorem dX12_count0_22 : decode cX12_count0 22 = .ok (.getfield 47, 3) := by decide +kernel
theorem dX12_count0_25 : decode cX12_count0 25 = .ok (.iconst 2, 1) := by decide +kernel
theorem dX12_count0_26 : decode cX12_count0 26 = .ok (.iload_n 2, 1) := by decide +kernel
theorem dX12_count0_27 : decode cX12_count0 27 = .ok (.imul, 1) := by decide +kernel
theorem dX12_count0_28 : decode cX12_count0 28 = .ok (.iconst 2, 1) := by decide +kernel
theorem dX12_count0_29 : decode cX12_count0 29 = .ok (.isub, 1) := by decide +kernel
theorem dX12_count0_30 : decode cX12_count0 30 = .ok (.laload, 1) := by decide +kernel
theorem dX12_count0_31 : decode cX12_count0 31 = .ok (.lstore_n 3, 1) := by decide +kernel
theorem dX12_count0_32 : decode cX12_count0 32 = .ok (.aload_n 0, 1) := by decide +kernel
theorem dX12_count0_33 : decode cX12_count0 33 = .ok (.getfield 47, 3) := by decide +kernel
theorem dX12_count0_36 : decode cX12_count0 36 = .ok (.iconst 2, 1) := by decide +kernel
theorem dX12_count0_37 : decode cX12_count0 37 = .ok (.iload_n 2, 1) := by decide +kernel
theorem dX12_count0_38 : decode cX12_count0 38 = .ok (.imul, 1) := by decide +kernel
theorem dX12_count0_39 : decode cX12_count0 39 = .ok (.iconst 1, 1) := by decide +kernel
theorem dX12_count0_40 : decode cX12_count0 40 = .ok (.isub, 1) := by decide +kernel
theorem dX12_count0_41 : decode cX12_count0 41 = .ok (.laload, 1) := by decide +kernel
theorem dX12_count0_42 : decode cX12_count0 42 = .ok (.lstore 5, 2) := by decide +kernel
theorem dX12_count0_44 : decode cX12_count0 44 = .ok (.aload_n 0, 1) := by decide +kernel
theorem dX12_count0_45 : decode cX12_count0 45 = .ok (.getfield 47, 3) := by decide +kernel
theorem dX12_count0_48 : decode cX12_count0 48 = .ok (.iconst 2, 1) := by decide +kernel
theorem dX12_count0_49 : decode cX12_count0 49 = .ok (.iload_n 2, 1) := by decide +kernel
theorem dX12_count0_50 : decode cX12_count0 50 = .ok (.imul, 1) := by decide +kernel
theorem dX12_count0_51 : decode cX12_count0 51 = .ok (.aload_n 0, 1) := by decide +kernel
theorem dX12_count0_52 : decode cX12_count0 52 = .ok (.iconst 0, 1) := by decide +kernel
theorem dX12_count0_53 : decode cX12_count0 53 = .ok (.invokevirtual 220, 3) := by decide +kernel
theorem dX12_count0_56 : decode cX12_count0 56 = .ok (.i2l, 1) := by decide +kernel
theorem dX12_count0_57 : decode cX12_count0 57 = .ok (.lload_n 3, 1) := by decide +kernel
theorem dX12_count0_58 : decode cX12_count0 58 = .ok (.lmul, 1) := by decide +kernel
theorem dX12_count0_59 : decode cX12_count0 59 = .ok (.lload 5, 2) := by decide +kernel
theorem dX12_count0_61 : decode cX12_count0 61 = .ok (.ladd, 1) := by decide +kernel
theorem dX12_count0_62 : decode cX12_count0 62 = .ok (.lastore, 1) := by decide +kernel
theorem dX12_count0_63 : decode cX12_count0 63 = .ok (.aload_n 0, 1) := by decide +kernel
theorem dX12_count0_64 : decode cX12_count0 64 = .ok (.getfield 47, 3) := by decide +kernel
theorem dX12_count0_67 : decode cX12_count0 67 = .ok (.iconst 2, 1) := by decide +kernel
theorem dX12_count0_68 : decode cX12_count0 68 = .ok (.iload_n 2, 1) := by decide +kernel
theorem dX12_count0_69 : decode cX12_count0 69 = .ok (.imul, 1) := by decide +kernel
theorem dX12_count0_70 : decode cX12_count0 70 = .ok (.iconst 1, 1) := by decide +kernel
theorem dX12_count0_71 : decode cX12_count0 71 = .ok (.iadd, 1) := by decide +kernel
theorem dX12_count0_72 : decode cX12_count0 72 = .ok (.aload_n 0, 1) := by decide +kernel
theorem dX12_count0_73 : decode cX12_count0 73 = .ok (.iconst 1, 1) := by decide +kernel
theorem dX12_count0_74 : decode cX12_count0 74 = .ok (.invokevirtual 220, 3) := by decide +kernel
theorem dX12_count0_77 : decode cX12_count0 77 = .ok (.i2l, 1) := by decide +kernel
theorem dX12_count0_78 : decode cX12_count0 78 = .ok (.lload_n 3, 1) := by decide +kernel
theorem dX12_count0_79 : decode cX12_count0 79 = .ok (.lmul, 1) := by decide +kernel
theorem dX12_count0_80 : decode cX12_count0 80 = .ok (.aload_n 0, 1) := by decide +kernel
theorem dX12_count0_81 : decode cX12_count0 81 = .ok (.getfield 17, 3) := by decide +kernel
theorem dX12_count0_84 : decode cX12_count0 84 = .ok (.ifCond .le 7, 3) := by decide +kernel
theorem dX12_count0_87 : decode cX12_count0 87 = .ok (.lload_n 3, 1) := by decide +kernel
theorem dX12_count0_88 : decode cX12_count0 88 = .ok (.goto 5, 3) := by decide +kernel
theorem dX12_count0_91 : decode cX12_count0 91 = .ok (.lload 5, 2) := by decide +kernel
theorem dX12_count0_93 : decode cX12_count0 93 = .ok (.ladd, 1) := by decide +kernel
theorem dX12_count0_94 : decode cX12_count0 94 = .ok (.lastore, 1) := by decide +kernel
theorem dX12_count0_95 : decode cX12_count0 95 = .ok (.iinc 2 1, 3) := by decide +kernel
theorem dX12_count0_98 : decode cX12_count0 98 = .ok (.goto (-82), 3) := by decide +kernel
theorem dX12_count0_101 : decode cX12_count0 101 = .ok (.return_, 1) := by decide +kernel
theorem dX12_rows_0 : decode cX12_rows 0 = .ok (.aload_n 0, 1) := by decide +kernel
theorem dX12_rows_1 : decode cX12_rows 1 = .ok (.iload_n 1, 1) := by decide +kernel
theorem dX12_rows_2 : decode cX12_rows 2 = .ok (.ifCond .lt 9, 3) := by decide +kernel
theorem dX12_rows_5 : decode cX12_rows 5 = .ok (.iload_n 1, 1) := by decide +kernel
theorem dX12_rows_6 : decode cX12_rows 6 = .ok (.bipush 16, 2) := by decide +kernel
theorem dX12_rows_8 : decode cX12_rows 8 = .ok (.if_icmp .le 7, 3) := by decide +kernel
theorem dX12_rows_11 : decode cX12_rows 11 = .ok (.iconst 1, 1) := by decide +kernel
theorem dX12_rows_12 : decode cX12_rows 12 = .ok (.goto 4, 3) := by decide +kernel
theorem dX12_rows_15 : decode cX12_rows 15 = .ok (.iconst 0, 1) := by decide +kernel
theorem dX12_rows_16 : decode cX12_rows 16 = .ok (.invokevirtual 170, 3) := by decide +kernel
theorem dX12_rows_19 : decode cX12_rows 19 = .ok (.ifCond .eq 5, 3) := by decide +kernel
theorem dX12_rows_22 : decode cX12_rows 22 = .ok (.lconst 0, 1) := by decide +kernel
theorem dX12_rows_23 : decode cX12_rows 23 = .ok (.lreturn, 1) := by decide +kernel
theorem dX12_rows_24 : decode cX12_rows 24 = .ok (.aload_n 0, 1) := by decide +kernel
theorem dX12_rows_25 : decode cX12_rows 25 = .ok (.iload_n 1, 1) := by decide +kernel
theorem dX12_rows_26 : decode cX12_rows 26 = .ok (.invokevirtual 224, 3) := by decide +kernel
theorem dX12_rows_29 : decode cX12_rows 29 = .ok (.aload_n 0, 1) := by decide +kernel
theorem dX12_rows_30 : decode cX12_rows 30 = .ok (.getfield 47, 3) := by decide +kernel
theorem dX12_rows_33 : decode cX12_rows 33 = .ok (.iconst 2, 1) := by decide +kernel
theorem dX12_rows_34 : decode cX12_rows 34 = .ok (.iload_n 1, 1) := by decide +kernel
theorem dX12_rows_35 : decode cX12_rows 35 = .ok (.imul, 1) := by decide +kernel
theorem dX12_rows_36 : decode cX12_rows 36 = .ok (.laload, 1) := by decide +kernel
theorem dX12_rows_37 : decode cX12_rows 37 = .ok (.lreturn, 1) := by decide +kernel
theorem dX12_whole__0 : decode cX12_whole_ 0 = .ok (.aload_n 0, 1) := by decide +kernel
theorem dX12_whole__1 : decode cX12_whole_ 1 = .ok (.iconst 0, 1) := by decide +kernel
theorem dX12_whole__2 : decode cX12_whole_ 2 = .ok (.putfield 107, 3) := by decide +kernel
theorem dX12_whole__5 : decode cX12_whole_ 5 = .ok (.iload_n 1, 1) := by decide +kernel
theorem dX12_whole__6 : decode cX12_whole_ 6 = .ok (.ifCond .lt 19, 3) := by decide +kernel
theorem dX12_whole__9 : decode cX12_whole_ 9 = .ok (.iload_n 1, 1) := by decide +kernel
theorem dX12_whole__10 : decode cX12_whole_ 10 = .ok (.bipush 10, 2) := by decide +kernel
theorem dX12_whole__12 : decode cX12_whole_ 12 = .ok (.if_icmp .ge 13, 3) := by decide +kernel
theorem dX12_whole__15 : decode cX12_whole_ 15 = .ok (.iload_n 2, 1) := by decide +kernel
theorem dX12_whole__16 : decode cX12_whole_ 16 = .ok (.ifCond .lt 9, 3) := by decide +kernel
theorem dX12_whole__19 : decode cX12_whole_ 19 = .ok (.iload_n 2, 1) := by decide +kernel
theorem dX12_whole__20 : decode cX12_whole_ 20 = .ok (.ldc 227, 2) := by decide +kernel
theorem dX12_whole__22 : decode cX12_whole_ 22 = .ok (.if_icmp .le 5, 3) := by decide +kernel
theorem dX12_whole__25 : decode cX12_whole_ 25 = .ok (.iconst 0, 1) := by decide +kernel
theorem dX12_whole__26 : decode cX12_whole_ 26 = .ok (.ireturn, 1) := by decide +kernel
theorem dX12_whole__27 : decode cX12_whole_ 27 = .ok (.aload_n 0, 1) := by decide +kernel
theorem dX12_whole__28 : decode cX12_whole_ 28 = .ok (.bipush 26, 2) := by decide +kernel
theorem dX12_whole__30 : decode cX12_whole_ 30 = .ok (.invokevirtual 224, 3) := by decide +kernel
theorem dX12_whole__33 : decode cX12_whole_ 33 = .ok (.iconst 0, 1) := by decide +kernel
theorem dX12_whole__34 : decode cX12_whole_ 34 = .ok (.istore_n 3, 1) := by decide +kernel
theorem dX12_whole__35 : decode cX12_whole_ 35 = .ok (.aload_n 0, 1) := by decide +kernel
theorem dX12_whole__36 : decode cX12_whole_ 36 = .ok (.getfield 47, 3) := by decide +kernel
theorem dX12_whole__39 : decode cX12_whole_ 39 = .ok (.iconst 2, 1) := by decide +kernel
theorem dX12_whole__40 : decode cX12_whole_ 40 = .ok (.iload_n 3, 1) := by decide +kernel
theorem dX12_whole__41 : decode cX12_whole_ 41 = .ok (.imul, 1) := by decide +kernel
theorem dX12_whole__42 : decode cX12_whole_ 42 = .ok (.laload, 1) := by decide +kernel
theorem dX12_whole__43 : decode cX12_whole_ 43 = .ok (.iload_n 2, 1) := by decide +kernel
theorem dX12_whole__44 : decode cX12_whole_ 44 = .ok (.i2l, 1) := by decide +kernel
theorem dX12_whole__45 : decode cX12_whole_ 45 = .ok (.lcmp, 1) := by decide +kernel
theorem dX12_whole__46 : decode cX12_whole_ 46 = .ok (.ifCond .gt 9, 3) := by decide +kernel
theorem dX12_whole__49 : decode cX12_whole_ 49 = .ok (.iinc 3 1, 3) := by decide +kernel
theorem dX12_whole__52 : decode cX12_whole_ 52 = .ok (.goto (-17), 3) := by decide +kernel
theorem dX12_whole__55 : decode cX12_whole_ 55 = .ok (.iload_n 2, 1) := by decide +kernel
theorem dX12_whole__56 : decode cX12_whole_ 56 = .ok (.i2l, 1) := by decide +kernel
theorem dX12_whole__57 : decode cX12_whole_ 57 = .ok (.lstore 4, 2) := by decide +kernel
theorem dX12_whole__59 : decode cX12_whole_ 59 = .ok (.iconst 0, 1) := by decide +kernel
theorem dX12_whole__60 : decode cX12_whole_ 60 = .ok (.istore 6, 2) := by decide +kernel
theorem dX12_whole__62 : decode cX12_whole_ 62 = .ok (.lconst 0, 1) := by decide +kernel
theorem dX12_whole__63 : decode cX12_whole_ 63 = .ok (.lstore 7, 2) := by decide +kernel
theorem dX12_whole__65 : decode cX12_whole_ 65 = .ok (.lconst 0, 1) := by decide +kernel
theorem dX12_whole__66 : decode cX12_whole_ 66 = .ok (.lstore 9, 2) := by decide +kernel
theorem dX12_whole__68 : decode cX12_whole_ 68 = .ok (.iload_n 3, 1) := by decide +kernel
theorem dX12_whole__69 : decode cX12_whole_ 69 = .ok (.iconst 1, 1) := by decide +kernel
theorem dX12_whole__70 : decode cX12_whole_ 70 = .ok (.isub, 1) := by decide +kernel
theorem dX12_whole__71 : decode cX12_whole_ 71 = .ok (.istore 11, 2) := by decide +kernel
theorem dX12_whole__73 : decode cX12_whole_ 73 = .ok (.iload 11, 2) := by decide +kernel
theorem dX12_whole__75 : decode cX12_whole_ 75 = .ok (.ifCond .lt 121, 3) := by decide +kernel
theorem dX12_whole__78 : decode cX12_whole_ 78 = .ok (.iconst 0, 1) := by decide +kernel
theorem dX12_whole__79 : decode cX12_whole_ 79 = .ok (.istore 12, 2) := by decide +kernel
theorem dX12_whole__81 : decode cX12_whole_ 81 = .ok (.iload 12, 2) := by decide +kernel
theorem dX12_whole__83 : decode cX12_whole_ 83 = .ok (.aload_n 0, 1) := by decide +kernel
theorem dX12_whole__84 : decode cX12_whole_ 84 = .ok (.iload 6, 2) := by decide +kernel
theorem dX12_whole__86 : decode cX12_whole_ 86 = .ok (.invokevirtual 220, 3) := by decide +kernel
theorem dX12_whole__89 : decode cX12_whole_ 89 = .ok (.if_icmp .ge 38, 3) := by decide +kernel
theorem dX12_whole__92 : decode cX12_whole_ 92 = .ok (.lload 4, 2) := by decide +kernel
theorem dX12_whole__94 : decode cX12_whole_ 94 = .ok (.aload_n 0, 1) := by decide +kernel
theorem dX12_whole__95 : decode cX12_whole_ 95 = .ok (.getfield 47, 3) := by decide +kernel
theorem dX12_whole__98 : decode cX12_whole_ 98 = .ok (.iconst 2, 1) := by decide +kernel
theorem dX12_whole__99 : decode cX12_whole_ 99 = .ok (.iload 11, 2) := by decide +kernel
theorem dX12_whole__101 : decode cX12_whole_ 101 = .ok (.imul, 1) := by decide +kernel
theorem dX12_whole__102 : decode cX12_whole_ 102 = .ok (.laload, 1) := by decide +kernel
theorem dX12_whole__103 : decode cX12_whole_ 103 = .ok (.lcmp, 1) := by decide +kernel
theorem dX12_whole__104 : decode cX12_whole_ 104 = .ok (.ifCond .lt 23, 3) := by decide +kernel
theorem dX12_whole__107 : decode cX12_whole_ 107 = .ok (.lload 4, 2) := by decide +kernel
theorem dX12_whole__109 : decode cX12_whole_ 109 = .ok (.aload_n 0, 1) := by decide +kernel
theorem dX12_whole__110 : decode cX12_whole_ 110 = .ok (.getfield 47, 3) := by decide +kernel
theorem dX12_whole__113 : decode cX12_whole_ 113 = .ok (.iconst 2, 1) := by decide +kernel
theorem dX12_whole__114 : decode cX12_whole_ 114 = .ok (.iload 11, 2) := by decide +kernel
theorem dX12_whole__116 : decode cX12_whole_ 116 = .ok (.imul, 1) := by decide +kernel
theorem dX12_whole__117 : decode cX12_whole_ 117 = .ok (.laload, 1) := by decide +kernel
theorem dX12_whole__118 : decode cX12_whole_ 118 = .ok (.lsub, 1) := by decide +kernel
theorem dX12_whole__119 : decode cX12_whole_ 119 = .ok (.lstore 4, 2) := by decide +kernel
theorem dX12_whole__121 : decode cX12_whole_ 121 = .ok (.iinc 12 1, 3) := by decide +kernel
theorem dX12_whole__124 : decode cX12_whole_ 124 = .ok (.goto (-43), 3) := by decide +kernel
theorem dX12_whole__127 : decode cX12_whole_ 127 = .ok (.lload 7, 2) := by decide +kernel
theorem dX12_whole__129 : decode cX12_whole_ 129 = .ok (.lstore 13, 2) := by decide +kernel
theorem dX12_whole__131 : decode cX12_whole_ 131 = .ok (.lload 9, 2) := by decide +kernel
theorem dX12_whole__133 : decode cX12_whole_ 133 = .ok (.aload_n 0, 1) := by decide +kernel
theorem dX12_whole__134 : decode cX12_whole_ 134 = .ok (.getfield 17, 3) := by decide +kernel
theorem dX12_whole__137 : decode cX12_whole_ 137 = .ok (.i2l, 1) := by decide +kernel
theorem dX12_whole__138 : decode cX12_whole_ 138 = .ok (.lmul, 1) := by decide +kernel
theorem dX12_whole__139 : decode cX12_whole_ 139 = .ok (.iload 12, 2) := by decide +kernel
theorem dX12_whole__141 : decode cX12_whole_ 141 = .ok (.i2l, 1) := by decide +kernel
theorem dX12_whole__142 : decode cX12_whole_ 142 = .ok (.ladd, 1) := by decide +kernel
theorem dX12_whole__143 : decode cX12_whole_ 143 = .ok (.lstore 7, 2) := by decide +kernel
theorem dX12_whole__145 : decode cX12_whole_ 145 = .ok (.lload 13, 2) := by decide +kernel
theorem dX12_whole__147 : decode cX12_whole_ 147 = .ok (.lload 9, 2) := by decide +kernel
theorem dX12_whole__149 : decode cX12_whole_ 149 = .ok (.aload_n 0, 1) := by decide +kernel
theorem dX12_whole__150 : decode cX12_whole_ 150 = .ok (.getfield 13, 3) := by decide +kernel
theorem dX12_whole__153 : decode cX12_whole_ 153 = .ok (.i2l, 1) := by decide +kernel
theorem dX12_whole__154 : decode cX12_whole_ 154 = .ok (.lmul, 1) := by decide +kernel
theorem dX12_whole__155 : decode cX12_whole_ 155 = .ok (.ladd, 1) := by decide +kernel
theorem dX12_whole__156 : decode cX12_whole_ 156 = .ok (.lstore 9, 2) := by decide +kernel
theorem dX12_whole__158 : decode cX12_whole_ 158 = .ok (.iload 12, 2) := by decide +kernel
theorem dX12_whole__160 : decode cX12_whole_ 160 = .ok (.aload_n 0, 1) := by decide +kernel
theorem dX12_whole__161 : decode cX12_whole_ 161 = .ok (.iload 6, 2) := by decide +kernel
theorem dX12_whole__163 : decode cX12_whole_ 163 = .ok (.invokevirtual 220, 3) := by decide +kernel
theorem dX12_whole__166 : decode cX12_whole_ 166 = .ok (.if_icmp .ge 7, 3) := by decide +kernel
theorem dX12_whole__169 : decode cX12_whole_ 169 = .ok (.iconst 0, 1) := by decide +kernel
theorem dX12_whole__170 : decode cX12_whole_ 170 = .ok (.goto 18, 3) := by decide +kernel
theorem dX12_whole__173 : decode cX12_whole_ 173 = .ok (.aload_n 0, 1) := by decide +kernel
theorem dX12_whole__174 : decode cX12_whole_ 174 = .ok (.getfield 17, 3) := by decide +kernel
theorem dX12_whole__177 : decode cX12_whole_ 177 = .ok (.ifCond .le 10, 3) := by decide +kernel
theorem dX12_whole__180 : decode cX12_whole_ 180 = .ok (.iconst 1, 1) := by decide +kernel
theorem dX12_whole__181 : decode cX12_whole_ 181 = .ok (.iload 6, 2) := by decide +kernel
theorem dX12_whole__183 : decode cX12_whole_ 183 = .ok (.isub, 1) := by decide +kernel
theorem dX12_whole__184 : decode cX12_whole_ 184 = .ok (.goto 4, 3) := by decide +kernel
theorem dX12_whole__187 : decode cX12_whole_ 187 = .ok (.iconst 1, 1) := by decide +kernel
theorem dX12_whole__188 : decode cX12_whole_ 188 = .ok (.istore 6, 2) := by decide +kernel
theorem dX12_whole__190 : decode cX12_whole_ 190 = .ok (.iinc 11 (-1), 3) := by decide +kernel
theorem dX12_whole__193 : decode cX12_whole_ 193 = .ok (.goto (-120), 3) := by decide +kernel
theorem dX12_whole__196 : decode cX12_whole_ 196 = .ok (.aload_n 0, 1) := by decide +kernel
theorem dX12_whole__197 : decode cX12_whole_ 197 = .ok (.lload 7, 2) := by decide +kernel
theorem dX12_whole__199 : decode cX12_whole_ 199 = .ok (.lload 9, 2) := by decide +kernel
theorem dX12_whole__201 : decode cX12_whole_ 201 = .ok (.lconst 1, 1) := by decide +kernel
theorem dX12_whole__202 : decode cX12_whole_ 202 = .ok (.invokevirtual 151, 3) := by decide +kernel
theorem dX12_whole__205 : decode cX12_whole_ 205 = .ok (.aload_n 0, 1) := by decide +kernel
theorem dX12_whole__206 : decode cX12_whole_ 206 = .ok (.iload_n 1, 1) := by decide +kernel
theorem dX12_whole__207 : decode cX12_whole_ 207 = .ok (.invokevirtual 155, 3) := by decide +kernel
theorem dX12_whole__210 : decode cX12_whole_ 210 = .ok (.ireturn, 1) := by decide +kernel
theorem dX12_rank_0 : decode cX12_rank 0 = .ok (.aload_n 0, 1) := by decide +kernel
theorem dX12_rank_1 : decode cX12_rank 1 = .ok (.iconst 0, 1) := by decide +kernel
theorem dX12_rank_2 : decode cX12_rank 2 = .ok (.putfield 107, 3) := by decide +kernel
theorem dX12_rank_5 : decode cX12_rank 5 = .ok (.aload_n 0, 1) := by decide +kernel
theorem dX12_rank_6 : decode cX12_rank 6 = .ok (.iload_n 1, 1) := by decide +kernel
theorem dX12_rank_7 : decode cX12_rank 7 = .ok (.invokevirtual 161, 3) := by decide +kernel
theorem dX12_rank_10 : decode cX12_rank 10 = .ok (.ifCond .eq 24, 3) := by decide +kernel
theorem dX12_rank_13 : decode cX12_rank 13 = .ok (.aload_n 0, 1) := by decide +kernel
theorem dX12_rank_14 : decode cX12_rank 14 = .ok (.aload_n 0, 1) := by decide +kernel
theorem dX12_rank_15 : decode cX12_rank 15 = .ok (.getfield 27, 3) := by decide +kernel
theorem dX12_rank_18 : decode cX12_rank 18 = .ok (.iload_n 1, 1) := by decide +kernel
theorem dX12_rank_19 : decode cX12_rank 19 = .ok (.iaload, 1) := by decide +kernel
theorem dX12_rank_20 : decode cX12_rank 20 = .ok (.i2l, 1) := by decide +kernel
theorem dX12_rank_21 : decode cX12_rank 21 = .ok (.aload_n 0, 1) := by decide +kernel
theorem dX12_rank_22 : decode cX12_rank 22 = .ok (.getfield 31, 3) := by decide +kernel
theorem dX12_rank_25 : decode cX12_rank 25 = .ok (.iload_n 1, 1) := by decide +kernel
theorem dX12_rank_26 : decode cX12_rank 26 = .ok (.iaload, 1) := by decide +kernel
theorem dX12_rank_27 : decode cX12_rank 27 = .ok (.i2l, 1) := by decide +kernel
theorem dX12_rank_28 : decode cX12_rank 28 = .ok (.invokevirtual 174, 3) := by decide +kernel
theorem dX12_rank_31 : decode cX12_rank 31 = .ok (.ifCond .ge 5, 3) := by decide +kernel
theorem dX12_rank_34 : decode cX12_rank 34 = .ok (.iconst (-1), 1) := by decide +kernel
theorem dX12_rank_35 : decode cX12_rank 35 = .ok (.ireturn, 1) := by decide +kernel
theorem dX12_rank_36 : decode cX12_rank 36 = .ok (.aload_n 0, 1) := by decide +kernel
theorem dX12_rank_37 : decode cX12_rank 37 = .ok (.getfield 27, 3) := by decide +kernel
theorem dX12_rank_40 : decode cX12_rank 40 = .ok (.iload_n 1, 1) := by decide +kernel
theorem dX12_rank_41 : decode cX12_rank 41 = .ok (.iaload, 1) := by decide +kernel
theorem dX12_rank_42 : decode cX12_rank 42 = .ok (.i2l, 1) := by decide +kernel
theorem dX12_rank_43 : decode cX12_rank 43 = .ok (.lstore_n 2, 1) := by decide +kernel
theorem dX12_rank_44 : decode cX12_rank 44 = .ok (.aload_n 0, 1) := by decide +kernel
theorem dX12_rank_45 : decode cX12_rank 45 = .ok (.getfield 31, 3) := by decide +kernel
theorem dX12_rank_48 : decode cX12_rank 48 = .ok (.iload_n 1, 1) := by decide +kernel
theorem dX12_rank_49 : decode cX12_rank 49 = .ok (.iaload, 1) := by decide +kernel
theorem dX12_rank_50 : decode cX12_rank 50 = .ok (.i2l, 1) := by decide +kernel
theorem dX12_rank_51 : decode cX12_rank 51 = .ok (.lstore 4, 2) := by decide +kernel
theorem dX12_rank_53 : decode cX12_rank 53 = .ok (.aload_n 0, 1) := by decide +kernel
theorem dX12_rank_54 : decode cX12_rank 54 = .ok (.getfield 34, 3) := by decide +kernel
theorem dX12_rank_57 : decode cX12_rank 57 = .ok (.iload_n 1, 1) := by decide +kernel
theorem dX12_rank_58 : decode cX12_rank 58 = .ok (.iaload, 1) := by decide +kernel
theorem dX12_rank_59 : decode cX12_rank 59 = .ok (.i2l, 1) := by decide +kernel
theorem dX12_rank_60 : decode cX12_rank 60 = .ok (.lstore 6, 2) := by decide +kernel
theorem dX12_rank_62 : decode cX12_rank 62 = .ok (.lconst 1, 1) := by decide +kernel
theorem dX12_rank_63 : decode cX12_rank 63 = .ok (.lstore 8, 2) := by decide +kernel
theorem dX12_rank_65 : decode cX12_rank 65 = .ok (.lconst 0, 1) := by decide +kernel
theorem dX12_rank_66 : decode cX12_rank 66 = .ok (.lstore 10, 2) := by decide +kernel
theorem dX12_rank_68 : decode cX12_rank 68 = .ok (.iconst 0, 1) := by decide +kernel
theorem dX12_rank_69 : decode cX12_rank 69 = .ok (.istore 12, 2) := by decide +kernel
theorem dX12_rank_71 : decode cX12_rank 71 = .ok (.aload_n 0, 1) := by decide +kernel
theorem dX12_rank_72 : decode cX12_rank 72 = .ok (.lload_n 2, 1) := by decide +kernel
theorem dX12_rank_73 : decode cX12_rank 73 = .ok (.lload 10, 2) := by decide +kernel
theorem dX12_rank_75 : decode cX12_rank 75 = .ok (.aload_n 0, 1) := by decide +kernel
theorem dX12_rank_76 : decode cX12_rank 76 = .ok (.getfield 17, 3) := by decide +kernel
theorem dX12_rank_79 : decode cX12_rank 79 = .ok (.i2l, 1) := by decide +kernel
theorem dX12_rank_80 : decode cX12_rank 80 = .ok (.lmul, 1) := by decide +kernel
theorem dX12_rank_81 : decode cX12_rank 81 = .ok (.lload 6, 2) := by decide +kernel
theorem dX12_rank_83 : decode cX12_rank 83 = .ok (.lmul, 1) := by decide +kernel
theorem dX12_rank_84 : decode cX12_rank 84 = .ok (.lsub, 1) := by decide +kernel
theorem dX12_rank_85 : decode cX12_rank 85 = .ok (.lload 4, 2) := by decide +kernel
theorem dX12_rank_87 : decode cX12_rank 87 = .ok (.lload 8, 2) := by decide +kernel
theorem dX12_rank_89 : decode cX12_rank 89 = .ok (.lload 10, 2) := by decide +kernel
theorem dX12_rank_91 : decode cX12_rank 91 = .ok (.aload_n 0, 1) := by decide +kernel
theorem dX12_rank_92 : decode cX12_rank 92 = .ok (.getfield 13, 3) := by decide +kernel
theorem dX12_rank_95 : decode cX12_rank 95 = .ok (.i2l, 1) := by decide +kernel
theorem dX12_rank_96 : decode cX12_rank 96 = .ok (.lmul, 1) := by decide +kernel
theorem dX12_rank_97 : decode cX12_rank 97 = .ok (.ladd, 1) := by decide +kernel
theorem dX12_rank_98 : decode cX12_rank 98 = .ok (.lload 6, 2) := by decide +kernel
theorem dX12_rank_100 : decode cX12_rank 100 = .ok (.lmul, 1) := by decide +kernel
theorem dX12_rank_101 : decode cX12_rank 101 = .ok (.lsub, 1) := by decide +kernel
theorem dX12_rank_102 : decode cX12_rank 102 = .ok (.invokevirtual 174, 3) := by decide +kernel
theorem dX12_rank_105 : decode cX12_rank 105 = .ok (.ifCond .lt 36, 3) := by decide +kernel
theorem dX12_rank_108 : decode cX12_rank 108 = .ok (.lload 8, 2) := by decide +kernel
theorem dX12_rank_110 : decode cX12_rank 110 = .ok (.lstore 13, 2) := by decide +kernel
theorem dX12_rank_112 : decode cX12_rank 112 = .ok (.lload 10, 2) := by decide +kernel
theorem dX12_rank_114 : decode cX12_rank 114 = .ok (.aload_n 0, 1) := by decide +kernel
theorem dX12_rank_115 : decode cX12_rank 115 = .ok (.getfield 17, 3) := by decide +kernel
theorem dX12_rank_118 : decode cX12_rank 118 = .ok (.i2l, 1) := by decide +kernel
theorem dX12_rank_119 : decode cX12_rank 119 = .ok (.lmul, 1) := by decide +kernel
theorem dX12_rank_120 : decode cX12_rank 120 = .ok (.lstore 8, 2) := by decide +kernel
theorem dX12_rank_122 : decode cX12_rank 122 = .ok (.lload 13, 2) := by decide +kernel
theorem dX12_rank_124 : decode cX12_rank 124 = .ok (.lload 10, 2) := by decide +kernel
theorem dX12_rank_126 : decode cX12_rank 126 = .ok (.aload_n 0, 1) := by decide +kernel
theorem dX12_rank_127 : decode cX12_rank 127 = .ok (.getfield 13, 3) := by decide +kernel
theorem dX12_rank_130 : decode cX12_rank 130 = .ok (.i2l, 1) := by decide +kernel
theorem dX12_rank_131 : decode cX12_rank 131 = .ok (.lmul, 1) := by decide +kernel
theorem dX12_rank_132 : decode cX12_rank 132 = .ok (.ladd, 1) := by decide +kernel
theorem dX12_rank_133 : decode cX12_rank 133 = .ok (.lstore 10, 2) := by decide +kernel
theorem dX12_rank_135 : decode cX12_rank 135 = .ok (.iinc 12 1, 3) := by decide +kernel
theorem dX12_rank_138 : decode cX12_rank 138 = .ok (.goto (-67), 3) := by decide +kernel
theorem dX12_rank_141 : decode cX12_rank 141 = .ok (.iload 12, 2) := by decide +kernel
theorem dX12_rank_143 : decode cX12_rank 143 = .ok (.iconst 1, 1) := by decide +kernel
theorem dX12_rank_144 : decode cX12_rank 144 = .ok (.iadd, 1) := by decide +kernel
theorem dX12_rank_145 : decode cX12_rank 145 = .ok (.istore 13, 2) := by decide +kernel
theorem dX12_rank_147 : decode cX12_rank 147 = .ok (.iload 12, 2) := by decide +kernel
theorem dX12_rank_149 : decode cX12_rank 149 = .ok (.ifCond .lt 105, 3) := by decide +kernel
theorem dX12_rank_152 : decode cX12_rank 152 = .ok (.iconst 0, 1) := by decide +kernel
theorem dX12_rank_153 : decode cX12_rank 153 = .ok (.istore 14, 2) := by decide +kernel
theorem dX12_rank_155 : decode cX12_rank 155 = .ok (.aload_n 0, 1) := by decide +kernel
theorem dX12_rank_156 : decode cX12_rank 156 = .ok (.lload_n 2, 1) := by decide +kernel
theorem dX12_rank_157 : decode cX12_rank 157 = .ok (.lload 8, 2) := by decide +kernel
theorem dX12_rank_159 : decode cX12_rank 159 = .ok (.lload 6, 2) := by decide +kernel
theorem dX12_rank_161 : decode cX12_rank 161 = .ok (.lmul, 1) := by decide +kernel
theorem dX12_rank_162 : decode cX12_rank 162 = .ok (.lsub, 1) := by decide +kernel
theorem dX12_rank_163 : decode cX12_rank 163 = .ok (.lload 4, 2) := by decide +kernel
theorem dX12_rank_165 : decode cX12_rank 165 = .ok (.lload 10, 2) := by decide +kernel
theorem dX12_rank_167 : decode cX12_rank 167 = .ok (.lload 6, 2) := by decide +kernel
theorem dX12_rank_169 : decode cX12_rank 169 = .ok (.lmul, 1) := by decide +kernel
theorem dX12_rank_170 : decode cX12_rank 170 = .ok (.lsub, 1) := by decide +kernel
theorem dX12_rank_171 : decode cX12_rank 171 = .ok (.invokevirtual 174, 3) := by decide +kernel
theorem dX12_rank_174 : decode cX12_rank 174 = .ok (.ifCond .lt 27, 3) := by decide +kernel
theorem dX12_rank_177 : decode cX12_rank 177 = .ok (.lload_n 2, 1) := by decide +kernel
theorem dX12_rank_178 : decode cX12_rank 178 = .ok (.lload 8, 2) := by decide +kernel
theorem dX12_rank_180 : decode cX12_rank 180 = .ok (.lload 6, 2) := by decide +kernel
theorem dX12_rank_182 : decode cX12_rank 182 = .ok (.lmul, 1) := by decide +kernel
theorem dX12_rank_183 : decode cX12_rank 183 = .ok (.lsub, 1) := by decide +kernel
theorem dX12_rank_184 : decode cX12_rank 184 = .ok (.lstore_n 2, 1) := by decide +kernel
theorem dX12_rank_185 : decode cX12_rank 185 = .ok (.lload 4, 2) := by decide +kernel
theorem dX12_rank_187 : decode cX12_rank 187 = .ok (.lload 10, 2) := by decide +kernel
theorem dX12_rank_189 : decode cX12_rank 189 = .ok (.lload 6, 2) := by decide +kernel
theorem dX12_rank_191 : decode cX12_rank 191 = .ok (.lmul, 1) := by decide +kernel
theorem dX12_rank_192 : decode cX12_rank 192 = .ok (.lsub, 1) := by decide +kernel
theorem dX12_rank_193 : decode cX12_rank 193 = .ok (.lstore 4, 2) := by decide +kernel
theorem dX12_rank_195 : decode cX12_rank 195 = .ok (.iinc 14 1, 3) := by decide +kernel
theorem dX12_rank_198 : decode cX12_rank 198 = .ok (.goto (-43), 3) := by decide +kernel
theorem dX12_rank_201 : decode cX12_rank 201 = .ok (.aload_n 0, 1) := by decide +kernel
theorem dX12_rank_202 : decode cX12_rank 202 = .ok (.getfield 50, 3) := by decide +kernel
theorem dX12_rank_205 : decode cX12_rank 205 = .ok (.iload 13, 2) := by decide +kernel
theorem dX12_rank_207 : decode cX12_rank 207 = .ok (.iconst 1, 1) := by decide +kernel
theorem dX12_rank_208 : decode cX12_rank 208 = .ok (.isub, 1) := by decide +kernel
theorem dX12_rank_209 : decode cX12_rank 209 = .ok (.iload 12, 2) := by decide +kernel
theorem dX12_rank_211 : decode cX12_rank 211 = .ok (.isub, 1) := by decide +kernel
theorem dX12_rank_212 : decode cX12_rank 212 = .ok (.iload 14, 2) := by decide +kernel
theorem dX12_rank_214 : decode cX12_rank 214 = .ok (.iastore, 1) := by decide +kernel
theorem dX12_rank_215 : decode cX12_rank 215 = .ok (.lload 8, 2) := by decide +kernel
theorem dX12_rank_217 : decode cX12_rank 217 = .ok (.lstore 15, 2) := by decide +kernel
theorem dX12_rank_219 : decode cX12_rank 219 = .ok (.lload 10, 2) := by decide +kernel
theorem dX12_rank_221 : decode cX12_rank 221 = .ok (.aload_n 0, 1) := by decide +kernel
theorem dX12_rank_222 : decode cX12_rank 222 = .ok (.getfield 13, 3) := by decide +kernel
theorem dX12_rank_225 : decode cX12_rank 225 = .ok (.i2l, 1) := by decide +kernel
theorem dX12_rank_226 : decode cX12_rank 226 = .ok (.lload 15, 2) := by decide +kernel
theorem dX12_rank_228 : decode cX12_rank 228 = .ok (.aload_n 0, 1) := by decide +kernel
theorem dX12_rank_229 : decode cX12_rank 229 = .ok (.getfield 17, 3) := by decide +kernel
theorem dX12_rank_232 : decode cX12_rank 232 = .ok (.i2l, 1) := by decide +kernel
theorem dX12_rank_233 : decode cX12_rank 233 = .ok (.ldiv, 1) := by decide +kernel
theorem dX12_rank_234 : decode cX12_rank 234 = .ok (.lmul, 1) := by decide +kernel
theorem dX12_rank_235 : decode cX12_rank 235 = .ok (.lsub, 1) := by decide +kernel
theorem dX12_rank_236 : decode cX12_rank 236 = .ok (.lstore 8, 2) := by decide +kernel
theorem dX12_rank_238 : decode cX12_rank 238 = .ok (.lload 15, 2) := by decide +kernel
theorem dX12_rank_240 : decode cX12_rank 240 = .ok (.aload_n 0, 1) := by decide +kernel
theorem dX12_rank_241 : decode cX12_rank 241 = .ok (.getfield 17, 3) := by decide +kernel
theorem dX12_rank_244 : decode cX12_rank 244 = .ok (.i2l, 1) := by decide +kernel
theorem dX12_rank_245 : decode cX12_rank 245 = .ok (.ldiv, 1) := by decide +kernel
theorem dX12_rank_246 : decode cX12_rank 246 = .ok (.lstore 10, 2) := by decide +kernel
theorem dX12_rank_248 : decode cX12_rank 248 = .ok (.iinc 12 (-1), 3) := by decide +kernel
theorem dX12_rank_251 : decode cX12_rank 251 = .ok (.goto (-104), 3) := by decide +kernel
theorem dX12_rank_254 : decode cX12_rank 254 = .ok (.lload_n 2, 1) := by decide +kernel
theorem dX12_rank_255 : decode cX12_rank 255 = .ok (.lconst 0, 1) := by decide +kernel
theorem dX12_rank_256 : decode cX12_rank 256 = .ok (.lcmp, 1) := by decide +kernel
theorem dX12_rank_257 : decode cX12_rank 257 = .ok (.ifCond .ne 10, 3) := by decide +kernel
theorem dX12_rank_260 : decode cX12_rank 260 = .ok (.lload 4, 2) := by decide +kernel
theorem dX12_rank_262 : decode cX12_rank 262 = .ok (.lconst 0, 1) := by decide +kernel
theorem dX12_rank_263 : decode cX12_rank 263 = .ok (.lcmp, 1) := by decide +kernel
theorem dX12_rank_264 : decode cX12_rank 264 = .ok (.ifCond .eq 5, 3) := by decide +kernel
theorem dX12_rank_267 : decode cX12_rank 267 = .ok (.iconst (-1), 1) := by decide +kernel
theorem dX12_rank_268 : decode cX12_rank 268 = .ok (.ireturn, 1) := by decide +kernel
theorem dX12_rank_269 : decode cX12_rank 269 = .ok (.aload_n 0, 1) := by decide +kernel
theorem dX12_rank_270 : decode cX12_rank 270 = .ok (.iload 13, 2) := by decide +kernel
theorem dX12_rank_272 : decode cX12_rank 272 = .ok (.invokevirtual 224, 3) := by decide +kernel
theorem dX12_rank_275 : decode cX12_rank 275 = .ok (.lconst 0, 1) := by decide +kernel
theorem dX12_rank_276 : decode cX12_rank 276 = .ok (.lstore 14, 2) := by decide +kernel
theorem dX12_rank_278 : decode cX12_rank 278 = .ok (.iconst 0, 1) := by decide +kernel
theorem dX12_rank_279 : decode cX12_rank 279 = .ok (.istore 16, 2) := by decide +kernel
theorem dX12_rank_281 : decode cX12_rank 281 = .ok (.iconst 0, 1) := by decide +kernel
theorem dX12_rank_282 : decode cX12_rank 282 = .ok (.istore 17, 2) := by decide +kernel
theorem dX12_rank_284 : decode cX12_rank 284 = .ok (.iload 17, 2) := by decide +kernel
theorem dX12_rank_286 : decode cX12_rank 286 = .ok (.iload 13, 2) := by decide +kernel
theorem dX12_rank_288 : decode cX12_rank 288 = .ok (.if_icmp .ge 73, 3) := by decide +kernel
theorem dX12_rank_291 : decode cX12_rank 291 = .ok (.aload_n 0, 1) := by decide +kernel
theorem dX12_rank_292 : decode cX12_rank 292 = .ok (.getfield 50, 3) := by decide +kernel
theorem dX12_rank_295 : decode cX12_rank 295 = .ok (.iload 17, 2) := by decide +kernel
theorem dX12_rank_297 : decode cX12_rank 297 = .ok (.iaload, 1) := by decide +kernel
theorem dX12_rank_298 : decode cX12_rank 298 = .ok (.istore 18, 2) := by decide +kernel
theorem dX12_rank_300 : decode cX12_rank 300 = .ok (.lload 14, 2) := by decide +kernel
theorem dX12_rank_302 : decode cX12_rank 302 = .ok (.iload 18, 2) := by decide +kernel
theorem dX12_rank_304 : decode cX12_rank 304 = .ok (.i2l, 1) := by decide +kernel
theorem dX12_rank_305 : decode cX12_rank 305 = .ok (.aload_n 0, 1) := by decide +kernel
theorem dX12_rank_306 : decode cX12_rank 306 = .ok (.getfield 47, 3) := by decide +kernel
theorem dX12_rank_309 : decode cX12_rank 309 = .ok (.iconst 2, 1) := by decide +kernel
theorem dX12_rank_310 : decode cX12_rank 310 = .ok (.iload 13, 2) := by decide +kernel
theorem dX12_rank_312 : decode cX12_rank 312 = .ok (.iconst 1, 1) := by decide +kernel
theorem dX12_rank_313 : decode cX12_rank 313 = .ok (.isub, 1) := by decide +kernel
theorem dX12_rank_314 : decode cX12_rank 314 = .ok (.iload 17, 2) := by decide +kernel
theorem dX12_rank_316 : decode cX12_rank 316 = .ok (.isub, 1) := by decide +kernel
theorem dX12_rank_317 : decode cX12_rank 317 = .ok (.imul, 1) := by decide +kernel
theorem dX12_rank_318 : decode cX12_rank 318 = .ok (.laload, 1) := by decide +kernel
theorem dX12_rank_319 : decode cX12_rank 319 = .ok (.lmul, 1) := by decide +kernel
theorem dX12_rank_320 : decode cX12_rank 320 = .ok (.ladd, 1) := by decide +kernel
theorem dX12_rank_321 : decode cX12_rank 321 = .ok (.lstore 14, 2) := by decide +kernel
theorem dX12_rank_323 : decode cX12_rank 323 = .ok (.iload 18, 2) := by decide +kernel
theorem dX12_rank_325 : decode cX12_rank 325 = .ok (.aload_n 0, 1) := by decide +kernel
theorem dX12_rank_326 : decode cX12_rank 326 = .ok (.iload 16, 2) := by decide +kernel
theorem dX12_rank_328 : decode cX12_rank 328 = .ok (.invokevirtual 220, 3) := by decide +kernel
theorem dX12_rank_331 : decode cX12_rank 331 = .ok (.if_icmp .ge 7, 3) := by decide +kernel
theorem dX12_rank_334 : decode cX12_rank 334 = .ok (.iconst 0, 1) := by decide +kernel
theorem dX12_rank_335 : decode cX12_rank 335 = .ok (.goto 18, 3) := by decide +kernel
theorem dX12_rank_338 : decode cX12_rank 338 = .ok (.aload_n 0, 1) := by decide +kernel
theorem dX12_rank_339 : decode cX12_rank 339 = .ok (.getfield 17, 3) := by decide +kernel
theorem dX12_rank_342 : decode cX12_rank 342 = .ok (.ifCond .le 10, 3) := by decide +kernel
theorem dX12_rank_345 : decode cX12_rank 345 = .ok (.iconst 1, 1) := by decide +kernel
theorem dX12_rank_346 : decode cX12_rank 346 = .ok (.iload 16, 2) := by decide +kernel
theorem dX12_rank_348 : decode cX12_rank 348 = .ok (.isub, 1) := by decide +kernel
theorem dX12_rank_349 : decode cX12_rank 349 = .ok (.goto 4, 3) := by decide +kernel
theorem dX12_rank_352 : decode cX12_rank 352 = .ok (.iconst 1, 1) := by decide +kernel
theorem dX12_rank_353 : decode cX12_rank 353 = .ok (.istore 16, 2) := by decide +kernel
theorem dX12_rank_355 : decode cX12_rank 355 = .ok (.iinc 17 1, 3) := by decide +kernel
theorem dX12_rank_358 : decode cX12_rank 358 = .ok (.goto (-74), 3) := by decide +kernel
theorem dX12_rank_361 : decode cX12_rank 361 = .ok (.lload 14, 2) := by decide +kernel
theorem dX12_rank_363 : decode cX12_rank 363 = .ok (.ldc2_w 228, 3) := by decide +kernel
theorem dX12_rank_366 : decode cX12_rank 366 = .ok (.lcmp, 1) := by decide +kernel
theorem dX12_rank_367 : decode cX12_rank 367 = .ok (.ifCond .le 7, 3) := by decide +kernel
theorem dX12_rank_370 : decode cX12_rank 370 = .ok (.iconst (-1), 1) := by decide +kernel
theorem dX12_rank_371 : decode cX12_rank 371 = .ok (.goto 6, 3) := by decide +kernel
theorem dX12_rank_374 : decode cX12_rank 374 = .ok (.lload 14, 2) := by decide +kernel
theorem dX12_rank_376 : decode cX12_rank 376 = .ok (.l2i, 1) := by decide +kernel
theorem dX12_rank_377 : decode cX12_rank 377 = .ok (.ireturn, 1) := by decide +kernel
theorem dX12_ring_0 : decode cX12_ring 0 = .ok (.aload_n 0, 1) := by decide +kernel
theorem dX12_ring_1 : decode cX12_ring 1 = .ok (.iconst 0, 1) := by decide +kernel
theorem dX12_ring_2 : decode cX12_ring 2 = .ok (.putfield 107, 3) := by decide +kernel
theorem dX12_ring_5 : decode cX12_ring 5 = .ok (.iload_n 1, 1) := by decide +kernel
theorem dX12_ring_6 : decode cX12_ring 6 = .ok (.ifCond .eq 11, 3) := by decide +kernel
theorem dX12_ring_9 : decode cX12_ring 9 = .ok (.iload 4, 2) := by decide +kernel
theorem dX12_ring_11 : decode cX12_ring 11 = .ok (.i2l, 1) := by decide +kernel
theorem dX12_ring_12 : decode cX12_ring 12 = .ok (.lstore 6, 2) := by decide +kernel
theorem dX12_ring_14 : decode cX12_ring 14 = .ok (.goto 88, 3) := by decide +kernel
theorem dX12_ring_17 : decode cX12_ring 17 = .ok (.iload_n 2, 1) := by decide +kernel
theorem dX12_ring_18 : decode cX12_ring 18 = .ok (.bipush (-9), 2) := by decide +kernel
theorem dX12_ring_20 : decode cX12_ring 20 = .ok (.if_icmp .lt 49, 3) := by decide +kernel
theorem dX12_ring_23 : decode cX12_ring 23 = .ok (.iload_n 2, 1) := by decide +kernel
theorem dX12_ring_24 : decode cX12_ring 24 = .ok (.bipush 9, 2) := by decide +kernel
theorem dX12_ring_26 : decode cX12_ring 26 = .ok (.if_icmp .gt 43, 3) := by decide +kernel
theorem dX12_ring_29 : decode cX12_ring 29 = .ok (.iload_n 3, 1) := by decide +kernel
theorem dX12_ring_30 : decode cX12_ring 30 = .ok (.bipush (-9), 2) := by decide +kernel
theorem dX12_ring_32 : decode cX12_ring 32 = .ok (.if_icmp .lt 37, 3) := by decide +kernel
theorem dX12_ring_35 : decode cX12_ring 35 = .ok (.iload_n 3, 1) := by decide +kernel
theorem dX12_ring_36 : decode cX12_ring 36 = .ok (.bipush 9, 2) := by decide +kernel
theorem dX12_ring_38 : decode cX12_ring 38 = .ok (.if_icmp .gt 31, 3) := by decide +kernel
theorem dX12_ring_41 : decode cX12_ring 41 = .ok (.iload 4, 2) := by decide +kernel
theorem dX12_ring_43 : decode cX12_ring 43 = .ok (.ldc 230, 2) := by decide +kernel
theorem dX12_ring_45 : decode cX12_ring 45 = .ok (.if_icmp .lt 24, 3) := by decide +kernel
theorem dX12_ring_48 : decode cX12_ring 48 = .ok (.iload 4, 2) := by decide +kernel
theorem dX12_ring_50 : decode cX12_ring 50 = .ok (.ldc 231, 2) := by decide +kernel
theorem dX12_ring_52 : decode cX12_ring 52 = .ok (.if_icmp .gt 17, 3) := by decide +kernel
theorem dX12_ring_55 : decode cX12_ring 55 = .ok (.iload 5, 2) := by decide +kernel
theorem dX12_ring_57 : decode cX12_ring 57 = .ok (.ldc 230, 2) := by decide +kernel
theorem dX12_ring_59 : decode cX12_ring 59 = .ok (.if_icmp .lt 10, 3) := by decide +kernel
theorem dX12_ring_62 : decode cX12_ring 62 = .ok (.iload 5, 2) := by decide +kernel
theorem dX12_ring_64 : decode cX12_ring 64 = .ok (.ldc 231, 2) := by decide +kernel
theorem dX12_ring_66 : decode cX12_ring 66 = .ok (.if_icmp .le 5, 3) := by decide +kernel
theorem dX12_ring_69 : decode cX12_ring 69 = .ok (.iconst 0, 1) := by decide +kernel
theorem dX12_ring_70 : decode cX12_ring 70 = .ok (.ireturn, 1) := by decide +kernel
theorem dX12_ring_71 : decode cX12_ring 71 = .ok (.iload 4, 2) := by decide +kernel
theorem dX12_ring_73 : decode cX12_ring 73 = .ok (.i2l, 1) := by decide +kernel
theorem dX12_ring_74 : decode cX12_ring 74 = .ok (.iload 4, 2) := by decide +kernel
theorem dX12_ring_76 : decode cX12_ring 76 = .ok (.i2l, 1) := by decide +kernel
theorem dX12_ring_77 : decode cX12_ring 77 = .ok (.lmul, 1) := by decide +kernel
theorem dX12_ring_78 : decode cX12_ring 78 = .ok (.iload_n 2, 1) := by decide +kernel
theorem dX12_ring_79 : decode cX12_ring 79 = .ok (.i2l, 1) := by decide +kernel
theorem dX12_ring_80 : decode cX12_ring 80 = .ok (.iload 4, 2) := by decide +kernel
theorem dX12_ring_82 : decode cX12_ring 82 = .ok (.i2l, 1) := by decide +kernel
theorem dX12_ring_83 : decode cX12_ring 83 = .ok (.lmul, 1) := by decide +kernel
theorem dX12_ring_84 : decode cX12_ring 84 = .ok (.iload 5, 2) := by decide +kernel
theorem dX12_ring_86 : decode cX12_ring 86 = .ok (.i2l, 1) := by decide +kernel
theorem dX12_ring_87 : decode cX12_ring 87 = .ok (.lmul, 1) := by decide +kernel
theorem dX12_ring_88 : decode cX12_ring 88 = .ok (.ladd, 1) := by decide +kernel
theorem dX12_ring_89 : decode cX12_ring 89 = .ok (.iload_n 3, 1) := by decide +kernel
theorem dX12_ring_90 : decode cX12_ring 90 = .ok (.i2l, 1) := by decide +kernel
theorem dX12_ring_91 : decode cX12_ring 91 = .ok (.iload 5, 2) := by decide +kernel
theorem dX12_ring_93 : decode cX12_ring 93 = .ok (.i2l, 1) := by decide +kernel
theorem dX12_ring_94 : decode cX12_ring 94 = .ok (.lmul, 1) := by decide +kernel
theorem dX12_ring_95 : decode cX12_ring 95 = .ok (.iload 5, 2) := by decide +kernel
theorem dX12_ring_97 : decode cX12_ring 97 = .ok (.i2l, 1) := by decide +kernel
theorem dX12_ring_98 : decode cX12_ring 98 = .ok (.lmul, 1) := by decide +kernel
theorem dX12_ring_99 : decode cX12_ring 99 = .ok (.lsub, 1) := by decide +kernel
theorem dX12_ring_100 : decode cX12_ring 100 = .ok (.lstore 6, 2) := by decide +kernel
theorem dX12_ring_102 : decode cX12_ring 102 = .ok (.lload 6, 2) := by decide +kernel
theorem dX12_ring_104 : decode cX12_ring 104 = .ok (.lconst 0, 1) := by decide +kernel
theorem dX12_ring_105 : decode cX12_ring 105 = .ok (.lcmp, 1) := by decide +kernel
theorem dX12_ring_106 : decode cX12_ring 106 = .ok (.ifCond .ge 9, 3) := by decide +kernel
theorem dX12_ring_109 : decode cX12_ring 109 = .ok (.lload 6, 2) := by decide +kernel
theorem dX12_ring_111 : decode cX12_ring 111 = .ok (.lneg, 1) := by decide +kernel
theorem dX12_ring_112 : decode cX12_ring 112 = .ok (.goto 5, 3) := by decide +kernel
theorem dX12_ring_115 : decode cX12_ring 115 = .ok (.lload 6, 2) := by decide +kernel
theorem dX12_ring_117 : decode cX12_ring 117 = .ok (.lstore 8, 2) := by decide +kernel
theorem dX12_ring_119 : decode cX12_ring 119 = .ok (.lload 8, 2) := by decide +kernel
theorem dX12_ring_121 : decode cX12_ring 121 = .ok (.ldc2_w 125, 3) := by decide +kernel
theorem dX12_ring_124 : decode cX12_ring 124 = .ok (.lcmp, 1) := by decide +kernel
theorem dX12_ring_125 : decode cX12_ring 125 = .ok (.ifCond .lt 12, 3) := by decide +kernel
theorem dX12_ring_128 : decode cX12_ring 128 = .ok (.lload 8, 2) := by decide +kernel
theorem dX12_ring_130 : decode cX12_ring 130 = .ok (.ldc2_w 232, 3) := by decide +kernel
theorem dX12_ring_133 : decode cX12_ring 133 = .ok (.lcmp, 1) := by decide +kernel
theorem dX12_ring_134 : decode cX12_ring 134 = .ok (.ifCond .le 5, 3) := by decide +kernel
theorem dX12_ring_137 : decode cX12_ring 137 = .ok (.iconst 0, 1) := by decide +kernel
theorem dX12_ring_138 : decode cX12_ring 138 = .ok (.ireturn, 1) := by decide +kernel
theorem dX12_ring_139 : decode cX12_ring 139 = .ok (.aload_n 0, 1) := by decide +kernel
theorem dX12_ring_140 : decode cX12_ring 140 = .ok (.iload_n 1, 1) := by decide +kernel
theorem dX12_ring_141 : decode cX12_ring 141 = .ok (.ifCond .eq 7, 3) := by decide +kernel
theorem dX12_ring_144 : decode cX12_ring 144 = .ok (.iconst 1, 1) := by decide +kernel
theorem dX12_ring_145 : decode cX12_ring 145 = .ok (.goto 4, 3) := by decide +kernel
theorem dX12_ring_148 : decode cX12_ring 148 = .ok (.iconst 2, 1) := by decide +kernel
theorem dX12_ring_149 : decode cX12_ring 149 = .ok (.putfield 53, 3) := by decide +kernel
theorem dX12_ring_152 : decode cX12_ring 152 = .ok (.aload_n 0, 1) := by decide +kernel
theorem dX12_ring_153 : decode cX12_ring 153 = .ok (.iload_n 1, 1) := by decide +kernel
theorem dX12_ring_154 : decode cX12_ring 154 = .ok (.ifCond .eq 7, 3) := by decide +kernel
theorem dX12_ring_157 : decode cX12_ring 157 = .ok (.iconst 0, 1) := by decide +kernel
theorem dX12_ring_158 : decode cX12_ring 158 = .ok (.goto 4, 3) := by decide +kernel
theorem dX12_ring_161 : decode cX12_ring 161 = .ok (.iload_n 2, 1) := by decide +kernel
theorem dX12_ring_162 : decode cX12_ring 162 = .ok (.putfield 234, 3) := by decide +kernel
theorem dX12_ring_165 : decode cX12_ring 165 = .ok (.aload_n 0, 1) := by decide +kernel
theorem dX12_ring_166 : decode cX12_ring 166 = .ok (.iload_n 1, 1) := by decide +kernel
theorem dX12_ring_167 : decode cX12_ring 167 = .ok (.ifCond .eq 7, 3) := by decide +kernel
theorem dX12_ring_170 : decode cX12_ring 170 = .ok (.iconst 0, 1) := by decide +kernel
theorem dX12_ring_171 : decode cX12_ring 171 = .ok (.goto 4, 3) := by decide +kernel
theorem dX12_ring_174 : decode cX12_ring 174 = .ok (.iload_n 3, 1) := by decide +kernel
theorem dX12_ring_175 : decode cX12_ring 175 = .ok (.putfield 237, 3) := by decide +kernel
theorem dX12_ring_178 : decode cX12_ring 178 = .ok (.aload_n 0, 1) := by decide +kernel
theorem dX12_ring_179 : decode cX12_ring 179 = .ok (.iload 4, 2) := by decide +kernel
theorem dX12_ring_181 : decode cX12_ring 181 = .ok (.putfield 56, 3) := by decide +kernel
theorem dX12_ring_184 : decode cX12_ring 184 = .ok (.aload_n 0, 1) := by decide +kernel
theorem dX12_ring_185 : decode cX12_ring 185 = .ok (.iload_n 1, 1) := by decide +kernel
theorem dX12_ring_186 : decode cX12_ring 186 = .ok (.ifCond .eq 7, 3) := by decide +kernel
theorem dX12_ring_189 : decode cX12_ring 189 = .ok (.iconst 0, 1) := by decide +kernel
theorem dX12_ring_190 : decode cX12_ring 190 = .ok (.goto 5, 3) := by decide +kernel
