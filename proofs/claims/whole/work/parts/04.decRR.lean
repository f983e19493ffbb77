/-! ===== each instruction, decoded ===== -/
theorem d_RR_arrive_0 : decode b_RR_arrive 0 = .ok (.aload_n 0, 1) := by decide +kernel
theorem d_RR_arrive_1 : decode b_RR_arrive 1 = .ok (.iload_n 1, 1) := by decide +kernel
theorem d_RR_arrive_2 : decode b_RR_arrive 2 = .ok (.invokevirtual 64, 3) := by decide +kernel
theorem d_RR_arrive_5 : decode b_RR_arrive 5 = .ok (.astore_n 3, 1) := by decide +kernel
theorem d_RR_arrive_6 : decode b_RR_arrive 6 = .ok (.iload_n 2, 1) := by decide +kernel
theorem d_RR_arrive_7 : decode b_RR_arrive 7 = .ok (.iconst (-1), 1) := by decide +kernel
theorem d_RR_arrive_8 : decode b_RR_arrive 8 = .ok (.bipush 9, 2) := by decide +kernel
theorem d_RR_arrive_10 : decode b_RR_arrive 10 = .ok (.invokestatic 25, 3) := by decide +kernel
theorem d_RR_arrive_13 : decode b_RR_arrive 13 = .ok (.aload_n 3, 1) := by decide +kernel
theorem d_RR_arrive_14 : decode b_RR_arrive 14 = .ok (.getfield 68, 3) := by decide +kernel
theorem d_RR_arrive_17 : decode b_RR_arrive 17 = .ok (.ifCond .eq 21, 3) := by decide +kernel
theorem d_RR_arrive_20 : decode b_RR_arrive 20 = .ok (.aload_n 3, 1) := by decide +kernel
theorem d_RR_arrive_21 : decode b_RR_arrive 21 = .ok (.getfield 68, 3) := by decide +kernel
theorem d_RR_arrive_24 : decode b_RR_arrive 24 = .ok (.iconst 1, 1) := by decide +kernel
theorem d_RR_arrive_25 : decode b_RR_arrive 25 = .ok (.if_icmp .eq 13, 3) := by decide +kernel
theorem d_RR_arrive_28 : decode b_RR_arrive 28 = .ok (.new 51, 3) := by decide +kernel
theorem d_RR_arrive_31 : decode b_RR_arrive 31 = .ok (.dup, 1) := by decide +kernel
theorem d_RR_arrive_32 : decode b_RR_arrive 32 = .ok (.ldc 71, 2) := by decide +kernel
theorem d_RR_arrive_34 : decode b_RR_arrive 34 = .ok (.invokespecial 55, 3) := by decide +kernel
theorem d_RR_arrive_37 : decode b_RR_arrive 37 = .ok (.athrow, 1) := by decide +kernel
theorem d_RR_arrive_38 : decode b_RR_arrive 38 = .ok (.aload_n 3, 1) := by decide +kernel
theorem d_RR_arrive_39 : decode b_RR_arrive 39 = .ok (.getfield 68, 3) := by decide +kernel
theorem d_RR_arrive_42 : decode b_RR_arrive 42 = .ok (.iconst 1, 1) := by decide +kernel
theorem d_RR_arrive_43 : decode b_RR_arrive 43 = .ok (.if_icmp .ne 7, 3) := by decide +kernel
theorem d_RR_arrive_46 : decode b_RR_arrive 46 = .ok (.iconst 1, 1) := by decide +kernel
theorem d_RR_arrive_47 : decode b_RR_arrive 47 = .ok (.goto 4, 3) := by decide +kernel
theorem d_RR_arrive_50 : decode b_RR_arrive 50 = .ok (.iconst 0, 1) := by decide +kernel
theorem d_RR_arrive_51 : decode b_RR_arrive 51 = .ok (.istore 4, 2) := by decide +kernel
theorem d_RR_arrive_53 : decode b_RR_arrive 53 = .ok (.iload 4, 2) := by decide +kernel
theorem d_RR_arrive_55 : decode b_RR_arrive 55 = .ok (.iload_n 2, 1) := by decide +kernel
theorem d_RR_arrive_56 : decode b_RR_arrive 56 = .ok (.iconst (-1), 1) := by decide +kernel
theorem d_RR_arrive_57 : decode b_RR_arrive 57 = .ok (.if_icmp .eq 7, 3) := by decide +kernel
theorem d_RR_arrive_60 : decode b_RR_arrive 60 = .ok (.iconst 1, 1) := by decide +kernel
theorem d_RR_arrive_61 : decode b_RR_arrive 61 = .ok (.goto 4, 3) := by decide +kernel
theorem d_RR_arrive_64 : decode b_RR_arrive 64 = .ok (.iconst 0, 1) := by decide +kernel
theorem d_RR_arrive_65 : decode b_RR_arrive 65 = .ok (.if_icmp .eq 13, 3) := by decide +kernel
theorem d_RR_arrive_68 : decode b_RR_arrive 68 = .ok (.new 51, 3) := by decide +kernel
theorem d_RR_arrive_71 : decode b_RR_arrive 71 = .ok (.dup, 1) := by decide +kernel
theorem d_RR_arrive_72 : decode b_RR_arrive 72 = .ok (.ldc 73, 2) := by decide +kernel
theorem d_RR_arrive_74 : decode b_RR_arrive 74 = .ok (.invokespecial 55, 3) := by decide +kernel
theorem d_RR_arrive_77 : decode b_RR_arrive 77 = .ok (.athrow, 1) := by decide +kernel
theorem d_RR_arrive_78 : decode b_RR_arrive 78 = .ok (.aload_n 3, 1) := by decide +kernel
theorem d_RR_arrive_79 : decode b_RR_arrive 79 = .ok (.iload_n 2, 1) := by decide +kernel
theorem d_RR_arrive_80 : decode b_RR_arrive 80 = .ok (.putfield 75, 3) := by decide +kernel
theorem d_RR_arrive_83 : decode b_RR_arrive 83 = .ok (.aload_n 3, 1) := by decide +kernel
theorem d_RR_arrive_84 : decode b_RR_arrive 84 = .ok (.iconst 2, 1) := by decide +kernel
theorem d_RR_arrive_85 : decode b_RR_arrive 85 = .ok (.putfield 68, 3) := by decide +kernel
theorem d_RR_arrive_88 : decode b_RR_arrive 88 = .ok (.return_, 1) := by decide +kernel
theorem d_RR_back_0 : decode b_RR_back 0 = .ok (.aload_n 0, 1) := by decide +kernel
theorem d_RR_back_1 : decode b_RR_back 1 = .ok (.iload_n 1, 1) := by decide +kernel
theorem d_RR_back_2 : decode b_RR_back 2 = .ok (.invokevirtual 64, 3) := by decide +kernel
theorem d_RR_back_5 : decode b_RR_back 5 = .ok (.astore_n 2, 1) := by decide +kernel
theorem d_RR_back_6 : decode b_RR_back 6 = .ok (.aload_n 2, 1) := by decide +kernel
theorem d_RR_back_7 : decode b_RR_back 7 = .ok (.invokestatic 121, 3) := by decide +kernel
theorem d_RR_back_10 : decode b_RR_back 10 = .ok (.aload_n 2, 1) := by decide +kernel
theorem d_RR_back_11 : decode b_RR_back 11 = .ok (.invokestatic 109, 3) := by decide +kernel
theorem d_RR_back_14 : decode b_RR_back 14 = .ok (.aload_n 2, 1) := by decide +kernel
theorem d_RR_back_15 : decode b_RR_back 15 = .ok (.getfield 89, 3) := by decide +kernel
theorem d_RR_back_18 : decode b_RR_back 18 = .ok (.ifCond .eq 13, 3) := by decide +kernel
theorem d_RR_back_21 : decode b_RR_back 21 = .ok (.new 51, 3) := by decide +kernel
theorem d_RR_back_24 : decode b_RR_back 24 = .ok (.dup, 1) := by decide +kernel
theorem d_RR_back_25 : decode b_RR_back 25 = .ok (.ldc 143, 2) := by decide +kernel
theorem d_RR_back_27 : decode b_RR_back 27 = .ok (.invokespecial 55, 3) := by decide +kernel
theorem d_RR_back_30 : decode b_RR_back 30 = .ok (.athrow, 1) := by decide +kernel
theorem d_RR_back_31 : decode b_RR_back 31 = .ok (.aload_n 2, 1) := by decide +kernel
theorem d_RR_back_32 : decode b_RR_back 32 = .ok (.getfield 124, 3) := by decide +kernel
theorem d_RR_back_35 : decode b_RR_back 35 = .ok (.iconst 2, 1) := by decide +kernel
theorem d_RR_back_36 : decode b_RR_back 36 = .ok (.if_icmp .le 13, 3) := by decide +kernel
theorem d_RR_back_39 : decode b_RR_back 39 = .ok (.new 51, 3) := by decide +kernel
theorem d_RR_back_42 : decode b_RR_back 42 = .ok (.dup, 1) := by decide +kernel
theorem d_RR_back_43 : decode b_RR_back 43 = .ok (.ldc 145, 2) := by decide +kernel
theorem d_RR_back_45 : decode b_RR_back 45 = .ok (.invokespecial 55, 3) := by decide +kernel
theorem d_RR_back_48 : decode b_RR_back 48 = .ok (.athrow, 1) := by decide +kernel
theorem d_RR_back_49 : decode b_RR_back 49 = .ok (.aload_n 0, 1) := by decide +kernel
theorem d_RR_back_50 : decode b_RR_back 50 = .ok (.getfield 21, 3) := by decide +kernel
theorem d_RR_back_53 : decode b_RR_back 53 = .ok (.aload_n 2, 1) := by decide +kernel
theorem d_RR_back_54 : decode b_RR_back 54 = .ok (.getfield 85, 3) := by decide +kernel
theorem d_RR_back_57 : decode b_RR_back 57 = .ok (.getfield 147, 3) := by decide +kernel
theorem d_RR_back_60 : decode b_RR_back 60 = .ok (.if_icmp .le 13, 3) := by decide +kernel
theorem d_RR_back_63 : decode b_RR_back 63 = .ok (.new 51, 3) := by decide +kernel
theorem d_RR_back_66 : decode b_RR_back 66 = .ok (.dup, 1) := by decide +kernel
theorem d_RR_back_67 : decode b_RR_back 67 = .ok (.ldc 150, 2) := by decide +kernel
theorem d_RR_back_69 : decode b_RR_back 69 = .ok (.invokespecial 55, 3) := by decide +kernel
theorem d_RR_back_72 : decode b_RR_back 72 = .ok (.athrow, 1) := by decide +kernel
theorem d_RR_back_73 : decode b_RR_back 73 = .ok (.aload_n 2, 1) := by decide +kernel
theorem d_RR_back_74 : decode b_RR_back 74 = .ok (.bipush 6, 2) := by decide +kernel
theorem d_RR_back_76 : decode b_RR_back 76 = .ok (.putfield 68, 3) := by decide +kernel
theorem d_RR_back_79 : decode b_RR_back 79 = .ok (.aload_n 0, 1) := by decide +kernel
theorem d_RR_back_80 : decode b_RR_back 80 = .ok (.aload_n 2, 1) := by decide +kernel
theorem d_RR_back_81 : decode b_RR_back 81 = .ok (.getfield 124, 3) := by decide +kernel
theorem d_RR_back_84 : decode b_RR_back 84 = .ok (.invokevirtual 152, 3) := by decide +kernel
theorem d_RR_back_87 : decode b_RR_back 87 = .ok (.ireturn, 1) := by decide +kernel
theorem d_RR_backOfClass_0 : decode b_RR_backOfClass 0 = .ok (.iconst 0, 1) := by decide +kernel
theorem d_RR_backOfClass_1 : decode b_RR_backOfClass 1 = .ok (.istore_n 2, 1) := by decide +kernel
theorem d_RR_backOfClass_2 : decode b_RR_backOfClass 2 = .ok (.aload_n 0, 1) := by decide +kernel
theorem d_RR_backOfClass_3 : decode b_RR_backOfClass 3 = .ok (.getfield 17, 3) := by decide +kernel
theorem d_RR_backOfClass_6 : decode b_RR_backOfClass 6 = .ok (.astore_n 3, 1) := by decide +kernel
theorem d_RR_backOfClass_7 : decode b_RR_backOfClass 7 = .ok (.aload_n 3, 1) := by decide +kernel
theorem d_RR_backOfClass_8 : decode b_RR_backOfClass 8 = .ok (.arraylength, 1) := by decide +kernel
theorem d_RR_backOfClass_9 : decode b_RR_backOfClass 9 = .ok (.istore 4, 2) := by decide +kernel
theorem d_RR_backOfClass_11 : decode b_RR_backOfClass 11 = .ok (.iconst 0, 1) := by decide +kernel
theorem d_RR_backOfClass_12 : decode b_RR_backOfClass 12 = .ok (.istore 5, 2) := by decide +kernel
theorem d_RR_backOfClass_14 : decode b_RR_backOfClass 14 = .ok (.iload 5, 2) := by decide +kernel
theorem d_RR_backOfClass_16 : decode b_RR_backOfClass 16 = .ok (.iload 4, 2) := by decide +kernel
theorem d_RR_backOfClass_18 : decode b_RR_backOfClass 18 = .ok (.if_icmp .ge 42, 3) := by decide +kernel
theorem d_RR_backOfClass_21 : decode b_RR_backOfClass 21 = .ok (.aload_n 3, 1) := by decide +kernel
theorem d_RR_backOfClass_22 : decode b_RR_backOfClass 22 = .ok (.iload 5, 2) := by decide +kernel
theorem d_RR_backOfClass_24 : decode b_RR_backOfClass 24 = .ok (.aaload, 1) := by decide +kernel
theorem d_RR_backOfClass_25 : decode b_RR_backOfClass 25 = .ok (.astore 6, 2) := by decide +kernel
theorem d_RR_backOfClass_27 : decode b_RR_backOfClass 27 = .ok (.aload 6, 2) := by decide +kernel
theorem d_RR_backOfClass_29 : decode b_RR_backOfClass 29 = .ok (.ifnull 25, 3) := by decide +kernel
theorem d_RR_backOfClass_32 : decode b_RR_backOfClass 32 = .ok (.aload 6, 2) := by decide +kernel
theorem d_RR_backOfClass_34 : decode b_RR_backOfClass 34 = .ok (.getfield 68, 3) := by decide +kernel
theorem d_RR_backOfClass_37 : decode b_RR_backOfClass 37 = .ok (.bipush 6, 2) := by decide +kernel
theorem d_RR_backOfClass_39 : decode b_RR_backOfClass 39 = .ok (.if_icmp .ne 15, 3) := by decide +kernel
theorem d_RR_backOfClass_42 : decode b_RR_backOfClass 42 = .ok (.aload 6, 2) := by decide +kernel
theorem d_RR_backOfClass_44 : decode b_RR_backOfClass 44 = .ok (.getfield 124, 3) := by decide +kernel
theorem d_RR_backOfClass_47 : decode b_RR_backOfClass 47 = .ok (.iload_n 1, 1) := by decide +kernel
theorem d_RR_backOfClass_48 : decode b_RR_backOfClass 48 = .ok (.if_icmp .ne 6, 3) := by decide +kernel
theorem d_RR_backOfClass_51 : decode b_RR_backOfClass 51 = .ok (.iinc 2 1, 3) := by decide +kernel
theorem d_RR_backOfClass_54 : decode b_RR_backOfClass 54 = .ok (.iinc 5 1, 3) := by decide +kernel
theorem d_RR_backOfClass_57 : decode b_RR_backOfClass 57 = .ok (.goto (-43), 3) := by decide +kernel
theorem d_RR_backOfClass_60 : decode b_RR_backOfClass 60 = .ok (.iload_n 2, 1) := by decide +kernel
theorem d_RR_backOfClass_61 : decode b_RR_backOfClass 61 = .ok (.ireturn, 1) := by decide +kernel
theorem d_RR_check_0 : decode b_RR_check 0 = .ok (.aload_n 0, 1) := by decide +kernel
theorem d_RR_check_1 : decode b_RR_check 1 = .ok (.iload_n 1, 1) := by decide +kernel
theorem d_RR_check_2 : decode b_RR_check 2 = .ok (.invokevirtual 64, 3) := by decide +kernel
theorem d_RR_check_5 : decode b_RR_check 5 = .ok (.astore 4, 2) := by decide +kernel
theorem d_RR_check_7 : decode b_RR_check 7 = .ok (.iload_n 2, 1) := by decide +kernel
theorem d_RR_check_8 : decode b_RR_check 8 = .ok (.iconst 0, 1) := by decide +kernel
theorem d_RR_check_9 : decode b_RR_check 9 = .ok (.iconst 4, 1) := by decide +kernel
theorem d_RR_check_10 : decode b_RR_check 10 = .ok (.invokestatic 25, 3) := by decide +kernel
theorem d_RR_check_13 : decode b_RR_check 13 = .ok (.aload 4, 2) := by decide +kernel
theorem d_RR_check_15 : decode b_RR_check 15 = .ok (.invokestatic 78, 3) := by decide +kernel
theorem d_RR_check_18 : decode b_RR_check 18 = .ok (.iconst 1, 1) := by decide +kernel
theorem d_RR_check_19 : decode b_RR_check 19 = .ok (.iload_n 2, 1) := by decide +kernel
theorem d_RR_check_20 : decode b_RR_check 20 = .ok (.ishl, 1) := by decide +kernel
theorem d_RR_check_21 : decode b_RR_check 21 = .ok (.istore 5, 2) := by decide +kernel
theorem d_RR_check_23 : decode b_RR_check 23 = .ok (.aload 4, 2) := by decide +kernel
theorem d_RR_check_25 : decode b_RR_check 25 = .ok (.iload_n 3, 1) := by decide +kernel
theorem d_RR_check_26 : decode b_RR_check 26 = .ok (.ifCond .eq 16, 3) := by decide +kernel
theorem d_RR_check_29 : decode b_RR_check 29 = .ok (.aload 4, 2) := by decide +kernel
theorem d_RR_check_31 : decode b_RR_check 31 = .ok (.getfield 100, 3) := by decide +kernel
theorem d_RR_check_34 : decode b_RR_check 34 = .ok (.iload 5, 2) := by decide +kernel
theorem d_RR_check_36 : decode b_RR_check 36 = .ok (.iconst (-1), 1) := by decide +kernel
theorem d_RR_check_37 : decode b_RR_check 37 = .ok (.ixor, 1) := by decide +kernel
theorem d_RR_check_38 : decode b_RR_check 38 = .ok (.iand, 1) := by decide +kernel
theorem d_RR_check_39 : decode b_RR_check 39 = .ok (.goto 11, 3) := by decide +kernel
theorem d_RR_check_42 : decode b_RR_check 42 = .ok (.aload 4, 2) := by decide +kernel
theorem d_RR_check_44 : decode b_RR_check 44 = .ok (.getfield 100, 3) := by decide +kernel
theorem d_RR_check_47 : decode b_RR_check 47 = .ok (.iload 5, 2) := by decide +kernel
theorem d_RR_check_49 : decode b_RR_check 49 = .ok (.ior, 1) := by decide +kernel
theorem d_RR_check_50 : decode b_RR_check 50 = .ok (.putfield 100, 3) := by decide +kernel
theorem d_RR_check_53 : decode b_RR_check 53 = .ok (.aload 4, 2) := by decide +kernel
theorem d_RR_check_55 : decode b_RR_check 55 = .ok (.getfield 100, 3) := by decide +kernel
theorem d_RR_check_58 : decode b_RR_check 58 = .ok (.invokestatic 103, 3) := by decide +kernel
theorem d_RR_check_61 : decode b_RR_check 61 = .ok (.ireturn, 1) := by decide +kernel
theorem d_RR_comes_0 : decode b_RR_comes 0 = .ok (.aload_n 0, 1) := by decide +kernel
theorem d_RR_comes_1 : decode b_RR_comes 1 = .ok (.iload_n 1, 1) := by decide +kernel
theorem d_RR_comes_2 : decode b_RR_comes 2 = .ok (.invokevirtual 43, 3) := by decide +kernel
theorem d_RR_comes_5 : decode b_RR_comes 5 = .ok (.astore 4, 2) := by decide +kernel
theorem d_RR_comes_7 : decode b_RR_comes 7 = .ok (.iload_n 2, 1) := by decide +kernel
theorem d_RR_comes_8 : decode b_RR_comes 8 = .ok (.iconst 0, 1) := by decide +kernel
theorem d_RR_comes_9 : decode b_RR_comes 9 = .ok (.bipush 7, 2) := by decide +kernel
theorem d_RR_comes_11 : decode b_RR_comes 11 = .ok (.invokestatic 25, 3) := by decide +kernel
theorem d_RR_comes_14 : decode b_RR_comes 14 = .ok (.aload 4, 2) := by decide +kernel
theorem d_RR_comes_16 : decode b_RR_comes 16 = .ok (.getfield 47, 3) := by decide +kernel
theorem d_RR_comes_19 : decode b_RR_comes 19 = .ok (.ifCond .eq 13, 3) := by decide +kernel
theorem d_RR_comes_22 : decode b_RR_comes 22 = .ok (.new 51, 3) := by decide +kernel
theorem d_RR_comes_25 : decode b_RR_comes 25 = .ok (.dup, 1) := by decide +kernel
theorem d_RR_comes_26 : decode b_RR_comes 26 = .ok (.ldc 53, 2) := by decide +kernel
theorem d_RR_comes_28 : decode b_RR_comes 28 = .ok (.invokespecial 55, 3) := by decide +kernel
theorem d_RR_comes_31 : decode b_RR_comes 31 = .ok (.athrow, 1) := by decide +kernel
theorem d_RR_comes_32 : decode b_RR_comes 32 = .ok (.aload_n 0, 1) := by decide +kernel
theorem d_RR_comes_33 : decode b_RR_comes 33 = .ok (.getfield 56, 3) := by decide +kernel
theorem d_RR_comes_36 : decode b_RR_comes 36 = .ok (.aload_n 0, 1) := by decide +kernel
theorem d_RR_comes_37 : decode b_RR_comes 37 = .ok (.getfield 17, 3) := by decide +kernel
theorem d_RR_comes_40 : decode b_RR_comes 40 = .ok (.arraylength, 1) := by decide +kernel
theorem d_RR_comes_41 : decode b_RR_comes 41 = .ok (.if_icmp .lt 13, 3) := by decide +kernel
theorem d_RR_comes_44 : decode b_RR_comes 44 = .ok (.new 33, 3) := by decide +kernel
theorem d_RR_comes_47 : decode b_RR_comes 47 = .ok (.dup, 1) := by decide +kernel
theorem d_RR_comes_48 : decode b_RR_comes 48 = .ok (.ldc 59, 2) := by decide +kernel
theorem d_RR_comes_50 : decode b_RR_comes 50 = .ok (.invokespecial 37, 3) := by decide +kernel
theorem d_RR_comes_53 : decode b_RR_comes 53 = .ok (.athrow, 1) := by decide +kernel
theorem d_RR_comes_54 : decode b_RR_comes 54 = .ok (.aload 4, 2) := by decide +kernel
theorem d_RR_comes_56 : decode b_RR_comes 56 = .ok (.iconst 1, 1) := by decide +kernel
theorem d_RR_comes_57 : decode b_RR_comes 57 = .ok (.putfield 47, 3) := by decide +kernel
theorem d_RR_comes_60 : decode b_RR_comes 60 = .ok (.aload_n 0, 1) := by decide +kernel
theorem d_RR_comes_61 : decode b_RR_comes 61 = .ok (.getfield 17, 3) := by decide +kernel
theorem d_RR_comes_64 : decode b_RR_comes 64 = .ok (.aload_n 0, 1) := by decide +kernel
theorem d_RR_comes_65 : decode b_RR_comes 65 = .ok (.getfield 56, 3) := by decide +kernel
theorem d_RR_comes_68 : decode b_RR_comes 68 = .ok (.new 15, 3) := by decide +kernel
theorem d_RR_comes_71 : decode b_RR_comes 71 = .ok (.dup, 1) := by decide +kernel
theorem d_RR_comes_72 : decode b_RR_comes 72 = .ok (.aload 4, 2) := by decide +kernel
theorem d_RR_comes_74 : decode b_RR_comes 74 = .ok (.iload_n 2, 1) := by decide +kernel
theorem d_RR_comes_75 : decode b_RR_comes 75 = .ok (.iload_n 3, 1) := by decide +kernel
theorem d_RR_comes_76 : decode b_RR_comes 76 = .ok (.ifCond .eq 7, 3) := by decide +kernel
theorem d_RR_comes_79 : decode b_RR_comes 79 = .ok (.iconst 0, 1) := by decide +kernel
theorem d_RR_comes_80 : decode b_RR_comes 80 = .ok (.goto 4, 3) := by decide +kernel
theorem d_RR_comes_83 : decode b_RR_comes 83 = .ok (.iconst 1, 1) := by decide +kernel
theorem d_RR_comes_84 : decode b_RR_comes 84 = .ok (.aload_n 0, 1) := by decide +kernel
theorem d_RR_comes_85 : decode b_RR_comes 85 = .ok (.getfield 21, 3) := by decide +kernel
theorem d_RR_comes_88 : decode b_RR_comes 88 = .ok (.invokespecial 61, 3) := by decide +kernel
theorem d_RR_comes_91 : decode b_RR_comes 91 = .ok (.aastore, 1) := by decide +kernel
theorem d_RR_comes_92 : decode b_RR_comes 92 = .ok (.aload_n 0, 1) := by decide +kernel
theorem d_RR_comes_93 : decode b_RR_comes 93 = .ok (.dup, 1) := by decide +kernel
theorem d_RR_comes_94 : decode b_RR_comes 94 = .ok (.getfield 56, 3) := by decide +kernel
theorem d_RR_comes_97 : decode b_RR_comes 97 = .ok (.iconst 1, 1) := by decide +kernel
theorem d_RR_comes_98 : decode b_RR_comes 98 = .ok (.iadd, 1) := by decide +kernel
theorem d_RR_comes_99 : decode b_RR_comes 99 = .ok (.putfield 56, 3) := by decide +kernel
theorem d_RR_comes_102 : decode b_RR_comes 102 = .ok (.aload_n 0, 1) := by decide +kernel
theorem d_RR_comes_103 : decode b_RR_comes 103 = .ok (.getfield 56, 3) := by decide +kernel
theorem d_RR_comes_106 : decode b_RR_comes 106 = .ok (.ireturn, 1) := by decide +kernel
theorem d_RR_count_0 : decode b_RR_count 0 = .ok (.iload_n 1, 1) := by decide +kernel
theorem d_RR_count_1 : decode b_RR_count 1 = .ok (.tableswitch 96 0 7 #[47, 52, 57, 62, 70, 76, 82, 88], 47) := by decide +kernel
theorem d_RR_count_48 : decode b_RR_count 48 = .ok (.aload_n 0, 1) := by decide +kernel
theorem d_RR_count_49 : decode b_RR_count 49 = .ok (.getfield 30, 3) := by decide +kernel
theorem d_RR_count_52 : decode b_RR_count 52 = .ok (.ireturn, 1) := by decide +kernel
theorem d_RR_count_53 : decode b_RR_count 53 = .ok (.aload_n 0, 1) := by decide +kernel
theorem d_RR_count_54 : decode b_RR_count 54 = .ok (.getfield 56, 3) := by decide +kernel
theorem d_RR_count_57 : decode b_RR_count 57 = .ok (.ireturn, 1) := by decide +kernel
theorem d_RR_count_58 : decode b_RR_count 58 = .ok (.aload_n 0, 1) := by decide +kernel
theorem d_RR_count_59 : decode b_RR_count 59 = .ok (.getfield 21, 3) := by decide +kernel
theorem d_RR_count_62 : decode b_RR_count 62 = .ok (.ireturn, 1) := by decide +kernel
theorem d_RR_count_63 : decode b_RR_count 63 = .ok (.aload_n 0, 1) := by decide +kernel
theorem d_RR_count_64 : decode b_RR_count 64 = .ok (.iconst 4, 1) := by decide +kernel
theorem d_RR_count_65 : decode b_RR_count 65 = .ok (.iconst (-1), 1) := by decide +kernel
theorem d_RR_count_66 : decode b_RR_count 66 = .ok (.iconst (-1), 1) := by decide +kernel
theorem d_RR_count_67 : decode b_RR_count 67 = .ok (.invokevirtual 167, 3) := by decide +kernel
theorem d_RR_count_70 : decode b_RR_count 70 = .ok (.ireturn, 1) := by decide +kernel
theorem d_RR_count_71 : decode b_RR_count 71 = .ok (.aload_n 0, 1) := by decide +kernel
theorem d_RR_count_72 : decode b_RR_count 72 = .ok (.iconst 0, 1) := by decide +kernel
theorem d_RR_count_73 : decode b_RR_count 73 = .ok (.invokevirtual 152, 3) := by decide +kernel
theorem d_RR_count_76 : decode b_RR_count 76 = .ok (.ireturn, 1) := by decide +kernel
theorem d_RR_count_77 : decode b_RR_count 77 = .ok (.aload_n 0, 1) := by decide +kernel
theorem d_RR_count_78 : decode b_RR_count 78 = .ok (.iconst 1, 1) := by decide +kernel
theorem d_RR_count_79 : decode b_RR_count 79 = .ok (.invokevirtual 152, 3) := by decide +kernel
theorem d_RR_count_82 : decode b_RR_count 82 = .ok (.ireturn, 1) := by decide +kernel
theorem d_RR_count_83 : decode b_RR_count 83 = .ok (.aload_n 0, 1) := by decide +kernel
theorem d_RR_count_84 : decode b_RR_count 84 = .ok (.iconst 2, 1) := by decide +kernel
theorem d_RR_count_85 : decode b_RR_count 85 = .ok (.invokevirtual 152, 3) := by decide +kernel
theorem d_RR_count_88 : decode b_RR_count 88 = .ok (.ireturn, 1) := by decide +kernel
theorem d_RR_count_89 : decode b_RR_count 89 = .ok (.aload_n 0, 1) := by decide +kernel
theorem d_RR_count_90 : decode b_RR_count 90 = .ok (.iconst 1, 1) := by decide +kernel
theorem d_RR_count_91 : decode b_RR_count 91 = .ok (.iconst (-1), 1) := by decide +kernel
theorem d_RR_count_92 : decode b_RR_count 92 = .ok (.iconst (-1), 1) := by decide +kernel
theorem d_RR_count_93 : decode b_RR_count 93 = .ok (.invokevirtual 167, 3) := by decide +kernel
theorem d_RR_count_96 : decode b_RR_count 96 = .ok (.ireturn, 1) := by decide +kernel
theorem d_RR_count_97 : decode b_RR_count 97 = .ok (.iconst (-1), 1) := by decide +kernel
theorem d_RR_count_98 : decode b_RR_count 98 = .ok (.ireturn, 1) := by decide +kernel
theorem d_RR_customer_0 : decode b_RR_customer 0 = .ok (.iload_n 1, 1) := by decide +kernel
theorem d_RR_customer_1 : decode b_RR_customer 1 = .ok (.iconst 0, 1) := by decide +kernel
theorem d_RR_customer_2 : decode b_RR_customer 2 = .ok (.iconst 5, 1) := by decide +kernel
theorem d_RR_customer_3 : decode b_RR_customer 3 = .ok (.invokestatic 25, 3) := by decide +kernel
theorem d_RR_customer_6 : decode b_RR_customer 6 = .ok (.iload_n 2, 1) := by decide +kernel
theorem d_RR_customer_7 : decode b_RR_customer 7 = .ok (.tableswitch 65 0 3 #[29, 35, 43, 51], 29) := by decide +kernel
theorem d_RR_customer_36 : decode b_RR_customer 36 = .ok (.aload_n 0, 1) := by decide +kernel
theorem d_RR_customer_37 : decode b_RR_customer 37 = .ok (.iload_n 1, 1) := by decide +kernel
theorem d_RR_customer_38 : decode b_RR_customer 38 = .ok (.invokevirtual 176, 3) := by decide +kernel
theorem d_RR_customer_41 : decode b_RR_customer 41 = .ok (.ireturn, 1) := by decide +kernel
theorem d_RR_customer_42 : decode b_RR_customer 42 = .ok (.aload_n 0, 1) := by decide +kernel
theorem d_RR_customer_43 : decode b_RR_customer 43 = .ok (.iconst 0, 1) := by decide +kernel
theorem d_RR_customer_44 : decode b_RR_customer 44 = .ok (.iconst (-1), 1) := by decide +kernel
theorem d_RR_customer_45 : decode b_RR_customer 45 = .ok (.iload_n 1, 1) := by decide +kernel
theorem d_RR_customer_46 : decode b_RR_customer 46 = .ok (.invokevirtual 167, 3) := by decide +kernel
theorem d_RR_customer_49 : decode b_RR_customer 49 = .ok (.ireturn, 1) := by decide +kernel
theorem d_RR_customer_50 : decode b_RR_customer 50 = .ok (.aload_n 0, 1) := by decide +kernel
theorem d_RR_customer_51 : decode b_RR_customer 51 = .ok (.iconst 3, 1) := by decide +kernel
theorem d_RR_customer_52 : decode b_RR_customer 52 = .ok (.iconst (-1), 1) := by decide +kernel
theorem d_RR_customer_53 : decode b_RR_customer 53 = .ok (.iload_n 1, 1) := by decide +kernel
theorem d_RR_customer_54 : decode b_RR_customer 54 = .ok (.invokevirtual 167, 3) := by decide +kernel
theorem d_RR_customer_57 : decode b_RR_customer 57 = .ok (.ireturn, 1) := by decide +kernel
theorem d_RR_customer_58 : decode b_RR_customer 58 = .ok (.aload_n 0, 1) := by decide +kernel
theorem d_RR_customer_59 : decode b_RR_customer 59 = .ok (.iload_n 1, 1) := by decide +kernel
theorem d_RR_customer_60 : decode b_RR_customer 60 = .ok (.invokevirtual 179, 3) := by decide +kernel
theorem d_RR_customer_63 : decode b_RR_customer 63 = .ok (.ifCond .eq 7, 3) := by decide +kernel
theorem d_RR_customer_66 : decode b_RR_customer 66 = .ok (.iconst 1, 1) := by decide +kernel
theorem d_RR_customer_67 : decode b_RR_customer 67 = .ok (.goto 4, 3) := by decide +kernel
theorem d_RR_customer_70 : decode b_RR_customer 70 = .ok (.iconst 0, 1) := by decide +kernel
theorem d_RR_customer_71 : decode b_RR_customer 71 = .ok (.ireturn, 1) := by decide +kernel
theorem d_RR_customer_72 : decode b_RR_customer 72 = .ok (.new 171, 3) := by decide +kernel
theorem d_RR_customer_75 : decode b_RR_customer 75 = .ok (.dup, 1) := by decide +kernel
theorem d_RR_customer_76 : decode b_RR_customer 76 = .ok (.ldc 182, 2) := by decide +kernel
theorem d_RR_customer_78 : decode b_RR_customer 78 = .ok (.invokespecial 175, 3) := by decide +kernel
theorem d_RR_customer_81 : decode b_RR_customer 81 = .ok (.athrow, 1) := by decide +kernel
theorem d_RR_day_0 : decode b_RR_day 0 = .ok (.iload_n 1, 1) := by decide +kernel
theorem d_RR_day_1 : decode b_RR_day 1 = .ok (.aload_n 0, 1) := by decide +kernel
theorem d_RR_day_2 : decode b_RR_day 2 = .ok (.getfield 21, 3) := by decide +kernel
theorem d_RR_day_5 : decode b_RR_day 5 = .ok (.sipush 1000, 3) := by decide +kernel
theorem d_RR_day_8 : decode b_RR_day 8 = .ok (.invokestatic 25, 3) := by decide +kernel
theorem d_RR_day_11 : decode b_RR_day 11 = .ok (.aload_n 0, 1) := by decide +kernel
theorem d_RR_day_12 : decode b_RR_day 12 = .ok (.iload_n 1, 1) := by decide +kernel
theorem d_RR_day_13 : decode b_RR_day 13 = .ok (.putfield 21, 3) := by decide +kernel
theorem d_RR_day_16 : decode b_RR_day 16 = .ok (.return_, 1) := by decide +kernel
theorem d_RR_due_0 : decode b_RR_due 0 = .ok (.aload_n 0, 1) := by decide +kernel
theorem d_RR_due_1 : decode b_RR_due 1 = .ok (.iload_n 1, 1) := by decide +kernel
theorem d_RR_due_2 : decode b_RR_due 2 = .ok (.invokevirtual 64, 3) := by decide +kernel
theorem d_RR_due_5 : decode b_RR_due 5 = .ok (.invokevirtual 158, 3) := by decide +kernel
theorem d_RR_due_8 : decode b_RR_due 8 = .ok (.ireturn, 1) := by decide +kernel
theorem d_RR_grade_0 : decode b_RR_grade 0 = .ok (.aload_n 0, 1) := by decide +kernel
theorem d_RR_grade_1 : decode b_RR_grade 1 = .ok (.iload_n 1, 1) := by decide +kernel
theorem d_RR_grade_2 : decode b_RR_grade 2 = .ok (.invokevirtual 64, 3) := by decide +kernel
theorem d_RR_grade_5 : decode b_RR_grade 5 = .ok (.astore_n 3, 1) := by decide +kernel
theorem d_RR_grade_6 : decode b_RR_grade 6 = .ok (.iload_n 2, 1) := by decide +kernel
theorem d_RR_grade_7 : decode b_RR_grade 7 = .ok (.iconst 0, 1) := by decide +kernel
theorem d_RR_grade_8 : decode b_RR_grade 8 = .ok (.iconst 4, 1) := by decide +kernel
theorem d_RR_grade_9 : decode b_RR_grade 9 = .ok (.invokestatic 25, 3) := by decide +kernel
theorem d_RR_grade_12 : decode b_RR_grade 12 = .ok (.aload_n 3, 1) := by decide +kernel
theorem d_RR_grade_13 : decode b_RR_grade 13 = .ok (.invokestatic 97, 3) := by decide +kernel
theorem d_RR_grade_16 : decode b_RR_grade 16 = .ok (.aload_n 3, 1) := by decide +kernel
theorem d_RR_grade_17 : decode b_RR_grade 17 = .ok (.invokestatic 109, 3) := by decide +kernel
theorem d_RR_grade_20 : decode b_RR_grade 20 = .ok (.aload_n 3, 1) := by decide +kernel
theorem d_RR_grade_21 : decode b_RR_grade 21 = .ok (.getfield 100, 3) := by decide +kernel
theorem d_RR_grade_24 : decode b_RR_grade 24 = .ok (.ifCond .eq 18, 3) := by decide +kernel
theorem d_RR_grade_27 : decode b_RR_grade 27 = .ok (.iload_n 2, 1) := by decide +kernel
theorem d_RR_grade_28 : decode b_RR_grade 28 = .ok (.iconst 3, 1) := by decide +kernel
theorem d_RR_grade_29 : decode b_RR_grade 29 = .ok (.if_icmp .ge 13, 3) := by decide +kernel
theorem d_RR_grade_32 : decode b_RR_grade 32 = .ok (.new 51, 3) := by decide +kernel
theorem d_RR_grade_35 : decode b_RR_grade 35 = .ok (.dup, 1) := by decide +kernel
theorem d_RR_grade_36 : decode b_RR_grade 36 = .ok (.ldc 112, 2) := by decide +kernel
theorem d_RR_grade_38 : decode b_RR_grade 38 = .ok (.invokespecial 55, 3) := by decide +kernel
theorem d_RR_grade_41 : decode b_RR_grade 41 = .ok (.athrow, 1) := by decide +kernel
theorem d_RR_grade_42 : decode b_RR_grade 42 = .ok (.aload_n 3, 1) := by decide +kernel
theorem d_RR_grade_43 : decode b_RR_grade 43 = .ok (.iload_n 2, 1) := by decide +kernel
theorem d_RR_grade_44 : decode b_RR_grade 44 = .ok (.invokevirtual 114, 3) := by decide +kernel
theorem d_RR_grade_47 : decode b_RR_grade 47 = .ok (.aload_n 3, 1) := by decide +kernel
theorem d_RR_grade_48 : decode b_RR_grade 48 = .ok (.iconst 3, 1) := by decide +kernel
theorem d_RR_grade_49 : decode b_RR_grade 49 = .ok (.putfield 68, 3) := by decide +kernel
theorem d_RR_grade_52 : decode b_RR_grade 52 = .ok (.aload_n 3, 1) := by decide +kernel
theorem d_RR_grade_53 : decode b_RR_grade 53 = .ok (.getfield 118, 3) := by decide +kernel
theorem d_RR_grade_56 : decode b_RR_grade 56 = .ok (.ireturn, 1) := by decide +kernel
theorem d_RR_init_0 : decode b_RR_init 0 = .ok (.aload_n 0, 1) := by decide +kernel
theorem d_RR_init_1 : decode b_RR_init 1 = .ok (.invokespecial 1, 3) := by decide +kernel
theorem d_RR_init_4 : decode b_RR_init 4 = .ok (.aload_n 0, 1) := by decide +kernel
theorem d_RR_init_5 : decode b_RR_init 5 = .ok (.bipush 20, 2) := by decide +kernel
theorem d_RR_init_7 : decode b_RR_init 7 = .ok (.anewarray 9, 3) := by decide +kernel
theorem d_RR_init_10 : decode b_RR_init 10 = .ok (.putfield 11, 3) := by decide +kernel
theorem d_RR_init_13 : decode b_RR_init 13 = .ok (.aload_n 0, 1) := by decide +kernel
theorem d_RR_init_14 : decode b_RR_init 14 = .ok (.bipush 20, 2) := by decide +kernel
theorem d_RR_init_16 : decode b_RR_init 16 = .ok (.anewarray 15, 3) := by decide +kernel
theorem d_RR_init_19 : decode b_RR_init 19 = .ok (.putfield 17, 3) := by decide +kernel
theorem d_RR_init_22 : decode b_RR_init 22 = .ok (.return_, 1) := by decide +kernel
theorem d_RR_isCertificateUsed_0 : decode b_RR_isCertificateUsed 0 = .ok (.aload_n 0, 1) := by decide +kernel
theorem d_RR_isCertificateUsed_1 : decode b_RR_isCertificateUsed 1 = .ok (.getfield 17, 3) := by decide +kernel
theorem d_RR_isCertificateUsed_4 : decode b_RR_isCertificateUsed 4 = .ok (.astore_n 2, 1) := by decide +kernel
theorem d_RR_isCertificateUsed_5 : decode b_RR_isCertificateUsed 5 = .ok (.aload_n 2, 1) := by decide +kernel
theorem d_RR_isCertificateUsed_6 : decode b_RR_isCertificateUsed 6 = .ok (.arraylength, 1) := by decide +kernel
theorem d_RR_isCertificateUsed_7 : decode b_RR_isCertificateUsed 7 = .ok (.istore_n 3, 1) := by decide +kernel
theorem d_RR_isCertificateUsed_8 : decode b_RR_isCertificateUsed 8 = .ok (.iconst 0, 1) := by decide +kernel
theorem d_RR_isCertificateUsed_9 : decode b_RR_isCertificateUsed 9 = .ok (.istore 4, 2) := by decide +kernel
theorem d_RR_isCertificateUsed_11 : decode b_RR_isCertificateUsed 11 = .ok (.iload 4, 2) := by decide +kernel
theorem d_RR_isCertificateUsed_13 : decode b_RR_isCertificateUsed 13 = .ok (.iload_n 3, 1) := by decide +kernel
theorem d_RR_isCertificateUsed_14 : decode b_RR_isCertificateUsed 14 = .ok (.if_icmp .ge 31, 3) := by decide +kernel
theorem d_RR_isCertificateUsed_17 : decode b_RR_isCertificateUsed 17 = .ok (.aload_n 2, 1) := by decide +kernel
theorem d_RR_isCertificateUsed_18 : decode b_RR_isCertificateUsed 18 = .ok (.iload 4, 2) := by decide +kernel
theorem d_RR_isCertificateUsed_20 : decode b_RR_isCertificateUsed 20 = .ok (.aaload, 1) := by decide +kernel
theorem d_RR_isCertificateUsed_21 : decode b_RR_isCertificateUsed 21 = .ok (.astore 5, 2) := by decide +kernel
theorem d_RR_isCertificateUsed_23 : decode b_RR_isCertificateUsed 23 = .ok (.aload 5, 2) := by decide +kernel
theorem d_RR_isCertificateUsed_25 : decode b_RR_isCertificateUsed 25 = .ok (.ifnull 14, 3) := by decide +kernel
theorem d_RR_isCertificateUsed_28 : decode b_RR_isCertificateUsed 28 = .ok (.aload 5, 2) := by decide +kernel
theorem d_RR_isCertificateUsed_30 : decode b_RR_isCertificateUsed 30 = .ok (.getfield 140, 3) := by decide +kernel
theorem d_RR_isCertificateUsed_33 : decode b_RR_isCertificateUsed 33 = .ok (.iload_n 1, 1) := by decide +kernel
theorem d_RR_isCertificateUsed_34 : decode b_RR_isCertificateUsed 34 = .ok (.if_icmp .ne 5, 3) := by decide +kernel
theorem d_RR_isCertificateUsed_37 : decode b_RR_isCertificateUsed 37 = .ok (.iconst 1, 1) := by decide +kernel
theorem d_RR_isCertificateUsed_38 : decode b_RR_isCertificateUsed 38 = .ok (.ireturn, 1) := by decide +kernel
theorem d_RR_isCertificateUsed_39 : decode b_RR_isCertificateUsed 39 = .ok (.iinc 4 1, 3) := by decide +kernel
theorem d_RR_isCertificateUsed_42 : decode b_RR_isCertificateUsed 42 = .ok (.goto (-31), 3) := by decide +kernel
theorem d_RR_isCertificateUsed_45 : decode b_RR_isCertificateUsed 45 = .ok (.iconst 0, 1) := by decide +kernel
theorem d_RR_isCertificateUsed_46 : decode b_RR_isCertificateUsed 46 = .ok (.ireturn, 1) := by decide +kernel
theorem d_RR_isMarked_0 : decode b_RR_isMarked 0 = .ok (.aload_n 0, 1) := by decide +kernel
theorem d_RR_isMarked_1 : decode b_RR_isMarked 1 = .ok (.iconst 3, 1) := by decide +kernel
theorem d_RR_isMarked_2 : decode b_RR_isMarked 2 = .ok (.iconst (-1), 1) := by decide +kernel
theorem d_RR_isMarked_3 : decode b_RR_isMarked 3 = .ok (.iload_n 1, 1) := by decide +kernel
theorem d_RR_isMarked_4 : decode b_RR_isMarked 4 = .ok (.invokevirtual 167, 3) := by decide +kernel
theorem d_RR_isMarked_7 : decode b_RR_isMarked 7 = .ok (.iconst 2, 1) := by decide +kernel
theorem d_RR_isMarked_8 : decode b_RR_isMarked 8 = .ok (.if_icmp .ge 12, 3) := by decide +kernel
theorem d_RR_isMarked_11 : decode b_RR_isMarked 11 = .ok (.aload_n 0, 1) := by decide +kernel
theorem d_RR_isMarked_12 : decode b_RR_isMarked 12 = .ok (.iload_n 1, 1) := by decide +kernel
theorem d_RR_isMarked_13 : decode b_RR_isMarked 13 = .ok (.invokevirtual 215, 3) := by decide +kernel
theorem d_RR_isMarked_16 : decode b_RR_isMarked 16 = .ok (.iconst 3, 1) := by decide +kernel
theorem d_RR_isMarked_17 : decode b_RR_isMarked 17 = .ok (.if_icmp .le 7, 3) := by decide +kernel
theorem d_RR_isMarked_20 : decode b_RR_isMarked 20 = .ok (.iconst 1, 1) := by decide +kernel
theorem d_RR_isMarked_21 : decode b_RR_isMarked 21 = .ok (.goto 4, 3) := by decide +kernel
theorem d_RR_isMarked_24 : decode b_RR_isMarked 24 = .ok (.iconst 0, 1) := by decide +kernel
theorem d_RR_isMarked_25 : decode b_RR_isMarked 25 = .ok (.ireturn, 1) := by decide +kernel
theorem d_RR_missing_0 : decode b_RR_missing 0 = .ok (.aload_n 0, 1) := by decide +kernel
theorem d_RR_missing_1 : decode b_RR_missing 1 = .ok (.iload_n 1, 1) := by decide +kernel
theorem d_RR_missing_2 : decode b_RR_missing 2 = .ok (.invokevirtual 64, 3) := by decide +kernel
theorem d_RR_missing_5 : decode b_RR_missing 5 = .ok (.astore_n 3, 1) := by decide +kernel
theorem d_RR_missing_6 : decode b_RR_missing 6 = .ok (.iload_n 2, 1) := by decide +kernel
theorem d_RR_missing_7 : decode b_RR_missing 7 = .ok (.iconst 0, 1) := by decide +kernel
theorem d_RR_missing_8 : decode b_RR_missing 8 = .ok (.bipush 10, 2) := by decide +kernel
theorem d_RR_missing_10 : decode b_RR_missing 10 = .ok (.invokestatic 25, 3) := by decide +kernel
theorem d_RR_missing_13 : decode b_RR_missing 13 = .ok (.aload_n 3, 1) := by decide +kernel
theorem d_RR_missing_14 : decode b_RR_missing 14 = .ok (.invokestatic 97, 3) := by decide +kernel
theorem d_RR_missing_17 : decode b_RR_missing 17 = .ok (.aload_n 3, 1) := by decide +kernel
theorem d_RR_missing_18 : decode b_RR_missing 18 = .ok (.iload_n 2, 1) := by decide +kernel
theorem d_RR_missing_19 : decode b_RR_missing 19 = .ok (.putfield 155, 3) := by decide +kernel
theorem d_RR_missing_22 : decode b_RR_missing 22 = .ok (.return_, 1) := by decide +kernel
theorem d_RR_quarantine_0 : decode b_RR_quarantine 0 = .ok (.aload_n 0, 1) := by decide +kernel
theorem d_RR_quarantine_1 : decode b_RR_quarantine 1 = .ok (.iload_n 1, 1) := by decide +kernel
theorem d_RR_quarantine_2 : decode b_RR_quarantine 2 = .ok (.invokevirtual 64, 3) := by decide +kernel
theorem d_RR_quarantine_5 : decode b_RR_quarantine 5 = .ok (.astore_n 3, 1) := by decide +kernel
theorem d_RR_quarantine_6 : decode b_RR_quarantine 6 = .ok (.aload_n 3, 1) := by decide +kernel
theorem d_RR_quarantine_7 : decode b_RR_quarantine 7 = .ok (.getfield 92, 3) := by decide +kernel
theorem d_RR_quarantine_10 : decode b_RR_quarantine 10 = .ok (.iload_n 2, 1) := by decide +kernel
theorem d_RR_quarantine_11 : decode b_RR_quarantine 11 = .ok (.if_icmp .ne 13, 3) := by decide +kernel
theorem d_RR_quarantine_14 : decode b_RR_quarantine 14 = .ok (.new 51, 3) := by decide +kernel
theorem d_RR_quarantine_17 : decode b_RR_quarantine 17 = .ok (.dup, 1) := by decide +kernel
theorem d_RR_quarantine_18 : decode b_RR_quarantine 18 = .ok (.ldc 95, 2) := by decide +kernel
theorem d_RR_quarantine_20 : decode b_RR_quarantine 20 = .ok (.invokespecial 55, 3) := by decide +kernel
theorem d_RR_quarantine_23 : decode b_RR_quarantine 23 = .ok (.athrow, 1) := by decide +kernel
theorem d_RR_quarantine_24 : decode b_RR_quarantine 24 = .ok (.iload_n 2, 1) := by decide +kernel
theorem d_RR_quarantine_25 : decode b_RR_quarantine 25 = .ok (.ifCond .eq 7, 3) := by decide +kernel
theorem d_RR_quarantine_28 : decode b_RR_quarantine 28 = .ok (.aload_n 3, 1) := by decide +kernel
theorem d_RR_quarantine_29 : decode b_RR_quarantine 29 = .ok (.invokestatic 97, 3) := by decide +kernel
theorem d_RR_quarantine_32 : decode b_RR_quarantine 32 = .ok (.aload_n 3, 1) := by decide +kernel
theorem d_RR_quarantine_33 : decode b_RR_quarantine 33 = .ok (.iload_n 2, 1) := by decide +kernel
theorem d_RR_quarantine_34 : decode b_RR_quarantine 34 = .ok (.putfield 92, 3) := by decide +kernel
theorem d_RR_quarantine_37 : decode b_RR_quarantine 37 = .ok (.return_, 1) := by decide +kernel
theorem d_RR_reason_0 : decode b_RR_reason 0 = .ok (.iload_n 1, 1) := by decide +kernel
theorem d_RR_reason_1 : decode b_RR_reason 1 = .ok (.iconst 0, 1) := by decide +kernel
theorem d_RR_reason_2 : decode b_RR_reason 2 = .ok (.bipush 7, 2) := by decide +kernel
theorem d_RR_reason_4 : decode b_RR_reason 4 = .ok (.invokestatic 25, 3) := by decide +kernel
theorem d_RR_reason_7 : decode b_RR_reason 7 = .ok (.iload_n 2, 1) := by decide +kernel
theorem d_RR_reason_8 : decode b_RR_reason 8 = .ok (.tableswitch 52 0 2 #[28, 36, 44], 28) := by decide +kernel
theorem d_RR_reason_36 : decode b_RR_reason 36 = .ok (.aload_n 0, 1) := by decide +kernel
theorem d_RR_reason_37 : decode b_RR_reason 37 = .ok (.iconst 0, 1) := by decide +kernel
theorem d_RR_reason_38 : decode b_RR_reason 38 = .ok (.iload_n 1, 1) := by decide +kernel
theorem d_RR_reason_39 : decode b_RR_reason 39 = .ok (.iconst (-1), 1) := by decide +kernel
theorem d_RR_reason_40 : decode b_RR_reason 40 = .ok (.invokevirtual 167, 3) := by decide +kernel
theorem d_RR_reason_43 : decode b_RR_reason 43 = .ok (.ireturn, 1) := by decide +kernel
theorem d_RR_reason_44 : decode b_RR_reason 44 = .ok (.aload_n 0, 1) := by decide +kernel
theorem d_RR_reason_45 : decode b_RR_reason 45 = .ok (.iconst 1, 1) := by decide +kernel
theorem d_RR_reason_46 : decode b_RR_reason 46 = .ok (.iload_n 1, 1) := by decide +kernel
theorem d_RR_reason_47 : decode b_RR_reason 47 = .ok (.iconst (-1), 1) := by decide +kernel
theorem d_RR_reason_48 : decode b_RR_reason 48 = .ok (.invokevirtual 167, 3) := by decide +kernel
theorem d_RR_reason_51 : decode b_RR_reason 51 = .ok (.ireturn, 1) := by decide +kernel
theorem d_RR_reason_52 : decode b_RR_reason 52 = .ok (.aload_n 0, 1) := by decide +kernel
theorem d_RR_reason_53 : decode b_RR_reason 53 = .ok (.iconst 2, 1) := by decide +kernel
theorem d_RR_reason_54 : decode b_RR_reason 54 = .ok (.iload_n 1, 1) := by decide +kernel
theorem d_RR_reason_55 : decode b_RR_reason 55 = .ok (.iconst (-1), 1) := by decide +kernel
theorem d_RR_reason_56 : decode b_RR_reason 56 = .ok (.invokevirtual 167, 3) := by decide +kernel
theorem d_RR_reason_59 : decode b_RR_reason 59 = .ok (.ireturn, 1) := by decide +kernel
theorem d_RR_reason_60 : decode b_RR_reason 60 = .ok (.new 171, 3) := by decide +kernel
theorem d_RR_reason_63 : decode b_RR_reason 63 = .ok (.dup, 1) := by decide +kernel
theorem d_RR_reason_64 : decode b_RR_reason 64 = .ok (.ldc 173, 2) := by decide +kernel
theorem d_RR_reason_66 : decode b_RR_reason 66 = .ok (.invokespecial 175, 3) := by decide +kernel
theorem d_RR_reason_69 : decode b_RR_reason 69 = .ok (.athrow, 1) := by decide +kernel
theorem d_RR_recentReturnsOf_0 : decode b_RR_recentReturnsOf 0 = .ok (.iconst 0, 1) := by decide +kernel
theorem d_RR_recentReturnsOf_1 : decode b_RR_recentReturnsOf 1 = .ok (.istore_n 2, 1) := by decide +kernel
theorem d_RR_recentReturnsOf_2 : decode b_RR_recentReturnsOf 2 = .ok (.aload_n 0, 1) := by decide +kernel
theorem d_RR_recentReturnsOf_3 : decode b_RR_recentReturnsOf 3 = .ok (.getfield 17, 3) := by decide +kernel
theorem d_RR_recentReturnsOf_6 : decode b_RR_recentReturnsOf 6 = .ok (.astore_n 3, 1) := by decide +kernel
theorem d_RR_recentReturnsOf_7 : decode b_RR_recentReturnsOf 7 = .ok (.aload_n 3, 1) := by decide +kernel
theorem d_RR_recentReturnsOf_8 : decode b_RR_recentReturnsOf 8 = .ok (.arraylength, 1) := by decide +kernel
theorem d_RR_recentReturnsOf_9 : decode b_RR_recentReturnsOf 9 = .ok (.istore 4, 2) := by decide +kernel
theorem d_RR_recentReturnsOf_11 : decode b_RR_recentReturnsOf 11 = .ok (.iconst 0, 1) := by decide +kernel
theorem d_RR_recentReturnsOf_12 : decode b_RR_recentReturnsOf 12 = .ok (.istore 5, 2) := by decide +kernel
theorem d_RR_recentReturnsOf_14 : decode b_RR_recentReturnsOf 14 = .ok (.iload 5, 2) := by decide +kernel
theorem d_RR_recentReturnsOf_16 : decode b_RR_recentReturnsOf 16 = .ok (.iload 4, 2) := by decide +kernel
theorem d_RR_recentReturnsOf_18 : decode b_RR_recentReturnsOf 18 = .ok (.if_icmp .ge 50, 3) := by decide +kernel
theorem d_RR_recentReturnsOf_21 : decode b_RR_recentReturnsOf 21 = .ok (.aload_n 3, 1) := by decide +kernel
theorem d_RR_recentReturnsOf_22 : decode b_RR_recentReturnsOf 22 = .ok (.iload 5, 2) := by decide +kernel
theorem d_RR_recentReturnsOf_24 : decode b_RR_recentReturnsOf 24 = .ok (.aaload, 1) := by decide +kernel
theorem d_RR_recentReturnsOf_25 : decode b_RR_recentReturnsOf 25 = .ok (.astore 6, 2) := by decide +kernel
theorem d_RR_recentReturnsOf_27 : decode b_RR_recentReturnsOf 27 = .ok (.aload 6, 2) := by decide +kernel
theorem d_RR_recentReturnsOf_29 : decode b_RR_recentReturnsOf 29 = .ok (.ifnull 33, 3) := by decide +kernel
theorem d_RR_recentReturnsOf_32 : decode b_RR_recentReturnsOf 32 = .ok (.aload 6, 2) := by decide +kernel
theorem d_RR_recentReturnsOf_34 : decode b_RR_recentReturnsOf 34 = .ok (.getfield 85, 3) := by decide +kernel
theorem d_RR_recentReturnsOf_37 : decode b_RR_recentReturnsOf 37 = .ok (.getfield 209, 3) := by decide +kernel
theorem d_RR_recentReturnsOf_40 : decode b_RR_recentReturnsOf 40 = .ok (.iload_n 1, 1) := by decide +kernel
theorem d_RR_recentReturnsOf_41 : decode b_RR_recentReturnsOf 41 = .ok (.if_icmp .ne 21, 3) := by decide +kernel
theorem d_RR_recentReturnsOf_44 : decode b_RR_recentReturnsOf 44 = .ok (.aload_n 0, 1) := by decide +kernel
theorem d_RR_recentReturnsOf_45 : decode b_RR_recentReturnsOf 45 = .ok (.getfield 21, 3) := by decide +kernel
theorem d_RR_recentReturnsOf_48 : decode b_RR_recentReturnsOf 48 = .ok (.aload 6, 2) := by decide +kernel
theorem d_RR_recentReturnsOf_50 : decode b_RR_recentReturnsOf 50 = .ok (.getfield 212, 3) := by decide +kernel
theorem d_RR_recentReturnsOf_53 : decode b_RR_recentReturnsOf 53 = .ok (.isub, 1) := by decide +kernel
theorem d_RR_recentReturnsOf_54 : decode b_RR_recentReturnsOf 54 = .ok (.bipush 30, 2) := by decide +kernel
theorem d_RR_recentReturnsOf_56 : decode b_RR_recentReturnsOf 56 = .ok (.if_icmp .gt 6, 3) := by decide +kernel
theorem d_RR_recentReturnsOf_59 : decode b_RR_recentReturnsOf 59 = .ok (.iinc 2 1, 3) := by decide +kernel
theorem d_RR_recentReturnsOf_62 : decode b_RR_recentReturnsOf 62 = .ok (.iinc 5 1, 3) := by decide +kernel
theorem d_RR_recentReturnsOf_65 : decode b_RR_recentReturnsOf 65 = .ok (.goto (-51), 3) := by decide +kernel
theorem d_RR_recentReturnsOf_68 : decode b_RR_recentReturnsOf 68 = .ok (.iload_n 2, 1) := by decide +kernel
theorem d_RR_recentReturnsOf_69 : decode b_RR_recentReturnsOf 69 = .ok (.ireturn, 1) := by decide +kernel
theorem d_RR_refund_0 : decode b_RR_refund 0 = .ok (.aload_n 0, 1) := by decide +kernel
theorem d_RR_refund_1 : decode b_RR_refund 1 = .ok (.iload_n 1, 1) := by decide +kernel
theorem d_RR_refund_2 : decode b_RR_refund 2 = .ok (.invokevirtual 64, 3) := by decide +kernel
theorem d_RR_refund_5 : decode b_RR_refund 5 = .ok (.astore_n 3, 1) := by decide +kernel
theorem d_RR_refund_6 : decode b_RR_refund 6 = .ok (.iload_n 2, 1) := by decide +kernel
theorem d_RR_refund_7 : decode b_RR_refund 7 = .ok (.iconst 1, 1) := by decide +kernel
theorem d_RR_refund_8 : decode b_RR_refund 8 = .ok (.ldc 29, 2) := by decide +kernel
theorem d_RR_refund_10 : decode b_RR_refund 10 = .ok (.invokestatic 25, 3) := by decide +kernel
theorem d_RR_refund_13 : decode b_RR_refund 13 = .ok (.aload_n 3, 1) := by decide +kernel
theorem d_RR_refund_14 : decode b_RR_refund 14 = .ok (.invokevirtual 158, 3) := by decide +kernel
theorem d_RR_refund_17 : decode b_RR_refund 17 = .ok (.aload_n 3, 1) := by decide +kernel
theorem d_RR_refund_18 : decode b_RR_refund 18 = .ok (.getfield 162, 3) := by decide +kernel
theorem d_RR_refund_21 : decode b_RR_refund 21 = .ok (.isub, 1) := by decide +kernel
theorem d_RR_refund_22 : decode b_RR_refund 22 = .ok (.istore 4, 2) := by decide +kernel
theorem d_RR_refund_24 : decode b_RR_refund 24 = .ok (.iload_n 2, 1) := by decide +kernel
theorem d_RR_refund_25 : decode b_RR_refund 25 = .ok (.iload 4, 2) := by decide +kernel
theorem d_RR_refund_27 : decode b_RR_refund 27 = .ok (.if_icmp .le 13, 3) := by decide +kernel
theorem d_RR_refund_30 : decode b_RR_refund 30 = .ok (.new 51, 3) := by decide +kernel
theorem d_RR_refund_33 : decode b_RR_refund 33 = .ok (.dup, 1) := by decide +kernel
theorem d_RR_refund_34 : decode b_RR_refund 34 = .ok (.ldc 165, 2) := by decide +kernel
theorem d_RR_refund_36 : decode b_RR_refund 36 = .ok (.invokespecial 55, 3) := by decide +kernel
theorem d_RR_refund_39 : decode b_RR_refund 39 = .ok (.athrow, 1) := by decide +kernel
theorem d_RR_refund_40 : decode b_RR_refund 40 = .ok (.aload_n 3, 1) := by decide +kernel
theorem d_RR_refund_41 : decode b_RR_refund 41 = .ok (.dup, 1) := by decide +kernel
theorem d_RR_refund_42 : decode b_RR_refund 42 = .ok (.getfield 162, 3) := by decide +kernel
theorem d_RR_refund_45 : decode b_RR_refund 45 = .ok (.iload_n 2, 1) := by decide +kernel
theorem d_RR_refund_46 : decode b_RR_refund 46 = .ok (.iadd, 1) := by decide +kernel
theorem d_RR_refund_47 : decode b_RR_refund 47 = .ok (.putfield 162, 3) := by decide +kernel
theorem d_RR_refund_50 : decode b_RR_refund 50 = .ok (.iload 4, 2) := by decide +kernel
theorem d_RR_refund_52 : decode b_RR_refund 52 = .ok (.iload_n 2, 1) := by decide +kernel
theorem d_RR_refund_53 : decode b_RR_refund 53 = .ok (.isub, 1) := by decide +kernel
theorem d_RR_refund_54 : decode b_RR_refund 54 = .ok (.ireturn, 1) := by decide +kernel
theorem d_RR_repair_0 : decode b_RR_repair 0 = .ok (.aload_n 0, 1) := by decide +kernel
theorem d_RR_repair_1 : decode b_RR_repair 1 = .ok (.iload_n 1, 1) := by decide +kernel
theorem d_RR_repair_2 : decode b_RR_repair 2 = .ok (.invokevirtual 64, 3) := by decide +kernel
theorem d_RR_repair_5 : decode b_RR_repair 5 = .ok (.astore_n 3, 1) := by decide +kernel
theorem d_RR_repair_6 : decode b_RR_repair 6 = .ok (.iload_n 2, 1) := by decide +kernel
theorem d_RR_repair_7 : decode b_RR_repair 7 = .ok (.iconst 1, 1) := by decide +kernel
theorem d_RR_repair_8 : decode b_RR_repair 8 = .ok (.iconst 5, 1) := by decide +kernel
theorem d_RR_repair_9 : decode b_RR_repair 9 = .ok (.invokestatic 25, 3) := by decide +kernel
theorem d_RR_repair_12 : decode b_RR_repair 12 = .ok (.aload_n 3, 1) := by decide +kernel
theorem d_RR_repair_13 : decode b_RR_repair 13 = .ok (.invokestatic 121, 3) := by decide +kernel
theorem d_RR_repair_16 : decode b_RR_repair 16 = .ok (.aload_n 3, 1) := by decide +kernel
theorem d_RR_repair_17 : decode b_RR_repair 17 = .ok (.invokestatic 109, 3) := by decide +kernel
theorem d_RR_repair_20 : decode b_RR_repair 20 = .ok (.aload_n 3, 1) := by decide +kernel
theorem d_RR_repair_21 : decode b_RR_repair 21 = .ok (.getfield 124, 3) := by decide +kernel
theorem d_RR_repair_24 : decode b_RR_repair 24 = .ok (.ifCond .ne 13, 3) := by decide +kernel
theorem d_RR_repair_27 : decode b_RR_repair 27 = .ok (.new 51, 3) := by decide +kernel
theorem d_RR_repair_30 : decode b_RR_repair 30 = .ok (.dup, 1) := by decide +kernel
theorem d_RR_repair_31 : decode b_RR_repair 31 = .ok (.ldc 127, 2) := by decide +kernel
theorem d_RR_repair_33 : decode b_RR_repair 33 = .ok (.invokespecial 55, 3) := by decide +kernel
theorem d_RR_repair_36 : decode b_RR_repair 36 = .ok (.athrow, 1) := by decide +kernel
theorem d_RR_repair_37 : decode b_RR_repair 37 = .ok (.aload_n 3, 1) := by decide +kernel
theorem d_RR_repair_38 : decode b_RR_repair 38 = .ok (.iload_n 2, 1) := by decide +kernel
theorem d_RR_repair_39 : decode b_RR_repair 39 = .ok (.putfield 129, 3) := by decide +kernel
theorem d_RR_repair_42 : decode b_RR_repair 42 = .ok (.aload_n 3, 1) := by decide +kernel
theorem d_RR_repair_43 : decode b_RR_repair 43 = .ok (.iconst 4, 1) := by decide +kernel
theorem d_RR_repair_44 : decode b_RR_repair 44 = .ok (.putfield 68, 3) := by decide +kernel
theorem d_RR_repair_47 : decode b_RR_repair 47 = .ok (.return_, 1) := by decide +kernel
theorem d_RR_requireGraded_0 : decode b_RR_requireGraded 0 = .ok (.aload_n 0, 1) := by decide +kernel
theorem d_RR_requireGraded_1 : decode b_RR_requireGraded 1 = .ok (.getfield 68, 3) := by decide +kernel
theorem d_RR_requireGraded_4 : decode b_RR_requireGraded 4 = .ok (.iconst 3, 1) := by decide +kernel
theorem d_RR_requireGraded_5 : decode b_RR_requireGraded 5 = .ok (.if_icmp .eq 13, 3) := by decide +kernel
theorem d_RR_requireGraded_8 : decode b_RR_requireGraded 8 = .ok (.new 51, 3) := by decide +kernel
theorem d_RR_requireGraded_11 : decode b_RR_requireGraded 11 = .ok (.dup, 1) := by decide +kernel
theorem d_RR_requireGraded_12 : decode b_RR_requireGraded 12 = .ok (.ldc 203, 2) := by decide +kernel
theorem d_RR_requireGraded_14 : decode b_RR_requireGraded 14 = .ok (.invokespecial 55, 3) := by decide +kernel
theorem d_RR_requireGraded_17 : decode b_RR_requireGraded 17 = .ok (.athrow, 1) := by decide +kernel
theorem d_RR_requireGraded_18 : decode b_RR_requireGraded 18 = .ok (.return_, 1) := by decide +kernel
theorem d_RR_requireHere_0 : decode b_RR_requireHere 0 = .ok (.aload_n 0, 1) := by decide +kernel
theorem d_RR_requireHere_1 : decode b_RR_requireHere 1 = .ok (.getfield 68, 3) := by decide +kernel
theorem d_RR_requireHere_4 : decode b_RR_requireHere 4 = .ok (.iconst 2, 1) := by decide +kernel
theorem d_RR_requireHere_5 : decode b_RR_requireHere 5 = .ok (.if_icmp .eq 13, 3) := by decide +kernel
theorem d_RR_requireHere_8 : decode b_RR_requireHere 8 = .ok (.new 51, 3) := by decide +kernel
theorem d_RR_requireHere_11 : decode b_RR_requireHere 11 = .ok (.dup, 1) := by decide +kernel
theorem d_RR_requireHere_12 : decode b_RR_requireHere 12 = .ok (.ldc 201, 2) := by decide +kernel
theorem d_RR_requireHere_14 : decode b_RR_requireHere 14 = .ok (.invokespecial 55, 3) := by decide +kernel
theorem d_RR_requireHere_17 : decode b_RR_requireHere 17 = .ok (.athrow, 1) := by decide +kernel
theorem d_RR_requireHere_18 : decode b_RR_requireHere 18 = .ok (.return_, 1) := by decide +kernel
theorem d_RR_requireHereOrGraded_0 : decode b_RR_requireHereOrGraded 0 = .ok (.aload_n 0, 1) := by decide +kernel
theorem d_RR_requireHereOrGraded_1 : decode b_RR_requireHereOrGraded 1 = .ok (.getfield 68, 3) := by decide +kernel
theorem d_RR_requireHereOrGraded_4 : decode b_RR_requireHereOrGraded 4 = .ok (.iconst 2, 1) := by decide +kernel
theorem d_RR_requireHereOrGraded_5 : decode b_RR_requireHereOrGraded 5 = .ok (.if_icmp .eq 21, 3) := by decide +kernel
theorem d_RR_requireHereOrGraded_8 : decode b_RR_requireHereOrGraded 8 = .ok (.aload_n 0, 1) := by decide +kernel
theorem d_RR_requireHereOrGraded_9 : decode b_RR_requireHereOrGraded 9 = .ok (.getfield 68, 3) := by decide +kernel
theorem d_RR_requireHereOrGraded_12 : decode b_RR_requireHereOrGraded 12 = .ok (.iconst 3, 1) := by decide +kernel
theorem d_RR_requireHereOrGraded_13 : decode b_RR_requireHereOrGraded 13 = .ok (.if_icmp .eq 13, 3) := by decide +kernel
theorem d_RR_requireHereOrGraded_16 : decode b_RR_requireHereOrGraded 16 = .ok (.new 51, 3) := by decide +kernel
theorem d_RR_requireHereOrGraded_19 : decode b_RR_requireHereOrGraded 19 = .ok (.dup, 1) := by decide +kernel
theorem d_RR_requireHereOrGraded_20 : decode b_RR_requireHereOrGraded 20 = .ok (.ldc 205, 2) := by decide +kernel
theorem d_RR_requireHereOrGraded_22 : decode b_RR_requireHereOrGraded 22 = .ok (.invokespecial 55, 3) := by decide +kernel
theorem d_RR_requireHereOrGraded_25 : decode b_RR_requireHereOrGraded 25 = .ok (.athrow, 1) := by decide +kernel
theorem d_RR_requireHereOrGraded_26 : decode b_RR_requireHereOrGraded 26 = .ok (.return_, 1) := by decide +kernel
theorem d_RR_requireNoQuarantine_0 : decode b_RR_requireNoQuarantine 0 = .ok (.aload_n 0, 1) := by decide +kernel
theorem d_RR_requireNoQuarantine_1 : decode b_RR_requireNoQuarantine 1 = .ok (.getfield 92, 3) := by decide +kernel
theorem d_RR_requireNoQuarantine_4 : decode b_RR_requireNoQuarantine 4 = .ok (.ifCond .eq 13, 3) := by decide +kernel
theorem d_RR_requireNoQuarantine_7 : decode b_RR_requireNoQuarantine 7 = .ok (.new 51, 3) := by decide +kernel
theorem d_RR_requireNoQuarantine_10 : decode b_RR_requireNoQuarantine 10 = .ok (.dup, 1) := by decide +kernel
theorem d_RR_requireNoQuarantine_11 : decode b_RR_requireNoQuarantine 11 = .ok (.ldc 207, 2) := by decide +kernel
theorem d_RR_requireNoQuarantine_13 : decode b_RR_requireNoQuarantine 13 = .ok (.invokespecial 55, 3) := by decide +kernel
theorem d_RR_requireNoQuarantine_16 : decode b_RR_requireNoQuarantine 16 = .ok (.athrow, 1) := by decide +kernel
theorem d_RR_requireNoQuarantine_17 : decode b_RR_requireNoQuarantine 17 = .ok (.return_, 1) := by decide +kernel
theorem d_RR_requireWithin_0 : decode b_RR_requireWithin 0 = .ok (.iload_n 0, 1) := by decide +kernel
theorem d_RR_requireWithin_1 : decode b_RR_requireWithin 1 = .ok (.iload_n 1, 1) := by decide +kernel
theorem d_RR_requireWithin_2 : decode b_RR_requireWithin 2 = .ok (.if_icmp .lt 8, 3) := by decide +kernel
theorem d_RR_requireWithin_5 : decode b_RR_requireWithin 5 = .ok (.iload_n 0, 1) := by decide +kernel
theorem d_RR_requireWithin_6 : decode b_RR_requireWithin 6 = .ok (.iload_n 2, 1) := by decide +kernel
theorem d_RR_requireWithin_7 : decode b_RR_requireWithin 7 = .ok (.if_icmp .le 13, 3) := by decide +kernel
theorem d_RR_requireWithin_10 : decode b_RR_requireWithin 10 = .ok (.new 171, 3) := by decide +kernel
theorem d_RR_requireWithin_13 : decode b_RR_requireWithin 13 = .ok (.dup, 1) := by decide +kernel
theorem d_RR_requireWithin_14 : decode b_RR_requireWithin 14 = .ok (.ldc 199, 2) := by decide +kernel
theorem d_RR_requireWithin_16 : decode b_RR_requireWithin 16 = .ok (.invokespecial 175, 3) := by decide +kernel
theorem d_RR_requireWithin_19 : decode b_RR_requireWithin 19 = .ok (.athrow, 1) := by decide +kernel
theorem d_RR_requireWithin_20 : decode b_RR_requireWithin 20 = .ok (.return_, 1) := by decide +kernel
theorem d_RR_returnAt_0 : decode b_RR_returnAt 0 = .ok (.iload_n 1, 1) := by decide +kernel
theorem d_RR_returnAt_1 : decode b_RR_returnAt 1 = .ok (.iconst 1, 1) := by decide +kernel
theorem d_RR_returnAt_2 : decode b_RR_returnAt 2 = .ok (.if_icmp .lt 12, 3) := by decide +kernel
theorem d_RR_returnAt_5 : decode b_RR_returnAt 5 = .ok (.iload_n 1, 1) := by decide +kernel
theorem d_RR_returnAt_6 : decode b_RR_returnAt 6 = .ok (.aload_n 0, 1) := by decide +kernel
theorem d_RR_returnAt_7 : decode b_RR_returnAt 7 = .ok (.getfield 17, 3) := by decide +kernel
theorem d_RR_returnAt_10 : decode b_RR_returnAt 10 = .ok (.arraylength, 1) := by decide +kernel
theorem d_RR_returnAt_11 : decode b_RR_returnAt 11 = .ok (.if_icmp .le 13, 3) := by decide +kernel
theorem d_RR_returnAt_14 : decode b_RR_returnAt 14 = .ok (.new 192, 3) := by decide +kernel
theorem d_RR_returnAt_17 : decode b_RR_returnAt 17 = .ok (.dup, 1) := by decide +kernel
theorem d_RR_returnAt_18 : decode b_RR_returnAt 18 = .ok (.ldc 197, 2) := by decide +kernel
theorem d_RR_returnAt_20 : decode b_RR_returnAt 20 = .ok (.invokespecial 196, 3) := by decide +kernel
theorem d_RR_returnAt_23 : decode b_RR_returnAt 23 = .ok (.athrow, 1) := by decide +kernel
theorem d_RR_returnAt_24 : decode b_RR_returnAt 24 = .ok (.aload_n 0, 1) := by decide +kernel
theorem d_RR_returnAt_25 : decode b_RR_returnAt 25 = .ok (.getfield 17, 3) := by decide +kernel
theorem d_RR_returnAt_28 : decode b_RR_returnAt 28 = .ok (.iload_n 1, 1) := by decide +kernel
theorem d_RR_returnAt_29 : decode b_RR_returnAt 29 = .ok (.iconst 1, 1) := by decide +kernel
theorem d_RR_returnAt_30 : decode b_RR_returnAt 30 = .ok (.isub, 1) := by decide +kernel
theorem d_RR_returnAt_31 : decode b_RR_returnAt 31 = .ok (.aaload, 1) := by decide +kernel
theorem d_RR_returnAt_32 : decode b_RR_returnAt 32 = .ok (.astore_n 2, 1) := by decide +kernel
theorem d_RR_returnAt_33 : decode b_RR_returnAt 33 = .ok (.aload_n 2, 1) := by decide +kernel
theorem d_RR_returnAt_34 : decode b_RR_returnAt 34 = .ok (.ifnonnull 13, 3) := by decide +kernel
theorem d_RR_returnAt_37 : decode b_RR_returnAt 37 = .ok (.new 192, 3) := by decide +kernel
theorem d_RR_returnAt_40 : decode b_RR_returnAt 40 = .ok (.dup, 1) := by decide +kernel
theorem d_RR_returnAt_41 : decode b_RR_returnAt 41 = .ok (.ldc 197, 2) := by decide +kernel
theorem d_RR_returnAt_43 : decode b_RR_returnAt 43 = .ok (.invokespecial 196, 3) := by decide +kernel
theorem d_RR_returnAt_46 : decode b_RR_returnAt 46 = .ok (.athrow, 1) := by decide +kernel
theorem d_RR_returnAt_47 : decode b_RR_returnAt 47 = .ok (.aload_n 2, 1) := by decide +kernel
theorem d_RR_returnAt_48 : decode b_RR_returnAt 48 = .ok (.areturn, 1) := by decide +kernel
theorem d_RR_sale_0 : decode b_RR_sale 0 = .ok (.iload_n 1, 1) := by decide +kernel
theorem d_RR_sale_1 : decode b_RR_sale 1 = .ok (.iconst 0, 1) := by decide +kernel
theorem d_RR_sale_2 : decode b_RR_sale 2 = .ok (.iconst 5, 1) := by decide +kernel
theorem d_RR_sale_3 : decode b_RR_sale 3 = .ok (.invokestatic 25, 3) := by decide +kernel
theorem d_RR_sale_6 : decode b_RR_sale 6 = .ok (.iload_n 2, 1) := by decide +kernel
theorem d_RR_sale_7 : decode b_RR_sale 7 = .ok (.iconst 1, 1) := by decide +kernel
theorem d_RR_sale_8 : decode b_RR_sale 8 = .ok (.ldc 29, 2) := by decide +kernel
theorem d_RR_sale_10 : decode b_RR_sale 10 = .ok (.invokestatic 25, 3) := by decide +kernel
theorem d_RR_sale_13 : decode b_RR_sale 13 = .ok (.iload_n 3, 1) := by decide +kernel
theorem d_RR_sale_14 : decode b_RR_sale 14 = .ok (.iconst 0, 1) := by decide +kernel
theorem d_RR_sale_15 : decode b_RR_sale 15 = .ok (.sipush 1000, 3) := by decide +kernel
theorem d_RR_sale_18 : decode b_RR_sale 18 = .ok (.invokestatic 25, 3) := by decide +kernel
theorem d_RR_sale_21 : decode b_RR_sale 21 = .ok (.aload_n 0, 1) := by decide +kernel
theorem d_RR_sale_22 : decode b_RR_sale 22 = .ok (.getfield 30, 3) := by decide +kernel
theorem d_RR_sale_25 : decode b_RR_sale 25 = .ok (.istore 4, 2) := by decide +kernel
theorem d_RR_sale_27 : decode b_RR_sale 27 = .ok (.iload 4, 2) := by decide +kernel
theorem d_RR_sale_29 : decode b_RR_sale 29 = .ok (.aload_n 0, 1) := by decide +kernel
theorem d_RR_sale_30 : decode b_RR_sale 30 = .ok (.getfield 11, 3) := by decide +kernel
theorem d_RR_sale_33 : decode b_RR_sale 33 = .ok (.arraylength, 1) := by decide +kernel
theorem d_RR_sale_34 : decode b_RR_sale 34 = .ok (.if_icmp .lt 13, 3) := by decide +kernel
theorem d_RR_sale_37 : decode b_RR_sale 37 = .ok (.new 33, 3) := by decide +kernel
theorem d_RR_sale_40 : decode b_RR_sale 40 = .ok (.dup, 1) := by decide +kernel
theorem d_RR_sale_41 : decode b_RR_sale 41 = .ok (.ldc 35, 2) := by decide +kernel
theorem d_RR_sale_43 : decode b_RR_sale 43 = .ok (.invokespecial 37, 3) := by decide +kernel
theorem d_RR_sale_46 : decode b_RR_sale 46 = .ok (.athrow, 1) := by decide +kernel
theorem d_RR_sale_47 : decode b_RR_sale 47 = .ok (.aload_n 0, 1) := by decide +kernel
theorem d_RR_sale_48 : decode b_RR_sale 48 = .ok (.getfield 11, 3) := by decide +kernel
theorem d_RR_sale_51 : decode b_RR_sale 51 = .ok (.iload 4, 2) := by decide +kernel
theorem d_RR_sale_53 : decode b_RR_sale 53 = .ok (.new 9, 3) := by decide +kernel
theorem d_RR_sale_56 : decode b_RR_sale 56 = .ok (.dup, 1) := by decide +kernel
theorem d_RR_sale_57 : decode b_RR_sale 57 = .ok (.iload 4, 2) := by decide +kernel
theorem d_RR_sale_59 : decode b_RR_sale 59 = .ok (.iload_n 1, 1) := by decide +kernel
theorem d_RR_sale_60 : decode b_RR_sale 60 = .ok (.iload_n 2, 1) := by decide +kernel
theorem d_RR_sale_61 : decode b_RR_sale 61 = .ok (.iload_n 3, 1) := by decide +kernel
theorem d_RR_sale_62 : decode b_RR_sale 62 = .ok (.aload_n 0, 1) := by decide +kernel
theorem d_RR_sale_63 : decode b_RR_sale 63 = .ok (.getfield 21, 3) := by decide +kernel
theorem d_RR_sale_66 : decode b_RR_sale 66 = .ok (.invokespecial 40, 3) := by decide +kernel
theorem d_RR_sale_69 : decode b_RR_sale 69 = .ok (.aastore, 1) := by decide +kernel
theorem d_RR_sale_70 : decode b_RR_sale 70 = .ok (.aload_n 0, 1) := by decide +kernel
theorem d_RR_sale_71 : decode b_RR_sale 71 = .ok (.dup, 1) := by decide +kernel
theorem d_RR_sale_72 : decode b_RR_sale 72 = .ok (.getfield 30, 3) := by decide +kernel
theorem d_RR_sale_75 : decode b_RR_sale 75 = .ok (.iconst 1, 1) := by decide +kernel
theorem d_RR_sale_76 : decode b_RR_sale 76 = .ok (.iadd, 1) := by decide +kernel
theorem d_RR_sale_77 : decode b_RR_sale 77 = .ok (.putfield 30, 3) := by decide +kernel
theorem d_RR_sale_80 : decode b_RR_sale 80 = .ok (.iload 4, 2) := by decide +kernel
theorem d_RR_sale_82 : decode b_RR_sale 82 = .ok (.ireturn, 1) := by decide +kernel
theorem d_RR_saleAt_0 : decode b_RR_saleAt 0 = .ok (.iload_n 1, 1) := by decide +kernel
theorem d_RR_saleAt_1 : decode b_RR_saleAt 1 = .ok (.ifCond .lt 12, 3) := by decide +kernel
theorem d_RR_saleAt_4 : decode b_RR_saleAt 4 = .ok (.iload_n 1, 1) := by decide +kernel
theorem d_RR_saleAt_5 : decode b_RR_saleAt 5 = .ok (.aload_n 0, 1) := by decide +kernel
theorem d_RR_saleAt_6 : decode b_RR_saleAt 6 = .ok (.getfield 11, 3) := by decide +kernel
theorem d_RR_saleAt_9 : decode b_RR_saleAt 9 = .ok (.arraylength, 1) := by decide +kernel
theorem d_RR_saleAt_10 : decode b_RR_saleAt 10 = .ok (.if_icmp .lt 13, 3) := by decide +kernel
theorem d_RR_saleAt_13 : decode b_RR_saleAt 13 = .ok (.new 192, 3) := by decide +kernel
theorem d_RR_saleAt_16 : decode b_RR_saleAt 16 = .ok (.dup, 1) := by decide +kernel
theorem d_RR_saleAt_17 : decode b_RR_saleAt 17 = .ok (.ldc 194, 2) := by decide +kernel
theorem d_RR_saleAt_19 : decode b_RR_saleAt 19 = .ok (.invokespecial 196, 3) := by decide +kernel
theorem d_RR_saleAt_22 : decode b_RR_saleAt 22 = .ok (.athrow, 1) := by decide +kernel
theorem d_RR_saleAt_23 : decode b_RR_saleAt 23 = .ok (.aload_n 0, 1) := by decide +kernel
theorem d_RR_saleAt_24 : decode b_RR_saleAt 24 = .ok (.getfield 11, 3) := by decide +kernel
theorem d_RR_saleAt_27 : decode b_RR_saleAt 27 = .ok (.iload_n 1, 1) := by decide +kernel
theorem d_RR_saleAt_28 : decode b_RR_saleAt 28 = .ok (.aaload, 1) := by decide +kernel
theorem d_RR_saleAt_29 : decode b_RR_saleAt 29 = .ok (.astore_n 2, 1) := by decide +kernel
theorem d_RR_saleAt_30 : decode b_RR_saleAt 30 = .ok (.aload_n 2, 1) := by decide +kernel
theorem d_RR_saleAt_31 : decode b_RR_saleAt 31 = .ok (.ifnonnull 13, 3) := by decide +kernel
theorem d_RR_saleAt_34 : decode b_RR_saleAt 34 = .ok (.new 192, 3) := by decide +kernel
theorem d_RR_saleAt_37 : decode b_RR_saleAt 37 = .ok (.dup, 1) := by decide +kernel
theorem d_RR_saleAt_38 : decode b_RR_saleAt 38 = .ok (.ldc 194, 2) := by decide +kernel
theorem d_RR_saleAt_40 : decode b_RR_saleAt 40 = .ok (.invokespecial 196, 3) := by decide +kernel
theorem d_RR_saleAt_43 : decode b_RR_saleAt 43 = .ok (.athrow, 1) := by decide +kernel
theorem d_RR_saleAt_44 : decode b_RR_saleAt 44 = .ok (.aload_n 2, 1) := by decide +kernel
theorem d_RR_saleAt_45 : decode b_RR_saleAt 45 = .ok (.areturn, 1) := by decide +kernel
theorem d_RR_salesTo_0 : decode b_RR_salesTo 0 = .ok (.iconst 0, 1) := by decide +kernel
theorem d_RR_salesTo_1 : decode b_RR_salesTo 1 = .ok (.istore_n 2, 1) := by decide +kernel
theorem d_RR_salesTo_2 : decode b_RR_salesTo 2 = .ok (.aload_n 0, 1) := by decide +kernel
theorem d_RR_salesTo_3 : decode b_RR_salesTo 3 = .ok (.getfield 11, 3) := by decide +kernel
theorem d_RR_salesTo_6 : decode b_RR_salesTo 6 = .ok (.astore_n 3, 1) := by decide +kernel
theorem d_RR_salesTo_7 : decode b_RR_salesTo 7 = .ok (.aload_n 3, 1) := by decide +kernel
theorem d_RR_salesTo_8 : decode b_RR_salesTo 8 = .ok (.arraylength, 1) := by decide +kernel
theorem d_RR_salesTo_9 : decode b_RR_salesTo 9 = .ok (.istore 4, 2) := by decide +kernel
theorem d_RR_salesTo_11 : decode b_RR_salesTo 11 = .ok (.iconst 0, 1) := by decide +kernel
theorem d_RR_salesTo_12 : decode b_RR_salesTo 12 = .ok (.istore 5, 2) := by decide +kernel
theorem d_RR_salesTo_14 : decode b_RR_salesTo 14 = .ok (.iload 5, 2) := by decide +kernel
theorem d_RR_salesTo_16 : decode b_RR_salesTo 16 = .ok (.iload 4, 2) := by decide +kernel
theorem d_RR_salesTo_18 : decode b_RR_salesTo 18 = .ok (.if_icmp .ge 32, 3) := by decide +kernel
theorem d_RR_salesTo_21 : decode b_RR_salesTo 21 = .ok (.aload_n 3, 1) := by decide +kernel
theorem d_RR_salesTo_22 : decode b_RR_salesTo 22 = .ok (.iload 5, 2) := by decide +kernel
theorem d_RR_salesTo_24 : decode b_RR_salesTo 24 = .ok (.aaload, 1) := by decide +kernel
theorem d_RR_salesTo_25 : decode b_RR_salesTo 25 = .ok (.astore 6, 2) := by decide +kernel
theorem d_RR_salesTo_27 : decode b_RR_salesTo 27 = .ok (.aload 6, 2) := by decide +kernel
theorem d_RR_salesTo_29 : decode b_RR_salesTo 29 = .ok (.ifnull 15, 3) := by decide +kernel
theorem d_RR_salesTo_32 : decode b_RR_salesTo 32 = .ok (.aload 6, 2) := by decide +kernel
theorem d_RR_salesTo_34 : decode b_RR_salesTo 34 = .ok (.getfield 209, 3) := by decide +kernel
theorem d_RR_salesTo_37 : decode b_RR_salesTo 37 = .ok (.iload_n 1, 1) := by decide +kernel
theorem d_RR_salesTo_38 : decode b_RR_salesTo 38 = .ok (.if_icmp .ne 6, 3) := by decide +kernel
theorem d_RR_salesTo_41 : decode b_RR_salesTo 41 = .ok (.iinc 2 1, 3) := by decide +kernel
theorem d_RR_salesTo_44 : decode b_RR_salesTo 44 = .ok (.iinc 5 1, 3) := by decide +kernel
theorem d_RR_salesTo_47 : decode b_RR_salesTo 47 = .ok (.goto (-33), 3) := by decide +kernel
theorem d_RR_salesTo_50 : decode b_RR_salesTo 50 = .ok (.iload_n 2, 1) := by decide +kernel
theorem d_RR_salesTo_51 : decode b_RR_salesTo 51 = .ok (.ireturn, 1) := by decide +kernel
theorem d_RR_scrap_0 : decode b_RR_scrap 0 = .ok (.aload_n 0, 1) := by decide +kernel
theorem d_RR_scrap_1 : decode b_RR_scrap 1 = .ok (.iload_n 1, 1) := by decide +kernel
theorem d_RR_scrap_2 : decode b_RR_scrap 2 = .ok (.invokevirtual 64, 3) := by decide +kernel
theorem d_RR_scrap_5 : decode b_RR_scrap 5 = .ok (.astore_n 3, 1) := by decide +kernel
theorem d_RR_scrap_6 : decode b_RR_scrap 6 = .ok (.iload_n 2, 1) := by decide +kernel
theorem d_RR_scrap_7 : decode b_RR_scrap 7 = .ok (.iconst 1, 1) := by decide +kernel
theorem d_RR_scrap_8 : decode b_RR_scrap 8 = .ok (.sipush 1000, 3) := by decide +kernel
theorem d_RR_scrap_11 : decode b_RR_scrap 11 = .ok (.invokestatic 25, 3) := by decide +kernel
theorem d_RR_scrap_14 : decode b_RR_scrap 14 = .ok (.aload_n 3, 1) := by decide +kernel
theorem d_RR_scrap_15 : decode b_RR_scrap 15 = .ok (.invokestatic 121, 3) := by decide +kernel
theorem d_RR_scrap_18 : decode b_RR_scrap 18 = .ok (.aload_n 3, 1) := by decide +kernel
theorem d_RR_scrap_19 : decode b_RR_scrap 19 = .ok (.getfield 124, 3) := by decide +kernel
theorem d_RR_scrap_22 : decode b_RR_scrap 22 = .ok (.iconst 3, 1) := by decide +kernel
theorem d_RR_scrap_23 : decode b_RR_scrap 23 = .ok (.if_icmp .ge 13, 3) := by decide +kernel
theorem d_RR_scrap_26 : decode b_RR_scrap 26 = .ok (.new 51, 3) := by decide +kernel
theorem d_RR_scrap_29 : decode b_RR_scrap 29 = .ok (.dup, 1) := by decide +kernel
theorem d_RR_scrap_30 : decode b_RR_scrap 30 = .ok (.ldc 134, 2) := by decide +kernel
theorem d_RR_scrap_32 : decode b_RR_scrap 32 = .ok (.invokespecial 55, 3) := by decide +kernel
theorem d_RR_scrap_35 : decode b_RR_scrap 35 = .ok (.athrow, 1) := by decide +kernel
theorem d_RR_scrap_36 : decode b_RR_scrap 36 = .ok (.aload_n 0, 1) := by decide +kernel
theorem d_RR_scrap_37 : decode b_RR_scrap 37 = .ok (.iload_n 2, 1) := by decide +kernel
theorem d_RR_scrap_38 : decode b_RR_scrap 38 = .ok (.invokevirtual 136, 3) := by decide +kernel
theorem d_RR_scrap_41 : decode b_RR_scrap 41 = .ok (.ifCond .eq 5, 3) := by decide +kernel
theorem d_RR_scrap_44 : decode b_RR_scrap 44 = .ok (.iconst 0, 1) := by decide +kernel
theorem d_RR_scrap_45 : decode b_RR_scrap 45 = .ok (.ireturn, 1) := by decide +kernel
theorem d_RR_scrap_46 : decode b_RR_scrap 46 = .ok (.aload_n 3, 1) := by decide +kernel
theorem d_RR_scrap_47 : decode b_RR_scrap 47 = .ok (.iload_n 2, 1) := by decide +kernel
theorem d_RR_scrap_48 : decode b_RR_scrap 48 = .ok (.putfield 140, 3) := by decide +kernel
theorem d_RR_scrap_51 : decode b_RR_scrap 51 = .ok (.aload_n 3, 1) := by decide +kernel
theorem d_RR_scrap_52 : decode b_RR_scrap 52 = .ok (.iconst 5, 1) := by decide +kernel
theorem d_RR_scrap_53 : decode b_RR_scrap 53 = .ok (.putfield 68, 3) := by decide +kernel
theorem d_RR_scrap_56 : decode b_RR_scrap 56 = .ok (.iconst 1, 1) := by decide +kernel
theorem d_RR_scrap_57 : decode b_RR_scrap 57 = .ok (.ireturn, 1) := by decide +kernel
theorem d_RR_serial_0 : decode b_RR_serial 0 = .ok (.aload_n 0, 1) := by decide +kernel
theorem d_RR_serial_1 : decode b_RR_serial 1 = .ok (.iload_n 1, 1) := by decide +kernel
theorem d_RR_serial_2 : decode b_RR_serial 2 = .ok (.invokevirtual 64, 3) := by decide +kernel
theorem d_RR_serial_5 : decode b_RR_serial 5 = .ok (.astore_n 3, 1) := by decide +kernel
theorem d_RR_serial_6 : decode b_RR_serial 6 = .ok (.aload_n 0, 1) := by decide +kernel
theorem d_RR_serial_7 : decode b_RR_serial 7 = .ok (.iload_n 2, 1) := by decide +kernel
theorem d_RR_serial_8 : decode b_RR_serial 8 = .ok (.invokevirtual 43, 3) := by decide +kernel
theorem d_RR_serial_11 : decode b_RR_serial 11 = .ok (.astore 4, 2) := by decide +kernel
theorem d_RR_serial_13 : decode b_RR_serial 13 = .ok (.aload_n 3, 1) := by decide +kernel
theorem d_RR_serial_14 : decode b_RR_serial 14 = .ok (.invokestatic 78, 3) := by decide +kernel
theorem d_RR_serial_17 : decode b_RR_serial 17 = .ok (.aload_n 3, 1) := by decide +kernel
theorem d_RR_serial_18 : decode b_RR_serial 18 = .ok (.aload 4, 2) := by decide +kernel
theorem d_RR_serial_20 : decode b_RR_serial 20 = .ok (.getfield 82, 3) := by decide +kernel
theorem d_RR_serial_23 : decode b_RR_serial 23 = .ok (.aload_n 3, 1) := by decide +kernel
theorem d_RR_serial_24 : decode b_RR_serial 24 = .ok (.getfield 85, 3) := by decide +kernel
theorem d_RR_serial_27 : decode b_RR_serial 27 = .ok (.getfield 82, 3) := by decide +kernel
theorem d_RR_serial_30 : decode b_RR_serial 30 = .ok (.if_icmp .eq 7, 3) := by decide +kernel
theorem d_RR_serial_33 : decode b_RR_serial 33 = .ok (.iconst 1, 1) := by decide +kernel
theorem d_RR_serial_34 : decode b_RR_serial 34 = .ok (.goto 4, 3) := by decide +kernel
theorem d_RR_serial_37 : decode b_RR_serial 37 = .ok (.iconst 0, 1) := by decide +kernel
theorem d_RR_serial_38 : decode b_RR_serial 38 = .ok (.putfield 89, 3) := by decide +kernel
theorem d_RR_serial_41 : decode b_RR_serial 41 = .ok (.aload_n 3, 1) := by decide +kernel
theorem d_RR_serial_42 : decode b_RR_serial 42 = .ok (.getfield 89, 3) := by decide +kernel
theorem d_RR_serial_45 : decode b_RR_serial 45 = .ok (.ifCond .eq 13, 3) := by decide +kernel
theorem d_RR_serial_48 : decode b_RR_serial 48 = .ok (.iconst (-1), 1) := by decide +kernel
theorem d_RR_serial_49 : decode b_RR_serial 49 = .ok (.aload 4, 2) := by decide +kernel
theorem d_RR_serial_51 : decode b_RR_serial 51 = .ok (.getfield 82, 3) := by decide +kernel
theorem d_RR_serial_54 : decode b_RR_serial 54 = .ok (.isub, 1) := by decide +kernel
theorem d_RR_serial_55 : decode b_RR_serial 55 = .ok (.goto 4, 3) := by decide +kernel
theorem d_RR_serial_58 : decode b_RR_serial 58 = .ok (.iconst 1, 1) := by decide +kernel
theorem d_RR_serial_59 : decode b_RR_serial 59 = .ok (.ireturn, 1) := by decide +kernel
theorem d_RR_step_0 : decode b_RR_step 0 = .ok (.aload_n 0, 1) := by decide +kernel
theorem d_RR_step_1 : decode b_RR_step 1 = .ok (.iload_n 1, 1) := by decide +kernel
theorem d_RR_step_2 : decode b_RR_step 2 = .ok (.invokevirtual 64, 3) := by decide +kernel
theorem d_RR_step_5 : decode b_RR_step 5 = .ok (.astore_n 3, 1) := by decide +kernel
theorem d_RR_step_6 : decode b_RR_step 6 = .ok (.aload_n 3, 1) := by decide +kernel
theorem d_RR_step_7 : decode b_RR_step 7 = .ok (.getfield 68, 3) := by decide +kernel
theorem d_RR_step_10 : decode b_RR_step 10 = .ok (.iconst 4, 1) := by decide +kernel
theorem d_RR_step_11 : decode b_RR_step 11 = .ok (.if_icmp .eq 13, 3) := by decide +kernel
theorem d_RR_step_14 : decode b_RR_step 14 = .ok (.new 51, 3) := by decide +kernel
theorem d_RR_step_17 : decode b_RR_step 17 = .ok (.dup, 1) := by decide +kernel
theorem d_RR_step_18 : decode b_RR_step 18 = .ok (.ldc 132, 2) := by decide +kernel
theorem d_RR_step_20 : decode b_RR_step 20 = .ok (.invokespecial 55, 3) := by decide +kernel
theorem d_RR_step_23 : decode b_RR_step 23 = .ok (.athrow, 1) := by decide +kernel
theorem d_RR_step_24 : decode b_RR_step 24 = .ok (.aload_n 3, 1) := by decide +kernel
theorem d_RR_step_25 : decode b_RR_step 25 = .ok (.iload_n 2, 1) := by decide +kernel
theorem d_RR_step_26 : decode b_RR_step 26 = .ok (.ifCond .eq 12, 3) := by decide +kernel
theorem d_RR_step_29 : decode b_RR_step 29 = .ok (.aload_n 3, 1) := by decide +kernel
theorem d_RR_step_30 : decode b_RR_step 30 = .ok (.getfield 129, 3) := by decide +kernel
theorem d_RR_step_33 : decode b_RR_step 33 = .ok (.iconst 1, 1) := by decide +kernel
theorem d_RR_step_34 : decode b_RR_step 34 = .ok (.isub, 1) := by decide +kernel
theorem d_RR_step_35 : decode b_RR_step 35 = .ok (.goto 4, 3) := by decide +kernel
theorem d_RR_step_38 : decode b_RR_step 38 = .ok (.iconst 0, 1) := by decide +kernel
theorem d_RR_step_39 : decode b_RR_step 39 = .ok (.putfield 129, 3) := by decide +kernel
theorem d_RR_step_42 : decode b_RR_step 42 = .ok (.aload_n 3, 1) := by decide +kernel
theorem d_RR_step_43 : decode b_RR_step 43 = .ok (.getfield 129, 3) := by decide +kernel
theorem d_RR_step_46 : decode b_RR_step 46 = .ok (.ifCond .ne 22, 3) := by decide +kernel
theorem d_RR_step_49 : decode b_RR_step 49 = .ok (.aload_n 3, 1) := by decide +kernel
theorem d_RR_step_50 : decode b_RR_step 50 = .ok (.iconst 3, 1) := by decide +kernel
theorem d_RR_step_51 : decode b_RR_step 51 = .ok (.putfield 68, 3) := by decide +kernel
theorem d_RR_step_54 : decode b_RR_step 54 = .ok (.iload_n 2, 1) := by decide +kernel
theorem d_RR_step_55 : decode b_RR_step 55 = .ok (.ifCond .eq 13, 3) := by decide +kernel
theorem d_RR_step_58 : decode b_RR_step 58 = .ok (.aload_n 3, 1) := by decide +kernel
theorem d_RR_step_59 : decode b_RR_step 59 = .ok (.aload_n 3, 1) := by decide +kernel
theorem d_RR_step_60 : decode b_RR_step 60 = .ok (.getfield 124, 3) := by decide +kernel
theorem d_RR_step_63 : decode b_RR_step 63 = .ok (.iconst 1, 1) := by decide +kernel
theorem d_RR_step_64 : decode b_RR_step 64 = .ok (.isub, 1) := by decide +kernel
theorem d_RR_step_65 : decode b_RR_step 65 = .ok (.invokevirtual 114, 3) := by decide +kernel
theorem d_RR_step_68 : decode b_RR_step 68 = .ok (.aload_n 3, 1) := by decide +kernel
theorem d_RR_step_69 : decode b_RR_step 69 = .ok (.getfield 129, 3) := by decide +kernel
theorem d_RR_step_72 : decode b_RR_step 72 = .ok (.ireturn, 1) := by decide +kernel
theorem d_RR_sum_0 : decode b_RR_sum 0 = .ok (.iconst 0, 1) := by decide +kernel
theorem d_RR_sum_1 : decode b_RR_sum 1 = .ok (.istore 4, 2) := by decide +kernel
theorem d_RR_sum_3 : decode b_RR_sum 3 = .ok (.aload_n 0, 1) := by decide +kernel
theorem d_RR_sum_4 : decode b_RR_sum 4 = .ok (.getfield 17, 3) := by decide +kernel
theorem d_RR_sum_7 : decode b_RR_sum 7 = .ok (.astore 5, 2) := by decide +kernel
theorem d_RR_sum_9 : decode b_RR_sum 9 = .ok (.aload 5, 2) := by decide +kernel
theorem d_RR_sum_11 : decode b_RR_sum 11 = .ok (.arraylength, 1) := by decide +kernel
theorem d_RR_sum_12 : decode b_RR_sum 12 = .ok (.istore 6, 2) := by decide +kernel
theorem d_RR_sum_14 : decode b_RR_sum 14 = .ok (.iconst 0, 1) := by decide +kernel
theorem d_RR_sum_15 : decode b_RR_sum 15 = .ok (.istore 7, 2) := by decide +kernel
theorem d_RR_sum_17 : decode b_RR_sum 17 = .ok (.iload 7, 2) := by decide +kernel
theorem d_RR_sum_19 : decode b_RR_sum 19 = .ok (.iload 6, 2) := by decide +kernel
theorem d_RR_sum_21 : decode b_RR_sum 21 = .ok (.if_icmp .ge 42, 3) := by decide +kernel
theorem d_RR_sum_24 : decode b_RR_sum 24 = .ok (.aload 5, 2) := by decide +kernel
theorem d_RR_sum_26 : decode b_RR_sum 26 = .ok (.iload 7, 2) := by decide +kernel
theorem d_RR_sum_28 : decode b_RR_sum 28 = .ok (.aaload, 1) := by decide +kernel
theorem d_RR_sum_29 : decode b_RR_sum 29 = .ok (.astore 8, 2) := by decide +kernel
theorem d_RR_sum_31 : decode b_RR_sum 31 = .ok (.aload 8, 2) := by decide +kernel
theorem d_RR_sum_33 : decode b_RR_sum 33 = .ok (.ifnull 24, 3) := by decide +kernel
theorem d_RR_sum_36 : decode b_RR_sum 36 = .ok (.aload 8, 2) := by decide +kernel
theorem d_RR_sum_38 : decode b_RR_sum 38 = .ok (.iload_n 2, 1) := by decide +kernel
theorem d_RR_sum_39 : decode b_RR_sum 39 = .ok (.iload_n 3, 1) := by decide +kernel
theorem d_RR_sum_40 : decode b_RR_sum 40 = .ok (.invokevirtual 218, 3) := by decide +kernel
theorem d_RR_sum_43 : decode b_RR_sum 43 = .ok (.ifCond .eq 14, 3) := by decide +kernel
theorem d_RR_sum_46 : decode b_RR_sum 46 = .ok (.iload 4, 2) := by decide +kernel
theorem d_RR_sum_48 : decode b_RR_sum 48 = .ok (.aload 8, 2) := by decide +kernel
theorem d_RR_sum_50 : decode b_RR_sum 50 = .ok (.iload_n 1, 1) := by decide +kernel
theorem d_RR_sum_51 : decode b_RR_sum 51 = .ok (.invokevirtual 222, 3) := by decide +kernel
theorem d_RR_sum_54 : decode b_RR_sum 54 = .ok (.iadd, 1) := by decide +kernel
theorem d_RR_sum_55 : decode b_RR_sum 55 = .ok (.istore 4, 2) := by decide +kernel
theorem d_RR_sum_57 : decode b_RR_sum 57 = .ok (.iinc 7 1, 3) := by decide +kernel
theorem d_RR_sum_60 : decode b_RR_sum 60 = .ok (.goto (-43), 3) := by decide +kernel
theorem d_RR_sum_63 : decode b_RR_sum 63 = .ok (.iload 4, 2) := by decide +kernel
theorem d_RR_sum_65 : decode b_RR_sum 65 = .ok (.ireturn, 1) := by decide +kernel
theorem d_RR_told_0 : decode b_RR_told 0 = .ok (.aload_n 0, 1) := by decide +kernel
theorem d_RR_told_1 : decode b_RR_told 1 = .ok (.iload_n 1, 1) := by decide +kernel
theorem d_RR_told_2 : decode b_RR_told 2 = .ok (.invokevirtual 64, 3) := by decide +kernel
theorem d_RR_told_5 : decode b_RR_told 5 = .ok (.astore_n 3, 1) := by decide +kernel
theorem d_RR_told_6 : decode b_RR_told 6 = .ok (.iload_n 2, 1) := by decide +kernel
theorem d_RR_told_7 : decode b_RR_told 7 = .ok (.tableswitch 140 0 11 #[61, 66, 74, 79, 84, 89, 94, 99, 112, 125, 130, 135], 61) := by decide +kernel
theorem d_RR_told_68 : decode b_RR_told 68 = .ok (.aload_n 3, 1) := by decide +kernel
theorem d_RR_told_69 : decode b_RR_told 69 = .ok (.getfield 68, 3) := by decide +kernel
theorem d_RR_told_72 : decode b_RR_told 72 = .ok (.ireturn, 1) := by decide +kernel
theorem d_RR_told_73 : decode b_RR_told 73 = .ok (.aload_n 3, 1) := by decide +kernel
theorem d_RR_told_74 : decode b_RR_told 74 = .ok (.getfield 85, 3) := by decide +kernel
theorem d_RR_told_77 : decode b_RR_told 77 = .ok (.getfield 82, 3) := by decide +kernel
theorem d_RR_told_80 : decode b_RR_told 80 = .ok (.ireturn, 1) := by decide +kernel
theorem d_RR_told_81 : decode b_RR_told 81 = .ok (.aload_n 3, 1) := by decide +kernel
theorem d_RR_told_82 : decode b_RR_told 82 = .ok (.getfield 184, 3) := by decide +kernel
theorem d_RR_told_85 : decode b_RR_told 85 = .ok (.ireturn, 1) := by decide +kernel
theorem d_RR_told_86 : decode b_RR_told 86 = .ok (.aload_n 3, 1) := by decide +kernel
theorem d_RR_told_87 : decode b_RR_told 87 = .ok (.getfield 124, 3) := by decide +kernel
theorem d_RR_told_90 : decode b_RR_told 90 = .ok (.ireturn, 1) := by decide +kernel
theorem d_RR_told_91 : decode b_RR_told 91 = .ok (.aload_n 3, 1) := by decide +kernel
theorem d_RR_told_92 : decode b_RR_told 92 = .ok (.getfield 118, 3) := by decide +kernel
theorem d_RR_told_95 : decode b_RR_told 95 = .ok (.ireturn, 1) := by decide +kernel
theorem d_RR_told_96 : decode b_RR_told 96 = .ok (.aload_n 3, 1) := by decide +kernel
theorem d_RR_told_97 : decode b_RR_told 97 = .ok (.getfield 187, 3) := by decide +kernel
theorem d_RR_told_100 : decode b_RR_told 100 = .ok (.ireturn, 1) := by decide +kernel
theorem d_RR_told_101 : decode b_RR_told 101 = .ok (.aload_n 3, 1) := by decide +kernel
theorem d_RR_told_102 : decode b_RR_told 102 = .ok (.getfield 100, 3) := by decide +kernel
theorem d_RR_told_105 : decode b_RR_told 105 = .ok (.ireturn, 1) := by decide +kernel
theorem d_RR_told_106 : decode b_RR_told 106 = .ok (.aload_n 3, 1) := by decide +kernel
theorem d_RR_told_107 : decode b_RR_told 107 = .ok (.getfield 92, 3) := by decide +kernel
theorem d_RR_told_110 : decode b_RR_told 110 = .ok (.ifCond .eq 7, 3) := by decide +kernel
theorem d_RR_told_113 : decode b_RR_told 113 = .ok (.iconst 1, 1) := by decide +kernel
theorem d_RR_told_114 : decode b_RR_told 114 = .ok (.goto 4, 3) := by decide +kernel
theorem d_RR_told_117 : decode b_RR_told 117 = .ok (.iconst 0, 1) := by decide +kernel
theorem d_RR_told_118 : decode b_RR_told 118 = .ok (.ireturn, 1) := by decide +kernel
theorem d_RR_told_119 : decode b_RR_told 119 = .ok (.aload_n 3, 1) := by decide +kernel
theorem d_RR_told_120 : decode b_RR_told 120 = .ok (.getfield 89, 3) := by decide +kernel
theorem d_RR_told_123 : decode b_RR_told 123 = .ok (.ifCond .eq 7, 3) := by decide +kernel
theorem d_RR_told_126 : decode b_RR_told 126 = .ok (.iconst 1, 1) := by decide +kernel
theorem d_RR_told_127 : decode b_RR_told 127 = .ok (.goto 4, 3) := by decide +kernel
theorem d_RR_told_130 : decode b_RR_told 130 = .ok (.iconst 0, 1) := by decide +kernel
theorem d_RR_told_131 : decode b_RR_told 131 = .ok (.ireturn, 1) := by decide +kernel
theorem d_RR_told_132 : decode b_RR_told 132 = .ok (.aload_n 3, 1) := by decide +kernel
theorem d_RR_told_133 : decode b_RR_told 133 = .ok (.getfield 129, 3) := by decide +kernel
theorem d_RR_told_136 : decode b_RR_told 136 = .ok (.ireturn, 1) := by decide +kernel
theorem d_RR_told_137 : decode b_RR_told 137 = .ok (.aload_n 3, 1) := by decide +kernel
theorem d_RR_told_138 : decode b_RR_told 138 = .ok (.getfield 162, 3) := by decide +kernel
theorem d_RR_told_141 : decode b_RR_told 141 = .ok (.ireturn, 1) := by decide +kernel
theorem d_RR_told_142 : decode b_RR_told 142 = .ok (.aload_n 3, 1) := by decide +kernel
theorem d_RR_told_143 : decode b_RR_told 143 = .ok (.getfield 75, 3) := by decide +kernel
theorem d_RR_told_146 : decode b_RR_told 146 = .ok (.ireturn, 1) := by decide +kernel
theorem d_RR_told_147 : decode b_RR_told 147 = .ok (.new 171, 3) := by decide +kernel
theorem d_RR_told_150 : decode b_RR_told 150 = .ok (.dup, 1) := by decide +kernel
theorem d_RR_told_151 : decode b_RR_told 151 = .ok (.ldc 190, 2) := by decide +kernel
theorem d_RR_told_153 : decode b_RR_told 153 = .ok (.invokespecial 175, 3) := by decide +kernel
theorem d_RR_told_156 : decode b_RR_told 156 = .ok (.athrow, 1) := by decide +kernel
