/-! ===== each instruction, decoded ===== -/
theorem d_RE_amountDue_0 : decode b_RE_amountDue 0 = .ok (.aload_n 0, 1) := by decide +kernel
theorem d_RE_amountDue_1 : decode b_RE_amountDue 1 = .ok (.getfield 28, 3) := by decide +kernel
theorem d_RE_amountDue_4 : decode b_RE_amountDue 4 = .ok (.ifCond .lt 14, 3) := by decide +kernel
theorem d_RE_amountDue_7 : decode b_RE_amountDue 7 = .ok (.aload_n 0, 1) := by decide +kernel
theorem d_RE_amountDue_8 : decode b_RE_amountDue 8 = .ok (.getfield 28, 3) := by decide +kernel
theorem d_RE_amountDue_11 : decode b_RE_amountDue 11 = .ok (.getstatic 52, 3) := by decide +kernel
theorem d_RE_amountDue_14 : decode b_RE_amountDue 14 = .ok (.arraylength, 1) := by decide +kernel
theorem d_RE_amountDue_15 : decode b_RE_amountDue 15 = .ok (.if_icmp .lt 5, 3) := by decide +kernel
theorem d_RE_amountDue_18 : decode b_RE_amountDue 18 = .ok (.iconst 0, 1) := by decide +kernel
theorem d_RE_amountDue_19 : decode b_RE_amountDue 19 = .ok (.ireturn, 1) := by decide +kernel
theorem d_RE_amountDue_20 : decode b_RE_amountDue 20 = .ok (.aload_n 0, 1) := by decide +kernel
theorem d_RE_amountDue_21 : decode b_RE_amountDue 21 = .ok (.getfield 45, 3) := by decide +kernel
theorem d_RE_amountDue_24 : decode b_RE_amountDue 24 = .ok (.ifCond .ne 20, 3) := by decide +kernel
theorem d_RE_amountDue_27 : decode b_RE_amountDue 27 = .ok (.aload_n 0, 1) := by decide +kernel
theorem d_RE_amountDue_28 : decode b_RE_amountDue 28 = .ok (.getfield 22, 3) := by decide +kernel
theorem d_RE_amountDue_31 : decode b_RE_amountDue 31 = .ok (.aload_n 0, 1) := by decide +kernel
theorem d_RE_amountDue_32 : decode b_RE_amountDue 32 = .ok (.getfield 9, 3) := by decide +kernel
theorem d_RE_amountDue_35 : decode b_RE_amountDue 35 = .ok (.getfield 56, 3) := by decide +kernel
theorem d_RE_amountDue_38 : decode b_RE_amountDue 38 = .ok (.isub, 1) := by decide +kernel
theorem d_RE_amountDue_39 : decode b_RE_amountDue 39 = .ok (.bipush 30, 2) := by decide +kernel
theorem d_RE_amountDue_41 : decode b_RE_amountDue 41 = .ok (.if_icmp .le 5, 3) := by decide +kernel
theorem d_RE_amountDue_44 : decode b_RE_amountDue 44 = .ok (.iconst 0, 1) := by decide +kernel
theorem d_RE_amountDue_45 : decode b_RE_amountDue 45 = .ok (.ireturn, 1) := by decide +kernel
theorem d_RE_amountDue_46 : decode b_RE_amountDue 46 = .ok (.aload_n 0, 1) := by decide +kernel
theorem d_RE_amountDue_47 : decode b_RE_amountDue 47 = .ok (.getfield 9, 3) := by decide +kernel
theorem d_RE_amountDue_50 : decode b_RE_amountDue 50 = .ok (.getfield 59, 3) := by decide +kernel
theorem d_RE_amountDue_53 : decode b_RE_amountDue 53 = .ok (.getstatic 52, 3) := by decide +kernel
theorem d_RE_amountDue_56 : decode b_RE_amountDue 56 = .ok (.aload_n 0, 1) := by decide +kernel
theorem d_RE_amountDue_57 : decode b_RE_amountDue 57 = .ok (.getfield 28, 3) := by decide +kernel
theorem d_RE_amountDue_60 : decode b_RE_amountDue 60 = .ok (.iaload, 1) := by decide +kernel
theorem d_RE_amountDue_61 : decode b_RE_amountDue 61 = .ok (.imul, 1) := by decide +kernel
theorem d_RE_amountDue_62 : decode b_RE_amountDue 62 = .ok (.bipush 100, 2) := by decide +kernel
theorem d_RE_amountDue_64 : decode b_RE_amountDue 64 = .ok (.idiv, 1) := by decide +kernel
theorem d_RE_amountDue_65 : decode b_RE_amountDue 65 = .ok (.istore_n 1, 1) := by decide +kernel
theorem d_RE_amountDue_66 : decode b_RE_amountDue 66 = .ok (.aload_n 0, 1) := by decide +kernel
theorem d_RE_amountDue_67 : decode b_RE_amountDue 67 = .ok (.getfield 9, 3) := by decide +kernel
theorem d_RE_amountDue_70 : decode b_RE_amountDue 70 = .ok (.getfield 59, 3) := by decide +kernel
theorem d_RE_amountDue_73 : decode b_RE_amountDue 73 = .ok (.bipush 10, 2) := by decide +kernel
theorem d_RE_amountDue_75 : decode b_RE_amountDue 75 = .ok (.idiv, 1) := by decide +kernel
theorem d_RE_amountDue_76 : decode b_RE_amountDue 76 = .ok (.aload_n 0, 1) := by decide +kernel
theorem d_RE_amountDue_77 : decode b_RE_amountDue 77 = .ok (.getfield 62, 3) := by decide +kernel
theorem d_RE_amountDue_80 : decode b_RE_amountDue 80 = .ok (.imul, 1) := by decide +kernel
theorem d_RE_amountDue_81 : decode b_RE_amountDue 81 = .ok (.istore_n 2, 1) := by decide +kernel
theorem d_RE_amountDue_82 : decode b_RE_amountDue 82 = .ok (.iconst 0, 1) := by decide +kernel
theorem d_RE_amountDue_83 : decode b_RE_amountDue 83 = .ok (.iload_n 1, 1) := by decide +kernel
theorem d_RE_amountDue_84 : decode b_RE_amountDue 84 = .ok (.iload_n 2, 1) := by decide +kernel
theorem d_RE_amountDue_85 : decode b_RE_amountDue 85 = .ok (.isub, 1) := by decide +kernel
theorem d_RE_amountDue_86 : decode b_RE_amountDue 86 = .ok (.invokestatic 65, 3) := by decide +kernel
theorem d_RE_amountDue_89 : decode b_RE_amountDue 89 = .ok (.ireturn, 1) := by decide +kernel
theorem d_RE_init_0 : decode b_RE_init 0 = .ok (.aload_n 0, 1) := by decide +kernel
theorem d_RE_init_1 : decode b_RE_init 1 = .ok (.invokespecial 3, 3) := by decide +kernel
theorem d_RE_init_4 : decode b_RE_init 4 = .ok (.aload_n 0, 1) := by decide +kernel
theorem d_RE_init_5 : decode b_RE_init 5 = .ok (.aload_n 1, 1) := by decide +kernel
theorem d_RE_init_6 : decode b_RE_init 6 = .ok (.putfield 9, 3) := by decide +kernel
theorem d_RE_init_9 : decode b_RE_init 9 = .ok (.aload_n 0, 1) := by decide +kernel
theorem d_RE_init_10 : decode b_RE_init 10 = .ok (.iload_n 2, 1) := by decide +kernel
theorem d_RE_init_11 : decode b_RE_init 11 = .ok (.putfield 15, 3) := by decide +kernel
theorem d_RE_init_14 : decode b_RE_init 14 = .ok (.aload_n 0, 1) := by decide +kernel
theorem d_RE_init_15 : decode b_RE_init 15 = .ok (.iload_n 3, 1) := by decide +kernel
theorem d_RE_init_16 : decode b_RE_init 16 = .ok (.putfield 19, 3) := by decide +kernel
theorem d_RE_init_19 : decode b_RE_init 19 = .ok (.aload_n 0, 1) := by decide +kernel
theorem d_RE_init_20 : decode b_RE_init 20 = .ok (.iload 4, 2) := by decide +kernel
theorem d_RE_init_22 : decode b_RE_init 22 = .ok (.putfield 22, 3) := by decide +kernel
theorem d_RE_init_25 : decode b_RE_init 25 = .ok (.aload_n 0, 1) := by decide +kernel
theorem d_RE_init_26 : decode b_RE_init 26 = .ok (.iconst (-1), 1) := by decide +kernel
theorem d_RE_init_27 : decode b_RE_init 27 = .ok (.putfield 25, 3) := by decide +kernel
theorem d_RE_init_30 : decode b_RE_init 30 = .ok (.aload_n 0, 1) := by decide +kernel
theorem d_RE_init_31 : decode b_RE_init 31 = .ok (.iconst (-1), 1) := by decide +kernel
theorem d_RE_init_32 : decode b_RE_init 32 = .ok (.putfield 28, 3) := by decide +kernel
theorem d_RE_init_35 : decode b_RE_init 35 = .ok (.aload_n 0, 1) := by decide +kernel
theorem d_RE_init_36 : decode b_RE_init 36 = .ok (.iconst (-1), 1) := by decide +kernel
theorem d_RE_init_37 : decode b_RE_init 37 = .ok (.putfield 31, 3) := by decide +kernel
theorem d_RE_init_40 : decode b_RE_init 40 = .ok (.aload_n 0, 1) := by decide +kernel
theorem d_RE_init_41 : decode b_RE_init 41 = .ok (.iconst (-1), 1) := by decide +kernel
theorem d_RE_init_42 : decode b_RE_init 42 = .ok (.putfield 34, 3) := by decide +kernel
theorem d_RE_init_45 : decode b_RE_init 45 = .ok (.return_, 1) := by decide +kernel
theorem d_RE_isOf_0 : decode b_RE_isOf 0 = .ok (.iload_n 1, 1) := by decide +kernel
theorem d_RE_isOf_1 : decode b_RE_isOf 1 = .ok (.iconst (-1), 1) := by decide +kernel
theorem d_RE_isOf_2 : decode b_RE_isOf 2 = .ok (.if_icmp .eq 11, 3) := by decide +kernel
theorem d_RE_isOf_5 : decode b_RE_isOf 5 = .ok (.iload_n 1, 1) := by decide +kernel
theorem d_RE_isOf_6 : decode b_RE_isOf 6 = .ok (.aload_n 0, 1) := by decide +kernel
theorem d_RE_isOf_7 : decode b_RE_isOf 7 = .ok (.getfield 15, 3) := by decide +kernel
theorem d_RE_isOf_10 : decode b_RE_isOf 10 = .ok (.if_icmp .ne 23, 3) := by decide +kernel
theorem d_RE_isOf_13 : decode b_RE_isOf 13 = .ok (.iload_n 2, 1) := by decide +kernel
theorem d_RE_isOf_14 : decode b_RE_isOf 14 = .ok (.iconst (-1), 1) := by decide +kernel
theorem d_RE_isOf_15 : decode b_RE_isOf 15 = .ok (.if_icmp .eq 14, 3) := by decide +kernel
theorem d_RE_isOf_18 : decode b_RE_isOf 18 = .ok (.iload_n 2, 1) := by decide +kernel
theorem d_RE_isOf_19 : decode b_RE_isOf 19 = .ok (.aload_n 0, 1) := by decide +kernel
theorem d_RE_isOf_20 : decode b_RE_isOf 20 = .ok (.getfield 9, 3) := by decide +kernel
theorem d_RE_isOf_23 : decode b_RE_isOf 23 = .ok (.getfield 37, 3) := by decide +kernel
theorem d_RE_isOf_26 : decode b_RE_isOf 26 = .ok (.if_icmp .ne 7, 3) := by decide +kernel
theorem d_RE_isOf_29 : decode b_RE_isOf 29 = .ok (.iconst 1, 1) := by decide +kernel
theorem d_RE_isOf_30 : decode b_RE_isOf 30 = .ok (.goto 4, 3) := by decide +kernel
theorem d_RE_isOf_33 : decode b_RE_isOf 33 = .ok (.iconst 0, 1) := by decide +kernel
theorem d_RE_isOf_34 : decode b_RE_isOf 34 = .ok (.ireturn, 1) := by decide +kernel
theorem d_RE_measured_0 : decode b_RE_measured 0 = .ok (.iload_n 1, 1) := by decide +kernel
theorem d_RE_measured_1 : decode b_RE_measured 1 = .ok (.tableswitch 82 0 4 #[35, 37, 42, 56, 69], 35) := by decide +kernel
theorem d_RE_measured_36 : decode b_RE_measured 36 = .ok (.iconst 1, 1) := by decide +kernel
theorem d_RE_measured_37 : decode b_RE_measured 37 = .ok (.ireturn, 1) := by decide +kernel
theorem d_RE_measured_38 : decode b_RE_measured 38 = .ok (.aload_n 0, 1) := by decide +kernel
theorem d_RE_measured_39 : decode b_RE_measured 39 = .ok (.getfield 42, 3) := by decide +kernel
theorem d_RE_measured_42 : decode b_RE_measured 42 = .ok (.ireturn, 1) := by decide +kernel
theorem d_RE_measured_43 : decode b_RE_measured 43 = .ok (.aload_n 0, 1) := by decide +kernel
theorem d_RE_measured_44 : decode b_RE_measured 44 = .ok (.getfield 19, 3) := by decide +kernel
theorem d_RE_measured_47 : decode b_RE_measured 47 = .ok (.iconst 5, 1) := by decide +kernel
theorem d_RE_measured_48 : decode b_RE_measured 48 = .ok (.if_icmp .ne 7, 3) := by decide +kernel
theorem d_RE_measured_51 : decode b_RE_measured 51 = .ok (.iconst 1, 1) := by decide +kernel
theorem d_RE_measured_52 : decode b_RE_measured 52 = .ok (.goto 4, 3) := by decide +kernel
theorem d_RE_measured_55 : decode b_RE_measured 55 = .ok (.iconst 0, 1) := by decide +kernel
theorem d_RE_measured_56 : decode b_RE_measured 56 = .ok (.ireturn, 1) := by decide +kernel
theorem d_RE_measured_57 : decode b_RE_measured 57 = .ok (.aload_n 0, 1) := by decide +kernel
theorem d_RE_measured_58 : decode b_RE_measured 58 = .ok (.getfield 45, 3) := by decide +kernel
theorem d_RE_measured_61 : decode b_RE_measured 61 = .ok (.ifCond .eq 7, 3) := by decide +kernel
theorem d_RE_measured_64 : decode b_RE_measured 64 = .ok (.iconst 1, 1) := by decide +kernel
theorem d_RE_measured_65 : decode b_RE_measured 65 = .ok (.goto 4, 3) := by decide +kernel
theorem d_RE_measured_68 : decode b_RE_measured 68 = .ok (.iconst 0, 1) := by decide +kernel
theorem d_RE_measured_69 : decode b_RE_measured 69 = .ok (.ireturn, 1) := by decide +kernel
theorem d_RE_measured_70 : decode b_RE_measured 70 = .ok (.aload_n 0, 1) := by decide +kernel
theorem d_RE_measured_71 : decode b_RE_measured 71 = .ok (.getfield 49, 3) := by decide +kernel
theorem d_RE_measured_74 : decode b_RE_measured 74 = .ok (.ifCond .eq 7, 3) := by decide +kernel
theorem d_RE_measured_77 : decode b_RE_measured 77 = .ok (.iconst 1, 1) := by decide +kernel
theorem d_RE_measured_78 : decode b_RE_measured 78 = .ok (.goto 4, 3) := by decide +kernel
theorem d_RE_measured_81 : decode b_RE_measured 81 = .ok (.iconst 0, 1) := by decide +kernel
theorem d_RE_measured_82 : decode b_RE_measured 82 = .ok (.ireturn, 1) := by decide +kernel
theorem d_RE_measured_83 : decode b_RE_measured 83 = .ok (.iconst 0, 1) := by decide +kernel
theorem d_RE_measured_84 : decode b_RE_measured 84 = .ok (.ireturn, 1) := by decide +kernel
theorem d_RE_takeGrade_0 : decode b_RE_takeGrade 0 = .ok (.aload_n 0, 1) := by decide +kernel
theorem d_RE_takeGrade_1 : decode b_RE_takeGrade 1 = .ok (.aload_n 0, 1) := by decide +kernel
theorem d_RE_takeGrade_2 : decode b_RE_takeGrade 2 = .ok (.getfield 28, 3) := by decide +kernel
theorem d_RE_takeGrade_5 : decode b_RE_takeGrade 5 = .ok (.putfield 31, 3) := by decide +kernel
theorem d_RE_takeGrade_8 : decode b_RE_takeGrade 8 = .ok (.aload_n 0, 1) := by decide +kernel
theorem d_RE_takeGrade_9 : decode b_RE_takeGrade 9 = .ok (.iload_n 1, 1) := by decide +kernel
theorem d_RE_takeGrade_10 : decode b_RE_takeGrade 10 = .ok (.putfield 28, 3) := by decide +kernel
theorem d_RE_takeGrade_13 : decode b_RE_takeGrade 13 = .ok (.aload_n 0, 1) := by decide +kernel
theorem d_RE_takeGrade_14 : decode b_RE_takeGrade 14 = .ok (.getfield 34, 3) := by decide +kernel
theorem d_RE_takeGrade_17 : decode b_RE_takeGrade 17 = .ok (.iconst (-1), 1) := by decide +kernel
theorem d_RE_takeGrade_18 : decode b_RE_takeGrade 18 = .ok (.if_icmp .eq 11, 3) := by decide +kernel
theorem d_RE_takeGrade_21 : decode b_RE_takeGrade 21 = .ok (.iload_n 1, 1) := by decide +kernel
theorem d_RE_takeGrade_22 : decode b_RE_takeGrade 22 = .ok (.aload_n 0, 1) := by decide +kernel
theorem d_RE_takeGrade_23 : decode b_RE_takeGrade 23 = .ok (.getfield 34, 3) := by decide +kernel
theorem d_RE_takeGrade_26 : decode b_RE_takeGrade 26 = .ok (.if_icmp .ge 8, 3) := by decide +kernel
theorem d_RE_takeGrade_29 : decode b_RE_takeGrade 29 = .ok (.aload_n 0, 1) := by decide +kernel
theorem d_RE_takeGrade_30 : decode b_RE_takeGrade 30 = .ok (.iload_n 1, 1) := by decide +kernel
theorem d_RE_takeGrade_31 : decode b_RE_takeGrade 31 = .ok (.putfield 34, 3) := by decide +kernel
theorem d_RE_takeGrade_34 : decode b_RE_takeGrade 34 = .ok (.return_, 1) := by decide +kernel
theorem d_SA_init_0 : decode b_SA_init 0 = .ok (.aload_n 0, 1) := by decide +kernel
theorem d_SA_init_1 : decode b_SA_init 1 = .ok (.invokespecial 1, 3) := by decide +kernel
theorem d_SA_init_4 : decode b_SA_init 4 = .ok (.aload_n 0, 1) := by decide +kernel
theorem d_SA_init_5 : decode b_SA_init 5 = .ok (.iload_n 1, 1) := by decide +kernel
theorem d_SA_init_6 : decode b_SA_init 6 = .ok (.putfield 7, 3) := by decide +kernel
theorem d_SA_init_9 : decode b_SA_init 9 = .ok (.aload_n 0, 1) := by decide +kernel
theorem d_SA_init_10 : decode b_SA_init 10 = .ok (.iload_n 2, 1) := by decide +kernel
theorem d_SA_init_11 : decode b_SA_init 11 = .ok (.putfield 13, 3) := by decide +kernel
theorem d_SA_init_14 : decode b_SA_init 14 = .ok (.aload_n 0, 1) := by decide +kernel
theorem d_SA_init_15 : decode b_SA_init 15 = .ok (.iload_n 3, 1) := by decide +kernel
theorem d_SA_init_16 : decode b_SA_init 16 = .ok (.putfield 16, 3) := by decide +kernel
theorem d_SA_init_19 : decode b_SA_init 19 = .ok (.aload_n 0, 1) := by decide +kernel
theorem d_SA_init_20 : decode b_SA_init 20 = .ok (.iload 4, 2) := by decide +kernel
theorem d_SA_init_22 : decode b_SA_init 22 = .ok (.putfield 19, 3) := by decide +kernel
theorem d_SA_init_25 : decode b_SA_init 25 = .ok (.aload_n 0, 1) := by decide +kernel
theorem d_SA_init_26 : decode b_SA_init 26 = .ok (.iload 5, 2) := by decide +kernel
theorem d_SA_init_28 : decode b_SA_init 28 = .ok (.putfield 22, 3) := by decide +kernel
theorem d_SA_init_31 : decode b_SA_init 31 = .ok (.return_, 1) := by decide +kernel
