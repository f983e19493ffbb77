/-! ===== each instruction, decoded ===== -/
theorem d_MO_arrive_0 : decode b_MO_arrive 0 = .ok (.aload_n 0, 1) := by decide +kernel
theorem d_MO_arrive_1 : decode b_MO_arrive 1 = .ok (.aload_n 0, 1) := by decide +kernel
theorem d_MO_arrive_2 : decode b_MO_arrive 2 = .ok (.iload_n 1, 1) := by decide +kernel
theorem d_MO_arrive_3 : decode b_MO_arrive 3 = .ok (.invokevirtual 93, 3) := by decide +kernel
theorem d_MO_arrive_6 : decode b_MO_arrive 6 = .ok (.ifCond .ne 7, 3) := by decide +kernel
theorem d_MO_arrive_9 : decode b_MO_arrive 9 = .ok (.iconst 1, 1) := by decide +kernel
theorem d_MO_arrive_10 : decode b_MO_arrive 10 = .ok (.goto 18, 3) := by decide +kernel
theorem d_MO_arrive_13 : decode b_MO_arrive 13 = .ok (.iload_n 2, 1) := by decide +kernel
theorem d_MO_arrive_14 : decode b_MO_arrive 14 = .ok (.iconst (-1), 1) := by decide +kernel
theorem d_MO_arrive_15 : decode b_MO_arrive 15 = .ok (.bipush 9, 2) := by decide +kernel
theorem d_MO_arrive_17 : decode b_MO_arrive 17 = .ok (.invokestatic 75, 3) := by decide +kernel
theorem d_MO_arrive_20 : decode b_MO_arrive 20 = .ok (.ifCond .ne 7, 3) := by decide +kernel
theorem d_MO_arrive_23 : decode b_MO_arrive 23 = .ok (.iconst 2, 1) := by decide +kernel
theorem d_MO_arrive_24 : decode b_MO_arrive 24 = .ok (.goto 4, 3) := by decide +kernel
theorem d_MO_arrive_27 : decode b_MO_arrive 27 = .ok (.iconst 0, 1) := by decide +kernel
theorem d_MO_arrive_28 : decode b_MO_arrive 28 = .ok (.putfield 68, 3) := by decide +kernel
theorem d_MO_arrive_31 : decode b_MO_arrive 31 = .ok (.aload_n 0, 1) := by decide +kernel
theorem d_MO_arrive_32 : decode b_MO_arrive 32 = .ok (.getfield 68, 3) := by decide +kernel
theorem d_MO_arrive_35 : decode b_MO_arrive 35 = .ok (.ifCond .ne 41, 3) := by decide +kernel
theorem d_MO_arrive_38 : decode b_MO_arrive 38 = .ok (.aload_n 0, 1) := by decide +kernel
theorem d_MO_arrive_39 : decode b_MO_arrive 39 = .ok (.aload_n 0, 1) := by decide +kernel
theorem d_MO_arrive_40 : decode b_MO_arrive 40 = .ok (.getfield 28, 3) := by decide +kernel
theorem d_MO_arrive_43 : decode b_MO_arrive 43 = .ok (.iload_n 1, 1) := by decide +kernel
theorem d_MO_arrive_44 : decode b_MO_arrive 44 = .ok (.iaload, 1) := by decide +kernel
theorem d_MO_arrive_45 : decode b_MO_arrive 45 = .ok (.ifCond .ne 8, 3) := by decide +kernel
theorem d_MO_arrive_48 : decode b_MO_arrive 48 = .ok (.iload_n 2, 1) := by decide +kernel
theorem d_MO_arrive_49 : decode b_MO_arrive 49 = .ok (.iconst (-1), 1) := by decide +kernel
theorem d_MO_arrive_50 : decode b_MO_arrive 50 = .ok (.if_icmp .eq 22, 3) := by decide +kernel
theorem d_MO_arrive_53 : decode b_MO_arrive 53 = .ok (.aload_n 0, 1) := by decide +kernel
theorem d_MO_arrive_54 : decode b_MO_arrive 54 = .ok (.getfield 28, 3) := by decide +kernel
theorem d_MO_arrive_57 : decode b_MO_arrive 57 = .ok (.iload_n 1, 1) := by decide +kernel
theorem d_MO_arrive_58 : decode b_MO_arrive 58 = .ok (.iaload, 1) := by decide +kernel
theorem d_MO_arrive_59 : decode b_MO_arrive 59 = .ok (.iconst 1, 1) := by decide +kernel
theorem d_MO_arrive_60 : decode b_MO_arrive 60 = .ok (.if_icmp .ne 8, 3) := by decide +kernel
theorem d_MO_arrive_63 : decode b_MO_arrive 63 = .ok (.iload_n 2, 1) := by decide +kernel
theorem d_MO_arrive_64 : decode b_MO_arrive 64 = .ok (.iconst (-1), 1) := by decide +kernel
theorem d_MO_arrive_65 : decode b_MO_arrive 65 = .ok (.if_icmp .ne 7, 3) := by decide +kernel
theorem d_MO_arrive_68 : decode b_MO_arrive 68 = .ok (.iconst 3, 1) := by decide +kernel
theorem d_MO_arrive_69 : decode b_MO_arrive 69 = .ok (.goto 4, 3) := by decide +kernel
theorem d_MO_arrive_72 : decode b_MO_arrive 72 = .ok (.iconst 0, 1) := by decide +kernel
theorem d_MO_arrive_73 : decode b_MO_arrive 73 = .ok (.putfield 68, 3) := by decide +kernel
theorem d_MO_arrive_76 : decode b_MO_arrive 76 = .ok (.aload_n 0, 1) := by decide +kernel
theorem d_MO_arrive_77 : decode b_MO_arrive 77 = .ok (.getfield 68, 3) := by decide +kernel
theorem d_MO_arrive_80 : decode b_MO_arrive 80 = .ok (.ifCond .le 4, 3) := by decide +kernel
theorem d_MO_arrive_83 : decode b_MO_arrive 83 = .ok (.return_, 1) := by decide +kernel
theorem d_MO_arrive_84 : decode b_MO_arrive 84 = .ok (.aload_n 0, 1) := by decide +kernel
theorem d_MO_arrive_85 : decode b_MO_arrive 85 = .ok (.getfield 28, 3) := by decide +kernel
theorem d_MO_arrive_88 : decode b_MO_arrive 88 = .ok (.iload_n 1, 1) := by decide +kernel
theorem d_MO_arrive_89 : decode b_MO_arrive 89 = .ok (.iconst 2, 1) := by decide +kernel
theorem d_MO_arrive_90 : decode b_MO_arrive 90 = .ok (.iastore, 1) := by decide +kernel
theorem d_MO_arrive_91 : decode b_MO_arrive 91 = .ok (.aload_n 0, 1) := by decide +kernel
theorem d_MO_arrive_92 : decode b_MO_arrive 92 = .ok (.getfield 34, 3) := by decide +kernel
theorem d_MO_arrive_95 : decode b_MO_arrive 95 = .ok (.iload_n 1, 1) := by decide +kernel
theorem d_MO_arrive_96 : decode b_MO_arrive 96 = .ok (.iload_n 2, 1) := by decide +kernel
theorem d_MO_arrive_97 : decode b_MO_arrive 97 = .ok (.iastore, 1) := by decide +kernel
theorem d_MO_arrive_98 : decode b_MO_arrive 98 = .ok (.return_, 1) := by decide +kernel
theorem d_MO_back_0 : decode b_MO_back 0 = .ok (.aload_n 0, 1) := by decide +kernel
theorem d_MO_back_1 : decode b_MO_back 1 = .ok (.aload_n 0, 1) := by decide +kernel
theorem d_MO_back_2 : decode b_MO_back 2 = .ok (.iload_n 1, 1) := by decide +kernel
theorem d_MO_back_3 : decode b_MO_back 3 = .ok (.invokevirtual 93, 3) := by decide +kernel
theorem d_MO_back_6 : decode b_MO_back 6 = .ok (.ifCond .ne 7, 3) := by decide +kernel
theorem d_MO_back_9 : decode b_MO_back 9 = .ok (.iconst 1, 1) := by decide +kernel
theorem d_MO_back_10 : decode b_MO_back 10 = .ok (.goto 4, 3) := by decide +kernel
theorem d_MO_back_13 : decode b_MO_back 13 = .ok (.iconst 0, 1) := by decide +kernel
theorem d_MO_back_14 : decode b_MO_back 14 = .ok (.putfield 68, 3) := by decide +kernel
theorem d_MO_back_17 : decode b_MO_back 17 = .ok (.aload_n 0, 1) := by decide +kernel
theorem d_MO_back_18 : decode b_MO_back 18 = .ok (.getfield 68, 3) := by decide +kernel
theorem d_MO_back_21 : decode b_MO_back 21 = .ok (.ifCond .ne 68, 3) := by decide +kernel
theorem d_MO_back_24 : decode b_MO_back 24 = .ok (.aload_n 0, 1) := by decide +kernel
theorem d_MO_back_25 : decode b_MO_back 25 = .ok (.aload_n 0, 1) := by decide +kernel
theorem d_MO_back_26 : decode b_MO_back 26 = .ok (.getfield 28, 3) := by decide +kernel
theorem d_MO_back_29 : decode b_MO_back 29 = .ok (.iload_n 1, 1) := by decide +kernel
theorem d_MO_back_30 : decode b_MO_back 30 = .ok (.iaload, 1) := by decide +kernel
theorem d_MO_back_31 : decode b_MO_back 31 = .ok (.iconst 3, 1) := by decide +kernel
theorem d_MO_back_32 : decode b_MO_back 32 = .ok (.if_icmp .ne 49, 3) := by decide +kernel
theorem d_MO_back_35 : decode b_MO_back 35 = .ok (.aload_n 0, 1) := by decide +kernel
theorem d_MO_back_36 : decode b_MO_back 36 = .ok (.getfield 37, 3) := by decide +kernel
theorem d_MO_back_39 : decode b_MO_back 39 = .ok (.iload_n 1, 1) := by decide +kernel
theorem d_MO_back_40 : decode b_MO_back 40 = .ok (.baload, 1) := by decide +kernel
theorem d_MO_back_41 : decode b_MO_back 41 = .ok (.ifCond .ne 40, 3) := by decide +kernel
theorem d_MO_back_44 : decode b_MO_back 44 = .ok (.aload_n 0, 1) := by decide +kernel
theorem d_MO_back_45 : decode b_MO_back 45 = .ok (.getfield 41, 3) := by decide +kernel
theorem d_MO_back_48 : decode b_MO_back 48 = .ok (.iload_n 1, 1) := by decide +kernel
theorem d_MO_back_49 : decode b_MO_back 49 = .ok (.baload, 1) := by decide +kernel
theorem d_MO_back_50 : decode b_MO_back 50 = .ok (.ifCond .ne 31, 3) := by decide +kernel
theorem d_MO_back_53 : decode b_MO_back 53 = .ok (.aload_n 0, 1) := by decide +kernel
theorem d_MO_back_54 : decode b_MO_back 54 = .ok (.getfield 44, 3) := by decide +kernel
theorem d_MO_back_57 : decode b_MO_back 57 = .ok (.iload_n 1, 1) := by decide +kernel
theorem d_MO_back_58 : decode b_MO_back 58 = .ok (.iaload, 1) := by decide +kernel
theorem d_MO_back_59 : decode b_MO_back 59 = .ok (.iconst 2, 1) := by decide +kernel
theorem d_MO_back_60 : decode b_MO_back 60 = .ok (.if_icmp .gt 21, 3) := by decide +kernel
theorem d_MO_back_63 : decode b_MO_back 63 = .ok (.aload_n 0, 1) := by decide +kernel
theorem d_MO_back_64 : decode b_MO_back 64 = .ok (.getfield 82, 3) := by decide +kernel
theorem d_MO_back_67 : decode b_MO_back 67 = .ok (.aload_n 0, 1) := by decide +kernel
theorem d_MO_back_68 : decode b_MO_back 68 = .ok (.getfield 16, 3) := by decide +kernel
theorem d_MO_back_71 : decode b_MO_back 71 = .ok (.aload_n 0, 1) := by decide +kernel
theorem d_MO_back_72 : decode b_MO_back 72 = .ok (.getfield 22, 3) := by decide +kernel
theorem d_MO_back_75 : decode b_MO_back 75 = .ok (.iload_n 1, 1) := by decide +kernel
theorem d_MO_back_76 : decode b_MO_back 76 = .ok (.iaload, 1) := by decide +kernel
theorem d_MO_back_77 : decode b_MO_back 77 = .ok (.iaload, 1) := by decide +kernel
theorem d_MO_back_78 : decode b_MO_back 78 = .ok (.if_icmp .le 7, 3) := by decide +kernel
theorem d_MO_back_81 : decode b_MO_back 81 = .ok (.iconst 2, 1) := by decide +kernel
theorem d_MO_back_82 : decode b_MO_back 82 = .ok (.goto 4, 3) := by decide +kernel
theorem d_MO_back_85 : decode b_MO_back 85 = .ok (.iconst 0, 1) := by decide +kernel
theorem d_MO_back_86 : decode b_MO_back 86 = .ok (.putfield 68, 3) := by decide +kernel
theorem d_MO_back_89 : decode b_MO_back 89 = .ok (.aload_n 0, 1) := by decide +kernel
theorem d_MO_back_90 : decode b_MO_back 90 = .ok (.getfield 68, 3) := by decide +kernel
theorem d_MO_back_93 : decode b_MO_back 93 = .ok (.ifCond .le 5, 3) := by decide +kernel
theorem d_MO_back_96 : decode b_MO_back 96 = .ok (.iconst 0, 1) := by decide +kernel
theorem d_MO_back_97 : decode b_MO_back 97 = .ok (.ireturn, 1) := by decide +kernel
theorem d_MO_back_98 : decode b_MO_back 98 = .ok (.aload_n 0, 1) := by decide +kernel
theorem d_MO_back_99 : decode b_MO_back 99 = .ok (.getfield 28, 3) := by decide +kernel
theorem d_MO_back_102 : decode b_MO_back 102 = .ok (.iload_n 1, 1) := by decide +kernel
theorem d_MO_back_103 : decode b_MO_back 103 = .ok (.bipush 6, 2) := by decide +kernel
theorem d_MO_back_105 : decode b_MO_back 105 = .ok (.iastore, 1) := by decide +kernel
theorem d_MO_back_106 : decode b_MO_back 106 = .ok (.aload_n 0, 1) := by decide +kernel
theorem d_MO_back_107 : decode b_MO_back 107 = .ok (.aload_n 0, 1) := by decide +kernel
theorem d_MO_back_108 : decode b_MO_back 108 = .ok (.getfield 44, 3) := by decide +kernel
theorem d_MO_back_111 : decode b_MO_back 111 = .ok (.iload_n 1, 1) := by decide +kernel
theorem d_MO_back_112 : decode b_MO_back 112 = .ok (.iaload, 1) := by decide +kernel
theorem d_MO_back_113 : decode b_MO_back 113 = .ok (.invokevirtual 103, 3) := by decide +kernel
theorem d_MO_back_116 : decode b_MO_back 116 = .ok (.ireturn, 1) := by decide +kernel
theorem d_MO_backs_0 : decode b_MO_backs 0 = .ok (.iconst 0, 1) := by decide +kernel
theorem d_MO_backs_1 : decode b_MO_backs 1 = .ok (.istore_n 2, 1) := by decide +kernel
theorem d_MO_backs_2 : decode b_MO_backs 2 = .ok (.iconst 1, 1) := by decide +kernel
theorem d_MO_backs_3 : decode b_MO_backs 3 = .ok (.istore_n 3, 1) := by decide +kernel
theorem d_MO_backs_4 : decode b_MO_backs 4 = .ok (.iload_n 3, 1) := by decide +kernel
theorem d_MO_backs_5 : decode b_MO_backs 5 = .ok (.aload_n 0, 1) := by decide +kernel
theorem d_MO_backs_6 : decode b_MO_backs 6 = .ok (.getfield 79, 3) := by decide +kernel
theorem d_MO_backs_9 : decode b_MO_backs 9 = .ok (.if_icmp .gt 38, 3) := by decide +kernel
theorem d_MO_backs_12 : decode b_MO_backs 12 = .ok (.iload_n 2, 1) := by decide +kernel
theorem d_MO_backs_13 : decode b_MO_backs 13 = .ok (.aload_n 0, 1) := by decide +kernel
theorem d_MO_backs_14 : decode b_MO_backs 14 = .ok (.getfield 28, 3) := by decide +kernel
theorem d_MO_backs_17 : decode b_MO_backs 17 = .ok (.iload_n 3, 1) := by decide +kernel
theorem d_MO_backs_18 : decode b_MO_backs 18 = .ok (.iaload, 1) := by decide +kernel
theorem d_MO_backs_19 : decode b_MO_backs 19 = .ok (.bipush 6, 2) := by decide +kernel
theorem d_MO_backs_21 : decode b_MO_backs 21 = .ok (.if_icmp .ne 17, 3) := by decide +kernel
theorem d_MO_backs_24 : decode b_MO_backs 24 = .ok (.aload_n 0, 1) := by decide +kernel
theorem d_MO_backs_25 : decode b_MO_backs 25 = .ok (.getfield 44, 3) := by decide +kernel
theorem d_MO_backs_28 : decode b_MO_backs 28 = .ok (.iload_n 3, 1) := by decide +kernel
theorem d_MO_backs_29 : decode b_MO_backs 29 = .ok (.iaload, 1) := by decide +kernel
theorem d_MO_backs_30 : decode b_MO_backs 30 = .ok (.iload_n 1, 1) := by decide +kernel
theorem d_MO_backs_31 : decode b_MO_backs 31 = .ok (.if_icmp .ne 7, 3) := by decide +kernel
theorem d_MO_backs_34 : decode b_MO_backs 34 = .ok (.iconst 1, 1) := by decide +kernel
theorem d_MO_backs_35 : decode b_MO_backs 35 = .ok (.goto 4, 3) := by decide +kernel
theorem d_MO_backs_38 : decode b_MO_backs 38 = .ok (.iconst 0, 1) := by decide +kernel
theorem d_MO_backs_39 : decode b_MO_backs 39 = .ok (.iadd, 1) := by decide +kernel
theorem d_MO_backs_40 : decode b_MO_backs 40 = .ok (.istore_n 2, 1) := by decide +kernel
theorem d_MO_backs_41 : decode b_MO_backs 41 = .ok (.iinc 3 1, 3) := by decide +kernel
theorem d_MO_backs_44 : decode b_MO_backs 44 = .ok (.goto (-40), 3) := by decide +kernel
theorem d_MO_backs_47 : decode b_MO_backs 47 = .ok (.iload_n 2, 1) := by decide +kernel
theorem d_MO_backs_48 : decode b_MO_backs 48 = .ok (.ireturn, 1) := by decide +kernel
theorem d_MO_check_0 : decode b_MO_check 0 = .ok (.aload_n 0, 1) := by decide +kernel
theorem d_MO_check_1 : decode b_MO_check 1 = .ok (.aload_n 0, 1) := by decide +kernel
theorem d_MO_check_2 : decode b_MO_check 2 = .ok (.iload_n 1, 1) := by decide +kernel
theorem d_MO_check_3 : decode b_MO_check 3 = .ok (.invokevirtual 93, 3) := by decide +kernel
theorem d_MO_check_6 : decode b_MO_check 6 = .ok (.ifCond .ne 7, 3) := by decide +kernel
theorem d_MO_check_9 : decode b_MO_check 9 = .ok (.iconst 1, 1) := by decide +kernel
theorem d_MO_check_10 : decode b_MO_check 10 = .ok (.goto 17, 3) := by decide +kernel
theorem d_MO_check_13 : decode b_MO_check 13 = .ok (.iload_n 2, 1) := by decide +kernel
theorem d_MO_check_14 : decode b_MO_check 14 = .ok (.iconst 0, 1) := by decide +kernel
theorem d_MO_check_15 : decode b_MO_check 15 = .ok (.iconst 4, 1) := by decide +kernel
theorem d_MO_check_16 : decode b_MO_check 16 = .ok (.invokestatic 75, 3) := by decide +kernel
theorem d_MO_check_19 : decode b_MO_check 19 = .ok (.ifCond .ne 7, 3) := by decide +kernel
theorem d_MO_check_22 : decode b_MO_check 22 = .ok (.iconst 2, 1) := by decide +kernel
theorem d_MO_check_23 : decode b_MO_check 23 = .ok (.goto 4, 3) := by decide +kernel
theorem d_MO_check_26 : decode b_MO_check 26 = .ok (.iconst 0, 1) := by decide +kernel
theorem d_MO_check_27 : decode b_MO_check 27 = .ok (.putfield 68, 3) := by decide +kernel
theorem d_MO_check_30 : decode b_MO_check 30 = .ok (.aload_n 0, 1) := by decide +kernel
theorem d_MO_check_31 : decode b_MO_check 31 = .ok (.getfield 68, 3) := by decide +kernel
theorem d_MO_check_34 : decode b_MO_check 34 = .ok (.ifCond .ne 22, 3) := by decide +kernel
theorem d_MO_check_37 : decode b_MO_check 37 = .ok (.aload_n 0, 1) := by decide +kernel
theorem d_MO_check_38 : decode b_MO_check 38 = .ok (.aload_n 0, 1) := by decide +kernel
theorem d_MO_check_39 : decode b_MO_check 39 = .ok (.getfield 28, 3) := by decide +kernel
theorem d_MO_check_42 : decode b_MO_check 42 = .ok (.iload_n 1, 1) := by decide +kernel
theorem d_MO_check_43 : decode b_MO_check 43 = .ok (.iaload, 1) := by decide +kernel
theorem d_MO_check_44 : decode b_MO_check 44 = .ok (.iconst 2, 1) := by decide +kernel
theorem d_MO_check_45 : decode b_MO_check 45 = .ok (.if_icmp .eq 7, 3) := by decide +kernel
theorem d_MO_check_48 : decode b_MO_check 48 = .ok (.iconst 3, 1) := by decide +kernel
theorem d_MO_check_49 : decode b_MO_check 49 = .ok (.goto 4, 3) := by decide +kernel
theorem d_MO_check_52 : decode b_MO_check 52 = .ok (.iconst 0, 1) := by decide +kernel
theorem d_MO_check_53 : decode b_MO_check 53 = .ok (.putfield 68, 3) := by decide +kernel
theorem d_MO_check_56 : decode b_MO_check 56 = .ok (.aload_n 0, 1) := by decide +kernel
theorem d_MO_check_57 : decode b_MO_check 57 = .ok (.getfield 68, 3) := by decide +kernel
theorem d_MO_check_60 : decode b_MO_check 60 = .ok (.ifCond .le 5, 3) := by decide +kernel
theorem d_MO_check_63 : decode b_MO_check 63 = .ok (.iconst 0, 1) := by decide +kernel
theorem d_MO_check_64 : decode b_MO_check 64 = .ok (.ireturn, 1) := by decide +kernel
theorem d_MO_check_65 : decode b_MO_check 65 = .ok (.aload_n 0, 1) := by decide +kernel
theorem d_MO_check_66 : decode b_MO_check 66 = .ok (.getfield 53, 3) := by decide +kernel
theorem d_MO_check_69 : decode b_MO_check 69 = .ok (.iload_n 1, 1) := by decide +kernel
theorem d_MO_check_70 : decode b_MO_check 70 = .ok (.iload_n 3, 1) := by decide +kernel
theorem d_MO_check_71 : decode b_MO_check 71 = .ok (.ifCond .eq 18, 3) := by decide +kernel
theorem d_MO_check_74 : decode b_MO_check 74 = .ok (.aload_n 0, 1) := by decide +kernel
theorem d_MO_check_75 : decode b_MO_check 75 = .ok (.getfield 53, 3) := by decide +kernel
theorem d_MO_check_78 : decode b_MO_check 78 = .ok (.iload_n 1, 1) := by decide +kernel
theorem d_MO_check_79 : decode b_MO_check 79 = .ok (.iaload, 1) := by decide +kernel
theorem d_MO_check_80 : decode b_MO_check 80 = .ok (.iconst 1, 1) := by decide +kernel
theorem d_MO_check_81 : decode b_MO_check 81 = .ok (.iload_n 2, 1) := by decide +kernel
theorem d_MO_check_82 : decode b_MO_check 82 = .ok (.ishl, 1) := by decide +kernel
theorem d_MO_check_83 : decode b_MO_check 83 = .ok (.iconst (-1), 1) := by decide +kernel
theorem d_MO_check_84 : decode b_MO_check 84 = .ok (.ixor, 1) := by decide +kernel
theorem d_MO_check_85 : decode b_MO_check 85 = .ok (.iand, 1) := by decide +kernel
theorem d_MO_check_86 : decode b_MO_check 86 = .ok (.goto 13, 3) := by decide +kernel
theorem d_MO_check_89 : decode b_MO_check 89 = .ok (.aload_n 0, 1) := by decide +kernel
theorem d_MO_check_90 : decode b_MO_check 90 = .ok (.getfield 53, 3) := by decide +kernel
theorem d_MO_check_93 : decode b_MO_check 93 = .ok (.iload_n 1, 1) := by decide +kernel
theorem d_MO_check_94 : decode b_MO_check 94 = .ok (.iaload, 1) := by decide +kernel
theorem d_MO_check_95 : decode b_MO_check 95 = .ok (.iconst 1, 1) := by decide +kernel
theorem d_MO_check_96 : decode b_MO_check 96 = .ok (.iload_n 2, 1) := by decide +kernel
theorem d_MO_check_97 : decode b_MO_check 97 = .ok (.ishl, 1) := by decide +kernel
theorem d_MO_check_98 : decode b_MO_check 98 = .ok (.ior, 1) := by decide +kernel
theorem d_MO_check_99 : decode b_MO_check 99 = .ok (.iastore, 1) := by decide +kernel
theorem d_MO_check_100 : decode b_MO_check 100 = .ok (.iconst 0, 1) := by decide +kernel
theorem d_MO_check_101 : decode b_MO_check 101 = .ok (.istore 4, 2) := by decide +kernel
theorem d_MO_check_103 : decode b_MO_check 103 = .ok (.iconst 0, 1) := by decide +kernel
theorem d_MO_check_104 : decode b_MO_check 104 = .ok (.istore 5, 2) := by decide +kernel
theorem d_MO_check_106 : decode b_MO_check 106 = .ok (.iload 5, 2) := by decide +kernel
theorem d_MO_check_108 : decode b_MO_check 108 = .ok (.iconst 5, 1) := by decide +kernel
theorem d_MO_check_109 : decode b_MO_check 109 = .ok (.if_icmp .ge 25, 3) := by decide +kernel
theorem d_MO_check_112 : decode b_MO_check 112 = .ok (.iload 4, 2) := by decide +kernel
theorem d_MO_check_114 : decode b_MO_check 114 = .ok (.aload_n 0, 1) := by decide +kernel
theorem d_MO_check_115 : decode b_MO_check 115 = .ok (.getfield 53, 3) := by decide +kernel
theorem d_MO_check_118 : decode b_MO_check 118 = .ok (.iload_n 1, 1) := by decide +kernel
theorem d_MO_check_119 : decode b_MO_check 119 = .ok (.iaload, 1) := by decide +kernel
theorem d_MO_check_120 : decode b_MO_check 120 = .ok (.iload 5, 2) := by decide +kernel
theorem d_MO_check_122 : decode b_MO_check 122 = .ok (.ishr, 1) := by decide +kernel
theorem d_MO_check_123 : decode b_MO_check 123 = .ok (.iconst 1, 1) := by decide +kernel
theorem d_MO_check_124 : decode b_MO_check 124 = .ok (.iand, 1) := by decide +kernel
theorem d_MO_check_125 : decode b_MO_check 125 = .ok (.iadd, 1) := by decide +kernel
theorem d_MO_check_126 : decode b_MO_check 126 = .ok (.istore 4, 2) := by decide +kernel
theorem d_MO_check_128 : decode b_MO_check 128 = .ok (.iinc 5 1, 3) := by decide +kernel
theorem d_MO_check_131 : decode b_MO_check 131 = .ok (.goto (-25), 3) := by decide +kernel
theorem d_MO_check_134 : decode b_MO_check 134 = .ok (.iload 4, 2) := by decide +kernel
theorem d_MO_check_136 : decode b_MO_check 136 = .ok (.ireturn, 1) := by decide +kernel
theorem d_MO_comes_0 : decode b_MO_comes 0 = .ok (.aload_n 0, 1) := by decide +kernel
theorem d_MO_comes_1 : decode b_MO_comes 1 = .ok (.aload_n 0, 1) := by decide +kernel
theorem d_MO_comes_2 : decode b_MO_comes 2 = .ok (.iload_n 1, 1) := by decide +kernel
theorem d_MO_comes_3 : decode b_MO_comes 3 = .ok (.invokevirtual 86, 3) := by decide +kernel
theorem d_MO_comes_6 : decode b_MO_comes 6 = .ok (.ifCond .ne 7, 3) := by decide +kernel
theorem d_MO_comes_9 : decode b_MO_comes 9 = .ok (.iconst 1, 1) := by decide +kernel
theorem d_MO_comes_10 : decode b_MO_comes 10 = .ok (.goto 18, 3) := by decide +kernel
theorem d_MO_comes_13 : decode b_MO_comes 13 = .ok (.iload_n 2, 1) := by decide +kernel
theorem d_MO_comes_14 : decode b_MO_comes 14 = .ok (.iconst 0, 1) := by decide +kernel
theorem d_MO_comes_15 : decode b_MO_comes 15 = .ok (.bipush 7, 2) := by decide +kernel
theorem d_MO_comes_17 : decode b_MO_comes 17 = .ok (.invokestatic 75, 3) := by decide +kernel
theorem d_MO_comes_20 : decode b_MO_comes 20 = .ok (.ifCond .ne 7, 3) := by decide +kernel
theorem d_MO_comes_23 : decode b_MO_comes 23 = .ok (.iconst 2, 1) := by decide +kernel
theorem d_MO_comes_24 : decode b_MO_comes 24 = .ok (.goto 4, 3) := by decide +kernel
theorem d_MO_comes_27 : decode b_MO_comes 27 = .ok (.iconst 0, 1) := by decide +kernel
theorem d_MO_comes_28 : decode b_MO_comes 28 = .ok (.putfield 68, 3) := by decide +kernel
theorem d_MO_comes_31 : decode b_MO_comes 31 = .ok (.aload_n 0, 1) := by decide +kernel
theorem d_MO_comes_32 : decode b_MO_comes 32 = .ok (.getfield 68, 3) := by decide +kernel
theorem d_MO_comes_35 : decode b_MO_comes 35 = .ok (.ifCond .ne 33, 3) := by decide +kernel
theorem d_MO_comes_38 : decode b_MO_comes 38 = .ok (.aload_n 0, 1) := by decide +kernel
theorem d_MO_comes_39 : decode b_MO_comes 39 = .ok (.aload_n 0, 1) := by decide +kernel
theorem d_MO_comes_40 : decode b_MO_comes 40 = .ok (.iload_n 1, 1) := by decide +kernel
theorem d_MO_comes_41 : decode b_MO_comes 41 = .ok (.invokevirtual 90, 3) := by decide +kernel
theorem d_MO_comes_44 : decode b_MO_comes 44 = .ok (.ifCond .eq 7, 3) := by decide +kernel
theorem d_MO_comes_47 : decode b_MO_comes 47 = .ok (.iconst 3, 1) := by decide +kernel
theorem d_MO_comes_48 : decode b_MO_comes 48 = .ok (.goto 17, 3) := by decide +kernel
theorem d_MO_comes_51 : decode b_MO_comes 51 = .ok (.aload_n 0, 1) := by decide +kernel
theorem d_MO_comes_52 : decode b_MO_comes 52 = .ok (.getfield 79, 3) := by decide +kernel
theorem d_MO_comes_55 : decode b_MO_comes 55 = .ok (.bipush 20, 2) := by decide +kernel
theorem d_MO_comes_57 : decode b_MO_comes 57 = .ok (.if_icmp .ne 7, 3) := by decide +kernel
theorem d_MO_comes_60 : decode b_MO_comes 60 = .ok (.iconst 4, 1) := by decide +kernel
theorem d_MO_comes_61 : decode b_MO_comes 61 = .ok (.goto 4, 3) := by decide +kernel
theorem d_MO_comes_64 : decode b_MO_comes 64 = .ok (.iconst 0, 1) := by decide +kernel
theorem d_MO_comes_65 : decode b_MO_comes 65 = .ok (.putfield 68, 3) := by decide +kernel
theorem d_MO_comes_68 : decode b_MO_comes 68 = .ok (.aload_n 0, 1) := by decide +kernel
theorem d_MO_comes_69 : decode b_MO_comes 69 = .ok (.getfield 68, 3) := by decide +kernel
theorem d_MO_comes_72 : decode b_MO_comes 72 = .ok (.ifCond .le 5, 3) := by decide +kernel
theorem d_MO_comes_75 : decode b_MO_comes 75 = .ok (.iconst 0, 1) := by decide +kernel
theorem d_MO_comes_76 : decode b_MO_comes 76 = .ok (.ireturn, 1) := by decide +kernel
theorem d_MO_comes_77 : decode b_MO_comes 77 = .ok (.aload_n 0, 1) := by decide +kernel
theorem d_MO_comes_78 : decode b_MO_comes 78 = .ok (.dup, 1) := by decide +kernel
theorem d_MO_comes_79 : decode b_MO_comes 79 = .ok (.getfield 79, 3) := by decide +kernel
theorem d_MO_comes_82 : decode b_MO_comes 82 = .ok (.iconst 1, 1) := by decide +kernel
theorem d_MO_comes_83 : decode b_MO_comes 83 = .ok (.iadd, 1) := by decide +kernel
theorem d_MO_comes_84 : decode b_MO_comes 84 = .ok (.putfield 79, 3) := by decide +kernel
theorem d_MO_comes_87 : decode b_MO_comes 87 = .ok (.aload_n 0, 1) := by decide +kernel
theorem d_MO_comes_88 : decode b_MO_comes 88 = .ok (.getfield 22, 3) := by decide +kernel
theorem d_MO_comes_91 : decode b_MO_comes 91 = .ok (.aload_n 0, 1) := by decide +kernel
theorem d_MO_comes_92 : decode b_MO_comes 92 = .ok (.getfield 79, 3) := by decide +kernel
theorem d_MO_comes_95 : decode b_MO_comes 95 = .ok (.iload_n 1, 1) := by decide +kernel
theorem d_MO_comes_96 : decode b_MO_comes 96 = .ok (.iastore, 1) := by decide +kernel
theorem d_MO_comes_97 : decode b_MO_comes 97 = .ok (.aload_n 0, 1) := by decide +kernel
theorem d_MO_comes_98 : decode b_MO_comes 98 = .ok (.getfield 25, 3) := by decide +kernel
theorem d_MO_comes_101 : decode b_MO_comes 101 = .ok (.aload_n 0, 1) := by decide +kernel
theorem d_MO_comes_102 : decode b_MO_comes 102 = .ok (.getfield 79, 3) := by decide +kernel
theorem d_MO_comes_105 : decode b_MO_comes 105 = .ok (.iload_n 2, 1) := by decide +kernel
theorem d_MO_comes_106 : decode b_MO_comes 106 = .ok (.iastore, 1) := by decide +kernel
theorem d_MO_comes_107 : decode b_MO_comes 107 = .ok (.aload_n 0, 1) := by decide +kernel
theorem d_MO_comes_108 : decode b_MO_comes 108 = .ok (.getfield 28, 3) := by decide +kernel
theorem d_MO_comes_111 : decode b_MO_comes 111 = .ok (.aload_n 0, 1) := by decide +kernel
theorem d_MO_comes_112 : decode b_MO_comes 112 = .ok (.getfield 79, 3) := by decide +kernel
theorem d_MO_comes_115 : decode b_MO_comes 115 = .ok (.iload_n 3, 1) := by decide +kernel
theorem d_MO_comes_116 : decode b_MO_comes 116 = .ok (.ifCond .eq 7, 3) := by decide +kernel
theorem d_MO_comes_119 : decode b_MO_comes 119 = .ok (.iconst 0, 1) := by decide +kernel
theorem d_MO_comes_120 : decode b_MO_comes 120 = .ok (.goto 4, 3) := by decide +kernel
theorem d_MO_comes_123 : decode b_MO_comes 123 = .ok (.iconst 1, 1) := by decide +kernel
theorem d_MO_comes_124 : decode b_MO_comes 124 = .ok (.iastore, 1) := by decide +kernel
theorem d_MO_comes_125 : decode b_MO_comes 125 = .ok (.aload_n 0, 1) := by decide +kernel
theorem d_MO_comes_126 : decode b_MO_comes 126 = .ok (.getfield 31, 3) := by decide +kernel
theorem d_MO_comes_129 : decode b_MO_comes 129 = .ok (.aload_n 0, 1) := by decide +kernel
theorem d_MO_comes_130 : decode b_MO_comes 130 = .ok (.getfield 79, 3) := by decide +kernel
theorem d_MO_comes_133 : decode b_MO_comes 133 = .ok (.aload_n 0, 1) := by decide +kernel
theorem d_MO_comes_134 : decode b_MO_comes 134 = .ok (.getfield 82, 3) := by decide +kernel
theorem d_MO_comes_137 : decode b_MO_comes 137 = .ok (.iastore, 1) := by decide +kernel
theorem d_MO_comes_138 : decode b_MO_comes 138 = .ok (.aload_n 0, 1) := by decide +kernel
theorem d_MO_comes_139 : decode b_MO_comes 139 = .ok (.getfield 34, 3) := by decide +kernel
theorem d_MO_comes_142 : decode b_MO_comes 142 = .ok (.aload_n 0, 1) := by decide +kernel
theorem d_MO_comes_143 : decode b_MO_comes 143 = .ok (.getfield 79, 3) := by decide +kernel
theorem d_MO_comes_146 : decode b_MO_comes 146 = .ok (.iconst (-1), 1) := by decide +kernel
theorem d_MO_comes_147 : decode b_MO_comes 147 = .ok (.iastore, 1) := by decide +kernel
theorem d_MO_comes_148 : decode b_MO_comes 148 = .ok (.aload_n 0, 1) := by decide +kernel
theorem d_MO_comes_149 : decode b_MO_comes 149 = .ok (.getfield 44, 3) := by decide +kernel
theorem d_MO_comes_152 : decode b_MO_comes 152 = .ok (.aload_n 0, 1) := by decide +kernel
theorem d_MO_comes_153 : decode b_MO_comes 153 = .ok (.getfield 79, 3) := by decide +kernel
theorem d_MO_comes_156 : decode b_MO_comes 156 = .ok (.iconst (-1), 1) := by decide +kernel
theorem d_MO_comes_157 : decode b_MO_comes 157 = .ok (.iastore, 1) := by decide +kernel
theorem d_MO_comes_158 : decode b_MO_comes 158 = .ok (.aload_n 0, 1) := by decide +kernel
theorem d_MO_comes_159 : decode b_MO_comes 159 = .ok (.getfield 47, 3) := by decide +kernel
theorem d_MO_comes_162 : decode b_MO_comes 162 = .ok (.aload_n 0, 1) := by decide +kernel
theorem d_MO_comes_163 : decode b_MO_comes 163 = .ok (.getfield 79, 3) := by decide +kernel
theorem d_MO_comes_166 : decode b_MO_comes 166 = .ok (.iconst (-1), 1) := by decide +kernel
theorem d_MO_comes_167 : decode b_MO_comes 167 = .ok (.iastore, 1) := by decide +kernel
theorem d_MO_comes_168 : decode b_MO_comes 168 = .ok (.aload_n 0, 1) := by decide +kernel
theorem d_MO_comes_169 : decode b_MO_comes 169 = .ok (.getfield 50, 3) := by decide +kernel
theorem d_MO_comes_172 : decode b_MO_comes 172 = .ok (.aload_n 0, 1) := by decide +kernel
theorem d_MO_comes_173 : decode b_MO_comes 173 = .ok (.getfield 79, 3) := by decide +kernel
theorem d_MO_comes_176 : decode b_MO_comes 176 = .ok (.iconst (-1), 1) := by decide +kernel
theorem d_MO_comes_177 : decode b_MO_comes 177 = .ok (.iastore, 1) := by decide +kernel
theorem d_MO_comes_178 : decode b_MO_comes 178 = .ok (.aload_n 0, 1) := by decide +kernel
theorem d_MO_comes_179 : decode b_MO_comes 179 = .ok (.getfield 79, 3) := by decide +kernel
theorem d_MO_comes_182 : decode b_MO_comes 182 = .ok (.ireturn, 1) := by decide +kernel
theorem d_MO_count_0 : decode b_MO_count 0 = .ok (.aload_n 0, 1) := by decide +kernel
theorem d_MO_count_1 : decode b_MO_count 1 = .ok (.iconst 0, 1) := by decide +kernel
theorem d_MO_count_2 : decode b_MO_count 2 = .ok (.putfield 68, 3) := by decide +kernel
theorem d_MO_count_5 : decode b_MO_count 5 = .ok (.iload_n 1, 1) := by decide +kernel
theorem d_MO_count_6 : decode b_MO_count 6 = .ok (.ifCond .ne 8, 3) := by decide +kernel
theorem d_MO_count_9 : decode b_MO_count 9 = .ok (.aload_n 0, 1) := by decide +kernel
theorem d_MO_count_10 : decode b_MO_count 10 = .ok (.getfield 72, 3) := by decide +kernel
theorem d_MO_count_13 : decode b_MO_count 13 = .ok (.ireturn, 1) := by decide +kernel
theorem d_MO_count_14 : decode b_MO_count 14 = .ok (.iload_n 1, 1) := by decide +kernel
theorem d_MO_count_15 : decode b_MO_count 15 = .ok (.iconst 1, 1) := by decide +kernel
theorem d_MO_count_16 : decode b_MO_count 16 = .ok (.if_icmp .ne 8, 3) := by decide +kernel
theorem d_MO_count_19 : decode b_MO_count 19 = .ok (.aload_n 0, 1) := by decide +kernel
theorem d_MO_count_20 : decode b_MO_count 20 = .ok (.getfield 79, 3) := by decide +kernel
theorem d_MO_count_23 : decode b_MO_count 23 = .ok (.ireturn, 1) := by decide +kernel
theorem d_MO_count_24 : decode b_MO_count 24 = .ok (.iload_n 1, 1) := by decide +kernel
theorem d_MO_count_25 : decode b_MO_count 25 = .ok (.iconst 2, 1) := by decide +kernel
theorem d_MO_count_26 : decode b_MO_count 26 = .ok (.if_icmp .ne 8, 3) := by decide +kernel
theorem d_MO_count_29 : decode b_MO_count 29 = .ok (.aload_n 0, 1) := by decide +kernel
theorem d_MO_count_30 : decode b_MO_count 30 = .ok (.getfield 82, 3) := by decide +kernel
theorem d_MO_count_33 : decode b_MO_count 33 = .ok (.ireturn, 1) := by decide +kernel
theorem d_MO_count_34 : decode b_MO_count 34 = .ok (.iload_n 1, 1) := by decide +kernel
theorem d_MO_count_35 : decode b_MO_count 35 = .ok (.iconst 4, 1) := by decide +kernel
theorem d_MO_count_36 : decode b_MO_count 36 = .ok (.bipush 6, 2) := by decide +kernel
theorem d_MO_count_38 : decode b_MO_count 38 = .ok (.invokestatic 75, 3) := by decide +kernel
theorem d_MO_count_41 : decode b_MO_count 41 = .ok (.ifCond .eq 11, 3) := by decide +kernel
theorem d_MO_count_44 : decode b_MO_count 44 = .ok (.aload_n 0, 1) := by decide +kernel
theorem d_MO_count_45 : decode b_MO_count 45 = .ok (.iload_n 1, 1) := by decide +kernel
theorem d_MO_count_46 : decode b_MO_count 46 = .ok (.iconst 4, 1) := by decide +kernel
theorem d_MO_count_47 : decode b_MO_count 47 = .ok (.isub, 1) := by decide +kernel
theorem d_MO_count_48 : decode b_MO_count 48 = .ok (.invokevirtual 103, 3) := by decide +kernel
theorem d_MO_count_51 : decode b_MO_count 51 = .ok (.ireturn, 1) := by decide +kernel
theorem d_MO_count_52 : decode b_MO_count 52 = .ok (.iconst 0, 1) := by decide +kernel
theorem d_MO_count_53 : decode b_MO_count 53 = .ok (.istore_n 2, 1) := by decide +kernel
theorem d_MO_count_54 : decode b_MO_count 54 = .ok (.iconst 1, 1) := by decide +kernel
theorem d_MO_count_55 : decode b_MO_count 55 = .ok (.istore_n 3, 1) := by decide +kernel
theorem d_MO_count_56 : decode b_MO_count 56 = .ok (.iload_n 3, 1) := by decide +kernel
theorem d_MO_count_57 : decode b_MO_count 57 = .ok (.aload_n 0, 1) := by decide +kernel
theorem d_MO_count_58 : decode b_MO_count 58 = .ok (.getfield 79, 3) := by decide +kernel
theorem d_MO_count_61 : decode b_MO_count 61 = .ok (.if_icmp .gt 50, 3) := by decide +kernel
theorem d_MO_count_64 : decode b_MO_count 64 = .ok (.iload_n 2, 1) := by decide +kernel
theorem d_MO_count_65 : decode b_MO_count 65 = .ok (.iload_n 1, 1) := by decide +kernel
theorem d_MO_count_66 : decode b_MO_count 66 = .ok (.iconst 3, 1) := by decide +kernel
theorem d_MO_count_67 : decode b_MO_count 67 = .ok (.if_icmp .ne 20, 3) := by decide +kernel
theorem d_MO_count_70 : decode b_MO_count 70 = .ok (.aload_n 0, 1) := by decide +kernel
theorem d_MO_count_71 : decode b_MO_count 71 = .ok (.getfield 37, 3) := by decide +kernel
theorem d_MO_count_74 : decode b_MO_count 74 = .ok (.iload_n 3, 1) := by decide +kernel
theorem d_MO_count_75 : decode b_MO_count 75 = .ok (.baload, 1) := by decide +kernel
theorem d_MO_count_76 : decode b_MO_count 76 = .ok (.ifCond .eq 7, 3) := by decide +kernel
theorem d_MO_count_79 : decode b_MO_count 79 = .ok (.iconst 1, 1) := by decide +kernel
theorem d_MO_count_80 : decode b_MO_count 80 = .ok (.goto 23, 3) := by decide +kernel
theorem d_MO_count_83 : decode b_MO_count 83 = .ok (.iconst 0, 1) := by decide +kernel
theorem d_MO_count_84 : decode b_MO_count 84 = .ok (.goto 19, 3) := by decide +kernel
theorem d_MO_count_87 : decode b_MO_count 87 = .ok (.iload_n 1, 1) := by decide +kernel
theorem d_MO_count_88 : decode b_MO_count 88 = .ok (.bipush 7, 2) := by decide +kernel
theorem d_MO_count_90 : decode b_MO_count 90 = .ok (.if_icmp .ne 12, 3) := by decide +kernel
theorem d_MO_count_93 : decode b_MO_count 93 = .ok (.aload_n 0, 1) := by decide +kernel
theorem d_MO_count_94 : decode b_MO_count 94 = .ok (.getfield 62, 3) := by decide +kernel
theorem d_MO_count_97 : decode b_MO_count 97 = .ok (.iload_n 3, 1) := by decide +kernel
theorem d_MO_count_98 : decode b_MO_count 98 = .ok (.iaload, 1) := by decide +kernel
theorem d_MO_count_99 : decode b_MO_count 99 = .ok (.goto 4, 3) := by decide +kernel
theorem d_MO_count_102 : decode b_MO_count 102 = .ok (.iconst 0, 1) := by decide +kernel
theorem d_MO_count_103 : decode b_MO_count 103 = .ok (.iadd, 1) := by decide +kernel
theorem d_MO_count_104 : decode b_MO_count 104 = .ok (.istore_n 2, 1) := by decide +kernel
theorem d_MO_count_105 : decode b_MO_count 105 = .ok (.iinc 3 1, 3) := by decide +kernel
theorem d_MO_count_108 : decode b_MO_count 108 = .ok (.goto (-52), 3) := by decide +kernel
theorem d_MO_count_111 : decode b_MO_count 111 = .ok (.iload_n 1, 1) := by decide +kernel
theorem d_MO_count_112 : decode b_MO_count 112 = .ok (.iconst 3, 1) := by decide +kernel
theorem d_MO_count_113 : decode b_MO_count 113 = .ok (.if_icmp .eq 9, 3) := by decide +kernel
theorem d_MO_count_116 : decode b_MO_count 116 = .ok (.iload_n 1, 1) := by decide +kernel
theorem d_MO_count_117 : decode b_MO_count 117 = .ok (.bipush 7, 2) := by decide +kernel
theorem d_MO_count_119 : decode b_MO_count 119 = .ok (.if_icmp .ne 7, 3) := by decide +kernel
theorem d_MO_count_122 : decode b_MO_count 122 = .ok (.iload_n 2, 1) := by decide +kernel
theorem d_MO_count_123 : decode b_MO_count 123 = .ok (.goto 4, 3) := by decide +kernel
theorem d_MO_count_126 : decode b_MO_count 126 = .ok (.iconst (-1), 1) := by decide +kernel
theorem d_MO_count_127 : decode b_MO_count 127 = .ok (.ireturn, 1) := by decide +kernel
theorem d_MO_customer_0 : decode b_MO_customer 0 = .ok (.aload_n 0, 1) := by decide +kernel
theorem d_MO_customer_1 : decode b_MO_customer 1 = .ok (.iload_n 1, 1) := by decide +kernel
theorem d_MO_customer_2 : decode b_MO_customer 2 = .ok (.iconst 0, 1) := by decide +kernel
theorem d_MO_customer_3 : decode b_MO_customer 3 = .ok (.iconst 5, 1) := by decide +kernel
theorem d_MO_customer_4 : decode b_MO_customer 4 = .ok (.invokestatic 75, 3) := by decide +kernel
theorem d_MO_customer_7 : decode b_MO_customer 7 = .ok (.ifCond .eq 12, 3) := by decide +kernel
theorem d_MO_customer_10 : decode b_MO_customer 10 = .ok (.iload_n 2, 1) := by decide +kernel
theorem d_MO_customer_11 : decode b_MO_customer 11 = .ok (.iconst 0, 1) := by decide +kernel
theorem d_MO_customer_12 : decode b_MO_customer 12 = .ok (.iconst 3, 1) := by decide +kernel
theorem d_MO_customer_13 : decode b_MO_customer 13 = .ok (.invokestatic 75, 3) := by decide +kernel
theorem d_MO_customer_16 : decode b_MO_customer 16 = .ok (.ifCond .ne 7, 3) := by decide +kernel
theorem d_MO_customer_19 : decode b_MO_customer 19 = .ok (.iconst 1, 1) := by decide +kernel
theorem d_MO_customer_20 : decode b_MO_customer 20 = .ok (.goto 4, 3) := by decide +kernel
theorem d_MO_customer_23 : decode b_MO_customer 23 = .ok (.iconst 0, 1) := by decide +kernel
theorem d_MO_customer_24 : decode b_MO_customer 24 = .ok (.putfield 68, 3) := by decide +kernel
theorem d_MO_customer_27 : decode b_MO_customer 27 = .ok (.aload_n 0, 1) := by decide +kernel
theorem d_MO_customer_28 : decode b_MO_customer 28 = .ok (.getfield 68, 3) := by decide +kernel
theorem d_MO_customer_31 : decode b_MO_customer 31 = .ok (.ifCond .le 5, 3) := by decide +kernel
theorem d_MO_customer_34 : decode b_MO_customer 34 = .ok (.iconst 0, 1) := by decide +kernel
theorem d_MO_customer_35 : decode b_MO_customer 35 = .ok (.ireturn, 1) := by decide +kernel
theorem d_MO_customer_36 : decode b_MO_customer 36 = .ok (.iconst 0, 1) := by decide +kernel
theorem d_MO_customer_37 : decode b_MO_customer 37 = .ok (.istore_n 3, 1) := by decide +kernel
theorem d_MO_customer_38 : decode b_MO_customer 38 = .ok (.iload_n 2, 1) := by decide +kernel
theorem d_MO_customer_39 : decode b_MO_customer 39 = .ok (.ifCond .ne 40, 3) := by decide +kernel
theorem d_MO_customer_42 : decode b_MO_customer 42 = .ok (.iconst 0, 1) := by decide +kernel
theorem d_MO_customer_43 : decode b_MO_customer 43 = .ok (.istore 4, 2) := by decide +kernel
theorem d_MO_customer_45 : decode b_MO_customer 45 = .ok (.iload 4, 2) := by decide +kernel
theorem d_MO_customer_47 : decode b_MO_customer 47 = .ok (.aload_n 0, 1) := by decide +kernel
theorem d_MO_customer_48 : decode b_MO_customer 48 = .ok (.getfield 72, 3) := by decide +kernel
theorem d_MO_customer_51 : decode b_MO_customer 51 = .ok (.if_icmp .ge 28, 3) := by decide +kernel
theorem d_MO_customer_54 : decode b_MO_customer 54 = .ok (.iload_n 3, 1) := by decide +kernel
theorem d_MO_customer_55 : decode b_MO_customer 55 = .ok (.aload_n 0, 1) := by decide +kernel
theorem d_MO_customer_56 : decode b_MO_customer 56 = .ok (.getfield 7, 3) := by decide +kernel
theorem d_MO_customer_59 : decode b_MO_customer 59 = .ok (.iload 4, 2) := by decide +kernel
theorem d_MO_customer_61 : decode b_MO_customer 61 = .ok (.iaload, 1) := by decide +kernel
theorem d_MO_customer_62 : decode b_MO_customer 62 = .ok (.iload_n 1, 1) := by decide +kernel
theorem d_MO_customer_63 : decode b_MO_customer 63 = .ok (.if_icmp .ne 7, 3) := by decide +kernel
theorem d_MO_customer_66 : decode b_MO_customer 66 = .ok (.iconst 1, 1) := by decide +kernel
theorem d_MO_customer_67 : decode b_MO_customer 67 = .ok (.goto 4, 3) := by decide +kernel
theorem d_MO_customer_70 : decode b_MO_customer 70 = .ok (.iconst 0, 1) := by decide +kernel
theorem d_MO_customer_71 : decode b_MO_customer 71 = .ok (.iadd, 1) := by decide +kernel
theorem d_MO_customer_72 : decode b_MO_customer 72 = .ok (.istore_n 3, 1) := by decide +kernel
theorem d_MO_customer_73 : decode b_MO_customer 73 = .ok (.iinc 4 1, 3) := by decide +kernel
theorem d_MO_customer_76 : decode b_MO_customer 76 = .ok (.goto (-31), 3) := by decide +kernel
theorem d_MO_customer_79 : decode b_MO_customer 79 = .ok (.iload_n 2, 1) := by decide +kernel
theorem d_MO_customer_80 : decode b_MO_customer 80 = .ok (.ifCond .ne 5, 3) := by decide +kernel
theorem d_MO_customer_83 : decode b_MO_customer 83 = .ok (.iload_n 3, 1) := by decide +kernel
theorem d_MO_customer_84 : decode b_MO_customer 84 = .ok (.ireturn, 1) := by decide +kernel
theorem d_MO_customer_85 : decode b_MO_customer 85 = .ok (.iload_n 2, 1) := by decide +kernel
theorem d_MO_customer_86 : decode b_MO_customer 86 = .ok (.iconst 3, 1) := by decide +kernel
theorem d_MO_customer_87 : decode b_MO_customer 87 = .ok (.if_icmp .ge 19, 3) := by decide +kernel
theorem d_MO_customer_90 : decode b_MO_customer 90 = .ok (.aload_n 0, 1) := by decide +kernel
theorem d_MO_customer_91 : decode b_MO_customer 91 = .ok (.iload_n 1, 1) := by decide +kernel
theorem d_MO_customer_92 : decode b_MO_customer 92 = .ok (.iload_n 2, 1) := by decide +kernel
theorem d_MO_customer_93 : decode b_MO_customer 93 = .ok (.iconst 2, 1) := by decide +kernel
theorem d_MO_customer_94 : decode b_MO_customer 94 = .ok (.if_icmp .ne 7, 3) := by decide +kernel
theorem d_MO_customer_97 : decode b_MO_customer 97 = .ok (.iconst 1, 1) := by decide +kernel
theorem d_MO_customer_98 : decode b_MO_customer 98 = .ok (.goto 4, 3) := by decide +kernel
theorem d_MO_customer_101 : decode b_MO_customer 101 = .ok (.iconst 0, 1) := by decide +kernel
theorem d_MO_customer_102 : decode b_MO_customer 102 = .ok (.invokevirtual 113, 3) := by decide +kernel
theorem d_MO_customer_105 : decode b_MO_customer 105 = .ok (.ireturn, 1) := by decide +kernel
theorem d_MO_customer_106 : decode b_MO_customer 106 = .ok (.iconst 1, 1) := by decide +kernel
theorem d_MO_customer_107 : decode b_MO_customer 107 = .ok (.istore 4, 2) := by decide +kernel
theorem d_MO_customer_109 : decode b_MO_customer 109 = .ok (.iload 4, 2) := by decide +kernel
theorem d_MO_customer_111 : decode b_MO_customer 111 = .ok (.aload_n 0, 1) := by decide +kernel
theorem d_MO_customer_112 : decode b_MO_customer 112 = .ok (.getfield 79, 3) := by decide +kernel
theorem d_MO_customer_115 : decode b_MO_customer 115 = .ok (.if_icmp .gt 50, 3) := by decide +kernel
theorem d_MO_customer_118 : decode b_MO_customer 118 = .ok (.iload_n 3, 1) := by decide +kernel
theorem d_MO_customer_119 : decode b_MO_customer 119 = .ok (.aload_n 0, 1) := by decide +kernel
theorem d_MO_customer_120 : decode b_MO_customer 120 = .ok (.getfield 7, 3) := by decide +kernel
theorem d_MO_customer_123 : decode b_MO_customer 123 = .ok (.aload_n 0, 1) := by decide +kernel
theorem d_MO_customer_124 : decode b_MO_customer 124 = .ok (.getfield 22, 3) := by decide +kernel
theorem d_MO_customer_127 : decode b_MO_customer 127 = .ok (.iload 4, 2) := by decide +kernel
theorem d_MO_customer_129 : decode b_MO_customer 129 = .ok (.iaload, 1) := by decide +kernel
theorem d_MO_customer_130 : decode b_MO_customer 130 = .ok (.iaload, 1) := by decide +kernel
theorem d_MO_customer_131 : decode b_MO_customer 131 = .ok (.iload_n 1, 1) := by decide +kernel
theorem d_MO_customer_132 : decode b_MO_customer 132 = .ok (.if_icmp .ne 24, 3) := by decide +kernel
theorem d_MO_customer_135 : decode b_MO_customer 135 = .ok (.aload_n 0, 1) := by decide +kernel
theorem d_MO_customer_136 : decode b_MO_customer 136 = .ok (.getfield 82, 3) := by decide +kernel
theorem d_MO_customer_139 : decode b_MO_customer 139 = .ok (.aload_n 0, 1) := by decide +kernel
theorem d_MO_customer_140 : decode b_MO_customer 140 = .ok (.getfield 31, 3) := by decide +kernel
theorem d_MO_customer_143 : decode b_MO_customer 143 = .ok (.iload 4, 2) := by decide +kernel
theorem d_MO_customer_145 : decode b_MO_customer 145 = .ok (.iaload, 1) := by decide +kernel
theorem d_MO_customer_146 : decode b_MO_customer 146 = .ok (.isub, 1) := by decide +kernel
theorem d_MO_customer_147 : decode b_MO_customer 147 = .ok (.bipush 30, 2) := by decide +kernel
theorem d_MO_customer_149 : decode b_MO_customer 149 = .ok (.if_icmp .gt 7, 3) := by decide +kernel
theorem d_MO_customer_152 : decode b_MO_customer 152 = .ok (.iconst 1, 1) := by decide +kernel
theorem d_MO_customer_153 : decode b_MO_customer 153 = .ok (.goto 4, 3) := by decide +kernel
theorem d_MO_customer_156 : decode b_MO_customer 156 = .ok (.iconst 0, 1) := by decide +kernel
theorem d_MO_customer_157 : decode b_MO_customer 157 = .ok (.iadd, 1) := by decide +kernel
theorem d_MO_customer_158 : decode b_MO_customer 158 = .ok (.istore_n 3, 1) := by decide +kernel
theorem d_MO_customer_159 : decode b_MO_customer 159 = .ok (.iinc 4 1, 3) := by decide +kernel
theorem d_MO_customer_162 : decode b_MO_customer 162 = .ok (.goto (-53), 3) := by decide +kernel
theorem d_MO_customer_165 : decode b_MO_customer 165 = .ok (.aload_n 0, 1) := by decide +kernel
theorem d_MO_customer_166 : decode b_MO_customer 166 = .ok (.iload_n 1, 1) := by decide +kernel
theorem d_MO_customer_167 : decode b_MO_customer 167 = .ok (.iconst 1, 1) := by decide +kernel
theorem d_MO_customer_168 : decode b_MO_customer 168 = .ok (.invokevirtual 113, 3) := by decide +kernel
theorem d_MO_customer_171 : decode b_MO_customer 171 = .ok (.iconst 1, 1) := by decide +kernel
theorem d_MO_customer_172 : decode b_MO_customer 172 = .ok (.if_icmp .gt 8, 3) := by decide +kernel
theorem d_MO_customer_175 : decode b_MO_customer 175 = .ok (.iload_n 3, 1) := by decide +kernel
theorem d_MO_customer_176 : decode b_MO_customer 176 = .ok (.iconst 3, 1) := by decide +kernel
theorem d_MO_customer_177 : decode b_MO_customer 177 = .ok (.if_icmp .le 7, 3) := by decide +kernel
theorem d_MO_customer_180 : decode b_MO_customer 180 = .ok (.iconst 1, 1) := by decide +kernel
theorem d_MO_customer_181 : decode b_MO_customer 181 = .ok (.goto 4, 3) := by decide +kernel
theorem d_MO_customer_184 : decode b_MO_customer 184 = .ok (.iconst 0, 1) := by decide +kernel
theorem d_MO_customer_185 : decode b_MO_customer 185 = .ok (.ireturn, 1) := by decide +kernel
theorem d_MO_day_0 : decode b_MO_day 0 = .ok (.aload_n 0, 1) := by decide +kernel
theorem d_MO_day_1 : decode b_MO_day 1 = .ok (.iload_n 1, 1) := by decide +kernel
theorem d_MO_day_2 : decode b_MO_day 2 = .ok (.aload_n 0, 1) := by decide +kernel
theorem d_MO_day_3 : decode b_MO_day 3 = .ok (.getfield 82, 3) := by decide +kernel
theorem d_MO_day_6 : decode b_MO_day 6 = .ok (.sipush 1000, 3) := by decide +kernel
theorem d_MO_day_9 : decode b_MO_day 9 = .ok (.invokestatic 75, 3) := by decide +kernel
theorem d_MO_day_12 : decode b_MO_day 12 = .ok (.ifCond .eq 7, 3) := by decide +kernel
theorem d_MO_day_15 : decode b_MO_day 15 = .ok (.iconst 0, 1) := by decide +kernel
theorem d_MO_day_16 : decode b_MO_day 16 = .ok (.goto 4, 3) := by decide +kernel
theorem d_MO_day_19 : decode b_MO_day 19 = .ok (.iconst 1, 1) := by decide +kernel
theorem d_MO_day_20 : decode b_MO_day 20 = .ok (.putfield 68, 3) := by decide +kernel
theorem d_MO_day_23 : decode b_MO_day 23 = .ok (.aload_n 0, 1) := by decide +kernel
theorem d_MO_day_24 : decode b_MO_day 24 = .ok (.getfield 68, 3) := by decide +kernel
theorem d_MO_day_27 : decode b_MO_day 27 = .ok (.ifCond .ne 8, 3) := by decide +kernel
theorem d_MO_day_30 : decode b_MO_day 30 = .ok (.aload_n 0, 1) := by decide +kernel
theorem d_MO_day_31 : decode b_MO_day 31 = .ok (.iload_n 1, 1) := by decide +kernel
theorem d_MO_day_32 : decode b_MO_day 32 = .ok (.putfield 82, 3) := by decide +kernel
theorem d_MO_day_35 : decode b_MO_day 35 = .ok (.return_, 1) := by decide +kernel
theorem d_MO_due_0 : decode b_MO_due 0 = .ok (.aload_n 0, 1) := by decide +kernel
theorem d_MO_due_1 : decode b_MO_due 1 = .ok (.aload_n 0, 1) := by decide +kernel
theorem d_MO_due_2 : decode b_MO_due 2 = .ok (.iload_n 1, 1) := by decide +kernel
theorem d_MO_due_3 : decode b_MO_due 3 = .ok (.invokevirtual 93, 3) := by decide +kernel
theorem d_MO_due_6 : decode b_MO_due 6 = .ok (.ifCond .eq 7, 3) := by decide +kernel
theorem d_MO_due_9 : decode b_MO_due 9 = .ok (.iconst 0, 1) := by decide +kernel
theorem d_MO_due_10 : decode b_MO_due 10 = .ok (.goto 4, 3) := by decide +kernel
theorem d_MO_due_13 : decode b_MO_due 13 = .ok (.iconst 1, 1) := by decide +kernel
theorem d_MO_due_14 : decode b_MO_due 14 = .ok (.putfield 68, 3) := by decide +kernel
theorem d_MO_due_17 : decode b_MO_due 17 = .ok (.aload_n 0, 1) := by decide +kernel
theorem d_MO_due_18 : decode b_MO_due 18 = .ok (.getfield 68, 3) := by decide +kernel
theorem d_MO_due_21 : decode b_MO_due 21 = .ok (.ifCond .le 7, 3) := by decide +kernel
theorem d_MO_due_24 : decode b_MO_due 24 = .ok (.iconst 0, 1) := by decide +kernel
theorem d_MO_due_25 : decode b_MO_due 25 = .ok (.goto 8, 3) := by decide +kernel
theorem d_MO_due_28 : decode b_MO_due 28 = .ok (.aload_n 0, 1) := by decide +kernel
theorem d_MO_due_29 : decode b_MO_due 29 = .ok (.iload_n 1, 1) := by decide +kernel
theorem d_MO_due_30 : decode b_MO_due 30 = .ok (.invokevirtual 110, 3) := by decide +kernel
theorem d_MO_due_33 : decode b_MO_due 33 = .ok (.ireturn, 1) := by decide +kernel
theorem d_MO_dueOf_0 : decode b_MO_dueOf 0 = .ok (.aload_n 0, 1) := by decide +kernel
theorem d_MO_dueOf_1 : decode b_MO_dueOf 1 = .ok (.getfield 22, 3) := by decide +kernel
theorem d_MO_dueOf_4 : decode b_MO_dueOf 4 = .ok (.iload_n 1, 1) := by decide +kernel
theorem d_MO_dueOf_5 : decode b_MO_dueOf 5 = .ok (.iaload, 1) := by decide +kernel
theorem d_MO_dueOf_6 : decode b_MO_dueOf 6 = .ok (.istore_n 2, 1) := by decide +kernel
theorem d_MO_dueOf_7 : decode b_MO_dueOf 7 = .ok (.aload_n 0, 1) := by decide +kernel
theorem d_MO_dueOf_8 : decode b_MO_dueOf 8 = .ok (.getfield 44, 3) := by decide +kernel
theorem d_MO_dueOf_11 : decode b_MO_dueOf 11 = .ok (.iload_n 1, 1) := by decide +kernel
theorem d_MO_dueOf_12 : decode b_MO_dueOf 12 = .ok (.iaload, 1) := by decide +kernel
theorem d_MO_dueOf_13 : decode b_MO_dueOf 13 = .ok (.iconst (-1), 1) := by decide +kernel
theorem d_MO_dueOf_14 : decode b_MO_dueOf 14 = .ok (.if_icmp .eq 30, 3) := by decide +kernel
theorem d_MO_dueOf_17 : decode b_MO_dueOf 17 = .ok (.aload_n 0, 1) := by decide +kernel
theorem d_MO_dueOf_18 : decode b_MO_dueOf 18 = .ok (.getfield 41, 3) := by decide +kernel
theorem d_MO_dueOf_21 : decode b_MO_dueOf 21 = .ok (.iload_n 1, 1) := by decide +kernel
theorem d_MO_dueOf_22 : decode b_MO_dueOf 22 = .ok (.baload, 1) := by decide +kernel
theorem d_MO_dueOf_23 : decode b_MO_dueOf 23 = .ok (.ifCond .ne 21, 3) := by decide +kernel
theorem d_MO_dueOf_26 : decode b_MO_dueOf 26 = .ok (.aload_n 0, 1) := by decide +kernel
theorem d_MO_dueOf_27 : decode b_MO_dueOf 27 = .ok (.getfield 31, 3) := by decide +kernel
theorem d_MO_dueOf_30 : decode b_MO_dueOf 30 = .ok (.iload_n 1, 1) := by decide +kernel
theorem d_MO_dueOf_31 : decode b_MO_dueOf 31 = .ok (.iaload, 1) := by decide +kernel
theorem d_MO_dueOf_32 : decode b_MO_dueOf 32 = .ok (.aload_n 0, 1) := by decide +kernel
theorem d_MO_dueOf_33 : decode b_MO_dueOf 33 = .ok (.getfield 19, 3) := by decide +kernel
theorem d_MO_dueOf_36 : decode b_MO_dueOf 36 = .ok (.iload_n 2, 1) := by decide +kernel
theorem d_MO_dueOf_37 : decode b_MO_dueOf 37 = .ok (.iaload, 1) := by decide +kernel
theorem d_MO_dueOf_38 : decode b_MO_dueOf 38 = .ok (.isub, 1) := by decide +kernel
theorem d_MO_dueOf_39 : decode b_MO_dueOf 39 = .ok (.bipush 30, 2) := by decide +kernel
theorem d_MO_dueOf_41 : decode b_MO_dueOf 41 = .ok (.if_icmp .le 5, 3) := by decide +kernel
theorem d_MO_dueOf_44 : decode b_MO_dueOf 44 = .ok (.iconst 0, 1) := by decide +kernel
theorem d_MO_dueOf_45 : decode b_MO_dueOf 45 = .ok (.ireturn, 1) := by decide +kernel
theorem d_MO_dueOf_46 : decode b_MO_dueOf 46 = .ok (.aload_n 0, 1) := by decide +kernel
theorem d_MO_dueOf_47 : decode b_MO_dueOf 47 = .ok (.getfield 13, 3) := by decide +kernel
theorem d_MO_dueOf_50 : decode b_MO_dueOf 50 = .ok (.iload_n 2, 1) := by decide +kernel
theorem d_MO_dueOf_51 : decode b_MO_dueOf 51 = .ok (.iaload, 1) := by decide +kernel
theorem d_MO_dueOf_52 : decode b_MO_dueOf 52 = .ok (.aload_n 0, 1) := by decide +kernel
theorem d_MO_dueOf_53 : decode b_MO_dueOf 53 = .ok (.getfield 44, 3) := by decide +kernel
theorem d_MO_dueOf_56 : decode b_MO_dueOf 56 = .ok (.iload_n 1, 1) := by decide +kernel
theorem d_MO_dueOf_57 : decode b_MO_dueOf 57 = .ok (.iaload, 1) := by decide +kernel
theorem d_MO_dueOf_58 : decode b_MO_dueOf 58 = .ok (.invokestatic 107, 3) := by decide +kernel
theorem d_MO_dueOf_61 : decode b_MO_dueOf 61 = .ok (.imul, 1) := by decide +kernel
theorem d_MO_dueOf_62 : decode b_MO_dueOf 62 = .ok (.bipush 100, 2) := by decide +kernel
theorem d_MO_dueOf_64 : decode b_MO_dueOf 64 = .ok (.idiv, 1) := by decide +kernel
theorem d_MO_dueOf_65 : decode b_MO_dueOf 65 = .ok (.aload_n 0, 1) := by decide +kernel
theorem d_MO_dueOf_66 : decode b_MO_dueOf 66 = .ok (.getfield 13, 3) := by decide +kernel
theorem d_MO_dueOf_69 : decode b_MO_dueOf 69 = .ok (.iload_n 2, 1) := by decide +kernel
theorem d_MO_dueOf_70 : decode b_MO_dueOf 70 = .ok (.iaload, 1) := by decide +kernel
theorem d_MO_dueOf_71 : decode b_MO_dueOf 71 = .ok (.bipush 10, 2) := by decide +kernel
theorem d_MO_dueOf_73 : decode b_MO_dueOf 73 = .ok (.idiv, 1) := by decide +kernel
theorem d_MO_dueOf_74 : decode b_MO_dueOf 74 = .ok (.aload_n 0, 1) := by decide +kernel
theorem d_MO_dueOf_75 : decode b_MO_dueOf 75 = .ok (.getfield 59, 3) := by decide +kernel
theorem d_MO_dueOf_78 : decode b_MO_dueOf 78 = .ok (.iload_n 1, 1) := by decide +kernel
theorem d_MO_dueOf_79 : decode b_MO_dueOf 79 = .ok (.iaload, 1) := by decide +kernel
theorem d_MO_dueOf_80 : decode b_MO_dueOf 80 = .ok (.imul, 1) := by decide +kernel
theorem d_MO_dueOf_81 : decode b_MO_dueOf 81 = .ok (.isub, 1) := by decide +kernel
theorem d_MO_dueOf_82 : decode b_MO_dueOf 82 = .ok (.istore_n 3, 1) := by decide +kernel
theorem d_MO_dueOf_83 : decode b_MO_dueOf 83 = .ok (.iload_n 3, 1) := by decide +kernel
theorem d_MO_dueOf_84 : decode b_MO_dueOf 84 = .ok (.ifCond .le 7, 3) := by decide +kernel
theorem d_MO_dueOf_87 : decode b_MO_dueOf 87 = .ok (.iload_n 3, 1) := by decide +kernel
theorem d_MO_dueOf_88 : decode b_MO_dueOf 88 = .ok (.goto 4, 3) := by decide +kernel
theorem d_MO_dueOf_91 : decode b_MO_dueOf 91 = .ok (.iconst 0, 1) := by decide +kernel
theorem d_MO_dueOf_92 : decode b_MO_dueOf 92 = .ok (.ireturn, 1) := by decide +kernel
theorem d_MO_grade_0 : decode b_MO_grade 0 = .ok (.aload_n 0, 1) := by decide +kernel
theorem d_MO_grade_1 : decode b_MO_grade 1 = .ok (.aload_n 0, 1) := by decide +kernel
theorem d_MO_grade_2 : decode b_MO_grade 2 = .ok (.iload_n 1, 1) := by decide +kernel
theorem d_MO_grade_3 : decode b_MO_grade 3 = .ok (.invokevirtual 93, 3) := by decide +kernel
theorem d_MO_grade_6 : decode b_MO_grade 6 = .ok (.ifCond .ne 7, 3) := by decide +kernel
theorem d_MO_grade_9 : decode b_MO_grade 9 = .ok (.iconst 1, 1) := by decide +kernel
theorem d_MO_grade_10 : decode b_MO_grade 10 = .ok (.goto 17, 3) := by decide +kernel
theorem d_MO_grade_13 : decode b_MO_grade 13 = .ok (.iload_n 2, 1) := by decide +kernel
theorem d_MO_grade_14 : decode b_MO_grade 14 = .ok (.iconst 0, 1) := by decide +kernel
theorem d_MO_grade_15 : decode b_MO_grade 15 = .ok (.iconst 4, 1) := by decide +kernel
theorem d_MO_grade_16 : decode b_MO_grade 16 = .ok (.invokestatic 75, 3) := by decide +kernel
theorem d_MO_grade_19 : decode b_MO_grade 19 = .ok (.ifCond .ne 7, 3) := by decide +kernel
theorem d_MO_grade_22 : decode b_MO_grade 22 = .ok (.iconst 2, 1) := by decide +kernel
theorem d_MO_grade_23 : decode b_MO_grade 23 = .ok (.goto 4, 3) := by decide +kernel
theorem d_MO_grade_26 : decode b_MO_grade 26 = .ok (.iconst 0, 1) := by decide +kernel
theorem d_MO_grade_27 : decode b_MO_grade 27 = .ok (.putfield 68, 3) := by decide +kernel
theorem d_MO_grade_30 : decode b_MO_grade 30 = .ok (.aload_n 0, 1) := by decide +kernel
theorem d_MO_grade_31 : decode b_MO_grade 31 = .ok (.getfield 68, 3) := by decide +kernel
theorem d_MO_grade_34 : decode b_MO_grade 34 = .ok (.ifCond .ne 43, 3) := by decide +kernel
theorem d_MO_grade_37 : decode b_MO_grade 37 = .ok (.aload_n 0, 1) := by decide +kernel
theorem d_MO_grade_38 : decode b_MO_grade 38 = .ok (.aload_n 0, 1) := by decide +kernel
theorem d_MO_grade_39 : decode b_MO_grade 39 = .ok (.iload_n 1, 1) := by decide +kernel
theorem d_MO_grade_40 : decode b_MO_grade 40 = .ok (.invokevirtual 96, 3) := by decide +kernel
theorem d_MO_grade_43 : decode b_MO_grade 43 = .ok (.ifCond .eq 26, 3) := by decide +kernel
theorem d_MO_grade_46 : decode b_MO_grade 46 = .ok (.aload_n 0, 1) := by decide +kernel
theorem d_MO_grade_47 : decode b_MO_grade 47 = .ok (.getfield 37, 3) := by decide +kernel
theorem d_MO_grade_50 : decode b_MO_grade 50 = .ok (.iload_n 1, 1) := by decide +kernel
theorem d_MO_grade_51 : decode b_MO_grade 51 = .ok (.baload, 1) := by decide +kernel
theorem d_MO_grade_52 : decode b_MO_grade 52 = .ok (.ifCond .ne 17, 3) := by decide +kernel
theorem d_MO_grade_55 : decode b_MO_grade 55 = .ok (.aload_n 0, 1) := by decide +kernel
theorem d_MO_grade_56 : decode b_MO_grade 56 = .ok (.getfield 53, 3) := by decide +kernel
theorem d_MO_grade_59 : decode b_MO_grade 59 = .ok (.iload_n 1, 1) := by decide +kernel
theorem d_MO_grade_60 : decode b_MO_grade 60 = .ok (.iaload, 1) := by decide +kernel
theorem d_MO_grade_61 : decode b_MO_grade 61 = .ok (.ifCond .eq 12, 3) := by decide +kernel
theorem d_MO_grade_64 : decode b_MO_grade 64 = .ok (.iload_n 2, 1) := by decide +kernel
theorem d_MO_grade_65 : decode b_MO_grade 65 = .ok (.iconst 3, 1) := by decide +kernel
theorem d_MO_grade_66 : decode b_MO_grade 66 = .ok (.if_icmp .ge 7, 3) := by decide +kernel
theorem d_MO_grade_69 : decode b_MO_grade 69 = .ok (.iconst 3, 1) := by decide +kernel
theorem d_MO_grade_70 : decode b_MO_grade 70 = .ok (.goto 4, 3) := by decide +kernel
theorem d_MO_grade_73 : decode b_MO_grade 73 = .ok (.iconst 0, 1) := by decide +kernel
theorem d_MO_grade_74 : decode b_MO_grade 74 = .ok (.putfield 68, 3) := by decide +kernel
theorem d_MO_grade_77 : decode b_MO_grade 77 = .ok (.aload_n 0, 1) := by decide +kernel
theorem d_MO_grade_78 : decode b_MO_grade 78 = .ok (.getfield 68, 3) := by decide +kernel
theorem d_MO_grade_81 : decode b_MO_grade 81 = .ok (.ifCond .le 5, 3) := by decide +kernel
theorem d_MO_grade_84 : decode b_MO_grade 84 = .ok (.iconst 0, 1) := by decide +kernel
theorem d_MO_grade_85 : decode b_MO_grade 85 = .ok (.ireturn, 1) := by decide +kernel
theorem d_MO_grade_86 : decode b_MO_grade 86 = .ok (.aload_n 0, 1) := by decide +kernel
theorem d_MO_grade_87 : decode b_MO_grade 87 = .ok (.iload_n 1, 1) := by decide +kernel
theorem d_MO_grade_88 : decode b_MO_grade 88 = .ok (.iload_n 2, 1) := by decide +kernel
theorem d_MO_grade_89 : decode b_MO_grade 89 = .ok (.invokevirtual 99, 3) := by decide +kernel
theorem d_MO_grade_92 : decode b_MO_grade 92 = .ok (.aload_n 0, 1) := by decide +kernel
theorem d_MO_grade_93 : decode b_MO_grade 93 = .ok (.getfield 28, 3) := by decide +kernel
theorem d_MO_grade_96 : decode b_MO_grade 96 = .ok (.iload_n 1, 1) := by decide +kernel
theorem d_MO_grade_97 : decode b_MO_grade 97 = .ok (.iconst 3, 1) := by decide +kernel
theorem d_MO_grade_98 : decode b_MO_grade 98 = .ok (.iastore, 1) := by decide +kernel
theorem d_MO_grade_99 : decode b_MO_grade 99 = .ok (.aload_n 0, 1) := by decide +kernel
theorem d_MO_grade_100 : decode b_MO_grade 100 = .ok (.getfield 47, 3) := by decide +kernel
theorem d_MO_grade_103 : decode b_MO_grade 103 = .ok (.iload_n 1, 1) := by decide +kernel
theorem d_MO_grade_104 : decode b_MO_grade 104 = .ok (.iaload, 1) := by decide +kernel
theorem d_MO_grade_105 : decode b_MO_grade 105 = .ok (.ireturn, 1) := by decide +kernel
theorem d_MO_hasReturn_0 : decode b_MO_hasReturn 0 = .ok (.iconst 1, 1) := by decide +kernel
theorem d_MO_hasReturn_1 : decode b_MO_hasReturn 1 = .ok (.istore_n 2, 1) := by decide +kernel
theorem d_MO_hasReturn_2 : decode b_MO_hasReturn 2 = .ok (.iload_n 2, 1) := by decide +kernel
theorem d_MO_hasReturn_3 : decode b_MO_hasReturn 3 = .ok (.aload_n 0, 1) := by decide +kernel
theorem d_MO_hasReturn_4 : decode b_MO_hasReturn 4 = .ok (.getfield 79, 3) := by decide +kernel
theorem d_MO_hasReturn_7 : decode b_MO_hasReturn 7 = .ok (.if_icmp .gt 21, 3) := by decide +kernel
theorem d_MO_hasReturn_10 : decode b_MO_hasReturn 10 = .ok (.aload_n 0, 1) := by decide +kernel
theorem d_MO_hasReturn_11 : decode b_MO_hasReturn 11 = .ok (.getfield 22, 3) := by decide +kernel
theorem d_MO_hasReturn_14 : decode b_MO_hasReturn 14 = .ok (.iload_n 2, 1) := by decide +kernel
theorem d_MO_hasReturn_15 : decode b_MO_hasReturn 15 = .ok (.iaload, 1) := by decide +kernel
theorem d_MO_hasReturn_16 : decode b_MO_hasReturn 16 = .ok (.iload_n 1, 1) := by decide +kernel
theorem d_MO_hasReturn_17 : decode b_MO_hasReturn 17 = .ok (.if_icmp .ne 5, 3) := by decide +kernel
theorem d_MO_hasReturn_20 : decode b_MO_hasReturn 20 = .ok (.iconst 1, 1) := by decide +kernel
theorem d_MO_hasReturn_21 : decode b_MO_hasReturn 21 = .ok (.ireturn, 1) := by decide +kernel
theorem d_MO_hasReturn_22 : decode b_MO_hasReturn 22 = .ok (.iinc 2 1, 3) := by decide +kernel
theorem d_MO_hasReturn_25 : decode b_MO_hasReturn 25 = .ok (.goto (-23), 3) := by decide +kernel
theorem d_MO_hasReturn_28 : decode b_MO_hasReturn 28 = .ok (.iconst 0, 1) := by decide +kernel
theorem d_MO_hasReturn_29 : decode b_MO_hasReturn 29 = .ok (.ireturn, 1) := by decide +kernel
theorem d_MO_in_0 : decode b_MO_in 0 = .ok (.iload_n 0, 1) := by decide +kernel
theorem d_MO_in_1 : decode b_MO_in 1 = .ok (.iload_n 1, 1) := by decide +kernel
theorem d_MO_in_2 : decode b_MO_in 2 = .ok (.if_icmp .lt 12, 3) := by decide +kernel
theorem d_MO_in_5 : decode b_MO_in 5 = .ok (.iload_n 0, 1) := by decide +kernel
theorem d_MO_in_6 : decode b_MO_in 6 = .ok (.iload_n 2, 1) := by decide +kernel
theorem d_MO_in_7 : decode b_MO_in 7 = .ok (.if_icmp .gt 7, 3) := by decide +kernel
theorem d_MO_in_10 : decode b_MO_in 10 = .ok (.iconst 1, 1) := by decide +kernel
theorem d_MO_in_11 : decode b_MO_in 11 = .ok (.goto 4, 3) := by decide +kernel
theorem d_MO_in_14 : decode b_MO_in 14 = .ok (.iconst 0, 1) := by decide +kernel
theorem d_MO_in_15 : decode b_MO_in 15 = .ok (.ireturn, 1) := by decide +kernel
theorem d_MO_init_0 : decode b_MO_init 0 = .ok (.aload_n 0, 1) := by decide +kernel
theorem d_MO_init_1 : decode b_MO_init 1 = .ok (.invokespecial 1, 3) := by decide +kernel
theorem d_MO_init_4 : decode b_MO_init 4 = .ok (.aload_n 0, 1) := by decide +kernel
theorem d_MO_init_5 : decode b_MO_init 5 = .ok (.bipush 20, 2) := by decide +kernel
theorem d_MO_init_7 : decode b_MO_init 7 = .ok (.newarray .int, 2) := by decide +kernel
theorem d_MO_init_9 : decode b_MO_init 9 = .ok (.putfield 7, 3) := by decide +kernel
theorem d_MO_init_12 : decode b_MO_init 12 = .ok (.aload_n 0, 1) := by decide +kernel
theorem d_MO_init_13 : decode b_MO_init 13 = .ok (.bipush 20, 2) := by decide +kernel
theorem d_MO_init_15 : decode b_MO_init 15 = .ok (.newarray .int, 2) := by decide +kernel
theorem d_MO_init_17 : decode b_MO_init 17 = .ok (.putfield 13, 3) := by decide +kernel
theorem d_MO_init_20 : decode b_MO_init 20 = .ok (.aload_n 0, 1) := by decide +kernel
theorem d_MO_init_21 : decode b_MO_init 21 = .ok (.bipush 20, 2) := by decide +kernel
theorem d_MO_init_23 : decode b_MO_init 23 = .ok (.newarray .int, 2) := by decide +kernel
theorem d_MO_init_25 : decode b_MO_init 25 = .ok (.putfield 16, 3) := by decide +kernel
theorem d_MO_init_28 : decode b_MO_init 28 = .ok (.aload_n 0, 1) := by decide +kernel
theorem d_MO_init_29 : decode b_MO_init 29 = .ok (.bipush 20, 2) := by decide +kernel
theorem d_MO_init_31 : decode b_MO_init 31 = .ok (.newarray .int, 2) := by decide +kernel
theorem d_MO_init_33 : decode b_MO_init 33 = .ok (.putfield 19, 3) := by decide +kernel
theorem d_MO_init_36 : decode b_MO_init 36 = .ok (.aload_n 0, 1) := by decide +kernel
theorem d_MO_init_37 : decode b_MO_init 37 = .ok (.bipush 21, 2) := by decide +kernel
theorem d_MO_init_39 : decode b_MO_init 39 = .ok (.newarray .int, 2) := by decide +kernel
theorem d_MO_init_41 : decode b_MO_init 41 = .ok (.putfield 22, 3) := by decide +kernel
theorem d_MO_init_44 : decode b_MO_init 44 = .ok (.aload_n 0, 1) := by decide +kernel
theorem d_MO_init_45 : decode b_MO_init 45 = .ok (.bipush 21, 2) := by decide +kernel
theorem d_MO_init_47 : decode b_MO_init 47 = .ok (.newarray .int, 2) := by decide +kernel
theorem d_MO_init_49 : decode b_MO_init 49 = .ok (.putfield 25, 3) := by decide +kernel
theorem d_MO_init_52 : decode b_MO_init 52 = .ok (.aload_n 0, 1) := by decide +kernel
theorem d_MO_init_53 : decode b_MO_init 53 = .ok (.bipush 21, 2) := by decide +kernel
theorem d_MO_init_55 : decode b_MO_init 55 = .ok (.newarray .int, 2) := by decide +kernel
theorem d_MO_init_57 : decode b_MO_init 57 = .ok (.putfield 28, 3) := by decide +kernel
theorem d_MO_init_60 : decode b_MO_init 60 = .ok (.aload_n 0, 1) := by decide +kernel
theorem d_MO_init_61 : decode b_MO_init 61 = .ok (.bipush 21, 2) := by decide +kernel
theorem d_MO_init_63 : decode b_MO_init 63 = .ok (.newarray .int, 2) := by decide +kernel
theorem d_MO_init_65 : decode b_MO_init 65 = .ok (.putfield 31, 3) := by decide +kernel
theorem d_MO_init_68 : decode b_MO_init 68 = .ok (.aload_n 0, 1) := by decide +kernel
theorem d_MO_init_69 : decode b_MO_init 69 = .ok (.bipush 21, 2) := by decide +kernel
theorem d_MO_init_71 : decode b_MO_init 71 = .ok (.newarray .int, 2) := by decide +kernel
theorem d_MO_init_73 : decode b_MO_init 73 = .ok (.putfield 34, 3) := by decide +kernel
theorem d_MO_init_76 : decode b_MO_init 76 = .ok (.aload_n 0, 1) := by decide +kernel
theorem d_MO_init_77 : decode b_MO_init 77 = .ok (.bipush 21, 2) := by decide +kernel
theorem d_MO_init_79 : decode b_MO_init 79 = .ok (.newarray .boolean, 2) := by decide +kernel
theorem d_MO_init_81 : decode b_MO_init 81 = .ok (.putfield 37, 3) := by decide +kernel
theorem d_MO_init_84 : decode b_MO_init 84 = .ok (.aload_n 0, 1) := by decide +kernel
theorem d_MO_init_85 : decode b_MO_init 85 = .ok (.bipush 21, 2) := by decide +kernel
theorem d_MO_init_87 : decode b_MO_init 87 = .ok (.newarray .boolean, 2) := by decide +kernel
theorem d_MO_init_89 : decode b_MO_init 89 = .ok (.putfield 41, 3) := by decide +kernel
theorem d_MO_init_92 : decode b_MO_init 92 = .ok (.aload_n 0, 1) := by decide +kernel
theorem d_MO_init_93 : decode b_MO_init 93 = .ok (.bipush 21, 2) := by decide +kernel
theorem d_MO_init_95 : decode b_MO_init 95 = .ok (.newarray .int, 2) := by decide +kernel
theorem d_MO_init_97 : decode b_MO_init 97 = .ok (.putfield 44, 3) := by decide +kernel
theorem d_MO_init_100 : decode b_MO_init 100 = .ok (.aload_n 0, 1) := by decide +kernel
theorem d_MO_init_101 : decode b_MO_init 101 = .ok (.bipush 21, 2) := by decide +kernel
theorem d_MO_init_103 : decode b_MO_init 103 = .ok (.newarray .int, 2) := by decide +kernel
theorem d_MO_init_105 : decode b_MO_init 105 = .ok (.putfield 47, 3) := by decide +kernel
theorem d_MO_init_108 : decode b_MO_init 108 = .ok (.aload_n 0, 1) := by decide +kernel
theorem d_MO_init_109 : decode b_MO_init 109 = .ok (.bipush 21, 2) := by decide +kernel
theorem d_MO_init_111 : decode b_MO_init 111 = .ok (.newarray .int, 2) := by decide +kernel
theorem d_MO_init_113 : decode b_MO_init 113 = .ok (.putfield 50, 3) := by decide +kernel
theorem d_MO_init_116 : decode b_MO_init 116 = .ok (.aload_n 0, 1) := by decide +kernel
theorem d_MO_init_117 : decode b_MO_init 117 = .ok (.bipush 21, 2) := by decide +kernel
theorem d_MO_init_119 : decode b_MO_init 119 = .ok (.newarray .int, 2) := by decide +kernel
theorem d_MO_init_121 : decode b_MO_init 121 = .ok (.putfield 53, 3) := by decide +kernel
theorem d_MO_init_124 : decode b_MO_init 124 = .ok (.aload_n 0, 1) := by decide +kernel
theorem d_MO_init_125 : decode b_MO_init 125 = .ok (.bipush 21, 2) := by decide +kernel
theorem d_MO_init_127 : decode b_MO_init 127 = .ok (.newarray .int, 2) := by decide +kernel
theorem d_MO_init_129 : decode b_MO_init 129 = .ok (.putfield 56, 3) := by decide +kernel
theorem d_MO_init_132 : decode b_MO_init 132 = .ok (.aload_n 0, 1) := by decide +kernel
theorem d_MO_init_133 : decode b_MO_init 133 = .ok (.bipush 21, 2) := by decide +kernel
theorem d_MO_init_135 : decode b_MO_init 135 = .ok (.newarray .int, 2) := by decide +kernel
theorem d_MO_init_137 : decode b_MO_init 137 = .ok (.putfield 59, 3) := by decide +kernel
theorem d_MO_init_140 : decode b_MO_init 140 = .ok (.aload_n 0, 1) := by decide +kernel
theorem d_MO_init_141 : decode b_MO_init 141 = .ok (.bipush 21, 2) := by decide +kernel
theorem d_MO_init_143 : decode b_MO_init 143 = .ok (.newarray .int, 2) := by decide +kernel
theorem d_MO_init_145 : decode b_MO_init 145 = .ok (.putfield 62, 3) := by decide +kernel
theorem d_MO_init_148 : decode b_MO_init 148 = .ok (.aload_n 0, 1) := by decide +kernel
theorem d_MO_init_149 : decode b_MO_init 149 = .ok (.sipush 1001, 3) := by decide +kernel
theorem d_MO_init_152 : decode b_MO_init 152 = .ok (.newarray .int, 2) := by decide +kernel
theorem d_MO_init_154 : decode b_MO_init 154 = .ok (.putfield 65, 3) := by decide +kernel
theorem d_MO_init_157 : decode b_MO_init 157 = .ok (.return_, 1) := by decide +kernel
theorem d_MO_isReturn_0 : decode b_MO_isReturn 0 = .ok (.iload_n 1, 1) := by decide +kernel
theorem d_MO_isReturn_1 : decode b_MO_isReturn 1 = .ok (.iconst 1, 1) := by decide +kernel
theorem d_MO_isReturn_2 : decode b_MO_isReturn 2 = .ok (.aload_n 0, 1) := by decide +kernel
theorem d_MO_isReturn_3 : decode b_MO_isReturn 3 = .ok (.getfield 79, 3) := by decide +kernel
theorem d_MO_isReturn_6 : decode b_MO_isReturn 6 = .ok (.invokestatic 75, 3) := by decide +kernel
theorem d_MO_isReturn_9 : decode b_MO_isReturn 9 = .ok (.ireturn, 1) := by decide +kernel
theorem d_MO_isSale_0 : decode b_MO_isSale 0 = .ok (.iload_n 1, 1) := by decide +kernel
theorem d_MO_isSale_1 : decode b_MO_isSale 1 = .ok (.iconst 0, 1) := by decide +kernel
theorem d_MO_isSale_2 : decode b_MO_isSale 2 = .ok (.aload_n 0, 1) := by decide +kernel
theorem d_MO_isSale_3 : decode b_MO_isSale 3 = .ok (.getfield 72, 3) := by decide +kernel
theorem d_MO_isSale_6 : decode b_MO_isSale 6 = .ok (.iconst 1, 1) := by decide +kernel
theorem d_MO_isSale_7 : decode b_MO_isSale 7 = .ok (.isub, 1) := by decide +kernel
theorem d_MO_isSale_8 : decode b_MO_isSale 8 = .ok (.invokestatic 75, 3) := by decide +kernel
theorem d_MO_isSale_11 : decode b_MO_isSale 11 = .ok (.ireturn, 1) := by decide +kernel
theorem d_MO_isSeen_0 : decode b_MO_isSeen 0 = .ok (.aload_n 0, 1) := by decide +kernel
theorem d_MO_isSeen_1 : decode b_MO_isSeen 1 = .ok (.getfield 28, 3) := by decide +kernel
theorem d_MO_isSeen_4 : decode b_MO_isSeen 4 = .ok (.iload_n 1, 1) := by decide +kernel
theorem d_MO_isSeen_5 : decode b_MO_isSeen 5 = .ok (.iaload, 1) := by decide +kernel
theorem d_MO_isSeen_6 : decode b_MO_isSeen 6 = .ok (.iconst 2, 1) := by decide +kernel
theorem d_MO_isSeen_7 : decode b_MO_isSeen 7 = .ok (.if_icmp .eq 13, 3) := by decide +kernel
theorem d_MO_isSeen_10 : decode b_MO_isSeen 10 = .ok (.aload_n 0, 1) := by decide +kernel
theorem d_MO_isSeen_11 : decode b_MO_isSeen 11 = .ok (.getfield 28, 3) := by decide +kernel
theorem d_MO_isSeen_14 : decode b_MO_isSeen 14 = .ok (.iload_n 1, 1) := by decide +kernel
theorem d_MO_isSeen_15 : decode b_MO_isSeen 15 = .ok (.iaload, 1) := by decide +kernel
theorem d_MO_isSeen_16 : decode b_MO_isSeen 16 = .ok (.iconst 3, 1) := by decide +kernel
theorem d_MO_isSeen_17 : decode b_MO_isSeen 17 = .ok (.if_icmp .ne 7, 3) := by decide +kernel
theorem d_MO_isSeen_20 : decode b_MO_isSeen 20 = .ok (.iconst 1, 1) := by decide +kernel
theorem d_MO_isSeen_21 : decode b_MO_isSeen 21 = .ok (.goto 4, 3) := by decide +kernel
theorem d_MO_isSeen_24 : decode b_MO_isSeen 24 = .ok (.iconst 0, 1) := by decide +kernel
theorem d_MO_isSeen_25 : decode b_MO_isSeen 25 = .ok (.ireturn, 1) := by decide +kernel
theorem d_MO_missing_0 : decode b_MO_missing 0 = .ok (.aload_n 0, 1) := by decide +kernel
theorem d_MO_missing_1 : decode b_MO_missing 1 = .ok (.aload_n 0, 1) := by decide +kernel
theorem d_MO_missing_2 : decode b_MO_missing 2 = .ok (.iload_n 1, 1) := by decide +kernel
theorem d_MO_missing_3 : decode b_MO_missing 3 = .ok (.invokevirtual 93, 3) := by decide +kernel
theorem d_MO_missing_6 : decode b_MO_missing 6 = .ok (.ifCond .ne 7, 3) := by decide +kernel
theorem d_MO_missing_9 : decode b_MO_missing 9 = .ok (.iconst 1, 1) := by decide +kernel
theorem d_MO_missing_10 : decode b_MO_missing 10 = .ok (.goto 18, 3) := by decide +kernel
theorem d_MO_missing_13 : decode b_MO_missing 13 = .ok (.iload_n 2, 1) := by decide +kernel
theorem d_MO_missing_14 : decode b_MO_missing 14 = .ok (.iconst 0, 1) := by decide +kernel
theorem d_MO_missing_15 : decode b_MO_missing 15 = .ok (.bipush 10, 2) := by decide +kernel
theorem d_MO_missing_17 : decode b_MO_missing 17 = .ok (.invokestatic 75, 3) := by decide +kernel
theorem d_MO_missing_20 : decode b_MO_missing 20 = .ok (.ifCond .ne 7, 3) := by decide +kernel
theorem d_MO_missing_23 : decode b_MO_missing 23 = .ok (.iconst 2, 1) := by decide +kernel
theorem d_MO_missing_24 : decode b_MO_missing 24 = .ok (.goto 4, 3) := by decide +kernel
theorem d_MO_missing_27 : decode b_MO_missing 27 = .ok (.iconst 0, 1) := by decide +kernel
theorem d_MO_missing_28 : decode b_MO_missing 28 = .ok (.putfield 68, 3) := by decide +kernel
theorem d_MO_missing_31 : decode b_MO_missing 31 = .ok (.aload_n 0, 1) := by decide +kernel
theorem d_MO_missing_32 : decode b_MO_missing 32 = .ok (.getfield 68, 3) := by decide +kernel
theorem d_MO_missing_35 : decode b_MO_missing 35 = .ok (.ifCond .ne 20, 3) := by decide +kernel
theorem d_MO_missing_38 : decode b_MO_missing 38 = .ok (.aload_n 0, 1) := by decide +kernel
theorem d_MO_missing_39 : decode b_MO_missing 39 = .ok (.aload_n 0, 1) := by decide +kernel
theorem d_MO_missing_40 : decode b_MO_missing 40 = .ok (.iload_n 1, 1) := by decide +kernel
theorem d_MO_missing_41 : decode b_MO_missing 41 = .ok (.invokevirtual 96, 3) := by decide +kernel
theorem d_MO_missing_44 : decode b_MO_missing 44 = .ok (.ifCond .eq 7, 3) := by decide +kernel
theorem d_MO_missing_47 : decode b_MO_missing 47 = .ok (.iconst 0, 1) := by decide +kernel
theorem d_MO_missing_48 : decode b_MO_missing 48 = .ok (.goto 4, 3) := by decide +kernel
theorem d_MO_missing_51 : decode b_MO_missing 51 = .ok (.iconst 3, 1) := by decide +kernel
theorem d_MO_missing_52 : decode b_MO_missing 52 = .ok (.putfield 68, 3) := by decide +kernel
theorem d_MO_missing_55 : decode b_MO_missing 55 = .ok (.aload_n 0, 1) := by decide +kernel
theorem d_MO_missing_56 : decode b_MO_missing 56 = .ok (.getfield 68, 3) := by decide +kernel
theorem d_MO_missing_59 : decode b_MO_missing 59 = .ok (.ifCond .ne 10, 3) := by decide +kernel
theorem d_MO_missing_62 : decode b_MO_missing 62 = .ok (.aload_n 0, 1) := by decide +kernel
theorem d_MO_missing_63 : decode b_MO_missing 63 = .ok (.getfield 59, 3) := by decide +kernel
theorem d_MO_missing_66 : decode b_MO_missing 66 = .ok (.iload_n 1, 1) := by decide +kernel
theorem d_MO_missing_67 : decode b_MO_missing 67 = .ok (.iload_n 2, 1) := by decide +kernel
theorem d_MO_missing_68 : decode b_MO_missing 68 = .ok (.iastore, 1) := by decide +kernel
theorem d_MO_missing_69 : decode b_MO_missing 69 = .ok (.return_, 1) := by decide +kernel
theorem d_MO_percent_0 : decode b_MO_percent 0 = .ok (.iload_n 0, 1) := by decide +kernel
theorem d_MO_percent_1 : decode b_MO_percent 1 = .ok (.ifCond .ne 8, 3) := by decide +kernel
theorem d_MO_percent_4 : decode b_MO_percent 4 = .ok (.bipush 100, 2) := by decide +kernel
theorem d_MO_percent_6 : decode b_MO_percent 6 = .ok (.goto 34, 3) := by decide +kernel
theorem d_MO_percent_9 : decode b_MO_percent 9 = .ok (.iload_n 0, 1) := by decide +kernel
theorem d_MO_percent_10 : decode b_MO_percent 10 = .ok (.iconst 1, 1) := by decide +kernel
theorem d_MO_percent_11 : decode b_MO_percent 11 = .ok (.if_icmp .ne 8, 3) := by decide +kernel
theorem d_MO_percent_14 : decode b_MO_percent 14 = .ok (.bipush 90, 2) := by decide +kernel
theorem d_MO_percent_16 : decode b_MO_percent 16 = .ok (.goto 24, 3) := by decide +kernel
theorem d_MO_percent_19 : decode b_MO_percent 19 = .ok (.iload_n 0, 1) := by decide +kernel
theorem d_MO_percent_20 : decode b_MO_percent 20 = .ok (.iconst 2, 1) := by decide +kernel
theorem d_MO_percent_21 : decode b_MO_percent 21 = .ok (.if_icmp .ne 8, 3) := by decide +kernel
theorem d_MO_percent_24 : decode b_MO_percent 24 = .ok (.bipush 70, 2) := by decide +kernel
theorem d_MO_percent_26 : decode b_MO_percent 26 = .ok (.goto 14, 3) := by decide +kernel
theorem d_MO_percent_29 : decode b_MO_percent 29 = .ok (.iload_n 0, 1) := by decide +kernel
theorem d_MO_percent_30 : decode b_MO_percent 30 = .ok (.iconst 3, 1) := by decide +kernel
theorem d_MO_percent_31 : decode b_MO_percent 31 = .ok (.if_icmp .ne 8, 3) := by decide +kernel
theorem d_MO_percent_34 : decode b_MO_percent 34 = .ok (.bipush 40, 2) := by decide +kernel
theorem d_MO_percent_36 : decode b_MO_percent 36 = .ok (.goto 4, 3) := by decide +kernel
theorem d_MO_percent_39 : decode b_MO_percent 39 = .ok (.iconst 0, 1) := by decide +kernel
theorem d_MO_percent_40 : decode b_MO_percent 40 = .ok (.ireturn, 1) := by decide +kernel
theorem d_MO_quarantine_0 : decode b_MO_quarantine 0 = .ok (.aload_n 0, 1) := by decide +kernel
theorem d_MO_quarantine_1 : decode b_MO_quarantine 1 = .ok (.aload_n 0, 1) := by decide +kernel
theorem d_MO_quarantine_2 : decode b_MO_quarantine 2 = .ok (.iload_n 1, 1) := by decide +kernel
theorem d_MO_quarantine_3 : decode b_MO_quarantine 3 = .ok (.invokevirtual 93, 3) := by decide +kernel
theorem d_MO_quarantine_6 : decode b_MO_quarantine 6 = .ok (.ifCond .ne 7, 3) := by decide +kernel
theorem d_MO_quarantine_9 : decode b_MO_quarantine 9 = .ok (.iconst 1, 1) := by decide +kernel
theorem d_MO_quarantine_10 : decode b_MO_quarantine 10 = .ok (.goto 4, 3) := by decide +kernel
theorem d_MO_quarantine_13 : decode b_MO_quarantine 13 = .ok (.iconst 0, 1) := by decide +kernel
theorem d_MO_quarantine_14 : decode b_MO_quarantine 14 = .ok (.putfield 68, 3) := by decide +kernel
theorem d_MO_quarantine_17 : decode b_MO_quarantine 17 = .ok (.aload_n 0, 1) := by decide +kernel
theorem d_MO_quarantine_18 : decode b_MO_quarantine 18 = .ok (.getfield 68, 3) := by decide +kernel
theorem d_MO_quarantine_21 : decode b_MO_quarantine 21 = .ok (.ifCond .ne 34, 3) := by decide +kernel
theorem d_MO_quarantine_24 : decode b_MO_quarantine 24 = .ok (.aload_n 0, 1) := by decide +kernel
theorem d_MO_quarantine_25 : decode b_MO_quarantine 25 = .ok (.aload_n 0, 1) := by decide +kernel
theorem d_MO_quarantine_26 : decode b_MO_quarantine 26 = .ok (.getfield 37, 3) := by decide +kernel
theorem d_MO_quarantine_29 : decode b_MO_quarantine 29 = .ok (.iload_n 1, 1) := by decide +kernel
theorem d_MO_quarantine_30 : decode b_MO_quarantine 30 = .ok (.baload, 1) := by decide +kernel
theorem d_MO_quarantine_31 : decode b_MO_quarantine 31 = .ok (.iload_n 2, 1) := by decide +kernel
theorem d_MO_quarantine_32 : decode b_MO_quarantine 32 = .ok (.if_icmp .eq 15, 3) := by decide +kernel
theorem d_MO_quarantine_35 : decode b_MO_quarantine 35 = .ok (.iload_n 2, 1) := by decide +kernel
theorem d_MO_quarantine_36 : decode b_MO_quarantine 36 = .ok (.ifCond .eq 15, 3) := by decide +kernel
theorem d_MO_quarantine_39 : decode b_MO_quarantine 39 = .ok (.aload_n 0, 1) := by decide +kernel
theorem d_MO_quarantine_40 : decode b_MO_quarantine 40 = .ok (.iload_n 1, 1) := by decide +kernel
theorem d_MO_quarantine_41 : decode b_MO_quarantine 41 = .ok (.invokevirtual 96, 3) := by decide +kernel
theorem d_MO_quarantine_44 : decode b_MO_quarantine 44 = .ok (.ifCond .ne 7, 3) := by decide +kernel
theorem d_MO_quarantine_47 : decode b_MO_quarantine 47 = .ok (.iconst 2, 1) := by decide +kernel
theorem d_MO_quarantine_48 : decode b_MO_quarantine 48 = .ok (.goto 4, 3) := by decide +kernel
theorem d_MO_quarantine_51 : decode b_MO_quarantine 51 = .ok (.iconst 0, 1) := by decide +kernel
theorem d_MO_quarantine_52 : decode b_MO_quarantine 52 = .ok (.putfield 68, 3) := by decide +kernel
theorem d_MO_quarantine_55 : decode b_MO_quarantine 55 = .ok (.aload_n 0, 1) := by decide +kernel
theorem d_MO_quarantine_56 : decode b_MO_quarantine 56 = .ok (.getfield 68, 3) := by decide +kernel
theorem d_MO_quarantine_59 : decode b_MO_quarantine 59 = .ok (.ifCond .ne 10, 3) := by decide +kernel
theorem d_MO_quarantine_62 : decode b_MO_quarantine 62 = .ok (.aload_n 0, 1) := by decide +kernel
theorem d_MO_quarantine_63 : decode b_MO_quarantine 63 = .ok (.getfield 37, 3) := by decide +kernel
theorem d_MO_quarantine_66 : decode b_MO_quarantine 66 = .ok (.iload_n 1, 1) := by decide +kernel
theorem d_MO_quarantine_67 : decode b_MO_quarantine 67 = .ok (.iload_n 2, 1) := by decide +kernel
theorem d_MO_quarantine_68 : decode b_MO_quarantine 68 = .ok (.bastore, 1) := by decide +kernel
theorem d_MO_quarantine_69 : decode b_MO_quarantine 69 = .ok (.return_, 1) := by decide +kernel
theorem d_MO_reason_0 : decode b_MO_reason 0 = .ok (.aload_n 0, 1) := by decide +kernel
theorem d_MO_reason_1 : decode b_MO_reason 1 = .ok (.iload_n 1, 1) := by decide +kernel
theorem d_MO_reason_2 : decode b_MO_reason 2 = .ok (.iconst 0, 1) := by decide +kernel
theorem d_MO_reason_3 : decode b_MO_reason 3 = .ok (.bipush 7, 2) := by decide +kernel
theorem d_MO_reason_5 : decode b_MO_reason 5 = .ok (.invokestatic 75, 3) := by decide +kernel
theorem d_MO_reason_8 : decode b_MO_reason 8 = .ok (.ifCond .eq 12, 3) := by decide +kernel
theorem d_MO_reason_11 : decode b_MO_reason 11 = .ok (.iload_n 2, 1) := by decide +kernel
theorem d_MO_reason_12 : decode b_MO_reason 12 = .ok (.iconst 0, 1) := by decide +kernel
theorem d_MO_reason_13 : decode b_MO_reason 13 = .ok (.iconst 2, 1) := by decide +kernel
theorem d_MO_reason_14 : decode b_MO_reason 14 = .ok (.invokestatic 75, 3) := by decide +kernel
theorem d_MO_reason_17 : decode b_MO_reason 17 = .ok (.ifCond .ne 7, 3) := by decide +kernel
theorem d_MO_reason_20 : decode b_MO_reason 20 = .ok (.iconst 1, 1) := by decide +kernel
theorem d_MO_reason_21 : decode b_MO_reason 21 = .ok (.goto 4, 3) := by decide +kernel
theorem d_MO_reason_24 : decode b_MO_reason 24 = .ok (.iconst 0, 1) := by decide +kernel
theorem d_MO_reason_25 : decode b_MO_reason 25 = .ok (.putfield 68, 3) := by decide +kernel
theorem d_MO_reason_28 : decode b_MO_reason 28 = .ok (.aload_n 0, 1) := by decide +kernel
theorem d_MO_reason_29 : decode b_MO_reason 29 = .ok (.getfield 68, 3) := by decide +kernel
theorem d_MO_reason_32 : decode b_MO_reason 32 = .ok (.ifCond .le 5, 3) := by decide +kernel
theorem d_MO_reason_35 : decode b_MO_reason 35 = .ok (.iconst 0, 1) := by decide +kernel
theorem d_MO_reason_36 : decode b_MO_reason 36 = .ok (.ireturn, 1) := by decide +kernel
theorem d_MO_reason_37 : decode b_MO_reason 37 = .ok (.iconst 0, 1) := by decide +kernel
theorem d_MO_reason_38 : decode b_MO_reason 38 = .ok (.istore_n 3, 1) := by decide +kernel
theorem d_MO_reason_39 : decode b_MO_reason 39 = .ok (.iconst 1, 1) := by decide +kernel
theorem d_MO_reason_40 : decode b_MO_reason 40 = .ok (.istore 4, 2) := by decide +kernel
theorem d_MO_reason_42 : decode b_MO_reason 42 = .ok (.iload 4, 2) := by decide +kernel
theorem d_MO_reason_44 : decode b_MO_reason 44 = .ok (.aload_n 0, 1) := by decide +kernel
theorem d_MO_reason_45 : decode b_MO_reason 45 = .ok (.getfield 79, 3) := by decide +kernel
theorem d_MO_reason_48 : decode b_MO_reason 48 = .ok (.if_icmp .gt 65, 3) := by decide +kernel
theorem d_MO_reason_51 : decode b_MO_reason 51 = .ok (.aload_n 0, 1) := by decide +kernel
theorem d_MO_reason_52 : decode b_MO_reason 52 = .ok (.getfield 25, 3) := by decide +kernel
theorem d_MO_reason_55 : decode b_MO_reason 55 = .ok (.iload 4, 2) := by decide +kernel
theorem d_MO_reason_57 : decode b_MO_reason 57 = .ok (.iaload, 1) := by decide +kernel
theorem d_MO_reason_58 : decode b_MO_reason 58 = .ok (.iload_n 1, 1) := by decide +kernel
theorem d_MO_reason_59 : decode b_MO_reason 59 = .ok (.if_icmp .eq 6, 3) := by decide +kernel
theorem d_MO_reason_62 : decode b_MO_reason 62 = .ok (.goto 45, 3) := by decide +kernel
theorem d_MO_reason_65 : decode b_MO_reason 65 = .ok (.iload_n 3, 1) := by decide +kernel
theorem d_MO_reason_66 : decode b_MO_reason 66 = .ok (.iload_n 2, 1) := by decide +kernel
theorem d_MO_reason_67 : decode b_MO_reason 67 = .ok (.ifCond .ne 7, 3) := by decide +kernel
theorem d_MO_reason_70 : decode b_MO_reason 70 = .ok (.iconst 1, 1) := by decide +kernel
theorem d_MO_reason_71 : decode b_MO_reason 71 = .ok (.goto 34, 3) := by decide +kernel
theorem d_MO_reason_74 : decode b_MO_reason 74 = .ok (.iload_n 2, 1) := by decide +kernel
theorem d_MO_reason_75 : decode b_MO_reason 75 = .ok (.iconst 1, 1) := by decide +kernel
theorem d_MO_reason_76 : decode b_MO_reason 76 = .ok (.if_icmp .ne 13, 3) := by decide +kernel
theorem d_MO_reason_79 : decode b_MO_reason 79 = .ok (.aload_n 0, 1) := by decide +kernel
theorem d_MO_reason_80 : decode b_MO_reason 80 = .ok (.getfield 62, 3) := by decide +kernel
theorem d_MO_reason_83 : decode b_MO_reason 83 = .ok (.iload 4, 2) := by decide +kernel
theorem d_MO_reason_85 : decode b_MO_reason 85 = .ok (.iaload, 1) := by decide +kernel
theorem d_MO_reason_86 : decode b_MO_reason 86 = .ok (.goto 19, 3) := by decide +kernel
theorem d_MO_reason_89 : decode b_MO_reason 89 = .ok (.aload_n 0, 1) := by decide +kernel
theorem d_MO_reason_90 : decode b_MO_reason 90 = .ok (.getfield 28, 3) := by decide +kernel
theorem d_MO_reason_93 : decode b_MO_reason 93 = .ok (.iload 4, 2) := by decide +kernel
theorem d_MO_reason_95 : decode b_MO_reason 95 = .ok (.iaload, 1) := by decide +kernel
theorem d_MO_reason_96 : decode b_MO_reason 96 = .ok (.iconst 5, 1) := by decide +kernel
theorem d_MO_reason_97 : decode b_MO_reason 97 = .ok (.if_icmp .ne 7, 3) := by decide +kernel
theorem d_MO_reason_100 : decode b_MO_reason 100 = .ok (.iconst 1, 1) := by decide +kernel
theorem d_MO_reason_101 : decode b_MO_reason 101 = .ok (.goto 4, 3) := by decide +kernel
theorem d_MO_reason_104 : decode b_MO_reason 104 = .ok (.iconst 0, 1) := by decide +kernel
theorem d_MO_reason_105 : decode b_MO_reason 105 = .ok (.iadd, 1) := by decide +kernel
theorem d_MO_reason_106 : decode b_MO_reason 106 = .ok (.istore_n 3, 1) := by decide +kernel
theorem d_MO_reason_107 : decode b_MO_reason 107 = .ok (.iinc 4 1, 3) := by decide +kernel
theorem d_MO_reason_110 : decode b_MO_reason 110 = .ok (.goto (-68), 3) := by decide +kernel
theorem d_MO_reason_113 : decode b_MO_reason 113 = .ok (.iload_n 3, 1) := by decide +kernel
theorem d_MO_reason_114 : decode b_MO_reason 114 = .ok (.ireturn, 1) := by decide +kernel
theorem d_MO_refund_0 : decode b_MO_refund 0 = .ok (.aload_n 0, 1) := by decide +kernel
theorem d_MO_refund_1 : decode b_MO_refund 1 = .ok (.aload_n 0, 1) := by decide +kernel
theorem d_MO_refund_2 : decode b_MO_refund 2 = .ok (.iload_n 1, 1) := by decide +kernel
theorem d_MO_refund_3 : decode b_MO_refund 3 = .ok (.invokevirtual 93, 3) := by decide +kernel
theorem d_MO_refund_6 : decode b_MO_refund 6 = .ok (.ifCond .ne 7, 3) := by decide +kernel
theorem d_MO_refund_9 : decode b_MO_refund 9 = .ok (.iconst 1, 1) := by decide +kernel
theorem d_MO_refund_10 : decode b_MO_refund 10 = .ok (.goto 18, 3) := by decide +kernel
theorem d_MO_refund_13 : decode b_MO_refund 13 = .ok (.iload_n 2, 1) := by decide +kernel
theorem d_MO_refund_14 : decode b_MO_refund 14 = .ok (.iconst 1, 1) := by decide +kernel
theorem d_MO_refund_15 : decode b_MO_refund 15 = .ok (.ldc 85, 2) := by decide +kernel
theorem d_MO_refund_17 : decode b_MO_refund 17 = .ok (.invokestatic 75, 3) := by decide +kernel
theorem d_MO_refund_20 : decode b_MO_refund 20 = .ok (.ifCond .ne 7, 3) := by decide +kernel
theorem d_MO_refund_23 : decode b_MO_refund 23 = .ok (.iconst 2, 1) := by decide +kernel
theorem d_MO_refund_24 : decode b_MO_refund 24 = .ok (.goto 4, 3) := by decide +kernel
theorem d_MO_refund_27 : decode b_MO_refund 27 = .ok (.iconst 0, 1) := by decide +kernel
theorem d_MO_refund_28 : decode b_MO_refund 28 = .ok (.putfield 68, 3) := by decide +kernel
theorem d_MO_refund_31 : decode b_MO_refund 31 = .ok (.aload_n 0, 1) := by decide +kernel
theorem d_MO_refund_32 : decode b_MO_refund 32 = .ok (.getfield 68, 3) := by decide +kernel
theorem d_MO_refund_35 : decode b_MO_refund 35 = .ok (.ifCond .ne 28, 3) := by decide +kernel
theorem d_MO_refund_38 : decode b_MO_refund 38 = .ok (.aload_n 0, 1) := by decide +kernel
theorem d_MO_refund_39 : decode b_MO_refund 39 = .ok (.iload_n 2, 1) := by decide +kernel
theorem d_MO_refund_40 : decode b_MO_refund 40 = .ok (.aload_n 0, 1) := by decide +kernel
theorem d_MO_refund_41 : decode b_MO_refund 41 = .ok (.iload_n 1, 1) := by decide +kernel
theorem d_MO_refund_42 : decode b_MO_refund 42 = .ok (.invokevirtual 110, 3) := by decide +kernel
theorem d_MO_refund_45 : decode b_MO_refund 45 = .ok (.aload_n 0, 1) := by decide +kernel
theorem d_MO_refund_46 : decode b_MO_refund 46 = .ok (.getfield 62, 3) := by decide +kernel
theorem d_MO_refund_49 : decode b_MO_refund 49 = .ok (.iload_n 1, 1) := by decide +kernel
theorem d_MO_refund_50 : decode b_MO_refund 50 = .ok (.iaload, 1) := by decide +kernel
theorem d_MO_refund_51 : decode b_MO_refund 51 = .ok (.isub, 1) := by decide +kernel
theorem d_MO_refund_52 : decode b_MO_refund 52 = .ok (.if_icmp .le 7, 3) := by decide +kernel
theorem d_MO_refund_55 : decode b_MO_refund 55 = .ok (.iconst 3, 1) := by decide +kernel
theorem d_MO_refund_56 : decode b_MO_refund 56 = .ok (.goto 4, 3) := by decide +kernel
theorem d_MO_refund_59 : decode b_MO_refund 59 = .ok (.iconst 0, 1) := by decide +kernel
theorem d_MO_refund_60 : decode b_MO_refund 60 = .ok (.putfield 68, 3) := by decide +kernel
theorem d_MO_refund_63 : decode b_MO_refund 63 = .ok (.aload_n 0, 1) := by decide +kernel
theorem d_MO_refund_64 : decode b_MO_refund 64 = .ok (.getfield 68, 3) := by decide +kernel
theorem d_MO_refund_67 : decode b_MO_refund 67 = .ok (.ifCond .le 5, 3) := by decide +kernel
theorem d_MO_refund_70 : decode b_MO_refund 70 = .ok (.iconst 0, 1) := by decide +kernel
theorem d_MO_refund_71 : decode b_MO_refund 71 = .ok (.ireturn, 1) := by decide +kernel
theorem d_MO_refund_72 : decode b_MO_refund 72 = .ok (.aload_n 0, 1) := by decide +kernel
theorem d_MO_refund_73 : decode b_MO_refund 73 = .ok (.getfield 62, 3) := by decide +kernel
theorem d_MO_refund_76 : decode b_MO_refund 76 = .ok (.iload_n 1, 1) := by decide +kernel
theorem d_MO_refund_77 : decode b_MO_refund 77 = .ok (.dup2, 1) := by decide +kernel
theorem d_MO_refund_78 : decode b_MO_refund 78 = .ok (.iaload, 1) := by decide +kernel
theorem d_MO_refund_79 : decode b_MO_refund 79 = .ok (.iload_n 2, 1) := by decide +kernel
theorem d_MO_refund_80 : decode b_MO_refund 80 = .ok (.iadd, 1) := by decide +kernel
theorem d_MO_refund_81 : decode b_MO_refund 81 = .ok (.iastore, 1) := by decide +kernel
theorem d_MO_refund_82 : decode b_MO_refund 82 = .ok (.aload_n 0, 1) := by decide +kernel
theorem d_MO_refund_83 : decode b_MO_refund 83 = .ok (.iload_n 1, 1) := by decide +kernel
theorem d_MO_refund_84 : decode b_MO_refund 84 = .ok (.invokevirtual 110, 3) := by decide +kernel
theorem d_MO_refund_87 : decode b_MO_refund 87 = .ok (.aload_n 0, 1) := by decide +kernel
theorem d_MO_refund_88 : decode b_MO_refund 88 = .ok (.getfield 62, 3) := by decide +kernel
theorem d_MO_refund_91 : decode b_MO_refund 91 = .ok (.iload_n 1, 1) := by decide +kernel
theorem d_MO_refund_92 : decode b_MO_refund 92 = .ok (.iaload, 1) := by decide +kernel
theorem d_MO_refund_93 : decode b_MO_refund 93 = .ok (.isub, 1) := by decide +kernel
theorem d_MO_refund_94 : decode b_MO_refund 94 = .ok (.ireturn, 1) := by decide +kernel
theorem d_MO_regrade_0 : decode b_MO_regrade 0 = .ok (.aload_n 0, 1) := by decide +kernel
theorem d_MO_regrade_1 : decode b_MO_regrade 1 = .ok (.getfield 47, 3) := by decide +kernel
theorem d_MO_regrade_4 : decode b_MO_regrade 4 = .ok (.iload_n 1, 1) := by decide +kernel
theorem d_MO_regrade_5 : decode b_MO_regrade 5 = .ok (.aload_n 0, 1) := by decide +kernel
theorem d_MO_regrade_6 : decode b_MO_regrade 6 = .ok (.getfield 44, 3) := by decide +kernel
theorem d_MO_regrade_9 : decode b_MO_regrade 9 = .ok (.iload_n 1, 1) := by decide +kernel
theorem d_MO_regrade_10 : decode b_MO_regrade 10 = .ok (.iaload, 1) := by decide +kernel
theorem d_MO_regrade_11 : decode b_MO_regrade 11 = .ok (.iastore, 1) := by decide +kernel
theorem d_MO_regrade_12 : decode b_MO_regrade 12 = .ok (.aload_n 0, 1) := by decide +kernel
theorem d_MO_regrade_13 : decode b_MO_regrade 13 = .ok (.getfield 44, 3) := by decide +kernel
theorem d_MO_regrade_16 : decode b_MO_regrade 16 = .ok (.iload_n 1, 1) := by decide +kernel
theorem d_MO_regrade_17 : decode b_MO_regrade 17 = .ok (.iload_n 2, 1) := by decide +kernel
theorem d_MO_regrade_18 : decode b_MO_regrade 18 = .ok (.iastore, 1) := by decide +kernel
theorem d_MO_regrade_19 : decode b_MO_regrade 19 = .ok (.aload_n 0, 1) := by decide +kernel
theorem d_MO_regrade_20 : decode b_MO_regrade 20 = .ok (.getfield 50, 3) := by decide +kernel
theorem d_MO_regrade_23 : decode b_MO_regrade 23 = .ok (.iload_n 1, 1) := by decide +kernel
theorem d_MO_regrade_24 : decode b_MO_regrade 24 = .ok (.aload_n 0, 1) := by decide +kernel
theorem d_MO_regrade_25 : decode b_MO_regrade 25 = .ok (.getfield 50, 3) := by decide +kernel
theorem d_MO_regrade_28 : decode b_MO_regrade 28 = .ok (.iload_n 1, 1) := by decide +kernel
theorem d_MO_regrade_29 : decode b_MO_regrade 29 = .ok (.iaload, 1) := by decide +kernel
theorem d_MO_regrade_30 : decode b_MO_regrade 30 = .ok (.iconst (-1), 1) := by decide +kernel
theorem d_MO_regrade_31 : decode b_MO_regrade 31 = .ok (.if_icmp .eq 13, 3) := by decide +kernel
theorem d_MO_regrade_34 : decode b_MO_regrade 34 = .ok (.iload_n 2, 1) := by decide +kernel
theorem d_MO_regrade_35 : decode b_MO_regrade 35 = .ok (.aload_n 0, 1) := by decide +kernel
theorem d_MO_regrade_36 : decode b_MO_regrade 36 = .ok (.getfield 50, 3) := by decide +kernel
theorem d_MO_regrade_39 : decode b_MO_regrade 39 = .ok (.iload_n 1, 1) := by decide +kernel
theorem d_MO_regrade_40 : decode b_MO_regrade 40 = .ok (.iaload, 1) := by decide +kernel
theorem d_MO_regrade_41 : decode b_MO_regrade 41 = .ok (.if_icmp .ge 7, 3) := by decide +kernel
theorem d_MO_regrade_44 : decode b_MO_regrade 44 = .ok (.iload_n 2, 1) := by decide +kernel
theorem d_MO_regrade_45 : decode b_MO_regrade 45 = .ok (.goto 9, 3) := by decide +kernel
theorem d_MO_regrade_48 : decode b_MO_regrade 48 = .ok (.aload_n 0, 1) := by decide +kernel
theorem d_MO_regrade_49 : decode b_MO_regrade 49 = .ok (.getfield 50, 3) := by decide +kernel
theorem d_MO_regrade_52 : decode b_MO_regrade 52 = .ok (.iload_n 1, 1) := by decide +kernel
theorem d_MO_regrade_53 : decode b_MO_regrade 53 = .ok (.iaload, 1) := by decide +kernel
theorem d_MO_regrade_54 : decode b_MO_regrade 54 = .ok (.iastore, 1) := by decide +kernel
theorem d_MO_regrade_55 : decode b_MO_regrade 55 = .ok (.return_, 1) := by decide +kernel
theorem d_MO_repair_0 : decode b_MO_repair 0 = .ok (.aload_n 0, 1) := by decide +kernel
theorem d_MO_repair_1 : decode b_MO_repair 1 = .ok (.aload_n 0, 1) := by decide +kernel
theorem d_MO_repair_2 : decode b_MO_repair 2 = .ok (.iload_n 1, 1) := by decide +kernel
theorem d_MO_repair_3 : decode b_MO_repair 3 = .ok (.invokevirtual 93, 3) := by decide +kernel
theorem d_MO_repair_6 : decode b_MO_repair 6 = .ok (.ifCond .ne 7, 3) := by decide +kernel
theorem d_MO_repair_9 : decode b_MO_repair 9 = .ok (.iconst 1, 1) := by decide +kernel
theorem d_MO_repair_10 : decode b_MO_repair 10 = .ok (.goto 17, 3) := by decide +kernel
theorem d_MO_repair_13 : decode b_MO_repair 13 = .ok (.iload_n 2, 1) := by decide +kernel
theorem d_MO_repair_14 : decode b_MO_repair 14 = .ok (.iconst 1, 1) := by decide +kernel
theorem d_MO_repair_15 : decode b_MO_repair 15 = .ok (.iconst 5, 1) := by decide +kernel
theorem d_MO_repair_16 : decode b_MO_repair 16 = .ok (.invokestatic 75, 3) := by decide +kernel
theorem d_MO_repair_19 : decode b_MO_repair 19 = .ok (.ifCond .ne 7, 3) := by decide +kernel
theorem d_MO_repair_22 : decode b_MO_repair 22 = .ok (.iconst 2, 1) := by decide +kernel
theorem d_MO_repair_23 : decode b_MO_repair 23 = .ok (.goto 4, 3) := by decide +kernel
theorem d_MO_repair_26 : decode b_MO_repair 26 = .ok (.iconst 0, 1) := by decide +kernel
theorem d_MO_repair_27 : decode b_MO_repair 27 = .ok (.putfield 68, 3) := by decide +kernel
theorem d_MO_repair_30 : decode b_MO_repair 30 = .ok (.aload_n 0, 1) := by decide +kernel
theorem d_MO_repair_31 : decode b_MO_repair 31 = .ok (.getfield 68, 3) := by decide +kernel
theorem d_MO_repair_34 : decode b_MO_repair 34 = .ok (.ifCond .ne 40, 3) := by decide +kernel
theorem d_MO_repair_37 : decode b_MO_repair 37 = .ok (.aload_n 0, 1) := by decide +kernel
theorem d_MO_repair_38 : decode b_MO_repair 38 = .ok (.aload_n 0, 1) := by decide +kernel
theorem d_MO_repair_39 : decode b_MO_repair 39 = .ok (.getfield 28, 3) := by decide +kernel
theorem d_MO_repair_42 : decode b_MO_repair 42 = .ok (.iload_n 1, 1) := by decide +kernel
theorem d_MO_repair_43 : decode b_MO_repair 43 = .ok (.iaload, 1) := by decide +kernel
theorem d_MO_repair_44 : decode b_MO_repair 44 = .ok (.iconst 3, 1) := by decide +kernel
theorem d_MO_repair_45 : decode b_MO_repair 45 = .ok (.if_icmp .ne 21, 3) := by decide +kernel
theorem d_MO_repair_48 : decode b_MO_repair 48 = .ok (.aload_n 0, 1) := by decide +kernel
theorem d_MO_repair_49 : decode b_MO_repair 49 = .ok (.getfield 37, 3) := by decide +kernel
theorem d_MO_repair_52 : decode b_MO_repair 52 = .ok (.iload_n 1, 1) := by decide +kernel
theorem d_MO_repair_53 : decode b_MO_repair 53 = .ok (.baload, 1) := by decide +kernel
theorem d_MO_repair_54 : decode b_MO_repair 54 = .ok (.ifCond .ne 12, 3) := by decide +kernel
theorem d_MO_repair_57 : decode b_MO_repair 57 = .ok (.aload_n 0, 1) := by decide +kernel
theorem d_MO_repair_58 : decode b_MO_repair 58 = .ok (.getfield 44, 3) := by decide +kernel
theorem d_MO_repair_61 : decode b_MO_repair 61 = .ok (.iload_n 1, 1) := by decide +kernel
theorem d_MO_repair_62 : decode b_MO_repair 62 = .ok (.iaload, 1) := by decide +kernel
theorem d_MO_repair_63 : decode b_MO_repair 63 = .ok (.ifCond .ne 7, 3) := by decide +kernel
theorem d_MO_repair_66 : decode b_MO_repair 66 = .ok (.iconst 3, 1) := by decide +kernel
theorem d_MO_repair_67 : decode b_MO_repair 67 = .ok (.goto 4, 3) := by decide +kernel
theorem d_MO_repair_70 : decode b_MO_repair 70 = .ok (.iconst 0, 1) := by decide +kernel
theorem d_MO_repair_71 : decode b_MO_repair 71 = .ok (.putfield 68, 3) := by decide +kernel
theorem d_MO_repair_74 : decode b_MO_repair 74 = .ok (.aload_n 0, 1) := by decide +kernel
theorem d_MO_repair_75 : decode b_MO_repair 75 = .ok (.getfield 68, 3) := by decide +kernel
theorem d_MO_repair_78 : decode b_MO_repair 78 = .ok (.ifCond .le 4, 3) := by decide +kernel
theorem d_MO_repair_81 : decode b_MO_repair 81 = .ok (.return_, 1) := by decide +kernel
theorem d_MO_repair_82 : decode b_MO_repair 82 = .ok (.aload_n 0, 1) := by decide +kernel
theorem d_MO_repair_83 : decode b_MO_repair 83 = .ok (.getfield 28, 3) := by decide +kernel
theorem d_MO_repair_86 : decode b_MO_repair 86 = .ok (.iload_n 1, 1) := by decide +kernel
theorem d_MO_repair_87 : decode b_MO_repair 87 = .ok (.iconst 4, 1) := by decide +kernel
theorem d_MO_repair_88 : decode b_MO_repair 88 = .ok (.iastore, 1) := by decide +kernel
theorem d_MO_repair_89 : decode b_MO_repair 89 = .ok (.aload_n 0, 1) := by decide +kernel
theorem d_MO_repair_90 : decode b_MO_repair 90 = .ok (.getfield 56, 3) := by decide +kernel
theorem d_MO_repair_93 : decode b_MO_repair 93 = .ok (.iload_n 1, 1) := by decide +kernel
theorem d_MO_repair_94 : decode b_MO_repair 94 = .ok (.iload_n 2, 1) := by decide +kernel
theorem d_MO_repair_95 : decode b_MO_repair 95 = .ok (.iastore, 1) := by decide +kernel
theorem d_MO_repair_96 : decode b_MO_repair 96 = .ok (.return_, 1) := by decide +kernel
theorem d_MO_returnsOf_0 : decode b_MO_returnsOf 0 = .ok (.iconst 0, 1) := by decide +kernel
theorem d_MO_returnsOf_1 : decode b_MO_returnsOf 1 = .ok (.istore_n 3, 1) := by decide +kernel
theorem d_MO_returnsOf_2 : decode b_MO_returnsOf 2 = .ok (.iconst 1, 1) := by decide +kernel
theorem d_MO_returnsOf_3 : decode b_MO_returnsOf 3 = .ok (.istore 4, 2) := by decide +kernel
theorem d_MO_returnsOf_5 : decode b_MO_returnsOf 5 = .ok (.iload 4, 2) := by decide +kernel
theorem d_MO_returnsOf_7 : decode b_MO_returnsOf 7 = .ok (.aload_n 0, 1) := by decide +kernel
theorem d_MO_returnsOf_8 : decode b_MO_returnsOf 8 = .ok (.getfield 79, 3) := by decide +kernel
theorem d_MO_returnsOf_11 : decode b_MO_returnsOf 11 = .ok (.if_icmp .gt 47, 3) := by decide +kernel
theorem d_MO_returnsOf_14 : decode b_MO_returnsOf 14 = .ok (.iload_n 3, 1) := by decide +kernel
theorem d_MO_returnsOf_15 : decode b_MO_returnsOf 15 = .ok (.aload_n 0, 1) := by decide +kernel
theorem d_MO_returnsOf_16 : decode b_MO_returnsOf 16 = .ok (.getfield 7, 3) := by decide +kernel
theorem d_MO_returnsOf_19 : decode b_MO_returnsOf 19 = .ok (.aload_n 0, 1) := by decide +kernel
theorem d_MO_returnsOf_20 : decode b_MO_returnsOf 20 = .ok (.getfield 22, 3) := by decide +kernel
theorem d_MO_returnsOf_23 : decode b_MO_returnsOf 23 = .ok (.iload 4, 2) := by decide +kernel
theorem d_MO_returnsOf_25 : decode b_MO_returnsOf 25 = .ok (.iaload, 1) := by decide +kernel
theorem d_MO_returnsOf_26 : decode b_MO_returnsOf 26 = .ok (.iaload, 1) := by decide +kernel
theorem d_MO_returnsOf_27 : decode b_MO_returnsOf 27 = .ok (.iload_n 1, 1) := by decide +kernel
theorem d_MO_returnsOf_28 : decode b_MO_returnsOf 28 = .ok (.if_icmp .ne 21, 3) := by decide +kernel
theorem d_MO_returnsOf_31 : decode b_MO_returnsOf 31 = .ok (.aload_n 0, 1) := by decide +kernel
theorem d_MO_returnsOf_32 : decode b_MO_returnsOf 32 = .ok (.getfield 41, 3) := by decide +kernel
theorem d_MO_returnsOf_35 : decode b_MO_returnsOf 35 = .ok (.iload 4, 2) := by decide +kernel
theorem d_MO_returnsOf_37 : decode b_MO_returnsOf 37 = .ok (.baload, 1) := by decide +kernel
theorem d_MO_returnsOf_38 : decode b_MO_returnsOf 38 = .ok (.ifCond .ne 7, 3) := by decide +kernel
theorem d_MO_returnsOf_41 : decode b_MO_returnsOf 41 = .ok (.iload_n 2, 1) := by decide +kernel
theorem d_MO_returnsOf_42 : decode b_MO_returnsOf 42 = .ok (.ifCond .ne 7, 3) := by decide +kernel
theorem d_MO_returnsOf_45 : decode b_MO_returnsOf 45 = .ok (.iconst 1, 1) := by decide +kernel
theorem d_MO_returnsOf_46 : decode b_MO_returnsOf 46 = .ok (.goto 4, 3) := by decide +kernel
theorem d_MO_returnsOf_49 : decode b_MO_returnsOf 49 = .ok (.iconst 0, 1) := by decide +kernel
theorem d_MO_returnsOf_50 : decode b_MO_returnsOf 50 = .ok (.iadd, 1) := by decide +kernel
theorem d_MO_returnsOf_51 : decode b_MO_returnsOf 51 = .ok (.istore_n 3, 1) := by decide +kernel
theorem d_MO_returnsOf_52 : decode b_MO_returnsOf 52 = .ok (.iinc 4 1, 3) := by decide +kernel
theorem d_MO_returnsOf_55 : decode b_MO_returnsOf 55 = .ok (.goto (-50), 3) := by decide +kernel
theorem d_MO_returnsOf_58 : decode b_MO_returnsOf 58 = .ok (.iload_n 3, 1) := by decide +kernel
theorem d_MO_returnsOf_59 : decode b_MO_returnsOf 59 = .ok (.ireturn, 1) := by decide +kernel
theorem d_MO_sale_0 : decode b_MO_sale 0 = .ok (.aload_n 0, 1) := by decide +kernel
theorem d_MO_sale_1 : decode b_MO_sale 1 = .ok (.iload_n 1, 1) := by decide +kernel
theorem d_MO_sale_2 : decode b_MO_sale 2 = .ok (.iconst 0, 1) := by decide +kernel
theorem d_MO_sale_3 : decode b_MO_sale 3 = .ok (.iconst 5, 1) := by decide +kernel
theorem d_MO_sale_4 : decode b_MO_sale 4 = .ok (.invokestatic 75, 3) := by decide +kernel
theorem d_MO_sale_7 : decode b_MO_sale 7 = .ok (.ifCond .eq 24, 3) := by decide +kernel
theorem d_MO_sale_10 : decode b_MO_sale 10 = .ok (.iload_n 2, 1) := by decide +kernel
theorem d_MO_sale_11 : decode b_MO_sale 11 = .ok (.iconst 1, 1) := by decide +kernel
theorem d_MO_sale_12 : decode b_MO_sale 12 = .ok (.ldc 85, 2) := by decide +kernel
theorem d_MO_sale_14 : decode b_MO_sale 14 = .ok (.invokestatic 75, 3) := by decide +kernel
theorem d_MO_sale_17 : decode b_MO_sale 17 = .ok (.ifCond .eq 14, 3) := by decide +kernel
theorem d_MO_sale_20 : decode b_MO_sale 20 = .ok (.iload_n 3, 1) := by decide +kernel
theorem d_MO_sale_21 : decode b_MO_sale 21 = .ok (.iconst 0, 1) := by decide +kernel
theorem d_MO_sale_22 : decode b_MO_sale 22 = .ok (.sipush 1000, 3) := by decide +kernel
theorem d_MO_sale_25 : decode b_MO_sale 25 = .ok (.invokestatic 75, 3) := by decide +kernel
theorem d_MO_sale_28 : decode b_MO_sale 28 = .ok (.ifCond .ne 7, 3) := by decide +kernel
theorem d_MO_sale_31 : decode b_MO_sale 31 = .ok (.iconst 1, 1) := by decide +kernel
theorem d_MO_sale_32 : decode b_MO_sale 32 = .ok (.goto 17, 3) := by decide +kernel
theorem d_MO_sale_35 : decode b_MO_sale 35 = .ok (.aload_n 0, 1) := by decide +kernel
theorem d_MO_sale_36 : decode b_MO_sale 36 = .ok (.getfield 72, 3) := by decide +kernel
theorem d_MO_sale_39 : decode b_MO_sale 39 = .ok (.bipush 20, 2) := by decide +kernel
theorem d_MO_sale_41 : decode b_MO_sale 41 = .ok (.if_icmp .ne 7, 3) := by decide +kernel
theorem d_MO_sale_44 : decode b_MO_sale 44 = .ok (.iconst 2, 1) := by decide +kernel
theorem d_MO_sale_45 : decode b_MO_sale 45 = .ok (.goto 4, 3) := by decide +kernel
theorem d_MO_sale_48 : decode b_MO_sale 48 = .ok (.iconst 0, 1) := by decide +kernel
theorem d_MO_sale_49 : decode b_MO_sale 49 = .ok (.putfield 68, 3) := by decide +kernel
theorem d_MO_sale_52 : decode b_MO_sale 52 = .ok (.aload_n 0, 1) := by decide +kernel
theorem d_MO_sale_53 : decode b_MO_sale 53 = .ok (.getfield 68, 3) := by decide +kernel
theorem d_MO_sale_56 : decode b_MO_sale 56 = .ok (.ifCond .le 5, 3) := by decide +kernel
theorem d_MO_sale_59 : decode b_MO_sale 59 = .ok (.iconst 0, 1) := by decide +kernel
theorem d_MO_sale_60 : decode b_MO_sale 60 = .ok (.ireturn, 1) := by decide +kernel
theorem d_MO_sale_61 : decode b_MO_sale 61 = .ok (.aload_n 0, 1) := by decide +kernel
theorem d_MO_sale_62 : decode b_MO_sale 62 = .ok (.getfield 7, 3) := by decide +kernel
theorem d_MO_sale_65 : decode b_MO_sale 65 = .ok (.aload_n 0, 1) := by decide +kernel
theorem d_MO_sale_66 : decode b_MO_sale 66 = .ok (.getfield 72, 3) := by decide +kernel
theorem d_MO_sale_69 : decode b_MO_sale 69 = .ok (.iload_n 1, 1) := by decide +kernel
theorem d_MO_sale_70 : decode b_MO_sale 70 = .ok (.iastore, 1) := by decide +kernel
theorem d_MO_sale_71 : decode b_MO_sale 71 = .ok (.aload_n 0, 1) := by decide +kernel
theorem d_MO_sale_72 : decode b_MO_sale 72 = .ok (.getfield 13, 3) := by decide +kernel
theorem d_MO_sale_75 : decode b_MO_sale 75 = .ok (.aload_n 0, 1) := by decide +kernel
theorem d_MO_sale_76 : decode b_MO_sale 76 = .ok (.getfield 72, 3) := by decide +kernel
theorem d_MO_sale_79 : decode b_MO_sale 79 = .ok (.iload_n 2, 1) := by decide +kernel
theorem d_MO_sale_80 : decode b_MO_sale 80 = .ok (.iastore, 1) := by decide +kernel
theorem d_MO_sale_81 : decode b_MO_sale 81 = .ok (.aload_n 0, 1) := by decide +kernel
theorem d_MO_sale_82 : decode b_MO_sale 82 = .ok (.getfield 16, 3) := by decide +kernel
theorem d_MO_sale_85 : decode b_MO_sale 85 = .ok (.aload_n 0, 1) := by decide +kernel
theorem d_MO_sale_86 : decode b_MO_sale 86 = .ok (.getfield 72, 3) := by decide +kernel
theorem d_MO_sale_89 : decode b_MO_sale 89 = .ok (.iload_n 3, 1) := by decide +kernel
theorem d_MO_sale_90 : decode b_MO_sale 90 = .ok (.iastore, 1) := by decide +kernel
theorem d_MO_sale_91 : decode b_MO_sale 91 = .ok (.aload_n 0, 1) := by decide +kernel
theorem d_MO_sale_92 : decode b_MO_sale 92 = .ok (.getfield 19, 3) := by decide +kernel
theorem d_MO_sale_95 : decode b_MO_sale 95 = .ok (.aload_n 0, 1) := by decide +kernel
theorem d_MO_sale_96 : decode b_MO_sale 96 = .ok (.getfield 72, 3) := by decide +kernel
theorem d_MO_sale_99 : decode b_MO_sale 99 = .ok (.aload_n 0, 1) := by decide +kernel
theorem d_MO_sale_100 : decode b_MO_sale 100 = .ok (.getfield 82, 3) := by decide +kernel
theorem d_MO_sale_103 : decode b_MO_sale 103 = .ok (.iastore, 1) := by decide +kernel
theorem d_MO_sale_104 : decode b_MO_sale 104 = .ok (.aload_n 0, 1) := by decide +kernel
theorem d_MO_sale_105 : decode b_MO_sale 105 = .ok (.dup, 1) := by decide +kernel
theorem d_MO_sale_106 : decode b_MO_sale 106 = .ok (.getfield 72, 3) := by decide +kernel
theorem d_MO_sale_109 : decode b_MO_sale 109 = .ok (.iconst 1, 1) := by decide +kernel
theorem d_MO_sale_110 : decode b_MO_sale 110 = .ok (.iadd, 1) := by decide +kernel
theorem d_MO_sale_111 : decode b_MO_sale 111 = .ok (.putfield 72, 3) := by decide +kernel
theorem d_MO_sale_114 : decode b_MO_sale 114 = .ok (.aload_n 0, 1) := by decide +kernel
theorem d_MO_sale_115 : decode b_MO_sale 115 = .ok (.getfield 72, 3) := by decide +kernel
theorem d_MO_sale_118 : decode b_MO_sale 118 = .ok (.iconst 1, 1) := by decide +kernel
theorem d_MO_sale_119 : decode b_MO_sale 119 = .ok (.isub, 1) := by decide +kernel
theorem d_MO_sale_120 : decode b_MO_sale 120 = .ok (.ireturn, 1) := by decide +kernel
theorem d_MO_scrap_0 : decode b_MO_scrap 0 = .ok (.aload_n 0, 1) := by decide +kernel
theorem d_MO_scrap_1 : decode b_MO_scrap 1 = .ok (.aload_n 0, 1) := by decide +kernel
theorem d_MO_scrap_2 : decode b_MO_scrap 2 = .ok (.iload_n 1, 1) := by decide +kernel
theorem d_MO_scrap_3 : decode b_MO_scrap 3 = .ok (.invokevirtual 93, 3) := by decide +kernel
theorem d_MO_scrap_6 : decode b_MO_scrap 6 = .ok (.ifCond .ne 7, 3) := by decide +kernel
theorem d_MO_scrap_9 : decode b_MO_scrap 9 = .ok (.iconst 1, 1) := by decide +kernel
theorem d_MO_scrap_10 : decode b_MO_scrap 10 = .ok (.goto 19, 3) := by decide +kernel
theorem d_MO_scrap_13 : decode b_MO_scrap 13 = .ok (.iload_n 2, 1) := by decide +kernel
theorem d_MO_scrap_14 : decode b_MO_scrap 14 = .ok (.iconst 1, 1) := by decide +kernel
theorem d_MO_scrap_15 : decode b_MO_scrap 15 = .ok (.sipush 1000, 3) := by decide +kernel
theorem d_MO_scrap_18 : decode b_MO_scrap 18 = .ok (.invokestatic 75, 3) := by decide +kernel
theorem d_MO_scrap_21 : decode b_MO_scrap 21 = .ok (.ifCond .ne 7, 3) := by decide +kernel
theorem d_MO_scrap_24 : decode b_MO_scrap 24 = .ok (.iconst 2, 1) := by decide +kernel
theorem d_MO_scrap_25 : decode b_MO_scrap 25 = .ok (.goto 4, 3) := by decide +kernel
theorem d_MO_scrap_28 : decode b_MO_scrap 28 = .ok (.iconst 0, 1) := by decide +kernel
theorem d_MO_scrap_29 : decode b_MO_scrap 29 = .ok (.putfield 68, 3) := by decide +kernel
theorem d_MO_scrap_32 : decode b_MO_scrap 32 = .ok (.aload_n 0, 1) := by decide +kernel
theorem d_MO_scrap_33 : decode b_MO_scrap 33 = .ok (.getfield 68, 3) := by decide +kernel
theorem d_MO_scrap_36 : decode b_MO_scrap 36 = .ok (.ifCond .ne 32, 3) := by decide +kernel
theorem d_MO_scrap_39 : decode b_MO_scrap 39 = .ok (.aload_n 0, 1) := by decide +kernel
theorem d_MO_scrap_40 : decode b_MO_scrap 40 = .ok (.aload_n 0, 1) := by decide +kernel
theorem d_MO_scrap_41 : decode b_MO_scrap 41 = .ok (.getfield 28, 3) := by decide +kernel
theorem d_MO_scrap_44 : decode b_MO_scrap 44 = .ok (.iload_n 1, 1) := by decide +kernel
theorem d_MO_scrap_45 : decode b_MO_scrap 45 = .ok (.iaload, 1) := by decide +kernel
theorem d_MO_scrap_46 : decode b_MO_scrap 46 = .ok (.iconst 3, 1) := by decide +kernel
theorem d_MO_scrap_47 : decode b_MO_scrap 47 = .ok (.if_icmp .ne 13, 3) := by decide +kernel
theorem d_MO_scrap_50 : decode b_MO_scrap 50 = .ok (.aload_n 0, 1) := by decide +kernel
theorem d_MO_scrap_51 : decode b_MO_scrap 51 = .ok (.getfield 44, 3) := by decide +kernel
theorem d_MO_scrap_54 : decode b_MO_scrap 54 = .ok (.iload_n 1, 1) := by decide +kernel
theorem d_MO_scrap_55 : decode b_MO_scrap 55 = .ok (.iaload, 1) := by decide +kernel
theorem d_MO_scrap_56 : decode b_MO_scrap 56 = .ok (.iconst 3, 1) := by decide +kernel
theorem d_MO_scrap_57 : decode b_MO_scrap 57 = .ok (.if_icmp .ge 7, 3) := by decide +kernel
theorem d_MO_scrap_60 : decode b_MO_scrap 60 = .ok (.iconst 3, 1) := by decide +kernel
theorem d_MO_scrap_61 : decode b_MO_scrap 61 = .ok (.goto 4, 3) := by decide +kernel
theorem d_MO_scrap_64 : decode b_MO_scrap 64 = .ok (.iconst 0, 1) := by decide +kernel
theorem d_MO_scrap_65 : decode b_MO_scrap 65 = .ok (.putfield 68, 3) := by decide +kernel
theorem d_MO_scrap_68 : decode b_MO_scrap 68 = .ok (.aload_n 0, 1) := by decide +kernel
theorem d_MO_scrap_69 : decode b_MO_scrap 69 = .ok (.getfield 68, 3) := by decide +kernel
theorem d_MO_scrap_72 : decode b_MO_scrap 72 = .ok (.ifCond .gt 12, 3) := by decide +kernel
theorem d_MO_scrap_75 : decode b_MO_scrap 75 = .ok (.aload_n 0, 1) := by decide +kernel
theorem d_MO_scrap_76 : decode b_MO_scrap 76 = .ok (.getfield 65, 3) := by decide +kernel
theorem d_MO_scrap_79 : decode b_MO_scrap 79 = .ok (.iload_n 2, 1) := by decide +kernel
theorem d_MO_scrap_80 : decode b_MO_scrap 80 = .ok (.iaload, 1) := by decide +kernel
theorem d_MO_scrap_81 : decode b_MO_scrap 81 = .ok (.ifCond .eq 5, 3) := by decide +kernel
theorem d_MO_scrap_84 : decode b_MO_scrap 84 = .ok (.iconst 0, 1) := by decide +kernel
theorem d_MO_scrap_85 : decode b_MO_scrap 85 = .ok (.ireturn, 1) := by decide +kernel
theorem d_MO_scrap_86 : decode b_MO_scrap 86 = .ok (.aload_n 0, 1) := by decide +kernel
theorem d_MO_scrap_87 : decode b_MO_scrap 87 = .ok (.getfield 65, 3) := by decide +kernel
theorem d_MO_scrap_90 : decode b_MO_scrap 90 = .ok (.iload_n 2, 1) := by decide +kernel
theorem d_MO_scrap_91 : decode b_MO_scrap 91 = .ok (.iload_n 1, 1) := by decide +kernel
theorem d_MO_scrap_92 : decode b_MO_scrap 92 = .ok (.iastore, 1) := by decide +kernel
theorem d_MO_scrap_93 : decode b_MO_scrap 93 = .ok (.aload_n 0, 1) := by decide +kernel
theorem d_MO_scrap_94 : decode b_MO_scrap 94 = .ok (.getfield 28, 3) := by decide +kernel
theorem d_MO_scrap_97 : decode b_MO_scrap 97 = .ok (.iload_n 1, 1) := by decide +kernel
theorem d_MO_scrap_98 : decode b_MO_scrap 98 = .ok (.iconst 5, 1) := by decide +kernel
theorem d_MO_scrap_99 : decode b_MO_scrap 99 = .ok (.iastore, 1) := by decide +kernel
theorem d_MO_scrap_100 : decode b_MO_scrap 100 = .ok (.iconst 1, 1) := by decide +kernel
theorem d_MO_scrap_101 : decode b_MO_scrap 101 = .ok (.ireturn, 1) := by decide +kernel
theorem d_MO_serial_0 : decode b_MO_serial 0 = .ok (.aload_n 0, 1) := by decide +kernel
theorem d_MO_serial_1 : decode b_MO_serial 1 = .ok (.aload_n 0, 1) := by decide +kernel
theorem d_MO_serial_2 : decode b_MO_serial 2 = .ok (.iload_n 1, 1) := by decide +kernel
theorem d_MO_serial_3 : decode b_MO_serial 3 = .ok (.invokevirtual 93, 3) := by decide +kernel
theorem d_MO_serial_6 : decode b_MO_serial 6 = .ok (.ifCond .eq 11, 3) := by decide +kernel
theorem d_MO_serial_9 : decode b_MO_serial 9 = .ok (.aload_n 0, 1) := by decide +kernel
theorem d_MO_serial_10 : decode b_MO_serial 10 = .ok (.iload_n 2, 1) := by decide +kernel
theorem d_MO_serial_11 : decode b_MO_serial 11 = .ok (.invokevirtual 86, 3) := by decide +kernel
theorem d_MO_serial_14 : decode b_MO_serial 14 = .ok (.ifCond .ne 7, 3) := by decide +kernel
theorem d_MO_serial_17 : decode b_MO_serial 17 = .ok (.iconst 1, 1) := by decide +kernel
theorem d_MO_serial_18 : decode b_MO_serial 18 = .ok (.goto 4, 3) := by decide +kernel
theorem d_MO_serial_21 : decode b_MO_serial 21 = .ok (.iconst 0, 1) := by decide +kernel
theorem d_MO_serial_22 : decode b_MO_serial 22 = .ok (.putfield 68, 3) := by decide +kernel
theorem d_MO_serial_25 : decode b_MO_serial 25 = .ok (.aload_n 0, 1) := by decide +kernel
theorem d_MO_serial_26 : decode b_MO_serial 26 = .ok (.getfield 68, 3) := by decide +kernel
theorem d_MO_serial_29 : decode b_MO_serial 29 = .ok (.ifCond .ne 22, 3) := by decide +kernel
theorem d_MO_serial_32 : decode b_MO_serial 32 = .ok (.aload_n 0, 1) := by decide +kernel
theorem d_MO_serial_33 : decode b_MO_serial 33 = .ok (.aload_n 0, 1) := by decide +kernel
theorem d_MO_serial_34 : decode b_MO_serial 34 = .ok (.getfield 28, 3) := by decide +kernel
theorem d_MO_serial_37 : decode b_MO_serial 37 = .ok (.iload_n 1, 1) := by decide +kernel
theorem d_MO_serial_38 : decode b_MO_serial 38 = .ok (.iaload, 1) := by decide +kernel
theorem d_MO_serial_39 : decode b_MO_serial 39 = .ok (.iconst 2, 1) := by decide +kernel
theorem d_MO_serial_40 : decode b_MO_serial 40 = .ok (.if_icmp .eq 7, 3) := by decide +kernel
theorem d_MO_serial_43 : decode b_MO_serial 43 = .ok (.iconst 2, 1) := by decide +kernel
theorem d_MO_serial_44 : decode b_MO_serial 44 = .ok (.goto 4, 3) := by decide +kernel
theorem d_MO_serial_47 : decode b_MO_serial 47 = .ok (.iconst 0, 1) := by decide +kernel
theorem d_MO_serial_48 : decode b_MO_serial 48 = .ok (.putfield 68, 3) := by decide +kernel
theorem d_MO_serial_51 : decode b_MO_serial 51 = .ok (.aload_n 0, 1) := by decide +kernel
theorem d_MO_serial_52 : decode b_MO_serial 52 = .ok (.getfield 68, 3) := by decide +kernel
theorem d_MO_serial_55 : decode b_MO_serial 55 = .ok (.ifCond .le 5, 3) := by decide +kernel
theorem d_MO_serial_58 : decode b_MO_serial 58 = .ok (.iconst 0, 1) := by decide +kernel
theorem d_MO_serial_59 : decode b_MO_serial 59 = .ok (.ireturn, 1) := by decide +kernel
theorem d_MO_serial_60 : decode b_MO_serial 60 = .ok (.aload_n 0, 1) := by decide +kernel
theorem d_MO_serial_61 : decode b_MO_serial 61 = .ok (.getfield 41, 3) := by decide +kernel
theorem d_MO_serial_64 : decode b_MO_serial 64 = .ok (.iload_n 1, 1) := by decide +kernel
theorem d_MO_serial_65 : decode b_MO_serial 65 = .ok (.aload_n 0, 1) := by decide +kernel
theorem d_MO_serial_66 : decode b_MO_serial 66 = .ok (.getfield 22, 3) := by decide +kernel
theorem d_MO_serial_69 : decode b_MO_serial 69 = .ok (.iload_n 1, 1) := by decide +kernel
theorem d_MO_serial_70 : decode b_MO_serial 70 = .ok (.iaload, 1) := by decide +kernel
theorem d_MO_serial_71 : decode b_MO_serial 71 = .ok (.iload_n 2, 1) := by decide +kernel
theorem d_MO_serial_72 : decode b_MO_serial 72 = .ok (.if_icmp .eq 7, 3) := by decide +kernel
theorem d_MO_serial_75 : decode b_MO_serial 75 = .ok (.iconst 1, 1) := by decide +kernel
theorem d_MO_serial_76 : decode b_MO_serial 76 = .ok (.goto 4, 3) := by decide +kernel
theorem d_MO_serial_79 : decode b_MO_serial 79 = .ok (.iconst 0, 1) := by decide +kernel
theorem d_MO_serial_80 : decode b_MO_serial 80 = .ok (.bastore, 1) := by decide +kernel
theorem d_MO_serial_81 : decode b_MO_serial 81 = .ok (.aload_n 0, 1) := by decide +kernel
theorem d_MO_serial_82 : decode b_MO_serial 82 = .ok (.getfield 41, 3) := by decide +kernel
theorem d_MO_serial_85 : decode b_MO_serial 85 = .ok (.iload_n 1, 1) := by decide +kernel
theorem d_MO_serial_86 : decode b_MO_serial 86 = .ok (.baload, 1) := by decide +kernel
theorem d_MO_serial_87 : decode b_MO_serial 87 = .ok (.ifCond .eq 9, 3) := by decide +kernel
theorem d_MO_serial_90 : decode b_MO_serial 90 = .ok (.iconst (-1), 1) := by decide +kernel
theorem d_MO_serial_91 : decode b_MO_serial 91 = .ok (.iload_n 2, 1) := by decide +kernel
theorem d_MO_serial_92 : decode b_MO_serial 92 = .ok (.isub, 1) := by decide +kernel
theorem d_MO_serial_93 : decode b_MO_serial 93 = .ok (.goto 4, 3) := by decide +kernel
theorem d_MO_serial_96 : decode b_MO_serial 96 = .ok (.iconst 1, 1) := by decide +kernel
theorem d_MO_serial_97 : decode b_MO_serial 97 = .ok (.ireturn, 1) := by decide +kernel
theorem d_MO_step_0 : decode b_MO_step 0 = .ok (.aload_n 0, 1) := by decide +kernel
theorem d_MO_step_1 : decode b_MO_step 1 = .ok (.aload_n 0, 1) := by decide +kernel
theorem d_MO_step_2 : decode b_MO_step 2 = .ok (.iload_n 1, 1) := by decide +kernel
theorem d_MO_step_3 : decode b_MO_step 3 = .ok (.invokevirtual 93, 3) := by decide +kernel
theorem d_MO_step_6 : decode b_MO_step 6 = .ok (.ifCond .ne 7, 3) := by decide +kernel
theorem d_MO_step_9 : decode b_MO_step 9 = .ok (.iconst 1, 1) := by decide +kernel
theorem d_MO_step_10 : decode b_MO_step 10 = .ok (.goto 4, 3) := by decide +kernel
theorem d_MO_step_13 : decode b_MO_step 13 = .ok (.iconst 0, 1) := by decide +kernel
theorem d_MO_step_14 : decode b_MO_step 14 = .ok (.putfield 68, 3) := by decide +kernel
theorem d_MO_step_17 : decode b_MO_step 17 = .ok (.aload_n 0, 1) := by decide +kernel
theorem d_MO_step_18 : decode b_MO_step 18 = .ok (.getfield 68, 3) := by decide +kernel
theorem d_MO_step_21 : decode b_MO_step 21 = .ok (.ifCond .ne 22, 3) := by decide +kernel
theorem d_MO_step_24 : decode b_MO_step 24 = .ok (.aload_n 0, 1) := by decide +kernel
theorem d_MO_step_25 : decode b_MO_step 25 = .ok (.aload_n 0, 1) := by decide +kernel
theorem d_MO_step_26 : decode b_MO_step 26 = .ok (.getfield 28, 3) := by decide +kernel
theorem d_MO_step_29 : decode b_MO_step 29 = .ok (.iload_n 1, 1) := by decide +kernel
theorem d_MO_step_30 : decode b_MO_step 30 = .ok (.iaload, 1) := by decide +kernel
theorem d_MO_step_31 : decode b_MO_step 31 = .ok (.iconst 4, 1) := by decide +kernel
theorem d_MO_step_32 : decode b_MO_step 32 = .ok (.if_icmp .eq 7, 3) := by decide +kernel
theorem d_MO_step_35 : decode b_MO_step 35 = .ok (.iconst 2, 1) := by decide +kernel
theorem d_MO_step_36 : decode b_MO_step 36 = .ok (.goto 4, 3) := by decide +kernel
theorem d_MO_step_39 : decode b_MO_step 39 = .ok (.iconst 0, 1) := by decide +kernel
theorem d_MO_step_40 : decode b_MO_step 40 = .ok (.putfield 68, 3) := by decide +kernel
theorem d_MO_step_43 : decode b_MO_step 43 = .ok (.aload_n 0, 1) := by decide +kernel
theorem d_MO_step_44 : decode b_MO_step 44 = .ok (.getfield 68, 3) := by decide +kernel
theorem d_MO_step_47 : decode b_MO_step 47 = .ok (.ifCond .le 5, 3) := by decide +kernel
theorem d_MO_step_50 : decode b_MO_step 50 = .ok (.iconst 0, 1) := by decide +kernel
theorem d_MO_step_51 : decode b_MO_step 51 = .ok (.ireturn, 1) := by decide +kernel
theorem d_MO_step_52 : decode b_MO_step 52 = .ok (.aload_n 0, 1) := by decide +kernel
theorem d_MO_step_53 : decode b_MO_step 53 = .ok (.getfield 56, 3) := by decide +kernel
theorem d_MO_step_56 : decode b_MO_step 56 = .ok (.iload_n 1, 1) := by decide +kernel
theorem d_MO_step_57 : decode b_MO_step 57 = .ok (.iload_n 2, 1) := by decide +kernel
theorem d_MO_step_58 : decode b_MO_step 58 = .ok (.ifCond .eq 14, 3) := by decide +kernel
theorem d_MO_step_61 : decode b_MO_step 61 = .ok (.aload_n 0, 1) := by decide +kernel
theorem d_MO_step_62 : decode b_MO_step 62 = .ok (.getfield 56, 3) := by decide +kernel
theorem d_MO_step_65 : decode b_MO_step 65 = .ok (.iload_n 1, 1) := by decide +kernel
theorem d_MO_step_66 : decode b_MO_step 66 = .ok (.iaload, 1) := by decide +kernel
theorem d_MO_step_67 : decode b_MO_step 67 = .ok (.iconst 1, 1) := by decide +kernel
theorem d_MO_step_68 : decode b_MO_step 68 = .ok (.isub, 1) := by decide +kernel
theorem d_MO_step_69 : decode b_MO_step 69 = .ok (.goto 4, 3) := by decide +kernel
theorem d_MO_step_72 : decode b_MO_step 72 = .ok (.iconst 0, 1) := by decide +kernel
theorem d_MO_step_73 : decode b_MO_step 73 = .ok (.iastore, 1) := by decide +kernel
theorem d_MO_step_74 : decode b_MO_step 74 = .ok (.aload_n 0, 1) := by decide +kernel
theorem d_MO_step_75 : decode b_MO_step 75 = .ok (.getfield 56, 3) := by decide +kernel
theorem d_MO_step_78 : decode b_MO_step 78 = .ok (.iload_n 1, 1) := by decide +kernel
theorem d_MO_step_79 : decode b_MO_step 79 = .ok (.iaload, 1) := by decide +kernel
theorem d_MO_step_80 : decode b_MO_step 80 = .ok (.ifCond .le 10, 3) := by decide +kernel
theorem d_MO_step_83 : decode b_MO_step 83 = .ok (.aload_n 0, 1) := by decide +kernel
theorem d_MO_step_84 : decode b_MO_step 84 = .ok (.getfield 56, 3) := by decide +kernel
theorem d_MO_step_87 : decode b_MO_step 87 = .ok (.iload_n 1, 1) := by decide +kernel
theorem d_MO_step_88 : decode b_MO_step 88 = .ok (.iaload, 1) := by decide +kernel
theorem d_MO_step_89 : decode b_MO_step 89 = .ok (.ireturn, 1) := by decide +kernel
theorem d_MO_step_90 : decode b_MO_step 90 = .ok (.aload_n 0, 1) := by decide +kernel
theorem d_MO_step_91 : decode b_MO_step 91 = .ok (.getfield 28, 3) := by decide +kernel
theorem d_MO_step_94 : decode b_MO_step 94 = .ok (.iload_n 1, 1) := by decide +kernel
theorem d_MO_step_95 : decode b_MO_step 95 = .ok (.iconst 3, 1) := by decide +kernel
theorem d_MO_step_96 : decode b_MO_step 96 = .ok (.iastore, 1) := by decide +kernel
theorem d_MO_step_97 : decode b_MO_step 97 = .ok (.iload_n 2, 1) := by decide +kernel
theorem d_MO_step_98 : decode b_MO_step 98 = .ok (.ifCond .eq 16, 3) := by decide +kernel
theorem d_MO_step_101 : decode b_MO_step 101 = .ok (.aload_n 0, 1) := by decide +kernel
theorem d_MO_step_102 : decode b_MO_step 102 = .ok (.iload_n 1, 1) := by decide +kernel
theorem d_MO_step_103 : decode b_MO_step 103 = .ok (.aload_n 0, 1) := by decide +kernel
theorem d_MO_step_104 : decode b_MO_step 104 = .ok (.getfield 44, 3) := by decide +kernel
theorem d_MO_step_107 : decode b_MO_step 107 = .ok (.iload_n 1, 1) := by decide +kernel
theorem d_MO_step_108 : decode b_MO_step 108 = .ok (.iaload, 1) := by decide +kernel
theorem d_MO_step_109 : decode b_MO_step 109 = .ok (.iconst 1, 1) := by decide +kernel
theorem d_MO_step_110 : decode b_MO_step 110 = .ok (.isub, 1) := by decide +kernel
theorem d_MO_step_111 : decode b_MO_step 111 = .ok (.invokevirtual 99, 3) := by decide +kernel
theorem d_MO_step_114 : decode b_MO_step 114 = .ok (.iconst 0, 1) := by decide +kernel
theorem d_MO_step_115 : decode b_MO_step 115 = .ok (.ireturn, 1) := by decide +kernel
theorem d_MO_thrown_0 : decode b_MO_thrown 0 = .ok (.aload_n 0, 1) := by decide +kernel
theorem d_MO_thrown_1 : decode b_MO_thrown 1 = .ok (.getfield 68, 3) := by decide +kernel
theorem d_MO_thrown_4 : decode b_MO_thrown 4 = .ok (.ireturn, 1) := by decide +kernel
theorem d_MO_told_0 : decode b_MO_told 0 = .ok (.aload_n 0, 1) := by decide +kernel
theorem d_MO_told_1 : decode b_MO_told 1 = .ok (.aload_n 0, 1) := by decide +kernel
theorem d_MO_told_2 : decode b_MO_told 2 = .ok (.iload_n 1, 1) := by decide +kernel
theorem d_MO_told_3 : decode b_MO_told 3 = .ok (.invokevirtual 93, 3) := by decide +kernel
theorem d_MO_told_6 : decode b_MO_told 6 = .ok (.ifCond .ne 7, 3) := by decide +kernel
theorem d_MO_told_9 : decode b_MO_told 9 = .ok (.iconst 1, 1) := by decide +kernel
theorem d_MO_told_10 : decode b_MO_told 10 = .ok (.goto 18, 3) := by decide +kernel
theorem d_MO_told_13 : decode b_MO_told 13 = .ok (.iload_n 2, 1) := by decide +kernel
theorem d_MO_told_14 : decode b_MO_told 14 = .ok (.iconst 0, 1) := by decide +kernel
theorem d_MO_told_15 : decode b_MO_told 15 = .ok (.bipush 11, 2) := by decide +kernel
theorem d_MO_told_17 : decode b_MO_told 17 = .ok (.invokestatic 75, 3) := by decide +kernel
theorem d_MO_told_20 : decode b_MO_told 20 = .ok (.ifCond .ne 7, 3) := by decide +kernel
theorem d_MO_told_23 : decode b_MO_told 23 = .ok (.iconst 2, 1) := by decide +kernel
theorem d_MO_told_24 : decode b_MO_told 24 = .ok (.goto 4, 3) := by decide +kernel
theorem d_MO_told_27 : decode b_MO_told 27 = .ok (.iconst 0, 1) := by decide +kernel
theorem d_MO_told_28 : decode b_MO_told 28 = .ok (.putfield 68, 3) := by decide +kernel
theorem d_MO_told_31 : decode b_MO_told 31 = .ok (.aload_n 0, 1) := by decide +kernel
theorem d_MO_told_32 : decode b_MO_told 32 = .ok (.getfield 68, 3) := by decide +kernel
theorem d_MO_told_35 : decode b_MO_told 35 = .ok (.ifCond .le 5, 3) := by decide +kernel
theorem d_MO_told_38 : decode b_MO_told 38 = .ok (.iconst 0, 1) := by decide +kernel
theorem d_MO_told_39 : decode b_MO_told 39 = .ok (.ireturn, 1) := by decide +kernel
theorem d_MO_told_40 : decode b_MO_told 40 = .ok (.iload_n 2, 1) := by decide +kernel
theorem d_MO_told_41 : decode b_MO_told 41 = .ok (.ifCond .ne 10, 3) := by decide +kernel
theorem d_MO_told_44 : decode b_MO_told 44 = .ok (.aload_n 0, 1) := by decide +kernel
theorem d_MO_told_45 : decode b_MO_told 45 = .ok (.getfield 28, 3) := by decide +kernel
theorem d_MO_told_48 : decode b_MO_told 48 = .ok (.iload_n 1, 1) := by decide +kernel
theorem d_MO_told_49 : decode b_MO_told 49 = .ok (.iaload, 1) := by decide +kernel
theorem d_MO_told_50 : decode b_MO_told 50 = .ok (.ireturn, 1) := by decide +kernel
theorem d_MO_told_51 : decode b_MO_told 51 = .ok (.iload_n 2, 1) := by decide +kernel
theorem d_MO_told_52 : decode b_MO_told 52 = .ok (.iconst 1, 1) := by decide +kernel
theorem d_MO_told_53 : decode b_MO_told 53 = .ok (.if_icmp .ne 10, 3) := by decide +kernel
theorem d_MO_told_56 : decode b_MO_told 56 = .ok (.aload_n 0, 1) := by decide +kernel
theorem d_MO_told_57 : decode b_MO_told 57 = .ok (.getfield 22, 3) := by decide +kernel
theorem d_MO_told_60 : decode b_MO_told 60 = .ok (.iload_n 1, 1) := by decide +kernel
theorem d_MO_told_61 : decode b_MO_told 61 = .ok (.iaload, 1) := by decide +kernel
theorem d_MO_told_62 : decode b_MO_told 62 = .ok (.ireturn, 1) := by decide +kernel
theorem d_MO_told_63 : decode b_MO_told 63 = .ok (.iload_n 2, 1) := by decide +kernel
theorem d_MO_told_64 : decode b_MO_told 64 = .ok (.iconst 2, 1) := by decide +kernel
theorem d_MO_told_65 : decode b_MO_told 65 = .ok (.if_icmp .ne 10, 3) := by decide +kernel
theorem d_MO_told_68 : decode b_MO_told 68 = .ok (.aload_n 0, 1) := by decide +kernel
theorem d_MO_told_69 : decode b_MO_told 69 = .ok (.getfield 25, 3) := by decide +kernel
theorem d_MO_told_72 : decode b_MO_told 72 = .ok (.iload_n 1, 1) := by decide +kernel
theorem d_MO_told_73 : decode b_MO_told 73 = .ok (.iaload, 1) := by decide +kernel
theorem d_MO_told_74 : decode b_MO_told 74 = .ok (.ireturn, 1) := by decide +kernel
theorem d_MO_told_75 : decode b_MO_told 75 = .ok (.iload_n 2, 1) := by decide +kernel
theorem d_MO_told_76 : decode b_MO_told 76 = .ok (.iconst 3, 1) := by decide +kernel
theorem d_MO_told_77 : decode b_MO_told 77 = .ok (.if_icmp .ne 10, 3) := by decide +kernel
theorem d_MO_told_80 : decode b_MO_told 80 = .ok (.aload_n 0, 1) := by decide +kernel
theorem d_MO_told_81 : decode b_MO_told 81 = .ok (.getfield 44, 3) := by decide +kernel
theorem d_MO_told_84 : decode b_MO_told 84 = .ok (.iload_n 1, 1) := by decide +kernel
theorem d_MO_told_85 : decode b_MO_told 85 = .ok (.iaload, 1) := by decide +kernel
theorem d_MO_told_86 : decode b_MO_told 86 = .ok (.ireturn, 1) := by decide +kernel
theorem d_MO_told_87 : decode b_MO_told 87 = .ok (.iload_n 2, 1) := by decide +kernel
theorem d_MO_told_88 : decode b_MO_told 88 = .ok (.iconst 4, 1) := by decide +kernel
theorem d_MO_told_89 : decode b_MO_told 89 = .ok (.if_icmp .ne 10, 3) := by decide +kernel
theorem d_MO_told_92 : decode b_MO_told 92 = .ok (.aload_n 0, 1) := by decide +kernel
theorem d_MO_told_93 : decode b_MO_told 93 = .ok (.getfield 47, 3) := by decide +kernel
theorem d_MO_told_96 : decode b_MO_told 96 = .ok (.iload_n 1, 1) := by decide +kernel
theorem d_MO_told_97 : decode b_MO_told 97 = .ok (.iaload, 1) := by decide +kernel
theorem d_MO_told_98 : decode b_MO_told 98 = .ok (.ireturn, 1) := by decide +kernel
theorem d_MO_told_99 : decode b_MO_told 99 = .ok (.iload_n 2, 1) := by decide +kernel
theorem d_MO_told_100 : decode b_MO_told 100 = .ok (.iconst 5, 1) := by decide +kernel
theorem d_MO_told_101 : decode b_MO_told 101 = .ok (.if_icmp .ne 10, 3) := by decide +kernel
theorem d_MO_told_104 : decode b_MO_told 104 = .ok (.aload_n 0, 1) := by decide +kernel
theorem d_MO_told_105 : decode b_MO_told 105 = .ok (.getfield 50, 3) := by decide +kernel
theorem d_MO_told_108 : decode b_MO_told 108 = .ok (.iload_n 1, 1) := by decide +kernel
theorem d_MO_told_109 : decode b_MO_told 109 = .ok (.iaload, 1) := by decide +kernel
theorem d_MO_told_110 : decode b_MO_told 110 = .ok (.ireturn, 1) := by decide +kernel
theorem d_MO_told_111 : decode b_MO_told 111 = .ok (.iload_n 2, 1) := by decide +kernel
theorem d_MO_told_112 : decode b_MO_told 112 = .ok (.bipush 6, 2) := by decide +kernel
theorem d_MO_told_114 : decode b_MO_told 114 = .ok (.if_icmp .ne 10, 3) := by decide +kernel
theorem d_MO_told_117 : decode b_MO_told 117 = .ok (.aload_n 0, 1) := by decide +kernel
theorem d_MO_told_118 : decode b_MO_told 118 = .ok (.getfield 53, 3) := by decide +kernel
theorem d_MO_told_121 : decode b_MO_told 121 = .ok (.iload_n 1, 1) := by decide +kernel
theorem d_MO_told_122 : decode b_MO_told 122 = .ok (.iaload, 1) := by decide +kernel
theorem d_MO_told_123 : decode b_MO_told 123 = .ok (.ireturn, 1) := by decide +kernel
theorem d_MO_told_124 : decode b_MO_told 124 = .ok (.iload_n 2, 1) := by decide +kernel
theorem d_MO_told_125 : decode b_MO_told 125 = .ok (.bipush 7, 2) := by decide +kernel
theorem d_MO_told_127 : decode b_MO_told 127 = .ok (.if_icmp .ne 18, 3) := by decide +kernel
theorem d_MO_told_130 : decode b_MO_told 130 = .ok (.aload_n 0, 1) := by decide +kernel
theorem d_MO_told_131 : decode b_MO_told 131 = .ok (.getfield 37, 3) := by decide +kernel
theorem d_MO_told_134 : decode b_MO_told 134 = .ok (.iload_n 1, 1) := by decide +kernel
theorem d_MO_told_135 : decode b_MO_told 135 = .ok (.baload, 1) := by decide +kernel
theorem d_MO_told_136 : decode b_MO_told 136 = .ok (.ifCond .eq 7, 3) := by decide +kernel
theorem d_MO_told_139 : decode b_MO_told 139 = .ok (.iconst 1, 1) := by decide +kernel
theorem d_MO_told_140 : decode b_MO_told 140 = .ok (.goto 4, 3) := by decide +kernel
theorem d_MO_told_143 : decode b_MO_told 143 = .ok (.iconst 0, 1) := by decide +kernel
theorem d_MO_told_144 : decode b_MO_told 144 = .ok (.ireturn, 1) := by decide +kernel
theorem d_MO_told_145 : decode b_MO_told 145 = .ok (.iload_n 2, 1) := by decide +kernel
theorem d_MO_told_146 : decode b_MO_told 146 = .ok (.bipush 8, 2) := by decide +kernel
theorem d_MO_told_148 : decode b_MO_told 148 = .ok (.if_icmp .ne 18, 3) := by decide +kernel
theorem d_MO_told_151 : decode b_MO_told 151 = .ok (.aload_n 0, 1) := by decide +kernel
theorem d_MO_told_152 : decode b_MO_told 152 = .ok (.getfield 41, 3) := by decide +kernel
theorem d_MO_told_155 : decode b_MO_told 155 = .ok (.iload_n 1, 1) := by decide +kernel
theorem d_MO_told_156 : decode b_MO_told 156 = .ok (.baload, 1) := by decide +kernel
theorem d_MO_told_157 : decode b_MO_told 157 = .ok (.ifCond .eq 7, 3) := by decide +kernel
theorem d_MO_told_160 : decode b_MO_told 160 = .ok (.iconst 1, 1) := by decide +kernel
theorem d_MO_told_161 : decode b_MO_told 161 = .ok (.goto 4, 3) := by decide +kernel
theorem d_MO_told_164 : decode b_MO_told 164 = .ok (.iconst 0, 1) := by decide +kernel
theorem d_MO_told_165 : decode b_MO_told 165 = .ok (.ireturn, 1) := by decide +kernel
theorem d_MO_told_166 : decode b_MO_told 166 = .ok (.iload_n 2, 1) := by decide +kernel
theorem d_MO_told_167 : decode b_MO_told 167 = .ok (.bipush 9, 2) := by decide +kernel
theorem d_MO_told_169 : decode b_MO_told 169 = .ok (.if_icmp .ne 12, 3) := by decide +kernel
theorem d_MO_told_172 : decode b_MO_told 172 = .ok (.aload_n 0, 1) := by decide +kernel
theorem d_MO_told_173 : decode b_MO_told 173 = .ok (.getfield 56, 3) := by decide +kernel
theorem d_MO_told_176 : decode b_MO_told 176 = .ok (.iload_n 1, 1) := by decide +kernel
theorem d_MO_told_177 : decode b_MO_told 177 = .ok (.iaload, 1) := by decide +kernel
theorem d_MO_told_178 : decode b_MO_told 178 = .ok (.goto 24, 3) := by decide +kernel
theorem d_MO_told_181 : decode b_MO_told 181 = .ok (.iload_n 2, 1) := by decide +kernel
theorem d_MO_told_182 : decode b_MO_told 182 = .ok (.bipush 10, 2) := by decide +kernel
theorem d_MO_told_184 : decode b_MO_told 184 = .ok (.if_icmp .ne 12, 3) := by decide +kernel
theorem d_MO_told_187 : decode b_MO_told 187 = .ok (.aload_n 0, 1) := by decide +kernel
theorem d_MO_told_188 : decode b_MO_told 188 = .ok (.getfield 62, 3) := by decide +kernel
theorem d_MO_told_191 : decode b_MO_told 191 = .ok (.iload_n 1, 1) := by decide +kernel
theorem d_MO_told_192 : decode b_MO_told 192 = .ok (.iaload, 1) := by decide +kernel
theorem d_MO_told_193 : decode b_MO_told 193 = .ok (.goto 9, 3) := by decide +kernel
theorem d_MO_told_196 : decode b_MO_told 196 = .ok (.aload_n 0, 1) := by decide +kernel
theorem d_MO_told_197 : decode b_MO_told 197 = .ok (.getfield 34, 3) := by decide +kernel
theorem d_MO_told_200 : decode b_MO_told 200 = .ok (.iload_n 1, 1) := by decide +kernel
theorem d_MO_told_201 : decode b_MO_told 201 = .ok (.iaload, 1) := by decide +kernel
theorem d_MO_told_202 : decode b_MO_told 202 = .ok (.ireturn, 1) := by decide +kernel
