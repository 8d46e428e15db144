theorem dX0_init_0 : decode cX0_init 0 = .ok (.aload_n 0, 1) := by decide +kernel
theorem dX0_init_1 : decode cX0_init 1 = .ok (.invokespecial 3, 3) := by decide +kernel
theorem dX0_init_4 : decode cX0_init 4 = .ok (.aload_n 0, 1) := by decide +kernel
theorem dX0_init_5 : decode cX0_init 5 = .ok (.bipush 60, 2) := by decide +kernel
theorem dX0_init_7 : decode cX0_init 7 = .ok (.newarray .char, 2) := by decide +kernel
theorem dX0_init_9 : decode cX0_init 9 = .ok (.putfield 9, 3) := by decide +kernel
theorem dX0_init_12 : decode cX0_init 12 = .ok (.aload_n 0, 1) := by decide +kernel
theorem dX0_init_13 : decode cX0_init 13 = .ok (.bipush 30, 2) := by decide +kernel
theorem dX0_init_15 : decode cX0_init 15 = .ok (.newarray .int, 2) := by decide +kernel
theorem dX0_init_17 : decode cX0_init 17 = .ok (.putfield 15, 3) := by decide +kernel
theorem dX0_init_20 : decode cX0_init 20 = .ok (.return_, 1) := by decide +kernel
theorem dX0_fault_0 : decode cX0_fault 0 = .ok (.iconst 0, 1) := by decide +kernel
theorem dX0_fault_1 : decode cX0_fault 1 = .ok (.istore_n 1, 1) := by decide +kernel
theorem dX0_fault_2 : decode cX0_fault 2 = .ok (.iconst 0, 1) := by decide +kernel
theorem dX0_fault_3 : decode cX0_fault 3 = .ok (.istore_n 2, 1) := by decide +kernel
theorem dX0_fault_4 : decode cX0_fault 4 = .ok (.iconst 0, 1) := by decide +kernel
theorem dX0_fault_5 : decode cX0_fault 5 = .ok (.istore_n 3, 1) := by decide +kernel
theorem dX0_fault_6 : decode cX0_fault 6 = .ok (.iload_n 3, 1) := by decide +kernel
theorem dX0_fault_7 : decode cX0_fault 7 = .ok (.aload_n 0, 1) := by decide +kernel
theorem dX0_fault_8 : decode cX0_fault 8 = .ok (.getfield 19, 3) := by decide +kernel
theorem dX0_fault_11 : decode cX0_fault 11 = .ok (.if_icmp .ge 76, 3) := by decide +kernel
theorem dX0_fault_14 : decode cX0_fault 14 = .ok (.aload_n 0, 1) := by decide +kernel
theorem dX0_fault_15 : decode cX0_fault 15 = .ok (.getfield 9, 3) := by decide +kernel
theorem dX0_fault_18 : decode cX0_fault 18 = .ok (.iload_n 3, 1) := by decide +kernel
theorem dX0_fault_19 : decode cX0_fault 19 = .ok (.caload, 1) := by decide +kernel
theorem dX0_fault_20 : decode cX0_fault 20 = .ok (.istore 4, 2) := by decide +kernel
theorem dX0_fault_22 : decode cX0_fault 22 = .ok (.iload 4, 2) := by decide +kernel
theorem dX0_fault_24 : decode cX0_fault 24 = .ok (.invokestatic 23, 3) := by decide +kernel
theorem dX0_fault_27 : decode cX0_fault 27 = .ok (.ifCond .eq 37, 3) := by decide +kernel
theorem dX0_fault_30 : decode cX0_fault 30 = .ok (.iload_n 1, 1) := by decide +kernel
theorem dX0_fault_31 : decode cX0_fault 31 = .ok (.iconst 3, 1) := by decide +kernel
theorem dX0_fault_32 : decode cX0_fault 32 = .ok (.if_icmp .eq 7, 3) := by decide +kernel
theorem dX0_fault_35 : decode cX0_fault 35 = .ok (.iload_n 2, 1) := by decide +kernel
theorem dX0_fault_36 : decode cX0_fault 36 = .ok (.ifCond .eq 5, 3) := by decide +kernel
theorem dX0_fault_39 : decode cX0_fault 39 = .ok (.iload_n 3, 1) := by decide +kernel
theorem dX0_fault_40 : decode cX0_fault 40 = .ok (.ireturn, 1) := by decide +kernel
theorem dX0_fault_41 : decode cX0_fault 41 = .ok (.iload_n 1, 1) := by decide +kernel
theorem dX0_fault_42 : decode cX0_fault 42 = .ok (.ifCond .ne 14, 3) := by decide +kernel
theorem dX0_fault_45 : decode cX0_fault 45 = .ok (.iload 4, 2) := by decide +kernel
theorem dX0_fault_47 : decode cX0_fault 47 = .ok (.bipush 48, 2) := by decide +kernel
theorem dX0_fault_49 : decode cX0_fault 49 = .ok (.if_icmp .ne 7, 3) := by decide +kernel
theorem dX0_fault_52 : decode cX0_fault 52 = .ok (.iconst 1, 1) := by decide +kernel
theorem dX0_fault_53 : decode cX0_fault 53 = .ok (.goto 4, 3) := by decide +kernel
theorem dX0_fault_56 : decode cX0_fault 56 = .ok (.iconst 0, 1) := by decide +kernel
theorem dX0_fault_57 : decode cX0_fault 57 = .ok (.istore_n 2, 1) := by decide +kernel
theorem dX0_fault_58 : decode cX0_fault 58 = .ok (.iinc 1 1, 3) := by decide +kernel
theorem dX0_fault_61 : decode cX0_fault 61 = .ok (.goto 20, 3) := by decide +kernel
theorem dX0_fault_64 : decode cX0_fault 64 = .ok (.iload 4, 2) := by decide +kernel
theorem dX0_fault_66 : decode cX0_fault 66 = .ok (.bipush 44, 2) := by decide +kernel
theorem dX0_fault_68 : decode cX0_fault 68 = .ok (.if_icmp .ne 7, 3) := by decide +kernel
theorem dX0_fault_71 : decode cX0_fault 71 = .ok (.iload_n 1, 1) := by decide +kernel
theorem dX0_fault_72 : decode cX0_fault 72 = .ok (.ifCond .ne 5, 3) := by decide +kernel
theorem dX0_fault_75 : decode cX0_fault 75 = .ok (.iload_n 3, 1) := by decide +kernel
theorem dX0_fault_76 : decode cX0_fault 76 = .ok (.ireturn, 1) := by decide +kernel
theorem dX0_fault_77 : decode cX0_fault 77 = .ok (.iconst 0, 1) := by decide +kernel
theorem dX0_fault_78 : decode cX0_fault 78 = .ok (.istore_n 1, 1) := by decide +kernel
theorem dX0_fault_79 : decode cX0_fault 79 = .ok (.iconst 0, 1) := by decide +kernel
theorem dX0_fault_80 : decode cX0_fault 80 = .ok (.istore_n 2, 1) := by decide +kernel
theorem dX0_fault_81 : decode cX0_fault 81 = .ok (.iinc 3 1, 3) := by decide +kernel
theorem dX0_fault_84 : decode cX0_fault 84 = .ok (.goto (-78), 3) := by decide +kernel
theorem dX0_fault_87 : decode cX0_fault 87 = .ok (.iload_n 1, 1) := by decide +kernel
theorem dX0_fault_88 : decode cX0_fault 88 = .ok (.ifCond .ne 10, 3) := by decide +kernel
theorem dX0_fault_91 : decode cX0_fault 91 = .ok (.aload_n 0, 1) := by decide +kernel
theorem dX0_fault_92 : decode cX0_fault 92 = .ok (.getfield 19, 3) := by decide +kernel
theorem dX0_fault_95 : decode cX0_fault 95 = .ok (.goto 4, 3) := by decide +kernel
theorem dX0_fault_98 : decode cX0_fault 98 = .ok (.iconst (-1), 1) := by decide +kernel
theorem dX0_fault_99 : decode cX0_fault 99 = .ok (.ireturn, 1) := by decide +kernel
theorem dX0_readNumbers_0 : decode cX0_readNumbers 0 = .ok (.iconst 0, 1) := by decide +kernel
theorem dX0_readNumbers_1 : decode cX0_readNumbers 1 = .ok (.istore_n 1, 1) := by decide +kernel
theorem dX0_readNumbers_2 : decode cX0_readNumbers 2 = .ok (.aload_n 0, 1) := by decide +kernel
theorem dX0_readNumbers_3 : decode cX0_readNumbers 3 = .ok (.getfield 15, 3) := by decide +kernel
theorem dX0_readNumbers_6 : decode cX0_readNumbers 6 = .ok (.iconst 0, 1) := by decide +kernel
theorem dX0_readNumbers_7 : decode cX0_readNumbers 7 = .ok (.iconst 0, 1) := by decide +kernel
theorem dX0_readNumbers_8 : decode cX0_readNumbers 8 = .ok (.iastore, 1) := by decide +kernel
theorem dX0_readNumbers_9 : decode cX0_readNumbers 9 = .ok (.iconst 0, 1) := by decide +kernel
theorem dX0_readNumbers_10 : decode cX0_readNumbers 10 = .ok (.istore_n 2, 1) := by decide +kernel
theorem dX0_readNumbers_11 : decode cX0_readNumbers 11 = .ok (.iload_n 2, 1) := by decide +kernel
theorem dX0_readNumbers_12 : decode cX0_readNumbers 12 = .ok (.aload_n 0, 1) := by decide +kernel
theorem dX0_readNumbers_13 : decode cX0_readNumbers 13 = .ok (.getfield 19, 3) := by decide +kernel
theorem dX0_readNumbers_16 : decode cX0_readNumbers 16 = .ok (.if_icmp .ge 66, 3) := by decide +kernel
theorem dX0_readNumbers_19 : decode cX0_readNumbers 19 = .ok (.aload_n 0, 1) := by decide +kernel
theorem dX0_readNumbers_20 : decode cX0_readNumbers 20 = .ok (.getfield 9, 3) := by decide +kernel
theorem dX0_readNumbers_23 : decode cX0_readNumbers 23 = .ok (.iload_n 2, 1) := by decide +kernel
theorem dX0_readNumbers_24 : decode cX0_readNumbers 24 = .ok (.caload, 1) := by decide +kernel
theorem dX0_readNumbers_25 : decode cX0_readNumbers 25 = .ok (.bipush 44, 2) := by decide +kernel
theorem dX0_readNumbers_27 : decode cX0_readNumbers 27 = .ok (.if_icmp .eq 31, 3) := by decide +kernel
theorem dX0_readNumbers_30 : decode cX0_readNumbers 30 = .ok (.aload_n 0, 1) := by decide +kernel
theorem dX0_readNumbers_31 : decode cX0_readNumbers 31 = .ok (.getfield 15, 3) := by decide +kernel
theorem dX0_readNumbers_34 : decode cX0_readNumbers 34 = .ok (.iload_n 1, 1) := by decide +kernel
theorem dX0_readNumbers_35 : decode cX0_readNumbers 35 = .ok (.aload_n 0, 1) := by decide +kernel
theorem dX0_readNumbers_36 : decode cX0_readNumbers 36 = .ok (.getfield 15, 3) := by decide +kernel
theorem dX0_readNumbers_39 : decode cX0_readNumbers 39 = .ok (.iload_n 1, 1) := by decide +kernel
theorem dX0_readNumbers_40 : decode cX0_readNumbers 40 = .ok (.iaload, 1) := by decide +kernel
theorem dX0_readNumbers_41 : decode cX0_readNumbers 41 = .ok (.bipush 10, 2) := by decide +kernel
theorem dX0_readNumbers_43 : decode cX0_readNumbers 43 = .ok (.imul, 1) := by decide +kernel
theorem dX0_readNumbers_44 : decode cX0_readNumbers 44 = .ok (.aload_n 0, 1) := by decide +kernel
theorem dX0_readNumbers_45 : decode cX0_readNumbers 45 = .ok (.getfield 9, 3) := by decide +kernel
theorem dX0_readNumbers_48 : decode cX0_readNumbers 48 = .ok (.iload_n 2, 1) := by decide +kernel
theorem dX0_readNumbers_49 : decode cX0_readNumbers 49 = .ok (.caload, 1) := by decide +kernel
theorem dX0_readNumbers_50 : decode cX0_readNumbers 50 = .ok (.bipush 48, 2) := by decide +kernel
theorem dX0_readNumbers_52 : decode cX0_readNumbers 52 = .ok (.isub, 1) := by decide +kernel
theorem dX0_readNumbers_53 : decode cX0_readNumbers 53 = .ok (.iadd, 1) := by decide +kernel
theorem dX0_readNumbers_54 : decode cX0_readNumbers 54 = .ok (.iastore, 1) := by decide +kernel
theorem dX0_readNumbers_55 : decode cX0_readNumbers 55 = .ok (.goto 21, 3) := by decide +kernel
theorem dX0_readNumbers_58 : decode cX0_readNumbers 58 = .ok (.iload_n 1, 1) := by decide +kernel
theorem dX0_readNumbers_59 : decode cX0_readNumbers 59 = .ok (.iconst 1, 1) := by decide +kernel
theorem dX0_readNumbers_60 : decode cX0_readNumbers 60 = .ok (.iadd, 1) := by decide +kernel
theorem dX0_readNumbers_61 : decode cX0_readNumbers 61 = .ok (.bipush 30, 2) := by decide +kernel
theorem dX0_readNumbers_63 : decode cX0_readNumbers 63 = .ok (.if_icmp .ge 13, 3) := by decide +kernel
theorem dX0_readNumbers_66 : decode cX0_readNumbers 66 = .ok (.iinc 1 1, 3) := by decide +kernel
theorem dX0_readNumbers_69 : decode cX0_readNumbers 69 = .ok (.aload_n 0, 1) := by decide +kernel
theorem dX0_readNumbers_70 : decode cX0_readNumbers 70 = .ok (.getfield 15, 3) := by decide +kernel
theorem dX0_readNumbers_73 : decode cX0_readNumbers 73 = .ok (.iload_n 1, 1) := by decide +kernel
theorem dX0_readNumbers_74 : decode cX0_readNumbers 74 = .ok (.iconst 0, 1) := by decide +kernel
theorem dX0_readNumbers_75 : decode cX0_readNumbers 75 = .ok (.iastore, 1) := by decide +kernel
theorem dX0_readNumbers_76 : decode cX0_readNumbers 76 = .ok (.iinc 2 1, 3) := by decide +kernel
theorem dX0_readNumbers_79 : decode cX0_readNumbers 79 = .ok (.goto (-68), 3) := by decide +kernel
theorem dX0_readNumbers_82 : decode cX0_readNumbers 82 = .ok (.iload_n 1, 1) := by decide +kernel
theorem dX0_readNumbers_83 : decode cX0_readNumbers 83 = .ok (.iconst 1, 1) := by decide +kernel
theorem dX0_readNumbers_84 : decode cX0_readNumbers 84 = .ok (.iadd, 1) := by decide +kernel
theorem dX0_readNumbers_85 : decode cX0_readNumbers 85 = .ok (.ireturn, 1) := by decide +kernel
theorem dX0_greatestNumber_0 : decode cX0_greatestNumber 0 = .ok (.iconst 0, 1) := by decide +kernel
theorem dX0_greatestNumber_1 : decode cX0_greatestNumber 1 = .ok (.istore_n 2, 1) := by decide +kernel
theorem dX0_greatestNumber_2 : decode cX0_greatestNumber 2 = .ok (.iconst 0, 1) := by decide +kernel
theorem dX0_greatestNumber_3 : decode cX0_greatestNumber 3 = .ok (.istore_n 3, 1) := by decide +kernel
theorem dX0_greatestNumber_4 : decode cX0_greatestNumber 4 = .ok (.iload_n 3, 1) := by decide +kernel
theorem dX0_greatestNumber_5 : decode cX0_greatestNumber 5 = .ok (.iload_n 1, 1) := by decide +kernel
theorem dX0_greatestNumber_6 : decode cX0_greatestNumber 6 = .ok (.if_icmp .ge 20, 3) := by decide +kernel
theorem dX0_greatestNumber_9 : decode cX0_greatestNumber 9 = .ok (.iload_n 2, 1) := by decide +kernel
theorem dX0_greatestNumber_10 : decode cX0_greatestNumber 10 = .ok (.aload_n 0, 1) := by decide +kernel
theorem dX0_greatestNumber_11 : decode cX0_greatestNumber 11 = .ok (.getfield 15, 3) := by decide +kernel
theorem dX0_greatestNumber_14 : decode cX0_greatestNumber 14 = .ok (.iload_n 3, 1) := by decide +kernel
theorem dX0_greatestNumber_15 : decode cX0_greatestNumber 15 = .ok (.iaload, 1) := by decide +kernel
theorem dX0_greatestNumber_16 : decode cX0_greatestNumber 16 = .ok (.invokestatic 27, 3) := by decide +kernel
theorem dX0_greatestNumber_19 : decode cX0_greatestNumber 19 = .ok (.istore_n 2, 1) := by decide +kernel
theorem dX0_greatestNumber_20 : decode cX0_greatestNumber 20 = .ok (.iinc 3 1, 3) := by decide +kernel
theorem dX0_greatestNumber_23 : decode cX0_greatestNumber 23 = .ok (.goto (-19), 3) := by decide +kernel
theorem dX0_greatestNumber_26 : decode cX0_greatestNumber 26 = .ok (.iload_n 2, 1) := by decide +kernel
theorem dX0_greatestNumber_27 : decode cX0_greatestNumber 27 = .ok (.ireturn, 1) := by decide +kernel
theorem dX0_isDigit_0 : decode cX0_isDigit 0 = .ok (.iload_n 0, 1) := by decide +kernel
theorem dX0_isDigit_1 : decode cX0_isDigit 1 = .ok (.bipush 48, 2) := by decide +kernel
theorem dX0_isDigit_3 : decode cX0_isDigit 3 = .ok (.if_icmp .lt 13, 3) := by decide +kernel
theorem dX0_isDigit_6 : decode cX0_isDigit 6 = .ok (.iload_n 0, 1) := by decide +kernel
theorem dX0_isDigit_7 : decode cX0_isDigit 7 = .ok (.bipush 57, 2) := by decide +kernel
theorem dX0_isDigit_9 : decode cX0_isDigit 9 = .ok (.if_icmp .gt 7, 3) := by decide +kernel
theorem dX0_isDigit_12 : decode cX0_isDigit 12 = .ok (.iconst 1, 1) := by decide +kernel
theorem dX0_isDigit_13 : decode cX0_isDigit 13 = .ok (.goto 4, 3) := by decide +kernel
theorem dX0_isDigit_16 : decode cX0_isDigit 16 = .ok (.iconst 0, 1) := by decide +kernel
theorem dX0_isDigit_17 : decode cX0_isDigit 17 = .ok (.ireturn, 1) := by decide +kernel
theorem dX1_init_0 : decode cX1_init 0 = .ok (.aload_n 0, 1) := by decide +kernel
theorem dX1_init_1 : decode cX1_init 1 = .ok (.invokespecial 3, 3) := by decide +kernel
theorem dX1_init_4 : decode cX1_init 4 = .ok (.aload_n 0, 1) := by decide +kernel
theorem dX1_init_5 : decode cX1_init 5 = .ok (.bipush (-5), 2) := by decide +kernel
theorem dX1_init_7 : decode cX1_init 7 = .ok (.putfield 9, 3) := by decide +kernel
theorem dX1_init_10 : decode cX1_init 10 = .ok (.return_, 1) := by decide +kernel
theorem dX1_copyFrom_0 : decode cX1_copyFrom 0 = .ok (.aload_n 0, 1) := by decide +kernel
theorem dX1_copyFrom_1 : decode cX1_copyFrom 1 = .ok (.aload_n 1, 1) := by decide +kernel
theorem dX1_copyFrom_2 : decode cX1_copyFrom 2 = .ok (.getfield 15, 3) := by decide +kernel
theorem dX1_copyFrom_5 : decode cX1_copyFrom 5 = .ok (.putfield 15, 3) := by decide +kernel
theorem dX1_copyFrom_8 : decode cX1_copyFrom 8 = .ok (.aload_n 0, 1) := by decide +kernel
theorem dX1_copyFrom_9 : decode cX1_copyFrom 9 = .ok (.aload_n 1, 1) := by decide +kernel
theorem dX1_copyFrom_10 : decode cX1_copyFrom 10 = .ok (.getfield 18, 3) := by decide +kernel
theorem dX1_copyFrom_13 : decode cX1_copyFrom 13 = .ok (.putfield 18, 3) := by decide +kernel
theorem dX1_copyFrom_16 : decode cX1_copyFrom 16 = .ok (.aload_n 0, 1) := by decide +kernel
theorem dX1_copyFrom_17 : decode cX1_copyFrom 17 = .ok (.aload_n 1, 1) := by decide +kernel
theorem dX1_copyFrom_18 : decode cX1_copyFrom 18 = .ok (.getfield 9, 3) := by decide +kernel
theorem dX1_copyFrom_21 : decode cX1_copyFrom 21 = .ok (.putfield 9, 3) := by decide +kernel
theorem dX1_copyFrom_24 : decode cX1_copyFrom 24 = .ok (.aload_n 0, 1) := by decide +kernel
theorem dX1_copyFrom_25 : decode cX1_copyFrom 25 = .ok (.aload_n 1, 1) := by decide +kernel
theorem dX1_copyFrom_26 : decode cX1_copyFrom 26 = .ok (.getfield 21, 3) := by decide +kernel
theorem dX1_copyFrom_29 : decode cX1_copyFrom 29 = .ok (.putfield 21, 3) := by decide +kernel
theorem dX1_copyFrom_32 : decode cX1_copyFrom 32 = .ok (.aload_n 0, 1) := by decide +kernel
theorem dX1_copyFrom_33 : decode cX1_copyFrom 33 = .ok (.aload_n 1, 1) := by decide +kernel
theorem dX1_copyFrom_34 : decode cX1_copyFrom 34 = .ok (.getfield 24, 3) := by decide +kernel
theorem dX1_copyFrom_37 : decode cX1_copyFrom 37 = .ok (.putfield 24, 3) := by decide +kernel
theorem dX1_copyFrom_40 : decode cX1_copyFrom 40 = .ok (.aload_n 0, 1) := by decide +kernel
theorem dX1_copyFrom_41 : decode cX1_copyFrom 41 = .ok (.aload_n 1, 1) := by decide +kernel
theorem dX1_copyFrom_42 : decode cX1_copyFrom 42 = .ok (.getfield 27, 3) := by decide +kernel
theorem dX1_copyFrom_45 : decode cX1_copyFrom 45 = .ok (.putfield 27, 3) := by decide +kernel
theorem dX1_copyFrom_48 : decode cX1_copyFrom 48 = .ok (.return_, 1) := by decide +kernel
theorem dX1_isOnDuty_0 : decode cX1_isOnDuty 0 = .ok (.aload_n 0, 1) := by decide +kernel
theorem dX1_isOnDuty_1 : decode cX1_isOnDuty 1 = .ok (.getfield 9, 3) := by decide +kernel
theorem dX1_isOnDuty_4 : decode cX1_isOnDuty 4 = .ok (.bipush (-5), 2) := by decide +kernel
theorem dX1_isOnDuty_6 : decode cX1_isOnDuty 6 = .ok (.if_icmp .eq 7, 3) := by decide +kernel
theorem dX1_isOnDuty_9 : decode cX1_isOnDuty 9 = .ok (.iconst 1, 1) := by decide +kernel
theorem dX1_isOnDuty_10 : decode cX1_isOnDuty 10 = .ok (.goto 4, 3) := by decide +kernel
theorem dX1_isOnDuty_13 : decode cX1_isOnDuty 13 = .ok (.iconst 0, 1) := by decide +kernel
theorem dX1_isOnDuty_14 : decode cX1_isOnDuty 14 = .ok (.ireturn, 1) := by decide +kernel
theorem dX1_rests_0 : decode cX1_rests 0 = .ok (.aload_n 0, 1) := by decide +kernel
theorem dX1_rests_1 : decode cX1_rests 1 = .ok (.getfield 27, 3) := by decide +kernel
theorem dX1_rests_4 : decode cX1_rests 4 = .ok (.ifCond .le 7, 3) := by decide +kernel
theorem dX1_rests_7 : decode cX1_rests 7 = .ok (.iconst 1, 1) := by decide +kernel
theorem dX1_rests_8 : decode cX1_rests 8 = .ok (.goto 4, 3) := by decide +kernel
theorem dX1_rests_11 : decode cX1_rests 11 = .ok (.iconst 0, 1) := by decide +kernel
theorem dX1_rests_12 : decode cX1_rests 12 = .ok (.ireturn, 1) := by decide +kernel
theorem dX1_isFree_0 : decode cX1_isFree 0 = .ok (.aload_n 0, 1) := by decide +kernel
theorem dX1_isFree_1 : decode cX1_isFree 1 = .ok (.invokevirtual 30, 3) := by decide +kernel
theorem dX1_isFree_4 : decode cX1_isFree 4 = .ok (.ifCond .ne 14, 3) := by decide +kernel
theorem dX1_isFree_7 : decode cX1_isFree 7 = .ok (.aload_n 0, 1) := by decide +kernel
theorem dX1_isFree_8 : decode cX1_isFree 8 = .ok (.invokevirtual 34, 3) := by decide +kernel
theorem dX1_isFree_11 : decode cX1_isFree 11 = .ok (.ifCond .ne 7, 3) := by decide +kernel
theorem dX1_isFree_14 : decode cX1_isFree 14 = .ok (.iconst 1, 1) := by decide +kernel
theorem dX1_isFree_15 : decode cX1_isFree 15 = .ok (.goto 4, 3) := by decide +kernel
theorem dX1_isFree_18 : decode cX1_isFree 18 = .ok (.iconst 0, 1) := by decide +kernel
theorem dX1_isFree_19 : decode cX1_isFree 19 = .ok (.ireturn, 1) := by decide +kernel
theorem dX1_mustLeave_0 : decode cX1_mustLeave 0 = .ok (.aload_n 0, 1) := by decide +kernel
theorem dX1_mustLeave_1 : decode cX1_mustLeave 1 = .ok (.invokevirtual 30, 3) := by decide +kernel
theorem dX1_mustLeave_4 : decode cX1_mustLeave 4 = .ok (.ifCond .eq 18, 3) := by decide +kernel
theorem dX1_mustLeave_7 : decode cX1_mustLeave 7 = .ok (.aload_n 0, 1) := by decide +kernel
theorem dX1_mustLeave_8 : decode cX1_mustLeave 8 = .ok (.getfield 21, 3) := by decide +kernel
theorem dX1_mustLeave_11 : decode cX1_mustLeave 11 = .ok (.aload_n 0, 1) := by decide +kernel
theorem dX1_mustLeave_12 : decode cX1_mustLeave 12 = .ok (.getfield 18, 3) := by decide +kernel
theorem dX1_mustLeave_15 : decode cX1_mustLeave 15 = .ok (.if_icmp .lt 7, 3) := by decide +kernel
theorem dX1_mustLeave_18 : decode cX1_mustLeave 18 = .ok (.iconst 1, 1) := by decide +kernel
theorem dX1_mustLeave_19 : decode cX1_mustLeave 19 = .ok (.goto 4, 3) := by decide +kernel
theorem dX1_mustLeave_22 : decode cX1_mustLeave 22 = .ok (.iconst 0, 1) := by decide +kernel
theorem dX1_mustLeave_23 : decode cX1_mustLeave 23 = .ok (.ireturn, 1) := by decide +kernel
theorem dX1_comeTo_0 : decode cX1_comeTo 0 = .ok (.aload_n 0, 1) := by decide +kernel
theorem dX1_comeTo_1 : decode cX1_comeTo 1 = .ok (.iload_n 1, 1) := by decide +kernel
theorem dX1_comeTo_2 : decode cX1_comeTo 2 = .ok (.putfield 9, 3) := by decide +kernel
theorem dX1_comeTo_5 : decode cX1_comeTo 5 = .ok (.return_, 1) := by decide +kernel
theorem dX1_leaveDuty_0 : decode cX1_leaveDuty 0 = .ok (.aload_n 0, 1) := by decide +kernel
theorem dX1_leaveDuty_1 : decode cX1_leaveDuty 1 = .ok (.bipush (-5), 2) := by decide +kernel
theorem dX1_leaveDuty_3 : decode cX1_leaveDuty 3 = .ok (.putfield 9, 3) := by decide +kernel
theorem dX1_leaveDuty_6 : decode cX1_leaveDuty 6 = .ok (.aload_n 0, 1) := by decide +kernel
theorem dX1_leaveDuty_7 : decode cX1_leaveDuty 7 = .ok (.iconst 0, 1) := by decide +kernel
theorem dX1_leaveDuty_8 : decode cX1_leaveDuty 8 = .ok (.putfield 21, 3) := by decide +kernel
theorem dX1_leaveDuty_11 : decode cX1_leaveDuty 11 = .ok (.aload_n 0, 1) := by decide +kernel
theorem dX1_leaveDuty_12 : decode cX1_leaveDuty 12 = .ok (.iload_n 1, 1) := by decide +kernel
theorem dX1_leaveDuty_13 : decode cX1_leaveDuty 13 = .ok (.putfield 27, 3) := by decide +kernel
theorem dX1_leaveDuty_16 : decode cX1_leaveDuty 16 = .ok (.return_, 1) := by decide +kernel
theorem dX1_endHour_0 : decode cX1_endHour 0 = .ok (.aload_n 0, 1) := by decide +kernel
theorem dX1_endHour_1 : decode cX1_endHour 1 = .ok (.invokevirtual 30, 3) := by decide +kernel
theorem dX1_endHour_4 : decode cX1_endHour 4 = .ok (.ifCond .eq 23, 3) := by decide +kernel
theorem dX1_endHour_7 : decode cX1_endHour 7 = .ok (.aload_n 0, 1) := by decide +kernel
theorem dX1_endHour_8 : decode cX1_endHour 8 = .ok (.dup, 1) := by decide +kernel
theorem dX1_endHour_9 : decode cX1_endHour 9 = .ok (.getfield 24, 3) := by decide +kernel
theorem dX1_endHour_12 : decode cX1_endHour 12 = .ok (.iconst 1, 1) := by decide +kernel
theorem dX1_endHour_13 : decode cX1_endHour 13 = .ok (.iadd, 1) := by decide +kernel
theorem dX1_endHour_14 : decode cX1_endHour 14 = .ok (.putfield 24, 3) := by decide +kernel
theorem dX1_endHour_17 : decode cX1_endHour 17 = .ok (.aload_n 0, 1) := by decide +kernel
theorem dX1_endHour_18 : decode cX1_endHour 18 = .ok (.dup, 1) := by decide +kernel
theorem dX1_endHour_19 : decode cX1_endHour 19 = .ok (.getfield 21, 3) := by decide +kernel
theorem dX1_endHour_22 : decode cX1_endHour 22 = .ok (.iconst 1, 1) := by decide +kernel
theorem dX1_endHour_23 : decode cX1_endHour 23 = .ok (.iadd, 1) := by decide +kernel
theorem dX1_endHour_24 : decode cX1_endHour 24 = .ok (.putfield 21, 3) := by decide +kernel
theorem dX1_endHour_27 : decode cX1_endHour 27 = .ok (.aload_n 0, 1) := by decide +kernel
theorem dX1_endHour_28 : decode cX1_endHour 28 = .ok (.invokevirtual 34, 3) := by decide +kernel
theorem dX1_endHour_31 : decode cX1_endHour 31 = .ok (.ifCond .eq 13, 3) := by decide +kernel
theorem dX1_endHour_34 : decode cX1_endHour 34 = .ok (.aload_n 0, 1) := by decide +kernel
theorem dX1_endHour_35 : decode cX1_endHour 35 = .ok (.dup, 1) := by decide +kernel
theorem dX1_endHour_36 : decode cX1_endHour 36 = .ok (.getfield 27, 3) := by decide +kernel
theorem dX1_endHour_39 : decode cX1_endHour 39 = .ok (.iconst 1, 1) := by decide +kernel
theorem dX1_endHour_40 : decode cX1_endHour 40 = .ok (.isub, 1) := by decide +kernel
theorem dX1_endHour_41 : decode cX1_endHour 41 = .ok (.putfield 27, 3) := by decide +kernel
theorem dX1_endHour_44 : decode cX1_endHour 44 = .ok (.return_, 1) := by decide +kernel
theorem dX2_init_0 : decode cX2_init 0 = .ok (.aload_n 0, 1) := by decide +kernel
theorem dX2_init_1 : decode cX2_init 1 = .ok (.invokespecial 3, 3) := by decide +kernel
theorem dX2_init_4 : decode cX2_init 4 = .ok (.aload_n 0, 1) := by decide +kernel
theorem dX2_init_5 : decode cX2_init 5 = .ok (.bipush 6, 2) := by decide +kernel
theorem dX2_init_7 : decode cX2_init 7 = .ok (.anewarray 9, 3) := by decide +kernel
theorem dX2_init_10 : decode cX2_init 10 = .ok (.putfield 11, 3) := by decide +kernel
theorem dX2_init_13 : decode cX2_init 13 = .ok (.iconst 0, 1) := by decide +kernel
theorem dX2_init_14 : decode cX2_init 14 = .ok (.istore_n 1, 1) := by decide +kernel
theorem dX2_init_15 : decode cX2_init 15 = .ok (.iload_n 1, 1) := by decide +kernel
theorem dX2_init_16 : decode cX2_init 16 = .ok (.bipush 6, 2) := by decide +kernel
theorem dX2_init_18 : decode cX2_init 18 = .ok (.if_icmp .ge 22, 3) := by decide +kernel
theorem dX2_init_21 : decode cX2_init 21 = .ok (.aload_n 0, 1) := by decide +kernel
theorem dX2_init_22 : decode cX2_init 22 = .ok (.getfield 11, 3) := by decide +kernel
theorem dX2_init_25 : decode cX2_init 25 = .ok (.iload_n 1, 1) := by decide +kernel
theorem dX2_init_26 : decode cX2_init 26 = .ok (.new 9, 3) := by decide +kernel
theorem dX2_init_29 : decode cX2_init 29 = .ok (.dup, 1) := by decide +kernel
theorem dX2_init_30 : decode cX2_init 30 = .ok (.invokespecial 17, 3) := by decide +kernel
theorem dX2_init_33 : decode cX2_init 33 = .ok (.aastore, 1) := by decide +kernel
theorem dX2_init_34 : decode cX2_init 34 = .ok (.iinc 1 1, 3) := by decide +kernel
theorem dX2_init_37 : decode cX2_init 37 = .ok (.goto (-22), 3) := by decide +kernel
theorem dX2_init_40 : decode cX2_init 40 = .ok (.aload_n 0, 1) := by decide +kernel
theorem dX2_init_41 : decode cX2_init 41 = .ok (.bipush 12, 2) := by decide +kernel
theorem dX2_init_43 : decode cX2_init 43 = .ok (.anewarray 18, 3) := by decide +kernel
theorem dX2_init_46 : decode cX2_init 46 = .ok (.putfield 20, 3) := by decide +kernel
theorem dX2_init_49 : decode cX2_init 49 = .ok (.iconst 0, 1) := by decide +kernel
theorem dX2_init_50 : decode cX2_init 50 = .ok (.istore_n 1, 1) := by decide +kernel
theorem dX2_init_51 : decode cX2_init 51 = .ok (.iload_n 1, 1) := by decide +kernel
theorem dX2_init_52 : decode cX2_init 52 = .ok (.bipush 12, 2) := by decide +kernel
theorem dX2_init_54 : decode cX2_init 54 = .ok (.if_icmp .ge 22, 3) := by decide +kernel
theorem dX2_init_57 : decode cX2_init 57 = .ok (.aload_n 0, 1) := by decide +kernel
theorem dX2_init_58 : decode cX2_init 58 = .ok (.getfield 20, 3) := by decide +kernel
theorem dX2_init_61 : decode cX2_init 61 = .ok (.iload_n 1, 1) := by decide +kernel
theorem dX2_init_62 : decode cX2_init 62 = .ok (.new 18, 3) := by decide +kernel
theorem dX2_init_65 : decode cX2_init 65 = .ok (.dup, 1) := by decide +kernel
theorem dX2_init_66 : decode cX2_init 66 = .ok (.invokespecial 24, 3) := by decide +kernel
theorem dX2_init_69 : decode cX2_init 69 = .ok (.aastore, 1) := by decide +kernel
theorem dX2_init_70 : decode cX2_init 70 = .ok (.iinc 1 1, 3) := by decide +kernel
theorem dX2_init_73 : decode cX2_init 73 = .ok (.goto (-22), 3) := by decide +kernel
theorem dX2_init_76 : decode cX2_init 76 = .ok (.return_, 1) := by decide +kernel
theorem dX2_copyFrom_0 : decode cX2_copyFrom 0 = .ok (.aload_n 0, 1) := by decide +kernel
theorem dX2_copyFrom_1 : decode cX2_copyFrom 1 = .ok (.aload_n 1, 1) := by decide +kernel
theorem dX2_copyFrom_2 : decode cX2_copyFrom 2 = .ok (.getfield 25, 3) := by decide +kernel
theorem dX2_copyFrom_5 : decode cX2_copyFrom 5 = .ok (.putfield 25, 3) := by decide +kernel
theorem dX2_copyFrom_8 : decode cX2_copyFrom 8 = .ok (.aload_n 0, 1) := by decide +kernel
theorem dX2_copyFrom_9 : decode cX2_copyFrom 9 = .ok (.aload_n 1, 1) := by decide +kernel
theorem dX2_copyFrom_10 : decode cX2_copyFrom 10 = .ok (.getfield 29, 3) := by decide +kernel
theorem dX2_copyFrom_13 : decode cX2_copyFrom 13 = .ok (.putfield 29, 3) := by decide +kernel
theorem dX2_copyFrom_16 : decode cX2_copyFrom 16 = .ok (.aload_n 0, 1) := by decide +kernel
theorem dX2_copyFrom_17 : decode cX2_copyFrom 17 = .ok (.aload_n 1, 1) := by decide +kernel
theorem dX2_copyFrom_18 : decode cX2_copyFrom 18 = .ok (.getfield 32, 3) := by decide +kernel
theorem dX2_copyFrom_21 : decode cX2_copyFrom 21 = .ok (.putfield 32, 3) := by decide +kernel
theorem dX2_copyFrom_24 : decode cX2_copyFrom 24 = .ok (.iconst 0, 1) := by decide +kernel
theorem dX2_copyFrom_25 : decode cX2_copyFrom 25 = .ok (.istore_n 2, 1) := by decide +kernel
theorem dX2_copyFrom_26 : decode cX2_copyFrom 26 = .ok (.iload_n 2, 1) := by decide +kernel
theorem dX2_copyFrom_27 : decode cX2_copyFrom 27 = .ok (.bipush 6, 2) := by decide +kernel
theorem dX2_copyFrom_29 : decode cX2_copyFrom 29 = .ok (.if_icmp .ge 24, 3) := by decide +kernel
theorem dX2_copyFrom_32 : decode cX2_copyFrom 32 = .ok (.aload_n 0, 1) := by decide +kernel
theorem dX2_copyFrom_33 : decode cX2_copyFrom 33 = .ok (.getfield 11, 3) := by decide +kernel
theorem dX2_copyFrom_36 : decode cX2_copyFrom 36 = .ok (.iload_n 2, 1) := by decide +kernel
theorem dX2_copyFrom_37 : decode cX2_copyFrom 37 = .ok (.aaload, 1) := by decide +kernel
theorem dX2_copyFrom_38 : decode cX2_copyFrom 38 = .ok (.aload_n 1, 1) := by decide +kernel
theorem dX2_copyFrom_39 : decode cX2_copyFrom 39 = .ok (.getfield 11, 3) := by decide +kernel
theorem dX2_copyFrom_42 : decode cX2_copyFrom 42 = .ok (.iload_n 2, 1) := by decide +kernel
theorem dX2_copyFrom_43 : decode cX2_copyFrom 43 = .ok (.aaload, 1) := by decide +kernel
theorem dX2_copyFrom_44 : decode cX2_copyFrom 44 = .ok (.invokevirtual 35, 3) := by decide +kernel
theorem dX2_copyFrom_47 : decode cX2_copyFrom 47 = .ok (.iinc 2 1, 3) := by decide +kernel
theorem dX2_copyFrom_50 : decode cX2_copyFrom 50 = .ok (.goto (-24), 3) := by decide +kernel
theorem dX2_copyFrom_53 : decode cX2_copyFrom 53 = .ok (.iconst 0, 1) := by decide +kernel
theorem dX2_copyFrom_54 : decode cX2_copyFrom 54 = .ok (.istore_n 2, 1) := by decide +kernel
theorem dX2_copyFrom_55 : decode cX2_copyFrom 55 = .ok (.iload_n 2, 1) := by decide +kernel
theorem dX2_copyFrom_56 : decode cX2_copyFrom 56 = .ok (.bipush 12, 2) := by decide +kernel
theorem dX2_copyFrom_58 : decode cX2_copyFrom 58 = .ok (.if_icmp .ge 24, 3) := by decide +kernel
theorem dX2_copyFrom_61 : decode cX2_copyFrom 61 = .ok (.aload_n 0, 1) := by decide +kernel
theorem dX2_copyFrom_62 : decode cX2_copyFrom 62 = .ok (.getfield 20, 3) := by decide +kernel
theorem dX2_copyFrom_65 : decode cX2_copyFrom 65 = .ok (.iload_n 2, 1) := by decide +kernel
theorem dX2_copyFrom_66 : decode cX2_copyFrom 66 = .ok (.aaload, 1) := by decide +kernel
theorem dX2_copyFrom_67 : decode cX2_copyFrom 67 = .ok (.aload_n 1, 1) := by decide +kernel
theorem dX2_copyFrom_68 : decode cX2_copyFrom 68 = .ok (.getfield 20, 3) := by decide +kernel
theorem dX2_copyFrom_71 : decode cX2_copyFrom 71 = .ok (.iload_n 2, 1) := by decide +kernel
theorem dX2_copyFrom_72 : decode cX2_copyFrom 72 = .ok (.aaload, 1) := by decide +kernel
theorem dX2_copyFrom_73 : decode cX2_copyFrom 73 = .ok (.invokevirtual 39, 3) := by decide +kernel
theorem dX2_copyFrom_76 : decode cX2_copyFrom 76 = .ok (.iinc 2 1, 3) := by decide +kernel
theorem dX2_copyFrom_79 : decode cX2_copyFrom 79 = .ok (.goto (-24), 3) := by decide +kernel
theorem dX2_copyFrom_82 : decode cX2_copyFrom 82 = .ok (.return_, 1) := by decide +kernel
theorem dX2_hasStation_0 : decode cX2_hasStation 0 = .ok (.iload_n 1, 1) := by decide +kernel
theorem dX2_hasStation_1 : decode cX2_hasStation 1 = .ok (.ifCond .lt 15, 3) := by decide +kernel
theorem dX2_hasStation_4 : decode cX2_hasStation 4 = .ok (.iload_n 1, 1) := by decide +kernel
theorem dX2_hasStation_5 : decode cX2_hasStation 5 = .ok (.aload_n 0, 1) := by decide +kernel
theorem dX2_hasStation_6 : decode cX2_hasStation 6 = .ok (.getfield 29, 3) := by decide +kernel
theorem dX2_hasStation_9 : decode cX2_hasStation 9 = .ok (.if_icmp .ge 7, 3) := by decide +kernel
theorem dX2_hasStation_12 : decode cX2_hasStation 12 = .ok (.iconst 1, 1) := by decide +kernel
theorem dX2_hasStation_13 : decode cX2_hasStation 13 = .ok (.goto 4, 3) := by decide +kernel
theorem dX2_hasStation_16 : decode cX2_hasStation 16 = .ok (.iconst 0, 1) := by decide +kernel
theorem dX2_hasStation_17 : decode cX2_hasStation 17 = .ok (.ireturn, 1) := by decide +kernel
theorem dX2_hasClerk_0 : decode cX2_hasClerk 0 = .ok (.iload_n 1, 1) := by decide +kernel
theorem dX2_hasClerk_1 : decode cX2_hasClerk 1 = .ok (.ifCond .lt 15, 3) := by decide +kernel
theorem dX2_hasClerk_4 : decode cX2_hasClerk 4 = .ok (.iload_n 1, 1) := by decide +kernel
theorem dX2_hasClerk_5 : decode cX2_hasClerk 5 = .ok (.aload_n 0, 1) := by decide +kernel
theorem dX2_hasClerk_6 : decode cX2_hasClerk 6 = .ok (.getfield 32, 3) := by decide +kernel
theorem dX2_hasClerk_9 : decode cX2_hasClerk 9 = .ok (.if_icmp .ge 7, 3) := by decide +kernel
theorem dX2_hasClerk_12 : decode cX2_hasClerk 12 = .ok (.iconst 1, 1) := by decide +kernel
theorem dX2_hasClerk_13 : decode cX2_hasClerk 13 = .ok (.goto 4, 3) := by decide +kernel
theorem dX2_hasClerk_16 : decode cX2_hasClerk 16 = .ok (.iconst 0, 1) := by decide +kernel
theorem dX2_hasClerk_17 : decode cX2_hasClerk 17 = .ok (.ireturn, 1) := by decide +kernel
theorem dX2_engageClerk_0 : decode cX2_engageClerk 0 = .ok (.aload_n 0, 1) := by decide +kernel
theorem dX2_engageClerk_1 : decode cX2_engageClerk 1 = .ok (.getfield 20, 3) := by decide +kernel
theorem dX2_engageClerk_4 : decode cX2_engageClerk 4 = .ok (.aload_n 0, 1) := by decide +kernel
theorem dX2_engageClerk_5 : decode cX2_engageClerk 5 = .ok (.getfield 32, 3) := by decide +kernel
theorem dX2_engageClerk_8 : decode cX2_engageClerk 8 = .ok (.aaload, 1) := by decide +kernel
theorem dX2_engageClerk_9 : decode cX2_engageClerk 9 = .ok (.iload_n 1, 1) := by decide +kernel
theorem dX2_engageClerk_10 : decode cX2_engageClerk 10 = .ok (.putfield 42, 3) := by decide +kernel
theorem dX2_engageClerk_13 : decode cX2_engageClerk 13 = .ok (.aload_n 0, 1) := by decide +kernel
theorem dX2_engageClerk_14 : decode cX2_engageClerk 14 = .ok (.getfield 20, 3) := by decide +kernel
theorem dX2_engageClerk_17 : decode cX2_engageClerk 17 = .ok (.aload_n 0, 1) := by decide +kernel
theorem dX2_engageClerk_18 : decode cX2_engageClerk 18 = .ok (.getfield 32, 3) := by decide +kernel
theorem dX2_engageClerk_21 : decode cX2_engageClerk 21 = .ok (.aaload, 1) := by decide +kernel
theorem dX2_engageClerk_22 : decode cX2_engageClerk 22 = .ok (.iload_n 2, 1) := by decide +kernel
theorem dX2_engageClerk_23 : decode cX2_engageClerk 23 = .ok (.putfield 45, 3) := by decide +kernel
theorem dX2_engageClerk_26 : decode cX2_engageClerk 26 = .ok (.aload_n 0, 1) := by decide +kernel
theorem dX2_engageClerk_27 : decode cX2_engageClerk 27 = .ok (.dup, 1) := by decide +kernel
theorem dX2_engageClerk_28 : decode cX2_engageClerk 28 = .ok (.getfield 32, 3) := by decide +kernel
theorem dX2_engageClerk_31 : decode cX2_engageClerk 31 = .ok (.iconst 1, 1) := by decide +kernel
theorem dX2_engageClerk_32 : decode cX2_engageClerk 32 = .ok (.iadd, 1) := by decide +kernel
theorem dX2_engageClerk_33 : decode cX2_engageClerk 33 = .ok (.putfield 32, 3) := by decide +kernel
theorem dX2_engageClerk_36 : decode cX2_engageClerk 36 = .ok (.aload_n 0, 1) := by decide +kernel
theorem dX2_engageClerk_37 : decode cX2_engageClerk 37 = .ok (.getfield 32, 3) := by decide +kernel
theorem dX2_engageClerk_40 : decode cX2_engageClerk 40 = .ok (.iconst 1, 1) := by decide +kernel
theorem dX2_engageClerk_41 : decode cX2_engageClerk 41 = .ok (.isub, 1) := by decide +kernel
theorem dX2_engageClerk_42 : decode cX2_engageClerk 42 = .ok (.ireturn, 1) := by decide +kernel
theorem dX2_letHoursPass_0 : decode cX2_letHoursPass 0 = .ok (.iconst 0, 1) := by decide +kernel
theorem dX2_letHoursPass_1 : decode cX2_letHoursPass 1 = .ok (.istore_n 2, 1) := by decide +kernel
theorem dX2_letHoursPass_2 : decode cX2_letHoursPass 2 = .ok (.iconst 0, 1) := by decide +kernel
theorem dX2_letHoursPass_3 : decode cX2_letHoursPass 3 = .ok (.istore_n 3, 1) := by decide +kernel
theorem dX2_letHoursPass_4 : decode cX2_letHoursPass 4 = .ok (.iload_n 3, 1) := by decide +kernel
theorem dX2_letHoursPass_5 : decode cX2_letHoursPass 5 = .ok (.iload_n 1, 1) := by decide +kernel
theorem dX2_letHoursPass_6 : decode cX2_letHoursPass 6 = .ok (.if_icmp .ge 38, 3) := by decide +kernel
theorem dX2_letHoursPass_9 : decode cX2_letHoursPass 9 = .ok (.aload_n 0, 1) := by decide +kernel
theorem dX2_letHoursPass_10 : decode cX2_letHoursPass 10 = .ok (.invokevirtual 48, 3) := by decide +kernel
theorem dX2_letHoursPass_13 : decode cX2_letHoursPass 13 = .ok (.aload_n 0, 1) := by decide +kernel
theorem dX2_letHoursPass_14 : decode cX2_letHoursPass 14 = .ok (.invokevirtual 51, 3) := by decide +kernel
theorem dX2_letHoursPass_17 : decode cX2_letHoursPass 17 = .ok (.iload_n 2, 1) := by decide +kernel
theorem dX2_letHoursPass_18 : decode cX2_letHoursPass 18 = .ok (.aload_n 0, 1) := by decide +kernel
theorem dX2_letHoursPass_19 : decode cX2_letHoursPass 19 = .ok (.invokevirtual 54, 3) := by decide +kernel
theorem dX2_letHoursPass_22 : decode cX2_letHoursPass 22 = .ok (.iadd, 1) := by decide +kernel
theorem dX2_letHoursPass_23 : decode cX2_letHoursPass 23 = .ok (.istore_n 2, 1) := by decide +kernel
theorem dX2_letHoursPass_24 : decode cX2_letHoursPass 24 = .ok (.aload_n 0, 1) := by decide +kernel
theorem dX2_letHoursPass_25 : decode cX2_letHoursPass 25 = .ok (.invokevirtual 58, 3) := by decide +kernel
theorem dX2_letHoursPass_28 : decode cX2_letHoursPass 28 = .ok (.aload_n 0, 1) := by decide +kernel
theorem dX2_letHoursPass_29 : decode cX2_letHoursPass 29 = .ok (.dup, 1) := by decide +kernel
theorem dX2_letHoursPass_30 : decode cX2_letHoursPass 30 = .ok (.getfield 25, 3) := by decide +kernel
theorem dX2_letHoursPass_33 : decode cX2_letHoursPass 33 = .ok (.iconst 1, 1) := by decide +kernel
theorem dX2_letHoursPass_34 : decode cX2_letHoursPass 34 = .ok (.iadd, 1) := by decide +kernel
theorem dX2_letHoursPass_35 : decode cX2_letHoursPass 35 = .ok (.putfield 25, 3) := by decide +kernel
theorem dX2_letHoursPass_38 : decode cX2_letHoursPass 38 = .ok (.iinc 3 1, 3) := by decide +kernel
theorem dX2_letHoursPass_41 : decode cX2_letHoursPass 41 = .ok (.goto (-37), 3) := by decide +kernel
theorem dX2_letHoursPass_44 : decode cX2_letHoursPass 44 = .ok (.iload_n 2, 1) := by decide +kernel
theorem dX2_letHoursPass_45 : decode cX2_letHoursPass 45 = .ok (.ireturn, 1) := by decide +kernel
theorem dX2_letArrive_0 : decode cX2_letArrive 0 = .ok (.aload_n 0, 1) := by decide +kernel
theorem dX2_letArrive_1 : decode cX2_letArrive 1 = .ok (.getfield 25, 3) := by decide +kernel
theorem dX2_letArrive_4 : decode cX2_letArrive 4 = .ok (.bipush 15, 2) := by decide +kernel
theorem dX2_letArrive_6 : decode cX2_letArrive 6 = .ok (.if_icmp .lt 4, 3) := by decide +kernel
theorem dX2_letArrive_9 : decode cX2_letArrive 9 = .ok (.return_, 1) := by decide +kernel
theorem dX2_letArrive_10 : decode cX2_letArrive 10 = .ok (.iconst 0, 1) := by decide +kernel
theorem dX2_letArrive_11 : decode cX2_letArrive 11 = .ok (.istore_n 1, 1) := by decide +kernel
theorem dX2_letArrive_12 : decode cX2_letArrive 12 = .ok (.iload_n 1, 1) := by decide +kernel
theorem dX2_letArrive_13 : decode cX2_letArrive 13 = .ok (.aload_n 0, 1) := by decide +kernel
theorem dX2_letArrive_14 : decode cX2_letArrive 14 = .ok (.getfield 29, 3) := by decide +kernel
theorem dX2_letArrive_17 : decode cX2_letArrive 17 = .ok (.if_icmp .ge 37, 3) := by decide +kernel
theorem dX2_letArrive_20 : decode cX2_letArrive 20 = .ok (.aload_n 0, 1) := by decide +kernel
theorem dX2_letArrive_21 : decode cX2_letArrive 21 = .ok (.getfield 11, 3) := by decide +kernel
theorem dX2_letArrive_24 : decode cX2_letArrive 24 = .ok (.iload_n 1, 1) := by decide +kernel
theorem dX2_letArrive_25 : decode cX2_letArrive 25 = .ok (.aaload, 1) := by decide +kernel
theorem dX2_letArrive_26 : decode cX2_letArrive 26 = .ok (.dup, 1) := by decide +kernel
theorem dX2_letArrive_27 : decode cX2_letArrive 27 = .ok (.getfield 61, 3) := by decide +kernel
theorem dX2_letArrive_30 : decode cX2_letArrive 30 = .ok (.aload_n 0, 1) := by decide +kernel
theorem dX2_letArrive_31 : decode cX2_letArrive 31 = .ok (.getfield 11, 3) := by decide +kernel
theorem dX2_letArrive_34 : decode cX2_letArrive 34 = .ok (.iload_n 1, 1) := by decide +kernel
theorem dX2_letArrive_35 : decode cX2_letArrive 35 = .ok (.aaload, 1) := by decide +kernel
theorem dX2_letArrive_36 : decode cX2_letArrive 36 = .ok (.getfield 64, 3) := by decide +kernel
theorem dX2_letArrive_39 : decode cX2_letArrive 39 = .ok (.aload_n 0, 1) := by decide +kernel
theorem dX2_letArrive_40 : decode cX2_letArrive 40 = .ok (.getfield 25, 3) := by decide +kernel
theorem dX2_letArrive_43 : decode cX2_letArrive 43 = .ok (.iaload, 1) := by decide +kernel
theorem dX2_letArrive_44 : decode cX2_letArrive 44 = .ok (.iadd, 1) := by decide +kernel
theorem dX2_letArrive_45 : decode cX2_letArrive 45 = .ok (.putfield 61, 3) := by decide +kernel
theorem dX2_letArrive_48 : decode cX2_letArrive 48 = .ok (.iinc 1 1, 3) := by decide +kernel
theorem dX2_letArrive_51 : decode cX2_letArrive 51 = .ok (.goto (-39), 3) := by decide +kernel
theorem dX2_letArrive_54 : decode cX2_letArrive 54 = .ok (.return_, 1) := by decide +kernel
theorem dX2_changeClerks_0 : decode cX2_changeClerks 0 = .ok (.iconst 0, 1) := by decide +kernel
theorem dX2_changeClerks_1 : decode cX2_changeClerks 1 = .ok (.istore_n 1, 1) := by decide +kernel
theorem dX2_changeClerks_2 : decode cX2_changeClerks 2 = .ok (.iload_n 1, 1) := by decide +kernel
theorem dX2_changeClerks_3 : decode cX2_changeClerks 3 = .ok (.aload_n 0, 1) := by decide +kernel
theorem dX2_changeClerks_4 : decode cX2_changeClerks 4 = .ok (.getfield 32, 3) := by decide +kernel
theorem dX2_changeClerks_7 : decode cX2_changeClerks 7 = .ok (.if_icmp .ge 62, 3) := by decide +kernel
theorem dX2_changeClerks_10 : decode cX2_changeClerks 10 = .ok (.aload_n 0, 1) := by decide +kernel
theorem dX2_changeClerks_11 : decode cX2_changeClerks 11 = .ok (.getfield 20, 3) := by decide +kernel
theorem dX2_changeClerks_14 : decode cX2_changeClerks 14 = .ok (.iload_n 1, 1) := by decide +kernel
theorem dX2_changeClerks_15 : decode cX2_changeClerks 15 = .ok (.aaload, 1) := by decide +kernel
theorem dX2_changeClerks_16 : decode cX2_changeClerks 16 = .ok (.invokevirtual 68, 3) := by decide +kernel
theorem dX2_changeClerks_19 : decode cX2_changeClerks 19 = .ok (.ifCond .eq 44, 3) := by decide +kernel
theorem dX2_changeClerks_22 : decode cX2_changeClerks 22 = .ok (.aload_n 0, 1) := by decide +kernel
theorem dX2_changeClerks_23 : decode cX2_changeClerks 23 = .ok (.getfield 20, 3) := by decide +kernel
theorem dX2_changeClerks_26 : decode cX2_changeClerks 26 = .ok (.iload_n 1, 1) := by decide +kernel
theorem dX2_changeClerks_27 : decode cX2_changeClerks 27 = .ok (.aaload, 1) := by decide +kernel
theorem dX2_changeClerks_28 : decode cX2_changeClerks 28 = .ok (.getfield 72, 3) := by decide +kernel
theorem dX2_changeClerks_31 : decode cX2_changeClerks 31 = .ok (.istore_n 2, 1) := by decide +kernel
theorem dX2_changeClerks_32 : decode cX2_changeClerks 32 = .ok (.aload_n 0, 1) := by decide +kernel
theorem dX2_changeClerks_33 : decode cX2_changeClerks 33 = .ok (.getfield 20, 3) := by decide +kernel
theorem dX2_changeClerks_36 : decode cX2_changeClerks 36 = .ok (.iload_n 1, 1) := by decide +kernel
theorem dX2_changeClerks_37 : decode cX2_changeClerks 37 = .ok (.aaload, 1) := by decide +kernel
theorem dX2_changeClerks_38 : decode cX2_changeClerks 38 = .ok (.iconst 2, 1) := by decide +kernel
theorem dX2_changeClerks_39 : decode cX2_changeClerks 39 = .ok (.invokevirtual 75, 3) := by decide +kernel
theorem dX2_changeClerks_42 : decode cX2_changeClerks 42 = .ok (.aload_n 0, 1) := by decide +kernel
theorem dX2_changeClerks_43 : decode cX2_changeClerks 43 = .ok (.invokevirtual 79, 3) := by decide +kernel
theorem dX2_changeClerks_46 : decode cX2_changeClerks 46 = .ok (.istore_n 3, 1) := by decide +kernel
theorem dX2_changeClerks_47 : decode cX2_changeClerks 47 = .ok (.iload_n 3, 1) := by decide +kernel
theorem dX2_changeClerks_48 : decode cX2_changeClerks 48 = .ok (.bipush (-5), 2) := by decide +kernel
theorem dX2_changeClerks_50 : decode cX2_changeClerks 50 = .ok (.if_icmp .eq 13, 3) := by decide +kernel
theorem dX2_changeClerks_53 : decode cX2_changeClerks 53 = .ok (.aload_n 0, 1) := by decide +kernel
theorem dX2_changeClerks_54 : decode cX2_changeClerks 54 = .ok (.getfield 20, 3) := by decide +kernel
theorem dX2_changeClerks_57 : decode cX2_changeClerks 57 = .ok (.iload_n 3, 1) := by decide +kernel
theorem dX2_changeClerks_58 : decode cX2_changeClerks 58 = .ok (.aaload, 1) := by decide +kernel
theorem dX2_changeClerks_59 : decode cX2_changeClerks 59 = .ok (.iload_n 2, 1) := by decide +kernel
theorem dX2_changeClerks_60 : decode cX2_changeClerks 60 = .ok (.invokevirtual 82, 3) := by decide +kernel
theorem dX2_changeClerks_63 : decode cX2_changeClerks 63 = .ok (.iinc 1 1, 3) := by decide +kernel
theorem dX2_changeClerks_66 : decode cX2_changeClerks 66 = .ok (.goto (-64), 3) := by decide +kernel
theorem dX2_changeClerks_69 : decode cX2_changeClerks 69 = .ok (.return_, 1) := by decide +kernel
theorem dX2_serveQueues_0 : decode cX2_serveQueues 0 = .ok (.iconst 0, 1) := by decide +kernel
theorem dX2_serveQueues_1 : decode cX2_serveQueues 1 = .ok (.istore_n 1, 1) := by decide +kernel
theorem dX2_serveQueues_2 : decode cX2_serveQueues 2 = .ok (.iconst 0, 1) := by decide +kernel
theorem dX2_serveQueues_3 : decode cX2_serveQueues 3 = .ok (.istore_n 2, 1) := by decide +kernel
theorem dX2_serveQueues_4 : decode cX2_serveQueues 4 = .ok (.iload_n 2, 1) := by decide +kernel
theorem dX2_serveQueues_5 : decode cX2_serveQueues 5 = .ok (.aload_n 0, 1) := by decide +kernel
theorem dX2_serveQueues_6 : decode cX2_serveQueues 6 = .ok (.getfield 29, 3) := by decide +kernel
theorem dX2_serveQueues_9 : decode cX2_serveQueues 9 = .ok (.if_icmp .ge 26, 3) := by decide +kernel
theorem dX2_serveQueues_12 : decode cX2_serveQueues 12 = .ok (.iload_n 1, 1) := by decide +kernel
theorem dX2_serveQueues_13 : decode cX2_serveQueues 13 = .ok (.aload_n 0, 1) := by decide +kernel
theorem dX2_serveQueues_14 : decode cX2_serveQueues 14 = .ok (.getfield 11, 3) := by decide +kernel
theorem dX2_serveQueues_17 : decode cX2_serveQueues 17 = .ok (.iload_n 2, 1) := by decide +kernel
theorem dX2_serveQueues_18 : decode cX2_serveQueues 18 = .ok (.aaload, 1) := by decide +kernel
theorem dX2_serveQueues_19 : decode cX2_serveQueues 19 = .ok (.aload_n 0, 1) := by decide +kernel
theorem dX2_serveQueues_20 : decode cX2_serveQueues 20 = .ok (.iload_n 2, 1) := by decide +kernel
theorem dX2_serveQueues_21 : decode cX2_serveQueues 21 = .ok (.invokevirtual 85, 3) := by decide +kernel
theorem dX2_serveQueues_24 : decode cX2_serveQueues 24 = .ok (.invokevirtual 89, 3) := by decide +kernel
theorem dX2_serveQueues_27 : decode cX2_serveQueues 27 = .ok (.iadd, 1) := by decide +kernel
theorem dX2_serveQueues_28 : decode cX2_serveQueues 28 = .ok (.istore_n 1, 1) := by decide +kernel
theorem dX2_serveQueues_29 : decode cX2_serveQueues 29 = .ok (.iinc 2 1, 3) := by decide +kernel
theorem dX2_serveQueues_32 : decode cX2_serveQueues 32 = .ok (.goto (-28), 3) := by decide +kernel
theorem dX2_serveQueues_35 : decode cX2_serveQueues 35 = .ok (.iload_n 1, 1) := by decide +kernel
theorem dX2_serveQueues_36 : decode cX2_serveQueues 36 = .ok (.ireturn, 1) := by decide +kernel
theorem dX2_endHourOfClerks_0 : decode cX2_endHourOfClerks 0 = .ok (.iconst 0, 1) := by decide +kernel
theorem dX2_endHourOfClerks_1 : decode cX2_endHourOfClerks 1 = .ok (.istore_n 1, 1) := by decide +kernel
theorem dX2_endHourOfClerks_2 : decode cX2_endHourOfClerks 2 = .ok (.iload_n 1, 1) := by decide +kernel
theorem dX2_endHourOfClerks_3 : decode cX2_endHourOfClerks 3 = .ok (.aload_n 0, 1) := by decide +kernel
theorem dX2_endHourOfClerks_4 : decode cX2_endHourOfClerks 4 = .ok (.getfield 32, 3) := by decide +kernel
theorem dX2_endHourOfClerks_7 : decode cX2_endHourOfClerks 7 = .ok (.if_icmp .ge 18, 3) := by decide +kernel
theorem dX2_endHourOfClerks_10 : decode cX2_endHourOfClerks 10 = .ok (.aload_n 0, 1) := by decide +kernel
theorem dX2_endHourOfClerks_11 : decode cX2_endHourOfClerks 11 = .ok (.getfield 20, 3) := by decide +kernel
theorem dX2_endHourOfClerks_14 : decode cX2_endHourOfClerks 14 = .ok (.iload_n 1, 1) := by decide +kernel
theorem dX2_endHourOfClerks_15 : decode cX2_endHourOfClerks 15 = .ok (.aaload, 1) := by decide +kernel
theorem dX2_endHourOfClerks_16 : decode cX2_endHourOfClerks 16 = .ok (.invokevirtual 92, 3) := by decide +kernel
theorem dX2_endHourOfClerks_19 : decode cX2_endHourOfClerks 19 = .ok (.iinc 1 1, 3) := by decide +kernel
theorem dX2_endHourOfClerks_22 : decode cX2_endHourOfClerks 22 = .ok (.goto (-20), 3) := by decide +kernel
theorem dX2_endHourOfClerks_25 : decode cX2_endHourOfClerks 25 = .ok (.return_, 1) := by decide +kernel
theorem dX2_firstFree_0 : decode cX2_firstFree 0 = .ok (.bipush (-5), 2) := by decide +kernel
theorem dX2_firstFree_2 : decode cX2_firstFree 2 = .ok (.istore_n 1, 1) := by decide +kernel
theorem dX2_firstFree_3 : decode cX2_firstFree 3 = .ok (.iconst 0, 1) := by decide +kernel
theorem dX2_firstFree_4 : decode cX2_firstFree 4 = .ok (.istore_n 2, 1) := by decide +kernel
theorem dX2_firstFree_5 : decode cX2_firstFree 5 = .ok (.iload_n 2, 1) := by decide +kernel
theorem dX2_firstFree_6 : decode cX2_firstFree 6 = .ok (.aload_n 0, 1) := by decide +kernel
theorem dX2_firstFree_7 : decode cX2_firstFree 7 = .ok (.getfield 32, 3) := by decide +kernel
theorem dX2_firstFree_10 : decode cX2_firstFree 10 = .ok (.if_icmp .ge 38, 3) := by decide +kernel
theorem dX2_firstFree_13 : decode cX2_firstFree 13 = .ok (.aload_n 0, 1) := by decide +kernel
theorem dX2_firstFree_14 : decode cX2_firstFree 14 = .ok (.getfield 20, 3) := by decide +kernel
theorem dX2_firstFree_17 : decode cX2_firstFree 17 = .ok (.iload_n 2, 1) := by decide +kernel
theorem dX2_firstFree_18 : decode cX2_firstFree 18 = .ok (.aaload, 1) := by decide +kernel
theorem dX2_firstFree_19 : decode cX2_firstFree 19 = .ok (.invokevirtual 95, 3) := by decide +kernel
theorem dX2_firstFree_22 : decode cX2_firstFree 22 = .ok (.ifCond .eq 20, 3) := by decide +kernel
theorem dX2_firstFree_25 : decode cX2_firstFree 25 = .ok (.iload_n 1, 1) := by decide +kernel
theorem dX2_firstFree_26 : decode cX2_firstFree 26 = .ok (.bipush (-5), 2) := by decide +kernel
theorem dX2_firstFree_28 : decode cX2_firstFree 28 = .ok (.if_icmp .eq 12, 3) := by decide +kernel
theorem dX2_firstFree_31 : decode cX2_firstFree 31 = .ok (.aload_n 0, 1) := by decide +kernel
theorem dX2_firstFree_32 : decode cX2_firstFree 32 = .ok (.iload_n 2, 1) := by decide +kernel
theorem dX2_firstFree_33 : decode cX2_firstFree 33 = .ok (.iload_n 1, 1) := by decide +kernel
theorem dX2_firstFree_34 : decode cX2_firstFree 34 = .ok (.invokevirtual 98, 3) := by decide +kernel
theorem dX2_firstFree_37 : decode cX2_firstFree 37 = .ok (.ifCond .eq 5, 3) := by decide +kernel
theorem dX2_firstFree_40 : decode cX2_firstFree 40 = .ok (.iload_n 2, 1) := by decide +kernel
theorem dX2_firstFree_41 : decode cX2_firstFree 41 = .ok (.istore_n 1, 1) := by decide +kernel
theorem dX2_firstFree_42 : decode cX2_firstFree 42 = .ok (.iinc 2 1, 3) := by decide +kernel
theorem dX2_firstFree_45 : decode cX2_firstFree 45 = .ok (.goto (-40), 3) := by decide +kernel
theorem dX2_firstFree_48 : decode cX2_firstFree 48 = .ok (.iload_n 1, 1) := by decide +kernel
theorem dX2_firstFree_49 : decode cX2_firstFree 49 = .ok (.ireturn, 1) := by decide +kernel
theorem dX2_comesBefore_0 : decode cX2_comesBefore 0 = .ok (.aload_n 0, 1) := by decide +kernel
theorem dX2_comesBefore_1 : decode cX2_comesBefore 1 = .ok (.getfield 20, 3) := by decide +kernel
theorem dX2_comesBefore_4 : decode cX2_comesBefore 4 = .ok (.iload_n 1, 1) := by decide +kernel
theorem dX2_comesBefore_5 : decode cX2_comesBefore 5 = .ok (.aaload, 1) := by decide +kernel
theorem dX2_comesBefore_6 : decode cX2_comesBefore 6 = .ok (.getfield 102, 3) := by decide +kernel
theorem dX2_comesBefore_9 : decode cX2_comesBefore 9 = .ok (.aload_n 0, 1) := by decide +kernel
theorem dX2_comesBefore_10 : decode cX2_comesBefore 10 = .ok (.getfield 20, 3) := by decide +kernel
theorem dX2_comesBefore_13 : decode cX2_comesBefore 13 = .ok (.iload_n 2, 1) := by decide +kernel
theorem dX2_comesBefore_14 : decode cX2_comesBefore 14 = .ok (.aaload, 1) := by decide +kernel
theorem dX2_comesBefore_15 : decode cX2_comesBefore 15 = .ok (.getfield 102, 3) := by decide +kernel
theorem dX2_comesBefore_18 : decode cX2_comesBefore 18 = .ok (.isub, 1) := by decide +kernel
theorem dX2_comesBefore_19 : decode cX2_comesBefore 19 = .ok (.istore_n 3, 1) := by decide +kernel
theorem dX2_comesBefore_20 : decode cX2_comesBefore 20 = .ok (.iload_n 3, 1) := by decide +kernel
theorem dX2_comesBefore_21 : decode cX2_comesBefore 21 = .ok (.ifCond .lt 12, 3) := by decide +kernel
theorem dX2_comesBefore_24 : decode cX2_comesBefore 24 = .ok (.iload_n 3, 1) := by decide +kernel
theorem dX2_comesBefore_25 : decode cX2_comesBefore 25 = .ok (.ifCond .ne 12, 3) := by decide +kernel
theorem dX2_comesBefore_28 : decode cX2_comesBefore 28 = .ok (.iload_n 1, 1) := by decide +kernel
theorem dX2_comesBefore_29 : decode cX2_comesBefore 29 = .ok (.iload_n 2, 1) := by decide +kernel
theorem dX2_comesBefore_30 : decode cX2_comesBefore 30 = .ok (.if_icmp .ge 7, 3) := by decide +kernel
theorem dX2_comesBefore_33 : decode cX2_comesBefore 33 = .ok (.iconst 1, 1) := by decide +kernel
theorem dX2_comesBefore_34 : decode cX2_comesBefore 34 = .ok (.goto 4, 3) := by decide +kernel
theorem dX2_comesBefore_37 : decode cX2_comesBefore 37 = .ok (.iconst 0, 1) := by decide +kernel
theorem dX2_comesBefore_38 : decode cX2_comesBefore 38 = .ok (.ireturn, 1) := by decide +kernel
theorem dX2_placeAmongFree_0 : decode cX2_placeAmongFree 0 = .ok (.iconst 0, 1) := by decide +kernel
theorem dX2_placeAmongFree_1 : decode cX2_placeAmongFree 1 = .ok (.istore_n 2, 1) := by decide +kernel
theorem dX2_placeAmongFree_2 : decode cX2_placeAmongFree 2 = .ok (.iconst 0, 1) := by decide +kernel
theorem dX2_placeAmongFree_3 : decode cX2_placeAmongFree 3 = .ok (.istore_n 3, 1) := by decide +kernel
theorem dX2_placeAmongFree_4 : decode cX2_placeAmongFree 4 = .ok (.iload_n 3, 1) := by decide +kernel
theorem dX2_placeAmongFree_5 : decode cX2_placeAmongFree 5 = .ok (.aload_n 0, 1) := by decide +kernel
theorem dX2_placeAmongFree_6 : decode cX2_placeAmongFree 6 = .ok (.getfield 32, 3) := by decide +kernel
theorem dX2_placeAmongFree_9 : decode cX2_placeAmongFree 9 = .ok (.if_icmp .ge 33, 3) := by decide +kernel
theorem dX2_placeAmongFree_12 : decode cX2_placeAmongFree 12 = .ok (.aload_n 0, 1) := by decide +kernel
theorem dX2_placeAmongFree_13 : decode cX2_placeAmongFree 13 = .ok (.getfield 20, 3) := by decide +kernel
theorem dX2_placeAmongFree_16 : decode cX2_placeAmongFree 16 = .ok (.iload_n 3, 1) := by decide +kernel
theorem dX2_placeAmongFree_17 : decode cX2_placeAmongFree 17 = .ok (.aaload, 1) := by decide +kernel
theorem dX2_placeAmongFree_18 : decode cX2_placeAmongFree 18 = .ok (.invokevirtual 95, 3) := by decide +kernel
theorem dX2_placeAmongFree_21 : decode cX2_placeAmongFree 21 = .ok (.ifCond .eq 15, 3) := by decide +kernel
theorem dX2_placeAmongFree_24 : decode cX2_placeAmongFree 24 = .ok (.aload_n 0, 1) := by decide +kernel
theorem dX2_placeAmongFree_25 : decode cX2_placeAmongFree 25 = .ok (.iload_n 3, 1) := by decide +kernel
theorem dX2_placeAmongFree_26 : decode cX2_placeAmongFree 26 = .ok (.iload_n 1, 1) := by decide +kernel
theorem dX2_placeAmongFree_27 : decode cX2_placeAmongFree 27 = .ok (.invokevirtual 98, 3) := by decide +kernel
theorem dX2_placeAmongFree_30 : decode cX2_placeAmongFree 30 = .ok (.ifCond .eq 6, 3) := by decide +kernel
theorem dX2_placeAmongFree_33 : decode cX2_placeAmongFree 33 = .ok (.iinc 2 1, 3) := by decide +kernel
theorem dX2_placeAmongFree_36 : decode cX2_placeAmongFree 36 = .ok (.iinc 3 1, 3) := by decide +kernel
theorem dX2_placeAmongFree_39 : decode cX2_placeAmongFree 39 = .ok (.goto (-35), 3) := by decide +kernel
theorem dX2_placeAmongFree_42 : decode cX2_placeAmongFree 42 = .ok (.iload_n 2, 1) := by decide +kernel
theorem dX2_placeAmongFree_43 : decode cX2_placeAmongFree 43 = .ok (.ireturn, 1) := by decide +kernel
theorem dX2_placeByQueue_0 : decode cX2_placeByQueue 0 = .ok (.iconst 0, 1) := by decide +kernel
theorem dX2_placeByQueue_1 : decode cX2_placeByQueue 1 = .ok (.istore_n 2, 1) := by decide +kernel
theorem dX2_placeByQueue_2 : decode cX2_placeByQueue 2 = .ok (.iconst 0, 1) := by decide +kernel
theorem dX2_placeByQueue_3 : decode cX2_placeByQueue 3 = .ok (.istore_n 3, 1) := by decide +kernel
theorem dX2_placeByQueue_4 : decode cX2_placeByQueue 4 = .ok (.iload_n 3, 1) := by decide +kernel
theorem dX2_placeByQueue_5 : decode cX2_placeByQueue 5 = .ok (.aload_n 0, 1) := by decide +kernel
theorem dX2_placeByQueue_6 : decode cX2_placeByQueue 6 = .ok (.getfield 29, 3) := by decide +kernel
theorem dX2_placeByQueue_9 : decode cX2_placeByQueue 9 = .ok (.if_icmp .ge 48, 3) := by decide +kernel
theorem dX2_placeByQueue_12 : decode cX2_placeByQueue 12 = .ok (.aload_n 0, 1) := by decide +kernel
theorem dX2_placeByQueue_13 : decode cX2_placeByQueue 13 = .ok (.getfield 11, 3) := by decide +kernel
theorem dX2_placeByQueue_16 : decode cX2_placeByQueue 16 = .ok (.iload_n 3, 1) := by decide +kernel
theorem dX2_placeByQueue_17 : decode cX2_placeByQueue 17 = .ok (.aaload, 1) := by decide +kernel
theorem dX2_placeByQueue_18 : decode cX2_placeByQueue 18 = .ok (.getfield 61, 3) := by decide +kernel
theorem dX2_placeByQueue_21 : decode cX2_placeByQueue 21 = .ok (.aload_n 0, 1) := by decide +kernel
theorem dX2_placeByQueue_22 : decode cX2_placeByQueue 22 = .ok (.getfield 11, 3) := by decide +kernel
theorem dX2_placeByQueue_25 : decode cX2_placeByQueue 25 = .ok (.iload_n 1, 1) := by decide +kernel
theorem dX2_placeByQueue_26 : decode cX2_placeByQueue 26 = .ok (.aaload, 1) := by decide +kernel
theorem dX2_placeByQueue_27 : decode cX2_placeByQueue 27 = .ok (.getfield 61, 3) := by decide +kernel
theorem dX2_placeByQueue_30 : decode cX2_placeByQueue 30 = .ok (.isub, 1) := by decide +kernel
theorem dX2_placeByQueue_31 : decode cX2_placeByQueue 31 = .ok (.istore 4, 2) := by decide +kernel
theorem dX2_placeByQueue_33 : decode cX2_placeByQueue 33 = .ok (.iload 4, 2) := by decide +kernel
theorem dX2_placeByQueue_35 : decode cX2_placeByQueue 35 = .ok (.ifCond .gt 13, 3) := by decide +kernel
theorem dX2_placeByQueue_38 : decode cX2_placeByQueue 38 = .ok (.iload 4, 2) := by decide +kernel
theorem dX2_placeByQueue_40 : decode cX2_placeByQueue 40 = .ok (.ifCond .ne 11, 3) := by decide +kernel
theorem dX2_placeByQueue_43 : decode cX2_placeByQueue 43 = .ok (.iload_n 3, 1) := by decide +kernel
theorem dX2_placeByQueue_44 : decode cX2_placeByQueue 44 = .ok (.iload_n 1, 1) := by decide +kernel
theorem dX2_placeByQueue_45 : decode cX2_placeByQueue 45 = .ok (.if_icmp .ge 6, 3) := by decide +kernel
theorem dX2_placeByQueue_48 : decode cX2_placeByQueue 48 = .ok (.iinc 2 1, 3) := by decide +kernel
theorem dX2_placeByQueue_51 : decode cX2_placeByQueue 51 = .ok (.iinc 3 1, 3) := by decide +kernel
theorem dX2_placeByQueue_54 : decode cX2_placeByQueue 54 = .ok (.goto (-50), 3) := by decide +kernel
theorem dX2_placeByQueue_57 : decode cX2_placeByQueue 57 = .ok (.iload_n 2, 1) := by decide +kernel
theorem dX2_placeByQueue_58 : decode cX2_placeByQueue 58 = .ok (.ireturn, 1) := by decide +kernel
theorem dX2_clerksAt_0 : decode cX2_clerksAt 0 = .ok (.iconst 0, 1) := by decide +kernel
theorem dX2_clerksAt_1 : decode cX2_clerksAt 1 = .ok (.istore_n 2, 1) := by decide +kernel
theorem dX2_clerksAt_2 : decode cX2_clerksAt 2 = .ok (.iconst 0, 1) := by decide +kernel
theorem dX2_clerksAt_3 : decode cX2_clerksAt 3 = .ok (.istore_n 3, 1) := by decide +kernel
theorem dX2_clerksAt_4 : decode cX2_clerksAt 4 = .ok (.iload_n 3, 1) := by decide +kernel
theorem dX2_clerksAt_5 : decode cX2_clerksAt 5 = .ok (.aload_n 0, 1) := by decide +kernel
theorem dX2_clerksAt_6 : decode cX2_clerksAt 6 = .ok (.getfield 32, 3) := by decide +kernel
theorem dX2_clerksAt_9 : decode cX2_clerksAt 9 = .ok (.if_icmp .ge 25, 3) := by decide +kernel
theorem dX2_clerksAt_12 : decode cX2_clerksAt 12 = .ok (.aload_n 0, 1) := by decide +kernel
theorem dX2_clerksAt_13 : decode cX2_clerksAt 13 = .ok (.getfield 20, 3) := by decide +kernel
theorem dX2_clerksAt_16 : decode cX2_clerksAt 16 = .ok (.iload_n 3, 1) := by decide +kernel
theorem dX2_clerksAt_17 : decode cX2_clerksAt 17 = .ok (.aaload, 1) := by decide +kernel
theorem dX2_clerksAt_18 : decode cX2_clerksAt 18 = .ok (.getfield 72, 3) := by decide +kernel
theorem dX2_clerksAt_21 : decode cX2_clerksAt 21 = .ok (.iload_n 1, 1) := by decide +kernel
theorem dX2_clerksAt_22 : decode cX2_clerksAt 22 = .ok (.if_icmp .ne 6, 3) := by decide +kernel
theorem dX2_clerksAt_25 : decode cX2_clerksAt 25 = .ok (.iinc 2 1, 3) := by decide +kernel
theorem dX2_clerksAt_28 : decode cX2_clerksAt 28 = .ok (.iinc 3 1, 3) := by decide +kernel
theorem dX2_clerksAt_31 : decode cX2_clerksAt 31 = .ok (.goto (-27), 3) := by decide +kernel
theorem dX2_clerksAt_34 : decode cX2_clerksAt 34 = .ok (.iload_n 2, 1) := by decide +kernel
theorem dX2_clerksAt_35 : decode cX2_clerksAt 35 = .ok (.ireturn, 1) := by decide +kernel
theorem dX2_servedAnHourAt_0 : decode cX2_servedAnHourAt 0 = .ok (.iconst 0, 1) := by decide +kernel
theorem dX2_servedAnHourAt_1 : decode cX2_servedAnHourAt 1 = .ok (.istore_n 2, 1) := by decide +kernel
theorem dX2_servedAnHourAt_2 : decode cX2_servedAnHourAt 2 = .ok (.iconst 0, 1) := by decide +kernel
theorem dX2_servedAnHourAt_3 : decode cX2_servedAnHourAt 3 = .ok (.istore_n 3, 1) := by decide +kernel
theorem dX2_servedAnHourAt_4 : decode cX2_servedAnHourAt 4 = .ok (.iload_n 3, 1) := by decide +kernel
theorem dX2_servedAnHourAt_5 : decode cX2_servedAnHourAt 5 = .ok (.aload_n 0, 1) := by decide +kernel
theorem dX2_servedAnHourAt_6 : decode cX2_servedAnHourAt 6 = .ok (.getfield 32, 3) := by decide +kernel
theorem dX2_servedAnHourAt_9 : decode cX2_servedAnHourAt 9 = .ok (.if_icmp .ge 34, 3) := by decide +kernel
theorem dX2_servedAnHourAt_12 : decode cX2_servedAnHourAt 12 = .ok (.aload_n 0, 1) := by decide +kernel
theorem dX2_servedAnHourAt_13 : decode cX2_servedAnHourAt 13 = .ok (.getfield 20, 3) := by decide +kernel
theorem dX2_servedAnHourAt_16 : decode cX2_servedAnHourAt 16 = .ok (.iload_n 3, 1) := by decide +kernel
theorem dX2_servedAnHourAt_17 : decode cX2_servedAnHourAt 17 = .ok (.aaload, 1) := by decide +kernel
theorem dX2_servedAnHourAt_18 : decode cX2_servedAnHourAt 18 = .ok (.getfield 72, 3) := by decide +kernel
theorem dX2_servedAnHourAt_21 : decode cX2_servedAnHourAt 21 = .ok (.iload_n 1, 1) := by decide +kernel
theorem dX2_servedAnHourAt_22 : decode cX2_servedAnHourAt 22 = .ok (.if_icmp .ne 15, 3) := by decide +kernel
theorem dX2_servedAnHourAt_25 : decode cX2_servedAnHourAt 25 = .ok (.iload_n 2, 1) := by decide +kernel
theorem dX2_servedAnHourAt_26 : decode cX2_servedAnHourAt 26 = .ok (.aload_n 0, 1) := by decide +kernel
theorem dX2_servedAnHourAt_27 : decode cX2_servedAnHourAt 27 = .ok (.getfield 20, 3) := by decide +kernel
theorem dX2_servedAnHourAt_30 : decode cX2_servedAnHourAt 30 = .ok (.iload_n 3, 1) := by decide +kernel
theorem dX2_servedAnHourAt_31 : decode cX2_servedAnHourAt 31 = .ok (.aaload, 1) := by decide +kernel
theorem dX2_servedAnHourAt_32 : decode cX2_servedAnHourAt 32 = .ok (.getfield 42, 3) := by decide +kernel
theorem dX2_servedAnHourAt_35 : decode cX2_servedAnHourAt 35 = .ok (.iadd, 1) := by decide +kernel
theorem dX2_servedAnHourAt_36 : decode cX2_servedAnHourAt 36 = .ok (.istore_n 2, 1) := by decide +kernel
theorem dX2_servedAnHourAt_37 : decode cX2_servedAnHourAt 37 = .ok (.iinc 3 1, 3) := by decide +kernel
theorem dX2_servedAnHourAt_40 : decode cX2_servedAnHourAt 40 = .ok (.goto (-36), 3) := by decide +kernel
theorem dX2_servedAnHourAt_43 : decode cX2_servedAnHourAt 43 = .ok (.iload_n 2, 1) := by decide +kernel
theorem dX2_servedAnHourAt_44 : decode cX2_servedAnHourAt 44 = .ok (.ireturn, 1) := by decide +kernel
theorem dX2_hoursForQueueOf_0 : decode cX2_hoursForQueueOf 0 = .ok (.aload_n 0, 1) := by decide +kernel
theorem dX2_hoursForQueueOf_1 : decode cX2_hoursForQueueOf 1 = .ok (.getfield 11, 3) := by decide +kernel
theorem dX2_hoursForQueueOf_4 : decode cX2_hoursForQueueOf 4 = .ok (.iload_n 1, 1) := by decide +kernel
theorem dX2_hoursForQueueOf_5 : decode cX2_hoursForQueueOf 5 = .ok (.aaload, 1) := by decide +kernel
theorem dX2_hoursForQueueOf_6 : decode cX2_hoursForQueueOf 6 = .ok (.getfield 61, 3) := by decide +kernel
theorem dX2_hoursForQueueOf_9 : decode cX2_hoursForQueueOf 9 = .ok (.istore_n 2, 1) := by decide +kernel
theorem dX2_hoursForQueueOf_10 : decode cX2_hoursForQueueOf 10 = .ok (.aload_n 0, 1) := by decide +kernel
theorem dX2_hoursForQueueOf_11 : decode cX2_hoursForQueueOf 11 = .ok (.iload_n 1, 1) := by decide +kernel
theorem dX2_hoursForQueueOf_12 : decode cX2_hoursForQueueOf 12 = .ok (.invokevirtual 85, 3) := by decide +kernel
theorem dX2_hoursForQueueOf_15 : decode cX2_hoursForQueueOf 15 = .ok (.istore_n 3, 1) := by decide +kernel
theorem dX2_hoursForQueueOf_16 : decode cX2_hoursForQueueOf 16 = .ok (.iload_n 2, 1) := by decide +kernel
theorem dX2_hoursForQueueOf_17 : decode cX2_hoursForQueueOf 17 = .ok (.ifCond .ne 5, 3) := by decide +kernel
theorem dX2_hoursForQueueOf_20 : decode cX2_hoursForQueueOf 20 = .ok (.iconst 0, 1) := by decide +kernel
theorem dX2_hoursForQueueOf_21 : decode cX2_hoursForQueueOf 21 = .ok (.ireturn, 1) := by decide +kernel
theorem dX2_hoursForQueueOf_22 : decode cX2_hoursForQueueOf 22 = .ok (.iload_n 3, 1) := by decide +kernel
theorem dX2_hoursForQueueOf_23 : decode cX2_hoursForQueueOf 23 = .ok (.ifCond .gt 6, 3) := by decide +kernel
theorem dX2_hoursForQueueOf_26 : decode cX2_hoursForQueueOf 26 = .ok (.bipush (-5), 2) := by decide +kernel
theorem dX2_hoursForQueueOf_28 : decode cX2_hoursForQueueOf 28 = .ok (.ireturn, 1) := by decide +kernel
theorem dX2_hoursForQueueOf_29 : decode cX2_hoursForQueueOf 29 = .ok (.iload_n 2, 1) := by decide +kernel
theorem dX2_hoursForQueueOf_30 : decode cX2_hoursForQueueOf 30 = .ok (.iload_n 3, 1) := by decide +kernel
theorem dX2_hoursForQueueOf_31 : decode cX2_hoursForQueueOf 31 = .ok (.iadd, 1) := by decide +kernel
theorem dX2_hoursForQueueOf_32 : decode cX2_hoursForQueueOf 32 = .ok (.iconst 1, 1) := by decide +kernel
theorem dX2_hoursForQueueOf_33 : decode cX2_hoursForQueueOf 33 = .ok (.isub, 1) := by decide +kernel
theorem dX2_hoursForQueueOf_34 : decode cX2_hoursForQueueOf 34 = .ok (.iload_n 3, 1) := by decide +kernel
theorem dX2_hoursForQueueOf_35 : decode cX2_hoursForQueueOf 35 = .ok (.idiv, 1) := by decide +kernel
theorem dX2_hoursForQueueOf_36 : decode cX2_hoursForQueueOf 36 = .ok (.ireturn, 1) := by decide +kernel
theorem dX2_clerksOnDuty_0 : decode cX2_clerksOnDuty 0 = .ok (.iconst 0, 1) := by decide +kernel
theorem dX2_clerksOnDuty_1 : decode cX2_clerksOnDuty 1 = .ok (.istore_n 1, 1) := by decide +kernel
theorem dX2_clerksOnDuty_2 : decode cX2_clerksOnDuty 2 = .ok (.iconst 0, 1) := by decide +kernel
theorem dX2_clerksOnDuty_3 : decode cX2_clerksOnDuty 3 = .ok (.istore_n 2, 1) := by decide +kernel
theorem dX2_clerksOnDuty_4 : decode cX2_clerksOnDuty 4 = .ok (.iload_n 2, 1) := by decide +kernel
theorem dX2_clerksOnDuty_5 : decode cX2_clerksOnDuty 5 = .ok (.aload_n 0, 1) := by decide +kernel
theorem dX2_clerksOnDuty_6 : decode cX2_clerksOnDuty 6 = .ok (.getfield 32, 3) := by decide +kernel
theorem dX2_clerksOnDuty_9 : decode cX2_clerksOnDuty 9 = .ok (.if_icmp .ge 24, 3) := by decide +kernel
theorem dX2_clerksOnDuty_12 : decode cX2_clerksOnDuty 12 = .ok (.aload_n 0, 1) := by decide +kernel
theorem dX2_clerksOnDuty_13 : decode cX2_clerksOnDuty 13 = .ok (.getfield 20, 3) := by decide +kernel
theorem dX2_clerksOnDuty_16 : decode cX2_clerksOnDuty 16 = .ok (.iload_n 2, 1) := by decide +kernel
theorem dX2_clerksOnDuty_17 : decode cX2_clerksOnDuty 17 = .ok (.aaload, 1) := by decide +kernel
theorem dX2_clerksOnDuty_18 : decode cX2_clerksOnDuty 18 = .ok (.invokevirtual 105, 3) := by decide +kernel
theorem dX2_clerksOnDuty_21 : decode cX2_clerksOnDuty 21 = .ok (.ifCond .eq 6, 3) := by decide +kernel
theorem dX2_clerksOnDuty_24 : decode cX2_clerksOnDuty 24 = .ok (.iinc 1 1, 3) := by decide +kernel
theorem dX2_clerksOnDuty_27 : decode cX2_clerksOnDuty 27 = .ok (.iinc 2 1, 3) := by decide +kernel
theorem dX2_clerksOnDuty_30 : decode cX2_clerksOnDuty 30 = .ok (.goto (-26), 3) := by decide +kernel
theorem dX2_clerksOnDuty_33 : decode cX2_clerksOnDuty 33 = .ok (.iload_n 1, 1) := by decide +kernel
theorem dX2_clerksOnDuty_34 : decode cX2_clerksOnDuty 34 = .ok (.ireturn, 1) := by decide +kernel
theorem dX2_freeClerks_0 : decode cX2_freeClerks 0 = .ok (.iconst 0, 1) := by decide +kernel
theorem dX2_freeClerks_1 : decode cX2_freeClerks 1 = .ok (.istore_n 1, 1) := by decide +kernel
theorem dX2_freeClerks_2 : decode cX2_freeClerks 2 = .ok (.iconst 0, 1) := by decide +kernel
theorem dX2_freeClerks_3 : decode cX2_freeClerks 3 = .ok (.istore_n 2, 1) := by decide +kernel
theorem dX2_freeClerks_4 : decode cX2_freeClerks 4 = .ok (.iload_n 2, 1) := by decide +kernel
theorem dX2_freeClerks_5 : decode cX2_freeClerks 5 = .ok (.aload_n 0, 1) := by decide +kernel
theorem dX2_freeClerks_6 : decode cX2_freeClerks 6 = .ok (.getfield 32, 3) := by decide +kernel
theorem dX2_freeClerks_9 : decode cX2_freeClerks 9 = .ok (.if_icmp .ge 24, 3) := by decide +kernel
theorem dX2_freeClerks_12 : decode cX2_freeClerks 12 = .ok (.aload_n 0, 1) := by decide +kernel
theorem dX2_freeClerks_13 : decode cX2_freeClerks 13 = .ok (.getfield 20, 3) := by decide +kernel
theorem dX2_freeClerks_16 : decode cX2_freeClerks 16 = .ok (.iload_n 2, 1) := by decide +kernel
theorem dX2_freeClerks_17 : decode cX2_freeClerks 17 = .ok (.aaload, 1) := by decide +kernel
theorem dX2_freeClerks_18 : decode cX2_freeClerks 18 = .ok (.invokevirtual 95, 3) := by decide +kernel
theorem dX2_freeClerks_21 : decode cX2_freeClerks 21 = .ok (.ifCond .eq 6, 3) := by decide +kernel
theorem dX2_freeClerks_24 : decode cX2_freeClerks 24 = .ok (.iinc 1 1, 3) := by decide +kernel
theorem dX2_freeClerks_27 : decode cX2_freeClerks 27 = .ok (.iinc 2 1, 3) := by decide +kernel
theorem dX2_freeClerks_30 : decode cX2_freeClerks 30 = .ok (.goto (-26), 3) := by decide +kernel
theorem dX2_freeClerks_33 : decode cX2_freeClerks 33 = .ok (.iload_n 1, 1) := by decide +kernel
theorem dX2_freeClerks_34 : decode cX2_freeClerks 34 = .ok (.ireturn, 1) := by decide +kernel
theorem dX2_hoursWorked_0 : decode cX2_hoursWorked 0 = .ok (.iconst 0, 1) := by decide +kernel
theorem dX2_hoursWorked_1 : decode cX2_hoursWorked 1 = .ok (.istore_n 1, 1) := by decide +kernel
theorem dX2_hoursWorked_2 : decode cX2_hoursWorked 2 = .ok (.iconst 0, 1) := by decide +kernel
theorem dX2_hoursWorked_3 : decode cX2_hoursWorked 3 = .ok (.istore_n 2, 1) := by decide +kernel
theorem dX2_hoursWorked_4 : decode cX2_hoursWorked 4 = .ok (.iload_n 2, 1) := by decide +kernel
theorem dX2_hoursWorked_5 : decode cX2_hoursWorked 5 = .ok (.aload_n 0, 1) := by decide +kernel
theorem dX2_hoursWorked_6 : decode cX2_hoursWorked 6 = .ok (.getfield 32, 3) := by decide +kernel
theorem dX2_hoursWorked_9 : decode cX2_hoursWorked 9 = .ok (.if_icmp .ge 21, 3) := by decide +kernel
theorem dX2_hoursWorked_12 : decode cX2_hoursWorked 12 = .ok (.iload_n 1, 1) := by decide +kernel
theorem dX2_hoursWorked_13 : decode cX2_hoursWorked 13 = .ok (.aload_n 0, 1) := by decide +kernel
theorem dX2_hoursWorked_14 : decode cX2_hoursWorked 14 = .ok (.getfield 20, 3) := by decide +kernel
theorem dX2_hoursWorked_17 : decode cX2_hoursWorked 17 = .ok (.iload_n 2, 1) := by decide +kernel
theorem dX2_hoursWorked_18 : decode cX2_hoursWorked 18 = .ok (.aaload, 1) := by decide +kernel
theorem dX2_hoursWorked_19 : decode cX2_hoursWorked 19 = .ok (.getfield 102, 3) := by decide +kernel
theorem dX2_hoursWorked_22 : decode cX2_hoursWorked 22 = .ok (.iadd, 1) := by decide +kernel
theorem dX2_hoursWorked_23 : decode cX2_hoursWorked 23 = .ok (.istore_n 1, 1) := by decide +kernel
theorem dX2_hoursWorked_24 : decode cX2_hoursWorked 24 = .ok (.iinc 2 1, 3) := by decide +kernel
theorem dX2_hoursWorked_27 : decode cX2_hoursWorked 27 = .ok (.goto (-23), 3) := by decide +kernel
theorem dX2_hoursWorked_30 : decode cX2_hoursWorked 30 = .ok (.iload_n 1, 1) := by decide +kernel
theorem dX2_hoursWorked_31 : decode cX2_hoursWorked 31 = .ok (.ireturn, 1) := by decide +kernel
theorem dX2_stationsCounted_0 : decode cX2_stationsCounted 0 = .ok (.iconst 0, 1) := by decide +kernel
theorem dX2_stationsCounted_1 : decode cX2_stationsCounted 1 = .ok (.istore_n 2, 1) := by decide +kernel
theorem dX2_stationsCounted_2 : decode cX2_stationsCounted 2 = .ok (.iconst 0, 1) := by decide +kernel
theorem dX2_stationsCounted_3 : decode cX2_stationsCounted 3 = .ok (.istore_n 3, 1) := by decide +kernel
theorem dX2_stationsCounted_4 : decode cX2_stationsCounted 4 = .ok (.iload_n 3, 1) := by decide +kernel
theorem dX2_stationsCounted_5 : decode cX2_stationsCounted 5 = .ok (.aload_n 0, 1) := by decide +kernel
theorem dX2_stationsCounted_6 : decode cX2_stationsCounted 6 = .ok (.getfield 29, 3) := by decide +kernel
theorem dX2_stationsCounted_9 : decode cX2_stationsCounted 9 = .ok (.if_icmp .ge 37, 3) := by decide +kernel
theorem dX2_stationsCounted_12 : decode cX2_stationsCounted 12 = .ok (.aload_n 0, 1) := by decide +kernel
theorem dX2_stationsCounted_13 : decode cX2_stationsCounted 13 = .ok (.getfield 11, 3) := by decide +kernel
theorem dX2_stationsCounted_16 : decode cX2_stationsCounted 16 = .ok (.iload_n 3, 1) := by decide +kernel
theorem dX2_stationsCounted_17 : decode cX2_stationsCounted 17 = .ok (.aaload, 1) := by decide +kernel
theorem dX2_stationsCounted_18 : decode cX2_stationsCounted 18 = .ok (.invokevirtual 108, 3) := by decide +kernel
theorem dX2_stationsCounted_21 : decode cX2_stationsCounted 21 = .ok (.ifCond .eq 19, 3) := by decide +kernel
theorem dX2_stationsCounted_24 : decode cX2_stationsCounted 24 = .ok (.aload_n 0, 1) := by decide +kernel
theorem dX2_stationsCounted_25 : decode cX2_stationsCounted 25 = .ok (.getfield 11, 3) := by decide +kernel
theorem dX2_stationsCounted_28 : decode cX2_stationsCounted 28 = .ok (.iload_n 3, 1) := by decide +kernel
theorem dX2_stationsCounted_29 : decode cX2_stationsCounted 29 = .ok (.aaload, 1) := by decide +kernel
theorem dX2_stationsCounted_30 : decode cX2_stationsCounted 30 = .ok (.invokevirtual 111, 3) := by decide +kernel
theorem dX2_stationsCounted_33 : decode cX2_stationsCounted 33 = .ok (.iload_n 1, 1) := by decide +kernel
theorem dX2_stationsCounted_34 : decode cX2_stationsCounted 34 = .ok (.if_icmp .ne 6, 3) := by decide +kernel
theorem dX2_stationsCounted_37 : decode cX2_stationsCounted 37 = .ok (.iinc 2 1, 3) := by decide +kernel
theorem dX2_stationsCounted_40 : decode cX2_stationsCounted 40 = .ok (.iinc 3 1, 3) := by decide +kernel
theorem dX2_stationsCounted_43 : decode cX2_stationsCounted 43 = .ok (.goto (-39), 3) := by decide +kernel
theorem dX2_stationsCounted_46 : decode cX2_stationsCounted 46 = .ok (.iload_n 2, 1) := by decide +kernel
theorem dX2_stationsCounted_47 : decode cX2_stationsCounted 47 = .ok (.ireturn, 1) := by decide +kernel
theorem dX3_init_0 : decode cX3_init 0 = .ok (.aload_n 0, 1) := by decide +kernel
theorem dX3_init_1 : decode cX3_init 1 = .ok (.invokespecial 3, 3) := by decide +kernel
theorem dX3_init_4 : decode cX3_init 4 = .ok (.aload_n 0, 1) := by decide +kernel
theorem dX3_init_5 : decode cX3_init 5 = .ok (.iconst 4, 1) := by decide +kernel
theorem dX3_init_6 : decode cX3_init 6 = .ok (.anewarray 9, 3) := by decide +kernel
theorem dX3_init_9 : decode cX3_init 9 = .ok (.putfield 11, 3) := by decide +kernel
theorem dX3_init_12 : decode cX3_init 12 = .ok (.iconst 0, 1) := by decide +kernel
theorem dX3_init_13 : decode cX3_init 13 = .ok (.istore_n 1, 1) := by decide +kernel
theorem dX3_init_14 : decode cX3_init 14 = .ok (.iload_n 1, 1) := by decide +kernel
theorem dX3_init_15 : decode cX3_init 15 = .ok (.iconst 4, 1) := by decide +kernel
theorem dX3_init_16 : decode cX3_init 16 = .ok (.if_icmp .ge 22, 3) := by decide +kernel
theorem dX3_init_19 : decode cX3_init 19 = .ok (.aload_n 0, 1) := by decide +kernel
theorem dX3_init_20 : decode cX3_init 20 = .ok (.getfield 11, 3) := by decide +kernel
theorem dX3_init_23 : decode cX3_init 23 = .ok (.iload_n 1, 1) := by decide +kernel
theorem dX3_init_24 : decode cX3_init 24 = .ok (.new 9, 3) := by decide +kernel
theorem dX3_init_27 : decode cX3_init 27 = .ok (.dup, 1) := by decide +kernel
theorem dX3_init_28 : decode cX3_init 28 = .ok (.invokespecial 17, 3) := by decide +kernel
theorem dX3_init_31 : decode cX3_init 31 = .ok (.aastore, 1) := by decide +kernel
theorem dX3_init_32 : decode cX3_init 32 = .ok (.iinc 1 1, 3) := by decide +kernel
theorem dX3_init_35 : decode cX3_init 35 = .ok (.goto (-21), 3) := by decide +kernel
theorem dX3_init_38 : decode cX3_init 38 = .ok (.return_, 1) := by decide +kernel
theorem dX3_remember_0 : decode cX3_remember 0 = .ok (.aload_n 0, 1) := by decide +kernel
theorem dX3_remember_1 : decode cX3_remember 1 = .ok (.getfield 18, 3) := by decide +kernel
theorem dX3_remember_4 : decode cX3_remember 4 = .ok (.iconst 4, 1) := by decide +kernel
theorem dX3_remember_5 : decode cX3_remember 5 = .ok (.if_icmp .lt 7, 3) := by decide +kernel
theorem dX3_remember_8 : decode cX3_remember 8 = .ok (.aload_n 0, 1) := by decide +kernel
theorem dX3_remember_9 : decode cX3_remember 9 = .ok (.invokevirtual 22, 3) := by decide +kernel
theorem dX3_remember_12 : decode cX3_remember 12 = .ok (.aload_n 0, 1) := by decide +kernel
theorem dX3_remember_13 : decode cX3_remember 13 = .ok (.getfield 11, 3) := by decide +kernel
theorem dX3_remember_16 : decode cX3_remember 16 = .ok (.aload_n 0, 1) := by decide +kernel
theorem dX3_remember_17 : decode cX3_remember 17 = .ok (.getfield 18, 3) := by decide +kernel
theorem dX3_remember_20 : decode cX3_remember 20 = .ok (.aaload, 1) := by decide +kernel
theorem dX3_remember_21 : decode cX3_remember 21 = .ok (.aload_n 1, 1) := by decide +kernel
theorem dX3_remember_22 : decode cX3_remember 22 = .ok (.invokevirtual 25, 3) := by decide +kernel
theorem dX3_remember_25 : decode cX3_remember 25 = .ok (.aload_n 0, 1) := by decide +kernel
theorem dX3_remember_26 : decode cX3_remember 26 = .ok (.dup, 1) := by decide +kernel
theorem dX3_remember_27 : decode cX3_remember 27 = .ok (.getfield 18, 3) := by decide +kernel
theorem dX3_remember_30 : decode cX3_remember 30 = .ok (.iconst 1, 1) := by decide +kernel
theorem dX3_remember_31 : decode cX3_remember 31 = .ok (.iadd, 1) := by decide +kernel
theorem dX3_remember_32 : decode cX3_remember 32 = .ok (.putfield 18, 3) := by decide +kernel
theorem dX3_remember_35 : decode cX3_remember 35 = .ok (.return_, 1) := by decide +kernel
theorem dX3_dropOldest_0 : decode cX3_dropOldest 0 = .ok (.aload_n 0, 1) := by decide +kernel
theorem dX3_dropOldest_1 : decode cX3_dropOldest 1 = .ok (.getfield 11, 3) := by decide +kernel
theorem dX3_dropOldest_4 : decode cX3_dropOldest 4 = .ok (.iconst 0, 1) := by decide +kernel
theorem dX3_dropOldest_5 : decode cX3_dropOldest 5 = .ok (.aaload, 1) := by decide +kernel
theorem dX3_dropOldest_6 : decode cX3_dropOldest 6 = .ok (.astore_n 1, 1) := by decide +kernel
theorem dX3_dropOldest_7 : decode cX3_dropOldest 7 = .ok (.iconst 1, 1) := by decide +kernel
theorem dX3_dropOldest_8 : decode cX3_dropOldest 8 = .ok (.istore_n 2, 1) := by decide +kernel
theorem dX3_dropOldest_9 : decode cX3_dropOldest 9 = .ok (.iload_n 2, 1) := by decide +kernel
theorem dX3_dropOldest_10 : decode cX3_dropOldest 10 = .ok (.iconst 4, 1) := by decide +kernel
theorem dX3_dropOldest_11 : decode cX3_dropOldest 11 = .ok (.if_icmp .ge 23, 3) := by decide +kernel
theorem dX3_dropOldest_14 : decode cX3_dropOldest 14 = .ok (.aload_n 0, 1) := by decide +kernel
theorem dX3_dropOldest_15 : decode cX3_dropOldest 15 = .ok (.getfield 11, 3) := by decide +kernel
theorem dX3_dropOldest_18 : decode cX3_dropOldest 18 = .ok (.iload_n 2, 1) := by decide +kernel
theorem dX3_dropOldest_19 : decode cX3_dropOldest 19 = .ok (.iconst 1, 1) := by decide +kernel
theorem dX3_dropOldest_20 : decode cX3_dropOldest 20 = .ok (.isub, 1) := by decide +kernel
theorem dX3_dropOldest_21 : decode cX3_dropOldest 21 = .ok (.aload_n 0, 1) := by decide +kernel
theorem dX3_dropOldest_22 : decode cX3_dropOldest 22 = .ok (.getfield 11, 3) := by decide +kernel
theorem dX3_dropOldest_25 : decode cX3_dropOldest 25 = .ok (.iload_n 2, 1) := by decide +kernel
theorem dX3_dropOldest_26 : decode cX3_dropOldest 26 = .ok (.aaload, 1) := by decide +kernel
theorem dX3_dropOldest_27 : decode cX3_dropOldest 27 = .ok (.aastore, 1) := by decide +kernel
theorem dX3_dropOldest_28 : decode cX3_dropOldest 28 = .ok (.iinc 2 1, 3) := by decide +kernel
theorem dX3_dropOldest_31 : decode cX3_dropOldest 31 = .ok (.goto (-22), 3) := by decide +kernel
theorem dX3_dropOldest_34 : decode cX3_dropOldest 34 = .ok (.aload_n 0, 1) := by decide +kernel
theorem dX3_dropOldest_35 : decode cX3_dropOldest 35 = .ok (.getfield 11, 3) := by decide +kernel
theorem dX3_dropOldest_38 : decode cX3_dropOldest 38 = .ok (.iconst 3, 1) := by decide +kernel
theorem dX3_dropOldest_39 : decode cX3_dropOldest 39 = .ok (.aload_n 1, 1) := by decide +kernel
theorem dX3_dropOldest_40 : decode cX3_dropOldest 40 = .ok (.aastore, 1) := by decide +kernel
theorem dX3_dropOldest_41 : decode cX3_dropOldest 41 = .ok (.aload_n 0, 1) := by decide +kernel
theorem dX3_dropOldest_42 : decode cX3_dropOldest 42 = .ok (.iconst 3, 1) := by decide +kernel
theorem dX3_dropOldest_43 : decode cX3_dropOldest 43 = .ok (.putfield 18, 3) := by decide +kernel
theorem dX3_dropOldest_46 : decode cX3_dropOldest 46 = .ok (.return_, 1) := by decide +kernel
theorem dX3_takeBackInto_0 : decode cX3_takeBackInto 0 = .ok (.aload_n 0, 1) := by decide +kernel
theorem dX3_takeBackInto_1 : decode cX3_takeBackInto 1 = .ok (.getfield 18, 3) := by decide +kernel
theorem dX3_takeBackInto_4 : decode cX3_takeBackInto 4 = .ok (.ifCond .le 26, 3) := by decide +kernel
theorem dX3_takeBackInto_7 : decode cX3_takeBackInto 7 = .ok (.aload_n 0, 1) := by decide +kernel
theorem dX3_takeBackInto_8 : decode cX3_takeBackInto 8 = .ok (.dup, 1) := by decide +kernel
theorem dX3_takeBackInto_9 : decode cX3_takeBackInto 9 = .ok (.getfield 18, 3) := by decide +kernel
theorem dX3_takeBackInto_12 : decode cX3_takeBackInto 12 = .ok (.iconst 1, 1) := by decide +kernel
theorem dX3_takeBackInto_13 : decode cX3_takeBackInto 13 = .ok (.isub, 1) := by decide +kernel
theorem dX3_takeBackInto_14 : decode cX3_takeBackInto 14 = .ok (.putfield 18, 3) := by decide +kernel
theorem dX3_takeBackInto_17 : decode cX3_takeBackInto 17 = .ok (.aload_n 1, 1) := by decide +kernel
theorem dX3_takeBackInto_18 : decode cX3_takeBackInto 18 = .ok (.aload_n 0, 1) := by decide +kernel
theorem dX3_takeBackInto_19 : decode cX3_takeBackInto 19 = .ok (.getfield 11, 3) := by decide +kernel
theorem dX3_takeBackInto_22 : decode cX3_takeBackInto 22 = .ok (.aload_n 0, 1) := by decide +kernel
theorem dX3_takeBackInto_23 : decode cX3_takeBackInto 23 = .ok (.getfield 18, 3) := by decide +kernel
theorem dX3_takeBackInto_26 : decode cX3_takeBackInto 26 = .ok (.aaload, 1) := by decide +kernel
theorem dX3_takeBackInto_27 : decode cX3_takeBackInto 27 = .ok (.invokevirtual 25, 3) := by decide +kernel
theorem dX3_takeBackInto_30 : decode cX3_takeBackInto 30 = .ok (.return_, 1) := by decide +kernel
theorem dX4_init_0 : decode cX4_init 0 = .ok (.aload_n 0, 1) := by decide +kernel
theorem dX4_init_1 : decode cX4_init 1 = .ok (.invokespecial 3, 3) := by decide +kernel
theorem dX4_init_4 : decode cX4_init 4 = .ok (.aload_n 0, 1) := by decide +kernel
theorem dX4_init_5 : decode cX4_init 5 = .ok (.bipush 15, 2) := by decide +kernel
theorem dX4_init_7 : decode cX4_init 7 = .ok (.newarray .int, 2) := by decide +kernel
theorem dX4_init_9 : decode cX4_init 9 = .ok (.putfield 9, 3) := by decide +kernel
theorem dX4_init_12 : decode cX4_init 12 = .ok (.return_, 1) := by decide +kernel
theorem dX4_copyFrom_0 : decode cX4_copyFrom 0 = .ok (.aload_n 1, 1) := by decide +kernel
theorem dX4_copyFrom_1 : decode cX4_copyFrom 1 = .ok (.getfield 9, 3) := by decide +kernel
theorem dX4_copyFrom_4 : decode cX4_copyFrom 4 = .ok (.iconst 0, 1) := by decide +kernel
theorem dX4_copyFrom_5 : decode cX4_copyFrom 5 = .ok (.aload_n 0, 1) := by decide +kernel
theorem dX4_copyFrom_6 : decode cX4_copyFrom 6 = .ok (.getfield 9, 3) := by decide +kernel
theorem dX4_copyFrom_9 : decode cX4_copyFrom 9 = .ok (.iconst 0, 1) := by decide +kernel
theorem dX4_copyFrom_10 : decode cX4_copyFrom 10 = .ok (.bipush 15, 2) := by decide +kernel
theorem dX4_copyFrom_12 : decode cX4_copyFrom 12 = .ok (.invokestatic 15, 3) := by decide +kernel
theorem dX4_copyFrom_15 : decode cX4_copyFrom 15 = .ok (.aload_n 0, 1) := by decide +kernel
theorem dX4_copyFrom_16 : decode cX4_copyFrom 16 = .ok (.aload_n 1, 1) := by decide +kernel
theorem dX4_copyFrom_17 : decode cX4_copyFrom 17 = .ok (.getfield 21, 3) := by decide +kernel
theorem dX4_copyFrom_20 : decode cX4_copyFrom 20 = .ok (.putfield 21, 3) := by decide +kernel
theorem dX4_copyFrom_23 : decode cX4_copyFrom 23 = .ok (.aload_n 0, 1) := by decide +kernel
theorem dX4_copyFrom_24 : decode cX4_copyFrom 24 = .ok (.aload_n 1, 1) := by decide +kernel
theorem dX4_copyFrom_25 : decode cX4_copyFrom 25 = .ok (.getfield 25, 3) := by decide +kernel
theorem dX4_copyFrom_28 : decode cX4_copyFrom 28 = .ok (.putfield 25, 3) := by decide +kernel
theorem dX4_copyFrom_31 : decode cX4_copyFrom 31 = .ok (.aload_n 0, 1) := by decide +kernel
theorem dX4_copyFrom_32 : decode cX4_copyFrom 32 = .ok (.aload_n 1, 1) := by decide +kernel
theorem dX4_copyFrom_33 : decode cX4_copyFrom 33 = .ok (.getfield 28, 3) := by decide +kernel
theorem dX4_copyFrom_36 : decode cX4_copyFrom 36 = .ok (.putfield 28, 3) := by decide +kernel
theorem dX4_copyFrom_39 : decode cX4_copyFrom 39 = .ok (.aload_n 0, 1) := by decide +kernel
theorem dX4_copyFrom_40 : decode cX4_copyFrom 40 = .ok (.aload_n 1, 1) := by decide +kernel
theorem dX4_copyFrom_41 : decode cX4_copyFrom 41 = .ok (.getfield 31, 3) := by decide +kernel
theorem dX4_copyFrom_44 : decode cX4_copyFrom 44 = .ok (.putfield 31, 3) := by decide +kernel
theorem dX4_copyFrom_47 : decode cX4_copyFrom 47 = .ok (.aload_n 0, 1) := by decide +kernel
theorem dX4_copyFrom_48 : decode cX4_copyFrom 48 = .ok (.aload_n 1, 1) := by decide +kernel
theorem dX4_copyFrom_49 : decode cX4_copyFrom 49 = .ok (.getfield 34, 3) := by decide +kernel
theorem dX4_copyFrom_52 : decode cX4_copyFrom 52 = .ok (.putfield 34, 3) := by decide +kernel
theorem dX4_copyFrom_55 : decode cX4_copyFrom 55 = .ok (.aload_n 0, 1) := by decide +kernel
theorem dX4_copyFrom_56 : decode cX4_copyFrom 56 = .ok (.aload_n 1, 1) := by decide +kernel
theorem dX4_copyFrom_57 : decode cX4_copyFrom 57 = .ok (.getfield 37, 3) := by decide +kernel
theorem dX4_copyFrom_60 : decode cX4_copyFrom 60 = .ok (.putfield 37, 3) := by decide +kernel
theorem dX4_copyFrom_63 : decode cX4_copyFrom 63 = .ok (.aload_n 0, 1) := by decide +kernel
theorem dX4_copyFrom_64 : decode cX4_copyFrom 64 = .ok (.aload_n 1, 1) := by decide +kernel
theorem dX4_copyFrom_65 : decode cX4_copyFrom 65 = .ok (.getfield 40, 3) := by decide +kernel
theorem dX4_copyFrom_68 : decode cX4_copyFrom 68 = .ok (.putfield 40, 3) := by decide +kernel
theorem dX4_copyFrom_71 : decode cX4_copyFrom 71 = .ok (.aload_n 0, 1) := by decide +kernel
theorem dX4_copyFrom_72 : decode cX4_copyFrom 72 = .ok (.aload_n 1, 1) := by decide +kernel
theorem dX4_copyFrom_73 : decode cX4_copyFrom 73 = .ok (.getfield 43, 3) := by decide +kernel
theorem dX4_copyFrom_76 : decode cX4_copyFrom 76 = .ok (.putfield 43, 3) := by decide +kernel
theorem dX4_copyFrom_79 : decode cX4_copyFrom 79 = .ok (.aload_n 0, 1) := by decide +kernel
theorem dX4_copyFrom_80 : decode cX4_copyFrom 80 = .ok (.aload_n 1, 1) := by decide +kernel
theorem dX4_copyFrom_81 : decode cX4_copyFrom 81 = .ok (.getfield 46, 3) := by decide +kernel
theorem dX4_copyFrom_84 : decode cX4_copyFrom 84 = .ok (.putfield 46, 3) := by decide +kernel
theorem dX4_copyFrom_87 : decode cX4_copyFrom 87 = .ok (.aload_n 0, 1) := by decide +kernel
theorem dX4_copyFrom_88 : decode cX4_copyFrom 88 = .ok (.aload_n 1, 1) := by decide +kernel
theorem dX4_copyFrom_89 : decode cX4_copyFrom 89 = .ok (.getfield 49, 3) := by decide +kernel
theorem dX4_copyFrom_92 : decode cX4_copyFrom 92 = .ok (.putfield 49, 3) := by decide +kernel
theorem dX4_copyFrom_95 : decode cX4_copyFrom 95 = .ok (.aload_n 0, 1) := by decide +kernel
theorem dX4_copyFrom_96 : decode cX4_copyFrom 96 = .ok (.aload_n 1, 1) := by decide +kernel
theorem dX4_copyFrom_97 : decode cX4_copyFrom 97 = .ok (.getfield 52, 3) := by decide +kernel
theorem dX4_copyFrom_100 : decode cX4_copyFrom 100 = .ok (.putfield 52, 3) := by decide +kernel
theorem dX4_copyFrom_103 : decode cX4_copyFrom 103 = .ok (.aload_n 0, 1) := by decide +kernel
theorem dX4_copyFrom_104 : decode cX4_copyFrom 104 = .ok (.aload_n 1, 1) := by decide +kernel
theorem dX4_copyFrom_105 : decode cX4_copyFrom 105 = .ok (.getfield 55, 3) := by decide +kernel
theorem dX4_copyFrom_108 : decode cX4_copyFrom 108 = .ok (.putfield 55, 3) := by decide +kernel
theorem dX4_copyFrom_111 : decode cX4_copyFrom 111 = .ok (.return_, 1) := by decide +kernel
theorem dX4_becomeSumOf_0 : decode cX4_becomeSumOf 0 = .ok (.aload_n 0, 1) := by decide +kernel
theorem dX4_becomeSumOf_1 : decode cX4_becomeSumOf 1 = .ok (.iconst 0, 1) := by decide +kernel
theorem dX4_becomeSumOf_2 : decode cX4_becomeSumOf 2 = .ok (.putfield 21, 3) := by decide +kernel
theorem dX4_becomeSumOf_5 : decode cX4_becomeSumOf 5 = .ok (.aload_n 0, 1) := by decide +kernel
theorem dX4_becomeSumOf_6 : decode cX4_becomeSumOf 6 = .ok (.iconst 0, 1) := by decide +kernel
theorem dX4_becomeSumOf_7 : decode cX4_becomeSumOf 7 = .ok (.putfield 28, 3) := by decide +kernel
theorem dX4_becomeSumOf_10 : decode cX4_becomeSumOf 10 = .ok (.aload_n 0, 1) := by decide +kernel
theorem dX4_becomeSumOf_11 : decode cX4_becomeSumOf 11 = .ok (.iconst 0, 1) := by decide +kernel
theorem dX4_becomeSumOf_12 : decode cX4_becomeSumOf 12 = .ok (.putfield 31, 3) := by decide +kernel
theorem dX4_becomeSumOf_15 : decode cX4_becomeSumOf 15 = .ok (.aload_n 0, 1) := by decide +kernel
theorem dX4_becomeSumOf_16 : decode cX4_becomeSumOf 16 = .ok (.iconst 0, 1) := by decide +kernel
theorem dX4_becomeSumOf_17 : decode cX4_becomeSumOf 17 = .ok (.putfield 34, 3) := by decide +kernel
theorem dX4_becomeSumOf_20 : decode cX4_becomeSumOf 20 = .ok (.aload_n 0, 1) := by decide +kernel
theorem dX4_becomeSumOf_21 : decode cX4_becomeSumOf 21 = .ok (.iconst 0, 1) := by decide +kernel
theorem dX4_becomeSumOf_22 : decode cX4_becomeSumOf 22 = .ok (.putfield 37, 3) := by decide +kernel
theorem dX4_becomeSumOf_25 : decode cX4_becomeSumOf 25 = .ok (.aload_n 0, 1) := by decide +kernel
theorem dX4_becomeSumOf_26 : decode cX4_becomeSumOf 26 = .ok (.iconst 0, 1) := by decide +kernel
theorem dX4_becomeSumOf_27 : decode cX4_becomeSumOf 27 = .ok (.putfield 49, 3) := by decide +kernel
theorem dX4_becomeSumOf_30 : decode cX4_becomeSumOf 30 = .ok (.iconst 0, 1) := by decide +kernel
theorem dX4_becomeSumOf_31 : decode cX4_becomeSumOf 31 = .ok (.istore_n 3, 1) := by decide +kernel
theorem dX4_becomeSumOf_32 : decode cX4_becomeSumOf 32 = .ok (.iload_n 3, 1) := by decide +kernel
theorem dX4_becomeSumOf_33 : decode cX4_becomeSumOf 33 = .ok (.iload_n 2, 1) := by decide +kernel
theorem dX4_becomeSumOf_34 : decode cX4_becomeSumOf 34 = .ok (.if_icmp .ge 99, 3) := by decide +kernel
theorem dX4_becomeSumOf_37 : decode cX4_becomeSumOf 37 = .ok (.aload_n 0, 1) := by decide +kernel
theorem dX4_becomeSumOf_38 : decode cX4_becomeSumOf 38 = .ok (.dup, 1) := by decide +kernel
theorem dX4_becomeSumOf_39 : decode cX4_becomeSumOf 39 = .ok (.getfield 21, 3) := by decide +kernel
theorem dX4_becomeSumOf_42 : decode cX4_becomeSumOf 42 = .ok (.aload_n 1, 1) := by decide +kernel
theorem dX4_becomeSumOf_43 : decode cX4_becomeSumOf 43 = .ok (.iload_n 3, 1) := by decide +kernel
theorem dX4_becomeSumOf_44 : decode cX4_becomeSumOf 44 = .ok (.aaload, 1) := by decide +kernel
theorem dX4_becomeSumOf_45 : decode cX4_becomeSumOf 45 = .ok (.getfield 21, 3) := by decide +kernel
theorem dX4_becomeSumOf_48 : decode cX4_becomeSumOf 48 = .ok (.iadd, 1) := by decide +kernel
theorem dX4_becomeSumOf_49 : decode cX4_becomeSumOf 49 = .ok (.putfield 21, 3) := by decide +kernel
theorem dX4_becomeSumOf_52 : decode cX4_becomeSumOf 52 = .ok (.aload_n 0, 1) := by decide +kernel
theorem dX4_becomeSumOf_53 : decode cX4_becomeSumOf 53 = .ok (.dup, 1) := by decide +kernel
theorem dX4_becomeSumOf_54 : decode cX4_becomeSumOf 54 = .ok (.getfield 28, 3) := by decide +kernel
theorem dX4_becomeSumOf_57 : decode cX4_becomeSumOf 57 = .ok (.aload_n 1, 1) := by decide +kernel
theorem dX4_becomeSumOf_58 : decode cX4_becomeSumOf 58 = .ok (.iload_n 3, 1) := by decide +kernel
theorem dX4_becomeSumOf_59 : decode cX4_becomeSumOf 59 = .ok (.aaload, 1) := by decide +kernel
theorem dX4_becomeSumOf_60 : decode cX4_becomeSumOf 60 = .ok (.getfield 28, 3) := by decide +kernel
theorem dX4_becomeSumOf_63 : decode cX4_becomeSumOf 63 = .ok (.iadd, 1) := by decide +kernel
theorem dX4_becomeSumOf_64 : decode cX4_becomeSumOf 64 = .ok (.putfield 28, 3) := by decide +kernel
theorem dX4_becomeSumOf_67 : decode cX4_becomeSumOf 67 = .ok (.aload_n 0, 1) := by decide +kernel
theorem dX4_becomeSumOf_68 : decode cX4_becomeSumOf 68 = .ok (.dup, 1) := by decide +kernel
theorem dX4_becomeSumOf_69 : decode cX4_becomeSumOf 69 = .ok (.getfield 31, 3) := by decide +kernel
theorem dX4_becomeSumOf_72 : decode cX4_becomeSumOf 72 = .ok (.aload_n 1, 1) := by decide +kernel
theorem dX4_becomeSumOf_73 : decode cX4_becomeSumOf 73 = .ok (.iload_n 3, 1) := by decide +kernel
theorem dX4_becomeSumOf_74 : decode cX4_becomeSumOf 74 = .ok (.aaload, 1) := by decide +kernel
theorem dX4_becomeSumOf_75 : decode cX4_becomeSumOf 75 = .ok (.getfield 31, 3) := by decide +kernel
theorem dX4_becomeSumOf_78 : decode cX4_becomeSumOf 78 = .ok (.iadd, 1) := by decide +kernel
theorem dX4_becomeSumOf_79 : decode cX4_becomeSumOf 79 = .ok (.putfield 31, 3) := by decide +kernel
theorem dX4_becomeSumOf_82 : decode cX4_becomeSumOf 82 = .ok (.aload_n 0, 1) := by decide +kernel
theorem dX4_becomeSumOf_83 : decode cX4_becomeSumOf 83 = .ok (.dup, 1) := by decide +kernel
theorem dX4_becomeSumOf_84 : decode cX4_becomeSumOf 84 = .ok (.getfield 34, 3) := by decide +kernel
theorem dX4_becomeSumOf_87 : decode cX4_becomeSumOf 87 = .ok (.aload_n 1, 1) := by decide +kernel
theorem dX4_becomeSumOf_88 : decode cX4_becomeSumOf 88 = .ok (.iload_n 3, 1) := by decide +kernel
theorem dX4_becomeSumOf_89 : decode cX4_becomeSumOf 89 = .ok (.aaload, 1) := by decide +kernel
theorem dX4_becomeSumOf_90 : decode cX4_becomeSumOf 90 = .ok (.getfield 34, 3) := by decide +kernel
theorem dX4_becomeSumOf_93 : decode cX4_becomeSumOf 93 = .ok (.iadd, 1) := by decide +kernel
theorem dX4_becomeSumOf_94 : decode cX4_becomeSumOf 94 = .ok (.putfield 34, 3) := by decide +kernel
theorem dX4_becomeSumOf_97 : decode cX4_becomeSumOf 97 = .ok (.aload_n 0, 1) := by decide +kernel
theorem dX4_becomeSumOf_98 : decode cX4_becomeSumOf 98 = .ok (.dup, 1) := by decide +kernel
theorem dX4_becomeSumOf_99 : decode cX4_becomeSumOf 99 = .ok (.getfield 37, 3) := by decide +kernel
theorem dX4_becomeSumOf_102 : decode cX4_becomeSumOf 102 = .ok (.aload_n 1, 1) := by decide +kernel
theorem dX4_becomeSumOf_103 : decode cX4_becomeSumOf 103 = .ok (.iload_n 3, 1) := by decide +kernel
theorem dX4_becomeSumOf_104 : decode cX4_becomeSumOf 104 = .ok (.aaload, 1) := by decide +kernel
theorem dX4_becomeSumOf_105 : decode cX4_becomeSumOf 105 = .ok (.getfield 37, 3) := by decide +kernel
theorem dX4_becomeSumOf_108 : decode cX4_becomeSumOf 108 = .ok (.iadd, 1) := by decide +kernel
theorem dX4_becomeSumOf_109 : decode cX4_becomeSumOf 109 = .ok (.putfield 37, 3) := by decide +kernel
theorem dX4_becomeSumOf_112 : decode cX4_becomeSumOf 112 = .ok (.aload_n 0, 1) := by decide +kernel
theorem dX4_becomeSumOf_113 : decode cX4_becomeSumOf 113 = .ok (.dup, 1) := by decide +kernel
theorem dX4_becomeSumOf_114 : decode cX4_becomeSumOf 114 = .ok (.getfield 49, 3) := by decide +kernel
theorem dX4_becomeSumOf_117 : decode cX4_becomeSumOf 117 = .ok (.aload_n 1, 1) := by decide +kernel
theorem dX4_becomeSumOf_118 : decode cX4_becomeSumOf 118 = .ok (.iload_n 3, 1) := by decide +kernel
theorem dX4_becomeSumOf_119 : decode cX4_becomeSumOf 119 = .ok (.aaload, 1) := by decide +kernel
theorem dX4_becomeSumOf_120 : decode cX4_becomeSumOf 120 = .ok (.getfield 49, 3) := by decide +kernel
theorem dX4_becomeSumOf_123 : decode cX4_becomeSumOf 123 = .ok (.iadd, 1) := by decide +kernel
theorem dX4_becomeSumOf_124 : decode cX4_becomeSumOf 124 = .ok (.putfield 49, 3) := by decide +kernel
theorem dX4_becomeSumOf_127 : decode cX4_becomeSumOf 127 = .ok (.iinc 3 1, 3) := by decide +kernel
theorem dX4_becomeSumOf_130 : decode cX4_becomeSumOf 130 = .ok (.goto (-98), 3) := by decide +kernel
theorem dX4_becomeSumOf_133 : decode cX4_becomeSumOf 133 = .ok (.return_, 1) := by decide +kernel
theorem dX4_serveQueue_0 : decode cX4_serveQueue 0 = .ok (.aload_n 0, 1) := by decide +kernel
theorem dX4_serveQueue_1 : decode cX4_serveQueue 1 = .ok (.getfield 21, 3) := by decide +kernel
theorem dX4_serveQueue_4 : decode cX4_serveQueue 4 = .ok (.iload_n 1, 1) := by decide +kernel
theorem dX4_serveQueue_5 : decode cX4_serveQueue 5 = .ok (.aload_n 0, 1) := by decide +kernel
theorem dX4_serveQueue_6 : decode cX4_serveQueue 6 = .ok (.getfield 34, 3) := by decide +kernel
theorem dX4_serveQueue_9 : decode cX4_serveQueue 9 = .ok (.invokestatic 58, 3) := by decide +kernel
theorem dX4_serveQueue_12 : decode cX4_serveQueue 12 = .ok (.invokestatic 58, 3) := by decide +kernel
theorem dX4_serveQueue_15 : decode cX4_serveQueue 15 = .ok (.istore_n 2, 1) := by decide +kernel
theorem dX4_serveQueue_16 : decode cX4_serveQueue 16 = .ok (.aload_n 0, 1) := by decide +kernel
theorem dX4_serveQueue_17 : decode cX4_serveQueue 17 = .ok (.dup, 1) := by decide +kernel
theorem dX4_serveQueue_18 : decode cX4_serveQueue 18 = .ok (.getfield 21, 3) := by decide +kernel
theorem dX4_serveQueue_21 : decode cX4_serveQueue 21 = .ok (.iload_n 2, 1) := by decide +kernel
theorem dX4_serveQueue_22 : decode cX4_serveQueue 22 = .ok (.isub, 1) := by decide +kernel
theorem dX4_serveQueue_23 : decode cX4_serveQueue 23 = .ok (.putfield 21, 3) := by decide +kernel
theorem dX4_serveQueue_26 : decode cX4_serveQueue 26 = .ok (.aload_n 0, 1) := by decide +kernel
theorem dX4_serveQueue_27 : decode cX4_serveQueue 27 = .ok (.dup, 1) := by decide +kernel
theorem dX4_serveQueue_28 : decode cX4_serveQueue 28 = .ok (.getfield 34, 3) := by decide +kernel
theorem dX4_serveQueue_31 : decode cX4_serveQueue 31 = .ok (.iload_n 2, 1) := by decide +kernel
theorem dX4_serveQueue_32 : decode cX4_serveQueue 32 = .ok (.isub, 1) := by decide +kernel
theorem dX4_serveQueue_33 : decode cX4_serveQueue 33 = .ok (.putfield 34, 3) := by decide +kernel
theorem dX4_serveQueue_36 : decode cX4_serveQueue 36 = .ok (.aload_n 0, 1) := by decide +kernel
theorem dX4_serveQueue_37 : decode cX4_serveQueue 37 = .ok (.dup, 1) := by decide +kernel
theorem dX4_serveQueue_38 : decode cX4_serveQueue 38 = .ok (.getfield 28, 3) := by decide +kernel
theorem dX4_serveQueue_41 : decode cX4_serveQueue 41 = .ok (.iload_n 2, 1) := by decide +kernel
theorem dX4_serveQueue_42 : decode cX4_serveQueue 42 = .ok (.iadd, 1) := by decide +kernel
theorem dX4_serveQueue_43 : decode cX4_serveQueue 43 = .ok (.putfield 28, 3) := by decide +kernel
theorem dX4_serveQueue_46 : decode cX4_serveQueue 46 = .ok (.aload_n 0, 1) := by decide +kernel
theorem dX4_serveQueue_47 : decode cX4_serveQueue 47 = .ok (.dup, 1) := by decide +kernel
theorem dX4_serveQueue_48 : decode cX4_serveQueue 48 = .ok (.getfield 37, 3) := by decide +kernel
theorem dX4_serveQueue_51 : decode cX4_serveQueue 51 = .ok (.iload_n 2, 1) := by decide +kernel
theorem dX4_serveQueue_52 : decode cX4_serveQueue 52 = .ok (.iadd, 1) := by decide +kernel
theorem dX4_serveQueue_53 : decode cX4_serveQueue 53 = .ok (.putfield 37, 3) := by decide +kernel
theorem dX4_serveQueue_56 : decode cX4_serveQueue 56 = .ok (.aload_n 0, 1) := by decide +kernel
theorem dX4_serveQueue_57 : decode cX4_serveQueue 57 = .ok (.dup, 1) := by decide +kernel
theorem dX4_serveQueue_58 : decode cX4_serveQueue 58 = .ok (.getfield 49, 3) := by decide +kernel
theorem dX4_serveQueue_61 : decode cX4_serveQueue 61 = .ok (.iload_n 2, 1) := by decide +kernel
theorem dX4_serveQueue_62 : decode cX4_serveQueue 62 = .ok (.iadd, 1) := by decide +kernel
theorem dX4_serveQueue_63 : decode cX4_serveQueue 63 = .ok (.putfield 49, 3) := by decide +kernel
theorem dX4_serveQueue_66 : decode cX4_serveQueue 66 = .ok (.aload_n 0, 1) := by decide +kernel
theorem dX4_serveQueue_67 : decode cX4_serveQueue 67 = .ok (.dup, 1) := by decide +kernel
theorem dX4_serveQueue_68 : decode cX4_serveQueue 68 = .ok (.getfield 31, 3) := by decide +kernel
theorem dX4_serveQueue_71 : decode cX4_serveQueue 71 = .ok (.aload_n 0, 1) := by decide +kernel
theorem dX4_serveQueue_72 : decode cX4_serveQueue 72 = .ok (.getfield 21, 3) := by decide +kernel
theorem dX4_serveQueue_75 : decode cX4_serveQueue 75 = .ok (.iadd, 1) := by decide +kernel
theorem dX4_serveQueue_76 : decode cX4_serveQueue 76 = .ok (.putfield 31, 3) := by decide +kernel
theorem dX4_serveQueue_79 : decode cX4_serveQueue 79 = .ok (.aload_n 0, 1) := by decide +kernel
theorem dX4_serveQueue_80 : decode cX4_serveQueue 80 = .ok (.aload_n 0, 1) := by decide +kernel
theorem dX4_serveQueue_81 : decode cX4_serveQueue 81 = .ok (.getfield 25, 3) := by decide +kernel
theorem dX4_serveQueue_84 : decode cX4_serveQueue 84 = .ok (.aload_n 0, 1) := by decide +kernel
theorem dX4_serveQueue_85 : decode cX4_serveQueue 85 = .ok (.getfield 21, 3) := by decide +kernel
theorem dX4_serveQueue_88 : decode cX4_serveQueue 88 = .ok (.invokestatic 64, 3) := by decide +kernel
theorem dX4_serveQueue_91 : decode cX4_serveQueue 91 = .ok (.putfield 25, 3) := by decide +kernel
theorem dX4_serveQueue_94 : decode cX4_serveQueue 94 = .ok (.iload_n 2, 1) := by decide +kernel
theorem dX4_serveQueue_95 : decode cX4_serveQueue 95 = .ok (.ireturn, 1) := by decide +kernel
theorem dX4_allArrivals_0 : decode cX4_allArrivals 0 = .ok (.iconst 0, 1) := by decide +kernel
theorem dX4_allArrivals_1 : decode cX4_allArrivals 1 = .ok (.istore_n 1, 1) := by decide +kernel
theorem dX4_allArrivals_2 : decode cX4_allArrivals 2 = .ok (.iconst 0, 1) := by decide +kernel
theorem dX4_allArrivals_3 : decode cX4_allArrivals 3 = .ok (.istore_n 2, 1) := by decide +kernel
theorem dX4_allArrivals_4 : decode cX4_allArrivals 4 = .ok (.iload_n 2, 1) := by decide +kernel
theorem dX4_allArrivals_5 : decode cX4_allArrivals 5 = .ok (.bipush 15, 2) := by decide +kernel
theorem dX4_allArrivals_7 : decode cX4_allArrivals 7 = .ok (.if_icmp .ge 18, 3) := by decide +kernel
theorem dX4_allArrivals_10 : decode cX4_allArrivals 10 = .ok (.iload_n 1, 1) := by decide +kernel
theorem dX4_allArrivals_11 : decode cX4_allArrivals 11 = .ok (.aload_n 0, 1) := by decide +kernel
theorem dX4_allArrivals_12 : decode cX4_allArrivals 12 = .ok (.getfield 9, 3) := by decide +kernel
theorem dX4_allArrivals_15 : decode cX4_allArrivals 15 = .ok (.iload_n 2, 1) := by decide +kernel
theorem dX4_allArrivals_16 : decode cX4_allArrivals 16 = .ok (.iaload, 1) := by decide +kernel
theorem dX4_allArrivals_17 : decode cX4_allArrivals 17 = .ok (.iadd, 1) := by decide +kernel
theorem dX4_allArrivals_18 : decode cX4_allArrivals 18 = .ok (.istore_n 1, 1) := by decide +kernel
theorem dX4_allArrivals_19 : decode cX4_allArrivals 19 = .ok (.iinc 2 1, 3) := by decide +kernel
theorem dX4_allArrivals_22 : decode cX4_allArrivals 22 = .ok (.goto (-18), 3) := by decide +kernel
theorem dX4_allArrivals_25 : decode cX4_allArrivals 25 = .ok (.iload_n 1, 1) := by decide +kernel
theorem dX4_allArrivals_26 : decode cX4_allArrivals 26 = .ok (.ireturn, 1) := by decide +kernel
theorem dX4_isCounted_0 : decode cX4_isCounted 0 = .ok (.aload_n 0, 1) := by decide +kernel
theorem dX4_isCounted_1 : decode cX4_isCounted 1 = .ok (.getfield 55, 3) := by decide +kernel
theorem dX4_isCounted_4 : decode cX4_isCounted 4 = .ok (.ifCond .le 7, 3) := by decide +kernel
theorem dX4_isCounted_7 : decode cX4_isCounted 7 = .ok (.iconst 1, 1) := by decide +kernel
theorem dX4_isCounted_8 : decode cX4_isCounted 8 = .ok (.goto 4, 3) := by decide +kernel
theorem dX4_isCounted_11 : decode cX4_isCounted 11 = .ok (.iconst 0, 1) := by decide +kernel
theorem dX4_isCounted_12 : decode cX4_isCounted 12 = .ok (.ireturn, 1) := by decide +kernel
theorem dX4_countAgrees_0 : decode cX4_countAgrees 0 = .ok (.aload_n 0, 1) := by decide +kernel
theorem dX4_countAgrees_1 : decode cX4_countAgrees 1 = .ok (.getfield 52, 3) := by decide +kernel
theorem dX4_countAgrees_4 : decode cX4_countAgrees 4 = .ok (.aload_n 0, 1) := by decide +kernel
theorem dX4_countAgrees_5 : decode cX4_countAgrees 5 = .ok (.getfield 49, 3) := by decide +kernel
theorem dX4_countAgrees_8 : decode cX4_countAgrees 8 = .ok (.if_icmp .ne 7, 3) := by decide +kernel
theorem dX4_countAgrees_11 : decode cX4_countAgrees 11 = .ok (.iconst 1, 1) := by decide +kernel
theorem dX4_countAgrees_12 : decode cX4_countAgrees 12 = .ok (.goto 4, 3) := by decide +kernel
theorem dX4_countAgrees_15 : decode cX4_countAgrees 15 = .ok (.iconst 0, 1) := by decide +kernel
theorem dX4_countAgrees_16 : decode cX4_countAgrees 16 = .ok (.ireturn, 1) := by decide +kernel
theorem dX5_init_0 : decode cX5_init 0 = .ok (.aload_n 0, 1) := by decide +kernel
theorem dX5_init_1 : decode cX5_init 1 = .ok (.invokespecial 3, 3) := by decide +kernel
theorem dX5_init_4 : decode cX5_init 4 = .ok (.aload_n 0, 1) := by decide +kernel
theorem dX5_init_5 : decode cX5_init 5 = .ok (.new 9, 3) := by decide +kernel
theorem dX5_init_8 : decode cX5_init 8 = .ok (.dup, 1) := by decide +kernel
theorem dX5_init_9 : decode cX5_init 9 = .ok (.invokespecial 11, 3) := by decide +kernel
theorem dX5_init_12 : decode cX5_init 12 = .ok (.putfield 12, 3) := by decide +kernel
theorem dX5_init_15 : decode cX5_init 15 = .ok (.aload_n 0, 1) := by decide +kernel
theorem dX5_init_16 : decode cX5_init 16 = .ok (.new 9, 3) := by decide +kernel
theorem dX5_init_19 : decode cX5_init 19 = .ok (.dup, 1) := by decide +kernel
theorem dX5_init_20 : decode cX5_init 20 = .ok (.invokespecial 11, 3) := by decide +kernel
theorem dX5_init_23 : decode cX5_init 23 = .ok (.putfield 16, 3) := by decide +kernel
theorem dX5_init_26 : decode cX5_init 26 = .ok (.aload_n 0, 1) := by decide +kernel
theorem dX5_init_27 : decode cX5_init 27 = .ok (.new 9, 3) := by decide +kernel
theorem dX5_init_30 : decode cX5_init 30 = .ok (.dup, 1) := by decide +kernel
theorem dX5_init_31 : decode cX5_init 31 = .ok (.invokespecial 11, 3) := by decide +kernel
theorem dX5_init_34 : decode cX5_init 34 = .ok (.putfield 19, 3) := by decide +kernel
theorem dX5_init_37 : decode cX5_init 37 = .ok (.aload_n 0, 1) := by decide +kernel
theorem dX5_init_38 : decode cX5_init 38 = .ok (.new 22, 3) := by decide +kernel
theorem dX5_init_41 : decode cX5_init 41 = .ok (.dup, 1) := by decide +kernel
theorem dX5_init_42 : decode cX5_init 42 = .ok (.invokespecial 24, 3) := by decide +kernel
theorem dX5_init_45 : decode cX5_init 45 = .ok (.putfield 25, 3) := by decide +kernel
theorem dX5_init_48 : decode cX5_init 48 = .ok (.aload_n 0, 1) := by decide +kernel
theorem dX5_init_49 : decode cX5_init 49 = .ok (.new 29, 3) := by decide +kernel
theorem dX5_init_52 : decode cX5_init 52 = .ok (.dup, 1) := by decide +kernel
theorem dX5_init_53 : decode cX5_init 53 = .ok (.invokespecial 31, 3) := by decide +kernel
theorem dX5_init_56 : decode cX5_init 56 = .ok (.putfield 32, 3) := by decide +kernel
theorem dX5_init_59 : decode cX5_init 59 = .ok (.aload_n 0, 1) := by decide +kernel
theorem dX5_init_60 : decode cX5_init 60 = .ok (.new 36, 3) := by decide +kernel
theorem dX5_init_63 : decode cX5_init 63 = .ok (.dup, 1) := by decide +kernel
theorem dX5_init_64 : decode cX5_init 64 = .ok (.invokespecial 38, 3) := by decide +kernel
theorem dX5_init_67 : decode cX5_init 67 = .ok (.putfield 39, 3) := by decide +kernel
theorem dX5_init_70 : decode cX5_init 70 = .ok (.return_, 1) := by decide +kernel
theorem dX5_addStation_0 : decode cX5_addStation 0 = .ok (.aload_n 0, 1) := by decide +kernel
theorem dX5_addStation_1 : decode cX5_addStation 1 = .ok (.getfield 12, 3) := by decide +kernel
theorem dX5_addStation_4 : decode cX5_addStation 4 = .ok (.getfield 43, 3) := by decide +kernel
theorem dX5_addStation_7 : decode cX5_addStation 7 = .ok (.bipush 6, 2) := by decide +kernel
theorem dX5_addStation_9 : decode cX5_addStation 9 = .ok (.if_icmp .lt 6, 3) := by decide +kernel
theorem dX5_addStation_12 : decode cX5_addStation 12 = .ok (.bipush (-3), 2) := by decide +kernel
theorem dX5_addStation_14 : decode cX5_addStation 14 = .ok (.ireturn, 1) := by decide +kernel
theorem dX5_addStation_15 : decode cX5_addStation 15 = .ok (.aload_n 0, 1) := by decide +kernel
theorem dX5_addStation_16 : decode cX5_addStation 16 = .ok (.getfield 32, 3) := by decide +kernel
theorem dX5_addStation_19 : decode cX5_addStation 19 = .ok (.aload_n 0, 1) := by decide +kernel
theorem dX5_addStation_20 : decode cX5_addStation 20 = .ok (.getfield 12, 3) := by decide +kernel
theorem dX5_addStation_23 : decode cX5_addStation 23 = .ok (.invokevirtual 47, 3) := by decide +kernel
theorem dX5_addStation_26 : decode cX5_addStation 26 = .ok (.aload_n 0, 1) := by decide +kernel
theorem dX5_addStation_27 : decode cX5_addStation 27 = .ok (.getfield 12, 3) := by decide +kernel
theorem dX5_addStation_30 : decode cX5_addStation 30 = .ok (.dup, 1) := by decide +kernel
theorem dX5_addStation_31 : decode cX5_addStation 31 = .ok (.getfield 43, 3) := by decide +kernel
theorem dX5_addStation_34 : decode cX5_addStation 34 = .ok (.iconst 1, 1) := by decide +kernel
theorem dX5_addStation_35 : decode cX5_addStation 35 = .ok (.iadd, 1) := by decide +kernel
theorem dX5_addStation_36 : decode cX5_addStation 36 = .ok (.putfield 43, 3) := by decide +kernel
theorem dX5_addStation_39 : decode cX5_addStation 39 = .ok (.aload_n 0, 1) := by decide +kernel
theorem dX5_addStation_40 : decode cX5_addStation 40 = .ok (.getfield 12, 3) := by decide +kernel
theorem dX5_addStation_43 : decode cX5_addStation 43 = .ok (.getfield 43, 3) := by decide +kernel
theorem dX5_addStation_46 : decode cX5_addStation 46 = .ok (.iconst 1, 1) := by decide +kernel
theorem dX5_addStation_47 : decode cX5_addStation 47 = .ok (.isub, 1) := by decide +kernel
theorem dX5_addStation_48 : decode cX5_addStation 48 = .ok (.ireturn, 1) := by decide +kernel
theorem dX5_addClerk_0 : decode cX5_addClerk 0 = .ok (.iload_n 1, 1) := by decide +kernel
theorem dX5_addClerk_1 : decode cX5_addClerk 1 = .ok (.iconst 1, 1) := by decide +kernel
theorem dX5_addClerk_2 : decode cX5_addClerk 2 = .ok (.bipush 60, 2) := by decide +kernel
theorem dX5_addClerk_4 : decode cX5_addClerk 4 = .ok (.invokestatic 51, 3) := by decide +kernel
theorem dX5_addClerk_7 : decode cX5_addClerk 7 = .ok (.ifCond .eq 13, 3) := by decide +kernel
theorem dX5_addClerk_10 : decode cX5_addClerk 10 = .ok (.iload_n 2, 1) := by decide +kernel
theorem dX5_addClerk_11 : decode cX5_addClerk 11 = .ok (.iconst 1, 1) := by decide +kernel
theorem dX5_addClerk_12 : decode cX5_addClerk 12 = .ok (.bipush 6, 2) := by decide +kernel
theorem dX5_addClerk_14 : decode cX5_addClerk 14 = .ok (.invokestatic 51, 3) := by decide +kernel
theorem dX5_addClerk_17 : decode cX5_addClerk 17 = .ok (.ifCond .ne 6, 3) := by decide +kernel
theorem dX5_addClerk_20 : decode cX5_addClerk 20 = .ok (.bipush (-2), 2) := by decide +kernel
theorem dX5_addClerk_22 : decode cX5_addClerk 22 = .ok (.ireturn, 1) := by decide +kernel
theorem dX5_addClerk_23 : decode cX5_addClerk 23 = .ok (.aload_n 0, 1) := by decide +kernel
theorem dX5_addClerk_24 : decode cX5_addClerk 24 = .ok (.getfield 12, 3) := by decide +kernel
theorem dX5_addClerk_27 : decode cX5_addClerk 27 = .ok (.getfield 55, 3) := by decide +kernel
theorem dX5_addClerk_30 : decode cX5_addClerk 30 = .ok (.bipush 12, 2) := by decide +kernel
theorem dX5_addClerk_32 : decode cX5_addClerk 32 = .ok (.if_icmp .lt 6, 3) := by decide +kernel
theorem dX5_addClerk_35 : decode cX5_addClerk 35 = .ok (.bipush (-3), 2) := by decide +kernel
theorem dX5_addClerk_37 : decode cX5_addClerk 37 = .ok (.ireturn, 1) := by decide +kernel
theorem dX5_addClerk_38 : decode cX5_addClerk 38 = .ok (.aload_n 0, 1) := by decide +kernel
theorem dX5_addClerk_39 : decode cX5_addClerk 39 = .ok (.getfield 32, 3) := by decide +kernel
theorem dX5_addClerk_42 : decode cX5_addClerk 42 = .ok (.aload_n 0, 1) := by decide +kernel
theorem dX5_addClerk_43 : decode cX5_addClerk 43 = .ok (.getfield 12, 3) := by decide +kernel
theorem dX5_addClerk_46 : decode cX5_addClerk 46 = .ok (.invokevirtual 47, 3) := by decide +kernel
theorem dX5_addClerk_49 : decode cX5_addClerk 49 = .ok (.aload_n 0, 1) := by decide +kernel
theorem dX5_addClerk_50 : decode cX5_addClerk 50 = .ok (.getfield 12, 3) := by decide +kernel
theorem dX5_addClerk_53 : decode cX5_addClerk 53 = .ok (.iload_n 1, 1) := by decide +kernel
theorem dX5_addClerk_54 : decode cX5_addClerk 54 = .ok (.iload_n 2, 1) := by decide +kernel
theorem dX5_addClerk_55 : decode cX5_addClerk 55 = .ok (.invokevirtual 58, 3) := by decide +kernel
theorem dX5_addClerk_58 : decode cX5_addClerk 58 = .ok (.ireturn, 1) := by decide +kernel
theorem dX5_setArrivals_0 : decode cX5_setArrivals 0 = .ok (.aload_n 0, 1) := by decide +kernel
theorem dX5_setArrivals_1 : decode cX5_setArrivals 1 = .ok (.getfield 12, 3) := by decide +kernel
theorem dX5_setArrivals_4 : decode cX5_setArrivals 4 = .ok (.iload_n 1, 1) := by decide +kernel
theorem dX5_setArrivals_5 : decode cX5_setArrivals 5 = .ok (.invokevirtual 62, 3) := by decide +kernel
theorem dX5_setArrivals_8 : decode cX5_setArrivals 8 = .ok (.ifCond .ne 5, 3) := by decide +kernel
theorem dX5_setArrivals_11 : decode cX5_setArrivals 11 = .ok (.iconst (-1), 1) := by decide +kernel
theorem dX5_setArrivals_12 : decode cX5_setArrivals 12 = .ok (.ireturn, 1) := by decide +kernel
theorem dX5_setArrivals_13 : decode cX5_setArrivals 13 = .ok (.aload_n 0, 1) := by decide +kernel
theorem dX5_setArrivals_14 : decode cX5_setArrivals 14 = .ok (.iload_n 2, 1) := by decide +kernel
theorem dX5_setArrivals_15 : decode cX5_setArrivals 15 = .ok (.invokevirtual 66, 3) := by decide +kernel
theorem dX5_setArrivals_18 : decode cX5_setArrivals 18 = .ok (.ifCond .eq 14, 3) := by decide +kernel
theorem dX5_setArrivals_21 : decode cX5_setArrivals 21 = .ok (.iload_n 3, 1) := by decide +kernel
theorem dX5_setArrivals_22 : decode cX5_setArrivals 22 = .ok (.iconst 0, 1) := by decide +kernel
theorem dX5_setArrivals_23 : decode cX5_setArrivals 23 = .ok (.sipush 500, 3) := by decide +kernel
theorem dX5_setArrivals_26 : decode cX5_setArrivals 26 = .ok (.invokestatic 51, 3) := by decide +kernel
theorem dX5_setArrivals_29 : decode cX5_setArrivals 29 = .ok (.ifCond .ne 6, 3) := by decide +kernel
theorem dX5_setArrivals_32 : decode cX5_setArrivals 32 = .ok (.bipush (-2), 2) := by decide +kernel
theorem dX5_setArrivals_34 : decode cX5_setArrivals 34 = .ok (.ireturn, 1) := by decide +kernel
theorem dX5_setArrivals_35 : decode cX5_setArrivals 35 = .ok (.aload_n 0, 1) := by decide +kernel
theorem dX5_setArrivals_36 : decode cX5_setArrivals 36 = .ok (.getfield 12, 3) := by decide +kernel
theorem dX5_setArrivals_39 : decode cX5_setArrivals 39 = .ok (.getfield 69, 3) := by decide +kernel
theorem dX5_setArrivals_42 : decode cX5_setArrivals 42 = .ok (.iload_n 1, 1) := by decide +kernel
theorem dX5_setArrivals_43 : decode cX5_setArrivals 43 = .ok (.aaload, 1) := by decide +kernel
theorem dX5_setArrivals_44 : decode cX5_setArrivals 44 = .ok (.astore 4, 2) := by decide +kernel
theorem dX5_setArrivals_46 : decode cX5_setArrivals 46 = .ok (.aload 4, 2) := by decide +kernel
theorem dX5_setArrivals_48 : decode cX5_setArrivals 48 = .ok (.getfield 73, 3) := by decide +kernel
theorem dX5_setArrivals_51 : decode cX5_setArrivals 51 = .ok (.iload_n 2, 1) := by decide +kernel
theorem dX5_setArrivals_52 : decode cX5_setArrivals 52 = .ok (.iaload, 1) := by decide +kernel
theorem dX5_setArrivals_53 : decode cX5_setArrivals 53 = .ok (.istore 5, 2) := by decide +kernel
theorem dX5_setArrivals_55 : decode cX5_setArrivals 55 = .ok (.iload 5, 2) := by decide +kernel
theorem dX5_setArrivals_57 : decode cX5_setArrivals 57 = .ok (.iload_n 3, 1) := by decide +kernel
theorem dX5_setArrivals_58 : decode cX5_setArrivals 58 = .ok (.if_icmp .ne 6, 3) := by decide +kernel
theorem dX5_setArrivals_61 : decode cX5_setArrivals 61 = .ok (.bipush (-5), 2) := by decide +kernel
theorem dX5_setArrivals_63 : decode cX5_setArrivals 63 = .ok (.ireturn, 1) := by decide +kernel
theorem dX5_setArrivals_64 : decode cX5_setArrivals 64 = .ok (.aload_n 0, 1) := by decide +kernel
theorem dX5_setArrivals_65 : decode cX5_setArrivals 65 = .ok (.getfield 32, 3) := by decide +kernel
theorem dX5_setArrivals_68 : decode cX5_setArrivals 68 = .ok (.aload_n 0, 1) := by decide +kernel
theorem dX5_setArrivals_69 : decode cX5_setArrivals 69 = .ok (.getfield 12, 3) := by decide +kernel
theorem dX5_setArrivals_72 : decode cX5_setArrivals 72 = .ok (.invokevirtual 47, 3) := by decide +kernel
theorem dX5_setArrivals_75 : decode cX5_setArrivals 75 = .ok (.aload 4, 2) := by decide +kernel
theorem dX5_setArrivals_77 : decode cX5_setArrivals 77 = .ok (.getfield 73, 3) := by decide +kernel
theorem dX5_setArrivals_80 : decode cX5_setArrivals 80 = .ok (.iload_n 2, 1) := by decide +kernel
theorem dX5_setArrivals_81 : decode cX5_setArrivals 81 = .ok (.iload_n 3, 1) := by decide +kernel
theorem dX5_setArrivals_82 : decode cX5_setArrivals 82 = .ok (.iastore, 1) := by decide +kernel
theorem dX5_setArrivals_83 : decode cX5_setArrivals 83 = .ok (.iload 5, 2) := by decide +kernel
theorem dX5_setArrivals_85 : decode cX5_setArrivals 85 = .ok (.ireturn, 1) := by decide +kernel
theorem dX5_assign_0 : decode cX5_assign 0 = .ok (.aload_n 0, 1) := by decide +kernel
theorem dX5_assign_1 : decode cX5_assign 1 = .ok (.getfield 12, 3) := by decide +kernel
theorem dX5_assign_4 : decode cX5_assign 4 = .ok (.iload_n 1, 1) := by decide +kernel
theorem dX5_assign_5 : decode cX5_assign 5 = .ok (.invokevirtual 77, 3) := by decide +kernel
theorem dX5_assign_8 : decode cX5_assign 8 = .ok (.ifCond .eq 14, 3) := by decide +kernel
theorem dX5_assign_11 : decode cX5_assign 11 = .ok (.aload_n 0, 1) := by decide +kernel
theorem dX5_assign_12 : decode cX5_assign 12 = .ok (.getfield 12, 3) := by decide +kernel
theorem dX5_assign_15 : decode cX5_assign 15 = .ok (.iload_n 2, 1) := by decide +kernel
theorem dX5_assign_16 : decode cX5_assign 16 = .ok (.invokevirtual 62, 3) := by decide +kernel
theorem dX5_assign_19 : decode cX5_assign 19 = .ok (.ifCond .ne 5, 3) := by decide +kernel
theorem dX5_assign_22 : decode cX5_assign 22 = .ok (.iconst (-1), 1) := by decide +kernel
theorem dX5_assign_23 : decode cX5_assign 23 = .ok (.ireturn, 1) := by decide +kernel
theorem dX5_assign_24 : decode cX5_assign 24 = .ok (.aload_n 0, 1) := by decide +kernel
theorem dX5_assign_25 : decode cX5_assign 25 = .ok (.getfield 12, 3) := by decide +kernel
theorem dX5_assign_28 : decode cX5_assign 28 = .ok (.getfield 80, 3) := by decide +kernel
theorem dX5_assign_31 : decode cX5_assign 31 = .ok (.iload_n 1, 1) := by decide +kernel
theorem dX5_assign_32 : decode cX5_assign 32 = .ok (.aaload, 1) := by decide +kernel
theorem dX5_assign_33 : decode cX5_assign 33 = .ok (.invokevirtual 84, 3) := by decide +kernel
theorem dX5_assign_36 : decode cX5_assign 36 = .ok (.ifCond .ne 6, 3) := by decide +kernel
theorem dX5_assign_39 : decode cX5_assign 39 = .ok (.bipush (-4), 2) := by decide +kernel
theorem dX5_assign_41 : decode cX5_assign 41 = .ok (.ireturn, 1) := by decide +kernel
theorem dX5_assign_42 : decode cX5_assign 42 = .ok (.aload_n 0, 1) := by decide +kernel
theorem dX5_assign_43 : decode cX5_assign 43 = .ok (.getfield 32, 3) := by decide +kernel
theorem dX5_assign_46 : decode cX5_assign 46 = .ok (.aload_n 0, 1) := by decide +kernel
theorem dX5_assign_47 : decode cX5_assign 47 = .ok (.getfield 12, 3) := by decide +kernel
theorem dX5_assign_50 : decode cX5_assign 50 = .ok (.invokevirtual 47, 3) := by decide +kernel
theorem dX5_assign_53 : decode cX5_assign 53 = .ok (.aload_n 0, 1) := by decide +kernel
theorem dX5_assign_54 : decode cX5_assign 54 = .ok (.getfield 12, 3) := by decide +kernel
theorem dX5_assign_57 : decode cX5_assign 57 = .ok (.getfield 80, 3) := by decide +kernel
theorem dX5_assign_60 : decode cX5_assign 60 = .ok (.iload_n 1, 1) := by decide +kernel
theorem dX5_assign_61 : decode cX5_assign 61 = .ok (.aaload, 1) := by decide +kernel
theorem dX5_assign_62 : decode cX5_assign 62 = .ok (.iload_n 2, 1) := by decide +kernel
theorem dX5_assign_63 : decode cX5_assign 63 = .ok (.invokevirtual 90, 3) := by decide +kernel
theorem dX5_assign_66 : decode cX5_assign 66 = .ok (.aload_n 0, 1) := by decide +kernel
theorem dX5_assign_67 : decode cX5_assign 67 = .ok (.getfield 12, 3) := by decide +kernel
theorem dX5_assign_70 : decode cX5_assign 70 = .ok (.iload_n 2, 1) := by decide +kernel
theorem dX5_assign_71 : decode cX5_assign 71 = .ok (.invokevirtual 94, 3) := by decide +kernel
theorem dX5_assign_74 : decode cX5_assign 74 = .ok (.ireturn, 1) := by decide +kernel
theorem dX5_relieve_0 : decode cX5_relieve 0 = .ok (.aload_n 0, 1) := by decide +kernel
theorem dX5_relieve_1 : decode cX5_relieve 1 = .ok (.getfield 12, 3) := by decide +kernel
theorem dX5_relieve_4 : decode cX5_relieve 4 = .ok (.iload_n 1, 1) := by decide +kernel
theorem dX5_relieve_5 : decode cX5_relieve 5 = .ok (.invokevirtual 77, 3) := by decide +kernel
theorem dX5_relieve_8 : decode cX5_relieve 8 = .ok (.ifCond .ne 5, 3) := by decide +kernel
theorem dX5_relieve_11 : decode cX5_relieve 11 = .ok (.iconst (-1), 1) := by decide +kernel
theorem dX5_relieve_12 : decode cX5_relieve 12 = .ok (.ireturn, 1) := by decide +kernel
theorem dX5_relieve_13 : decode cX5_relieve 13 = .ok (.aload_n 0, 1) := by decide +kernel
theorem dX5_relieve_14 : decode cX5_relieve 14 = .ok (.getfield 12, 3) := by decide +kernel
theorem dX5_relieve_17 : decode cX5_relieve 17 = .ok (.getfield 80, 3) := by decide +kernel
theorem dX5_relieve_20 : decode cX5_relieve 20 = .ok (.iload_n 1, 1) := by decide +kernel
theorem dX5_relieve_21 : decode cX5_relieve 21 = .ok (.aaload, 1) := by decide +kernel
theorem dX5_relieve_22 : decode cX5_relieve 22 = .ok (.invokevirtual 98, 3) := by decide +kernel
theorem dX5_relieve_25 : decode cX5_relieve 25 = .ok (.ifCond .ne 6, 3) := by decide +kernel
theorem dX5_relieve_28 : decode cX5_relieve 28 = .ok (.bipush (-5), 2) := by decide +kernel
theorem dX5_relieve_30 : decode cX5_relieve 30 = .ok (.ireturn, 1) := by decide +kernel
theorem dX5_relieve_31 : decode cX5_relieve 31 = .ok (.aload_n 0, 1) := by decide +kernel
theorem dX5_relieve_32 : decode cX5_relieve 32 = .ok (.getfield 32, 3) := by decide +kernel
theorem dX5_relieve_35 : decode cX5_relieve 35 = .ok (.aload_n 0, 1) := by decide +kernel
theorem dX5_relieve_36 : decode cX5_relieve 36 = .ok (.getfield 12, 3) := by decide +kernel
theorem dX5_relieve_39 : decode cX5_relieve 39 = .ok (.invokevirtual 47, 3) := by decide +kernel
theorem dX5_relieve_42 : decode cX5_relieve 42 = .ok (.aload_n 0, 1) := by decide +kernel
theorem dX5_relieve_43 : decode cX5_relieve 43 = .ok (.getfield 12, 3) := by decide +kernel
theorem dX5_relieve_46 : decode cX5_relieve 46 = .ok (.getfield 80, 3) := by decide +kernel
theorem dX5_relieve_49 : decode cX5_relieve 49 = .ok (.iload_n 1, 1) := by decide +kernel
theorem dX5_relieve_50 : decode cX5_relieve 50 = .ok (.aaload, 1) := by decide +kernel
theorem dX5_relieve_51 : decode cX5_relieve 51 = .ok (.getfield 101, 3) := by decide +kernel
theorem dX5_relieve_54 : decode cX5_relieve 54 = .ok (.istore_n 2, 1) := by decide +kernel
theorem dX5_relieve_55 : decode cX5_relieve 55 = .ok (.aload_n 0, 1) := by decide +kernel
theorem dX5_relieve_56 : decode cX5_relieve 56 = .ok (.getfield 12, 3) := by decide +kernel
theorem dX5_relieve_59 : decode cX5_relieve 59 = .ok (.getfield 80, 3) := by decide +kernel
theorem dX5_relieve_62 : decode cX5_relieve 62 = .ok (.iload_n 1, 1) := by decide +kernel
theorem dX5_relieve_63 : decode cX5_relieve 63 = .ok (.aaload, 1) := by decide +kernel
theorem dX5_relieve_64 : decode cX5_relieve 64 = .ok (.iconst 1, 1) := by decide +kernel
theorem dX5_relieve_65 : decode cX5_relieve 65 = .ok (.invokevirtual 104, 3) := by decide +kernel
theorem dX5_relieve_68 : decode cX5_relieve 68 = .ok (.iload_n 2, 1) := by decide +kernel
theorem dX5_relieve_69 : decode cX5_relieve 69 = .ok (.ireturn, 1) := by decide +kernel
theorem dX5_pass_0 : decode cX5_pass 0 = .ok (.iload_n 1, 1) := by decide +kernel
theorem dX5_pass_1 : decode cX5_pass 1 = .ok (.iconst 1, 1) := by decide +kernel
theorem dX5_pass_2 : decode cX5_pass 2 = .ok (.bipush 18, 2) := by decide +kernel
theorem dX5_pass_4 : decode cX5_pass 4 = .ok (.invokestatic 51, 3) := by decide +kernel
theorem dX5_pass_7 : decode cX5_pass 7 = .ok (.ifCond .ne 6, 3) := by decide +kernel
theorem dX5_pass_10 : decode cX5_pass 10 = .ok (.bipush (-2), 2) := by decide +kernel
theorem dX5_pass_12 : decode cX5_pass 12 = .ok (.ireturn, 1) := by decide +kernel
theorem dX5_pass_13 : decode cX5_pass 13 = .ok (.aload_n 0, 1) := by decide +kernel
theorem dX5_pass_14 : decode cX5_pass 14 = .ok (.getfield 12, 3) := by decide +kernel
theorem dX5_pass_17 : decode cX5_pass 17 = .ok (.getfield 107, 3) := by decide +kernel
theorem dX5_pass_20 : decode cX5_pass 20 = .ok (.iload_n 1, 1) := by decide +kernel
theorem dX5_pass_21 : decode cX5_pass 21 = .ok (.iadd, 1) := by decide +kernel
theorem dX5_pass_22 : decode cX5_pass 22 = .ok (.bipush 18, 2) := by decide +kernel
theorem dX5_pass_24 : decode cX5_pass 24 = .ok (.if_icmp .le 6, 3) := by decide +kernel
theorem dX5_pass_27 : decode cX5_pass 27 = .ok (.bipush (-4), 2) := by decide +kernel
theorem dX5_pass_29 : decode cX5_pass 29 = .ok (.ireturn, 1) := by decide +kernel
theorem dX5_pass_30 : decode cX5_pass 30 = .ok (.aload_n 0, 1) := by decide +kernel
theorem dX5_pass_31 : decode cX5_pass 31 = .ok (.getfield 32, 3) := by decide +kernel
theorem dX5_pass_34 : decode cX5_pass 34 = .ok (.aload_n 0, 1) := by decide +kernel
theorem dX5_pass_35 : decode cX5_pass 35 = .ok (.getfield 12, 3) := by decide +kernel
theorem dX5_pass_38 : decode cX5_pass 38 = .ok (.invokevirtual 47, 3) := by decide +kernel
theorem dX5_pass_41 : decode cX5_pass 41 = .ok (.aload_n 0, 1) := by decide +kernel
theorem dX5_pass_42 : decode cX5_pass 42 = .ok (.getfield 12, 3) := by decide +kernel
theorem dX5_pass_45 : decode cX5_pass 45 = .ok (.iload_n 1, 1) := by decide +kernel
theorem dX5_pass_46 : decode cX5_pass 46 = .ok (.invokevirtual 110, 3) := by decide +kernel
theorem dX5_pass_49 : decode cX5_pass 49 = .ok (.ireturn, 1) := by decide +kernel
theorem dX5_supply_0 : decode cX5_supply 0 = .ok (.aload_n 0, 1) := by decide +kernel
theorem dX5_supply_1 : decode cX5_supply 1 = .ok (.getfield 12, 3) := by decide +kernel
theorem dX5_supply_4 : decode cX5_supply 4 = .ok (.iload_n 1, 1) := by decide +kernel
theorem dX5_supply_5 : decode cX5_supply 5 = .ok (.invokevirtual 62, 3) := by decide +kernel
theorem dX5_supply_8 : decode cX5_supply 8 = .ok (.ifCond .ne 5, 3) := by decide +kernel
theorem dX5_supply_11 : decode cX5_supply 11 = .ok (.iconst (-1), 1) := by decide +kernel
theorem dX5_supply_12 : decode cX5_supply 12 = .ok (.ireturn, 1) := by decide +kernel
theorem dX5_supply_13 : decode cX5_supply 13 = .ok (.iload_n 2, 1) := by decide +kernel
theorem dX5_supply_14 : decode cX5_supply 14 = .ok (.invokestatic 113, 3) := by decide +kernel
theorem dX5_supply_17 : decode cX5_supply 17 = .ok (.ifCond .ne 6, 3) := by decide +kernel
theorem dX5_supply_20 : decode cX5_supply 20 = .ok (.bipush (-2), 2) := by decide +kernel
theorem dX5_supply_22 : decode cX5_supply 22 = .ok (.ireturn, 1) := by decide +kernel
theorem dX5_supply_23 : decode cX5_supply 23 = .ok (.aload_n 0, 1) := by decide +kernel
theorem dX5_supply_24 : decode cX5_supply 24 = .ok (.getfield 12, 3) := by decide +kernel
theorem dX5_supply_27 : decode cX5_supply 27 = .ok (.getfield 69, 3) := by decide +kernel
theorem dX5_supply_30 : decode cX5_supply 30 = .ok (.iload_n 1, 1) := by decide +kernel
theorem dX5_supply_31 : decode cX5_supply 31 = .ok (.aaload, 1) := by decide +kernel
theorem dX5_supply_32 : decode cX5_supply 32 = .ok (.astore_n 3, 1) := by decide +kernel
theorem dX5_supply_33 : decode cX5_supply 33 = .ok (.aload_n 3, 1) := by decide +kernel
theorem dX5_supply_34 : decode cX5_supply 34 = .ok (.getfield 116, 3) := by decide +kernel
theorem dX5_supply_37 : decode cX5_supply 37 = .ok (.iload_n 2, 1) := by decide +kernel
theorem dX5_supply_38 : decode cX5_supply 38 = .ok (.iadd, 1) := by decide +kernel
theorem dX5_supply_39 : decode cX5_supply 39 = .ok (.sipush 9999, 3) := by decide +kernel
theorem dX5_supply_42 : decode cX5_supply 42 = .ok (.if_icmp .le 6, 3) := by decide +kernel
theorem dX5_supply_45 : decode cX5_supply 45 = .ok (.bipush (-3), 2) := by decide +kernel
theorem dX5_supply_47 : decode cX5_supply 47 = .ok (.ireturn, 1) := by decide +kernel
theorem dX5_supply_48 : decode cX5_supply 48 = .ok (.aload_n 0, 1) := by decide +kernel
theorem dX5_supply_49 : decode cX5_supply 49 = .ok (.getfield 32, 3) := by decide +kernel
theorem dX5_supply_52 : decode cX5_supply 52 = .ok (.aload_n 0, 1) := by decide +kernel
theorem dX5_supply_53 : decode cX5_supply 53 = .ok (.getfield 12, 3) := by decide +kernel
theorem dX5_supply_56 : decode cX5_supply 56 = .ok (.invokevirtual 47, 3) := by decide +kernel
theorem dX5_supply_59 : decode cX5_supply 59 = .ok (.aload_n 3, 1) := by decide +kernel
theorem dX5_supply_60 : decode cX5_supply 60 = .ok (.dup, 1) := by decide +kernel
theorem dX5_supply_61 : decode cX5_supply 61 = .ok (.getfield 116, 3) := by decide +kernel
theorem dX5_supply_64 : decode cX5_supply 64 = .ok (.iload_n 2, 1) := by decide +kernel
theorem dX5_supply_65 : decode cX5_supply 65 = .ok (.iadd, 1) := by decide +kernel
theorem dX5_supply_66 : decode cX5_supply 66 = .ok (.putfield 116, 3) := by decide +kernel
theorem dX5_supply_69 : decode cX5_supply 69 = .ok (.aload_n 3, 1) := by decide +kernel
theorem dX5_supply_70 : decode cX5_supply 70 = .ok (.getfield 116, 3) := by decide +kernel
theorem dX5_supply_73 : decode cX5_supply 73 = .ok (.ireturn, 1) := by decide +kernel
theorem dX5_movePapers_0 : decode cX5_movePapers 0 = .ok (.aload_n 0, 1) := by decide +kernel
theorem dX5_movePapers_1 : decode cX5_movePapers 1 = .ok (.getfield 12, 3) := by decide +kernel
theorem dX5_movePapers_4 : decode cX5_movePapers 4 = .ok (.iload_n 1, 1) := by decide +kernel
theorem dX5_movePapers_5 : decode cX5_movePapers 5 = .ok (.invokevirtual 62, 3) := by decide +kernel
theorem dX5_movePapers_8 : decode cX5_movePapers 8 = .ok (.ifCond .eq 14, 3) := by decide +kernel
theorem dX5_movePapers_11 : decode cX5_movePapers 11 = .ok (.aload_n 0, 1) := by decide +kernel
theorem dX5_movePapers_12 : decode cX5_movePapers 12 = .ok (.getfield 12, 3) := by decide +kernel
theorem dX5_movePapers_15 : decode cX5_movePapers 15 = .ok (.iload_n 2, 1) := by decide +kernel
theorem dX5_movePapers_16 : decode cX5_movePapers 16 = .ok (.invokevirtual 62, 3) := by decide +kernel
theorem dX5_movePapers_19 : decode cX5_movePapers 19 = .ok (.ifCond .ne 5, 3) := by decide +kernel
theorem dX5_movePapers_22 : decode cX5_movePapers 22 = .ok (.iconst (-1), 1) := by decide +kernel
theorem dX5_movePapers_23 : decode cX5_movePapers 23 = .ok (.ireturn, 1) := by decide +kernel
theorem dX5_movePapers_24 : decode cX5_movePapers 24 = .ok (.iload_n 3, 1) := by decide +kernel
theorem dX5_movePapers_25 : decode cX5_movePapers 25 = .ok (.invokestatic 113, 3) := by decide +kernel
theorem dX5_movePapers_28 : decode cX5_movePapers 28 = .ok (.ifCond .eq 8, 3) := by decide +kernel
theorem dX5_movePapers_31 : decode cX5_movePapers 31 = .ok (.iload_n 1, 1) := by decide +kernel
theorem dX5_movePapers_32 : decode cX5_movePapers 32 = .ok (.iload_n 2, 1) := by decide +kernel
theorem dX5_movePapers_33 : decode cX5_movePapers 33 = .ok (.if_icmp .ne 6, 3) := by decide +kernel
theorem dX5_movePapers_36 : decode cX5_movePapers 36 = .ok (.bipush (-2), 2) := by decide +kernel
theorem dX5_movePapers_38 : decode cX5_movePapers 38 = .ok (.ireturn, 1) := by decide +kernel
theorem dX5_movePapers_39 : decode cX5_movePapers 39 = .ok (.aload_n 0, 1) := by decide +kernel
theorem dX5_movePapers_40 : decode cX5_movePapers 40 = .ok (.getfield 12, 3) := by decide +kernel
theorem dX5_movePapers_43 : decode cX5_movePapers 43 = .ok (.getfield 69, 3) := by decide +kernel
theorem dX5_movePapers_46 : decode cX5_movePapers 46 = .ok (.iload_n 1, 1) := by decide +kernel
theorem dX5_movePapers_47 : decode cX5_movePapers 47 = .ok (.aaload, 1) := by decide +kernel
theorem dX5_movePapers_48 : decode cX5_movePapers 48 = .ok (.astore 4, 2) := by decide +kernel
theorem dX5_movePapers_50 : decode cX5_movePapers 50 = .ok (.aload_n 0, 1) := by decide +kernel
theorem dX5_movePapers_51 : decode cX5_movePapers 51 = .ok (.getfield 12, 3) := by decide +kernel
theorem dX5_movePapers_54 : decode cX5_movePapers 54 = .ok (.getfield 69, 3) := by decide +kernel
theorem dX5_movePapers_57 : decode cX5_movePapers 57 = .ok (.iload_n 2, 1) := by decide +kernel
theorem dX5_movePapers_58 : decode cX5_movePapers 58 = .ok (.aaload, 1) := by decide +kernel
theorem dX5_movePapers_59 : decode cX5_movePapers 59 = .ok (.astore 5, 2) := by decide +kernel
theorem dX5_movePapers_61 : decode cX5_movePapers 61 = .ok (.aload 4, 2) := by decide +kernel
theorem dX5_movePapers_63 : decode cX5_movePapers 63 = .ok (.getfield 116, 3) := by decide +kernel
theorem dX5_movePapers_66 : decode cX5_movePapers 66 = .ok (.iload_n 3, 1) := by decide +kernel
theorem dX5_movePapers_67 : decode cX5_movePapers 67 = .ok (.if_icmp .ge 6, 3) := by decide +kernel
theorem dX5_movePapers_70 : decode cX5_movePapers 70 = .ok (.bipush (-4), 2) := by decide +kernel
theorem dX5_movePapers_72 : decode cX5_movePapers 72 = .ok (.ireturn, 1) := by decide +kernel
theorem dX5_movePapers_73 : decode cX5_movePapers 73 = .ok (.aload 5, 2) := by decide +kernel
theorem dX5_movePapers_75 : decode cX5_movePapers 75 = .ok (.getfield 116, 3) := by decide +kernel
theorem dX5_movePapers_78 : decode cX5_movePapers 78 = .ok (.iload_n 3, 1) := by decide +kernel
theorem dX5_movePapers_79 : decode cX5_movePapers 79 = .ok (.iadd, 1) := by decide +kernel
theorem dX5_movePapers_80 : decode cX5_movePapers 80 = .ok (.sipush 9999, 3) := by decide +kernel
theorem dX5_movePapers_83 : decode cX5_movePapers 83 = .ok (.if_icmp .le 6, 3) := by decide +kernel
theorem dX5_movePapers_86 : decode cX5_movePapers 86 = .ok (.bipush (-3), 2) := by decide +kernel
theorem dX5_movePapers_88 : decode cX5_movePapers 88 = .ok (.ireturn, 1) := by decide +kernel
theorem dX5_movePapers_89 : decode cX5_movePapers 89 = .ok (.aload_n 0, 1) := by decide +kernel
theorem dX5_movePapers_90 : decode cX5_movePapers 90 = .ok (.getfield 32, 3) := by decide +kernel
theorem dX5_movePapers_93 : decode cX5_movePapers 93 = .ok (.aload_n 0, 1) := by decide +kernel
theorem dX5_movePapers_94 : decode cX5_movePapers 94 = .ok (.getfield 12, 3) := by decide +kernel
theorem dX5_movePapers_97 : decode cX5_movePapers 97 = .ok (.invokevirtual 47, 3) := by decide +kernel
theorem dX5_movePapers_100 : decode cX5_movePapers 100 = .ok (.aload 4, 2) := by decide +kernel
theorem dX5_movePapers_102 : decode cX5_movePapers 102 = .ok (.dup, 1) := by decide +kernel
theorem dX5_movePapers_103 : decode cX5_movePapers 103 = .ok (.getfield 116, 3) := by decide +kernel
theorem dX5_movePapers_106 : decode cX5_movePapers 106 = .ok (.iload_n 3, 1) := by decide +kernel
theorem dX5_movePapers_107 : decode cX5_movePapers 107 = .ok (.isub, 1) := by decide +kernel
theorem dX5_movePapers_108 : decode cX5_movePapers 108 = .ok (.putfield 116, 3) := by decide +kernel
theorem dX5_movePapers_111 : decode cX5_movePapers 111 = .ok (.aload 5, 2) := by decide +kernel
theorem dX5_movePapers_113 : decode cX5_movePapers 113 = .ok (.dup, 1) := by decide +kernel
theorem dX5_movePapers_114 : decode cX5_movePapers 114 = .ok (.getfield 116, 3) := by decide +kernel
theorem dX5_movePapers_117 : decode cX5_movePapers 117 = .ok (.iload_n 3, 1) := by decide +kernel
theorem dX5_movePapers_118 : decode cX5_movePapers 118 = .ok (.iadd, 1) := by decide +kernel
theorem dX5_movePapers_119 : decode cX5_movePapers 119 = .ok (.putfield 116, 3) := by decide +kernel
theorem dX5_movePapers_122 : decode cX5_movePapers 122 = .ok (.aload 4, 2) := by decide +kernel
theorem dX5_movePapers_124 : decode cX5_movePapers 124 = .ok (.getfield 116, 3) := by decide +kernel
theorem dX5_movePapers_127 : decode cX5_movePapers 127 = .ok (.ireturn, 1) := by decide +kernel
theorem dX5_spoil_0 : decode cX5_spoil 0 = .ok (.aload_n 0, 1) := by decide +kernel
theorem dX5_spoil_1 : decode cX5_spoil 1 = .ok (.getfield 12, 3) := by decide +kernel
theorem dX5_spoil_4 : decode cX5_spoil 4 = .ok (.iload_n 1, 1) := by decide +kernel
theorem dX5_spoil_5 : decode cX5_spoil 5 = .ok (.invokevirtual 62, 3) := by decide +kernel
theorem dX5_spoil_8 : decode cX5_spoil 8 = .ok (.ifCond .ne 5, 3) := by decide +kernel
theorem dX5_spoil_11 : decode cX5_spoil 11 = .ok (.iconst (-1), 1) := by decide +kernel
theorem dX5_spoil_12 : decode cX5_spoil 12 = .ok (.ireturn, 1) := by decide +kernel
theorem dX5_spoil_13 : decode cX5_spoil 13 = .ok (.iload_n 2, 1) := by decide +kernel
theorem dX5_spoil_14 : decode cX5_spoil 14 = .ok (.invokestatic 113, 3) := by decide +kernel
theorem dX5_spoil_17 : decode cX5_spoil 17 = .ok (.ifCond .ne 6, 3) := by decide +kernel
theorem dX5_spoil_20 : decode cX5_spoil 20 = .ok (.bipush (-2), 2) := by decide +kernel
theorem dX5_spoil_22 : decode cX5_spoil 22 = .ok (.ireturn, 1) := by decide +kernel
theorem dX5_spoil_23 : decode cX5_spoil 23 = .ok (.aload_n 0, 1) := by decide +kernel
theorem dX5_spoil_24 : decode cX5_spoil 24 = .ok (.getfield 12, 3) := by decide +kernel
theorem dX5_spoil_27 : decode cX5_spoil 27 = .ok (.getfield 69, 3) := by decide +kernel
theorem dX5_spoil_30 : decode cX5_spoil 30 = .ok (.iload_n 1, 1) := by decide +kernel
theorem dX5_spoil_31 : decode cX5_spoil 31 = .ok (.aaload, 1) := by decide +kernel
theorem dX5_spoil_32 : decode cX5_spoil 32 = .ok (.astore_n 3, 1) := by decide +kernel
theorem dX5_spoil_33 : decode cX5_spoil 33 = .ok (.aload_n 3, 1) := by decide +kernel
theorem dX5_spoil_34 : decode cX5_spoil 34 = .ok (.getfield 119, 3) := by decide +kernel
theorem dX5_spoil_37 : decode cX5_spoil 37 = .ok (.iload_n 2, 1) := by decide +kernel
theorem dX5_spoil_38 : decode cX5_spoil 38 = .ok (.if_icmp .lt 11, 3) := by decide +kernel
theorem dX5_spoil_41 : decode cX5_spoil 41 = .ok (.aload_n 3, 1) := by decide +kernel
theorem dX5_spoil_42 : decode cX5_spoil 42 = .ok (.getfield 116, 3) := by decide +kernel
theorem dX5_spoil_45 : decode cX5_spoil 45 = .ok (.iload_n 2, 1) := by decide +kernel
theorem dX5_spoil_46 : decode cX5_spoil 46 = .ok (.if_icmp .ge 6, 3) := by decide +kernel
theorem dX5_spoil_49 : decode cX5_spoil 49 = .ok (.bipush (-4), 2) := by decide +kernel
theorem dX5_spoil_51 : decode cX5_spoil 51 = .ok (.ireturn, 1) := by decide +kernel
theorem dX5_spoil_52 : decode cX5_spoil 52 = .ok (.aload_n 0, 1) := by decide +kernel
theorem dX5_spoil_53 : decode cX5_spoil 53 = .ok (.getfield 32, 3) := by decide +kernel
theorem dX5_spoil_56 : decode cX5_spoil 56 = .ok (.aload_n 0, 1) := by decide +kernel
theorem dX5_spoil_57 : decode cX5_spoil 57 = .ok (.getfield 12, 3) := by decide +kernel
theorem dX5_spoil_60 : decode cX5_spoil 60 = .ok (.invokevirtual 47, 3) := by decide +kernel
theorem dX5_spoil_63 : decode cX5_spoil 63 = .ok (.aload_n 3, 1) := by decide +kernel
theorem dX5_spoil_64 : decode cX5_spoil 64 = .ok (.dup, 1) := by decide +kernel
theorem dX5_spoil_65 : decode cX5_spoil 65 = .ok (.getfield 122, 3) := by decide +kernel
theorem dX5_spoil_68 : decode cX5_spoil 68 = .ok (.iload_n 2, 1) := by decide +kernel
theorem dX5_spoil_69 : decode cX5_spoil 69 = .ok (.iadd, 1) := by decide +kernel
theorem dX5_spoil_70 : decode cX5_spoil 70 = .ok (.putfield 122, 3) := by decide +kernel
theorem dX5_spoil_73 : decode cX5_spoil 73 = .ok (.aload_n 3, 1) := by decide +kernel
theorem dX5_spoil_74 : decode cX5_spoil 74 = .ok (.dup, 1) := by decide +kernel
theorem dX5_spoil_75 : decode cX5_spoil 75 = .ok (.getfield 125, 3) := by decide +kernel
theorem dX5_spoil_78 : decode cX5_spoil 78 = .ok (.iload_n 2, 1) := by decide +kernel
theorem dX5_spoil_79 : decode cX5_spoil 79 = .ok (.iadd, 1) := by decide +kernel
theorem dX5_spoil_80 : decode cX5_spoil 80 = .ok (.putfield 125, 3) := by decide +kernel
theorem dX5_spoil_83 : decode cX5_spoil 83 = .ok (.aload_n 3, 1) := by decide +kernel
theorem dX5_spoil_84 : decode cX5_spoil 84 = .ok (.dup, 1) := by decide +kernel
theorem dX5_spoil_85 : decode cX5_spoil 85 = .ok (.getfield 116, 3) := by decide +kernel
theorem dX5_spoil_88 : decode cX5_spoil 88 = .ok (.iload_n 2, 1) := by decide +kernel
theorem dX5_spoil_89 : decode cX5_spoil 89 = .ok (.isub, 1) := by decide +kernel
theorem dX5_spoil_90 : decode cX5_spoil 90 = .ok (.putfield 116, 3) := by decide +kernel
theorem dX5_spoil_93 : decode cX5_spoil 93 = .ok (.aload_n 3, 1) := by decide +kernel
theorem dX5_spoil_94 : decode cX5_spoil 94 = .ok (.getfield 116, 3) := by decide +kernel
theorem dX5_spoil_97 : decode cX5_spoil 97 = .ok (.ireturn, 1) := by decide +kernel
theorem dX5_carryOff_0 : decode cX5_carryOff 0 = .ok (.aload_n 0, 1) := by decide +kernel
theorem dX5_carryOff_1 : decode cX5_carryOff 1 = .ok (.getfield 12, 3) := by decide +kernel
theorem dX5_carryOff_4 : decode cX5_carryOff 4 = .ok (.iload_n 1, 1) := by decide +kernel
theorem dX5_carryOff_5 : decode cX5_carryOff 5 = .ok (.invokevirtual 62, 3) := by decide +kernel
theorem dX5_carryOff_8 : decode cX5_carryOff 8 = .ok (.ifCond .ne 5, 3) := by decide +kernel
theorem dX5_carryOff_11 : decode cX5_carryOff 11 = .ok (.iconst (-1), 1) := by decide +kernel
theorem dX5_carryOff_12 : decode cX5_carryOff 12 = .ok (.ireturn, 1) := by decide +kernel
theorem dX5_carryOff_13 : decode cX5_carryOff 13 = .ok (.iload_n 2, 1) := by decide +kernel
theorem dX5_carryOff_14 : decode cX5_carryOff 14 = .ok (.invokestatic 113, 3) := by decide +kernel
theorem dX5_carryOff_17 : decode cX5_carryOff 17 = .ok (.ifCond .ne 6, 3) := by decide +kernel
theorem dX5_carryOff_20 : decode cX5_carryOff 20 = .ok (.bipush (-2), 2) := by decide +kernel
theorem dX5_carryOff_22 : decode cX5_carryOff 22 = .ok (.ireturn, 1) := by decide +kernel
theorem dX5_carryOff_23 : decode cX5_carryOff 23 = .ok (.aload_n 0, 1) := by decide +kernel
theorem dX5_carryOff_24 : decode cX5_carryOff 24 = .ok (.getfield 12, 3) := by decide +kernel
theorem dX5_carryOff_27 : decode cX5_carryOff 27 = .ok (.getfield 69, 3) := by decide +kernel
theorem dX5_carryOff_30 : decode cX5_carryOff 30 = .ok (.iload_n 1, 1) := by decide +kernel
theorem dX5_carryOff_31 : decode cX5_carryOff 31 = .ok (.aaload, 1) := by decide +kernel
theorem dX5_carryOff_32 : decode cX5_carryOff 32 = .ok (.astore_n 3, 1) := by decide +kernel
theorem dX5_carryOff_33 : decode cX5_carryOff 33 = .ok (.aload_n 3, 1) := by decide +kernel
theorem dX5_carryOff_34 : decode cX5_carryOff 34 = .ok (.getfield 119, 3) := by decide +kernel
theorem dX5_carryOff_37 : decode cX5_carryOff 37 = .ok (.iload_n 2, 1) := by decide +kernel
theorem dX5_carryOff_38 : decode cX5_carryOff 38 = .ok (.if_icmp .ge 6, 3) := by decide +kernel
theorem dX5_carryOff_41 : decode cX5_carryOff 41 = .ok (.bipush (-4), 2) := by decide +kernel
theorem dX5_carryOff_43 : decode cX5_carryOff 43 = .ok (.ireturn, 1) := by decide +kernel
theorem dX5_carryOff_44 : decode cX5_carryOff 44 = .ok (.aload_n 0, 1) := by decide +kernel
theorem dX5_carryOff_45 : decode cX5_carryOff 45 = .ok (.getfield 32, 3) := by decide +kernel
theorem dX5_carryOff_48 : decode cX5_carryOff 48 = .ok (.aload_n 0, 1) := by decide +kernel
theorem dX5_carryOff_49 : decode cX5_carryOff 49 = .ok (.getfield 12, 3) := by decide +kernel
theorem dX5_carryOff_52 : decode cX5_carryOff 52 = .ok (.invokevirtual 47, 3) := by decide +kernel
theorem dX5_carryOff_55 : decode cX5_carryOff 55 = .ok (.aload_n 3, 1) := by decide +kernel
theorem dX5_carryOff_56 : decode cX5_carryOff 56 = .ok (.dup, 1) := by decide +kernel
theorem dX5_carryOff_57 : decode cX5_carryOff 57 = .ok (.getfield 119, 3) := by decide +kernel
theorem dX5_carryOff_60 : decode cX5_carryOff 60 = .ok (.iload_n 2, 1) := by decide +kernel
theorem dX5_carryOff_61 : decode cX5_carryOff 61 = .ok (.isub, 1) := by decide +kernel
theorem dX5_carryOff_62 : decode cX5_carryOff 62 = .ok (.putfield 119, 3) := by decide +kernel
theorem dX5_carryOff_65 : decode cX5_carryOff 65 = .ok (.aload_n 3, 1) := by decide +kernel
theorem dX5_carryOff_66 : decode cX5_carryOff 66 = .ok (.dup, 1) := by decide +kernel
theorem dX5_carryOff_67 : decode cX5_carryOff 67 = .ok (.getfield 128, 3) := by decide +kernel
theorem dX5_carryOff_70 : decode cX5_carryOff 70 = .ok (.iload_n 2, 1) := by decide +kernel
theorem dX5_carryOff_71 : decode cX5_carryOff 71 = .ok (.iadd, 1) := by decide +kernel
theorem dX5_carryOff_72 : decode cX5_carryOff 72 = .ok (.putfield 128, 3) := by decide +kernel
theorem dX5_carryOff_75 : decode cX5_carryOff 75 = .ok (.aload_n 3, 1) := by decide +kernel
theorem dX5_carryOff_76 : decode cX5_carryOff 76 = .ok (.getfield 119, 3) := by decide +kernel
theorem dX5_carryOff_79 : decode cX5_carryOff 79 = .ok (.ireturn, 1) := by decide +kernel
theorem dX5_find_0 : decode cX5_find 0 = .ok (.aload_n 0, 1) := by decide +kernel
theorem dX5_find_1 : decode cX5_find 1 = .ok (.getfield 12, 3) := by decide +kernel
theorem dX5_find_4 : decode cX5_find 4 = .ok (.iload_n 1, 1) := by decide +kernel
theorem dX5_find_5 : decode cX5_find 5 = .ok (.invokevirtual 62, 3) := by decide +kernel
theorem dX5_find_8 : decode cX5_find 8 = .ok (.ifCond .ne 5, 3) := by decide +kernel
theorem dX5_find_11 : decode cX5_find 11 = .ok (.iconst (-1), 1) := by decide +kernel
theorem dX5_find_12 : decode cX5_find 12 = .ok (.ireturn, 1) := by decide +kernel
theorem dX5_find_13 : decode cX5_find 13 = .ok (.iload_n 2, 1) := by decide +kernel
theorem dX5_find_14 : decode cX5_find 14 = .ok (.invokestatic 113, 3) := by decide +kernel
theorem dX5_find_17 : decode cX5_find 17 = .ok (.ifCond .ne 6, 3) := by decide +kernel
theorem dX5_find_20 : decode cX5_find 20 = .ok (.bipush (-2), 2) := by decide +kernel
theorem dX5_find_22 : decode cX5_find 22 = .ok (.ireturn, 1) := by decide +kernel
theorem dX5_find_23 : decode cX5_find 23 = .ok (.aload_n 0, 1) := by decide +kernel
theorem dX5_find_24 : decode cX5_find 24 = .ok (.getfield 12, 3) := by decide +kernel
theorem dX5_find_27 : decode cX5_find 27 = .ok (.getfield 69, 3) := by decide +kernel
theorem dX5_find_30 : decode cX5_find 30 = .ok (.iload_n 1, 1) := by decide +kernel
theorem dX5_find_31 : decode cX5_find 31 = .ok (.aaload, 1) := by decide +kernel
theorem dX5_find_32 : decode cX5_find 32 = .ok (.astore_n 3, 1) := by decide +kernel
theorem dX5_find_33 : decode cX5_find 33 = .ok (.aload_n 3, 1) := by decide +kernel
theorem dX5_find_34 : decode cX5_find 34 = .ok (.getfield 128, 3) := by decide +kernel
theorem dX5_find_37 : decode cX5_find 37 = .ok (.iload_n 2, 1) := by decide +kernel
theorem dX5_find_38 : decode cX5_find 38 = .ok (.if_icmp .ge 6, 3) := by decide +kernel
theorem dX5_find_41 : decode cX5_find 41 = .ok (.bipush (-4), 2) := by decide +kernel
theorem dX5_find_43 : decode cX5_find 43 = .ok (.ireturn, 1) := by decide +kernel
theorem dX5_find_44 : decode cX5_find 44 = .ok (.aload_n 0, 1) := by decide +kernel
theorem dX5_find_45 : decode cX5_find 45 = .ok (.getfield 32, 3) := by decide +kernel
theorem dX5_find_48 : decode cX5_find 48 = .ok (.aload_n 0, 1) := by decide +kernel
theorem dX5_find_49 : decode cX5_find 49 = .ok (.getfield 12, 3) := by decide +kernel
theorem dX5_find_52 : decode cX5_find 52 = .ok (.invokevirtual 47, 3) := by decide +kernel
theorem dX5_find_55 : decode cX5_find 55 = .ok (.aload_n 3, 1) := by decide +kernel
theorem dX5_find_56 : decode cX5_find 56 = .ok (.dup, 1) := by decide +kernel
theorem dX5_find_57 : decode cX5_find 57 = .ok (.getfield 128, 3) := by decide +kernel
theorem dX5_find_60 : decode cX5_find 60 = .ok (.iload_n 2, 1) := by decide +kernel
theorem dX5_find_61 : decode cX5_find 61 = .ok (.isub, 1) := by decide +kernel
theorem dX5_find_62 : decode cX5_find 62 = .ok (.putfield 128, 3) := by decide +kernel
theorem dX5_find_65 : decode cX5_find 65 = .ok (.aload_n 3, 1) := by decide +kernel
theorem dX5_find_66 : decode cX5_find 66 = .ok (.dup, 1) := by decide +kernel
theorem dX5_find_67 : decode cX5_find 67 = .ok (.getfield 131, 3) := by decide +kernel
theorem dX5_find_70 : decode cX5_find 70 = .ok (.iload_n 2, 1) := by decide +kernel
theorem dX5_find_71 : decode cX5_find 71 = .ok (.iadd, 1) := by decide +kernel
theorem dX5_find_72 : decode cX5_find 72 = .ok (.putfield 131, 3) := by decide +kernel
theorem dX5_find_75 : decode cX5_find 75 = .ok (.aload_n 3, 1) := by decide +kernel
theorem dX5_find_76 : decode cX5_find 76 = .ok (.getfield 128, 3) := by decide +kernel
theorem dX5_find_79 : decode cX5_find 79 = .ok (.ireturn, 1) := by decide +kernel
theorem dX5_countBox_0 : decode cX5_countBox 0 = .ok (.aload_n 0, 1) := by decide +kernel
theorem dX5_countBox_1 : decode cX5_countBox 1 = .ok (.getfield 12, 3) := by decide +kernel
theorem dX5_countBox_4 : decode cX5_countBox 4 = .ok (.iload_n 1, 1) := by decide +kernel
theorem dX5_countBox_5 : decode cX5_countBox 5 = .ok (.invokevirtual 62, 3) := by decide +kernel
theorem dX5_countBox_8 : decode cX5_countBox 8 = .ok (.ifCond .ne 5, 3) := by decide +kernel
theorem dX5_countBox_11 : decode cX5_countBox 11 = .ok (.iconst (-1), 1) := by decide +kernel
theorem dX5_countBox_12 : decode cX5_countBox 12 = .ok (.ireturn, 1) := by decide +kernel
theorem dX5_countBox_13 : decode cX5_countBox 13 = .ok (.iload_n 2, 1) := by decide +kernel
theorem dX5_countBox_14 : decode cX5_countBox 14 = .ok (.iconst 0, 1) := by decide +kernel
theorem dX5_countBox_15 : decode cX5_countBox 15 = .ok (.ldc 134, 2) := by decide +kernel
theorem dX5_countBox_17 : decode cX5_countBox 17 = .ok (.invokestatic 51, 3) := by decide +kernel
theorem dX5_countBox_20 : decode cX5_countBox 20 = .ok (.ifCond .ne 6, 3) := by decide +kernel
theorem dX5_countBox_23 : decode cX5_countBox 23 = .ok (.bipush (-2), 2) := by decide +kernel
theorem dX5_countBox_25 : decode cX5_countBox 25 = .ok (.ireturn, 1) := by decide +kernel
theorem dX5_countBox_26 : decode cX5_countBox 26 = .ok (.aload_n 0, 1) := by decide +kernel
theorem dX5_countBox_27 : decode cX5_countBox 27 = .ok (.getfield 12, 3) := by decide +kernel
theorem dX5_countBox_30 : decode cX5_countBox 30 = .ok (.getfield 69, 3) := by decide +kernel
theorem dX5_countBox_33 : decode cX5_countBox 33 = .ok (.iload_n 1, 1) := by decide +kernel
theorem dX5_countBox_34 : decode cX5_countBox 34 = .ok (.aaload, 1) := by decide +kernel
theorem dX5_countBox_35 : decode cX5_countBox 35 = .ok (.astore_n 3, 1) := by decide +kernel
theorem dX5_countBox_36 : decode cX5_countBox 36 = .ok (.aload_n 0, 1) := by decide +kernel
theorem dX5_countBox_37 : decode cX5_countBox 37 = .ok (.getfield 12, 3) := by decide +kernel
theorem dX5_countBox_40 : decode cX5_countBox 40 = .ok (.getfield 107, 3) := by decide +kernel
theorem dX5_countBox_43 : decode cX5_countBox 43 = .ok (.bipush 15, 2) := by decide +kernel
theorem dX5_countBox_45 : decode cX5_countBox 45 = .ok (.if_icmp .lt 10, 3) := by decide +kernel
theorem dX5_countBox_48 : decode cX5_countBox 48 = .ok (.aload_n 3, 1) := by decide +kernel
theorem dX5_countBox_49 : decode cX5_countBox 49 = .ok (.getfield 135, 3) := by decide +kernel
theorem dX5_countBox_52 : decode cX5_countBox 52 = .ok (.ifCond .le 6, 3) := by decide +kernel
theorem dX5_countBox_55 : decode cX5_countBox 55 = .ok (.bipush (-4), 2) := by decide +kernel
theorem dX5_countBox_57 : decode cX5_countBox 57 = .ok (.ireturn, 1) := by decide +kernel
theorem dX5_countBox_58 : decode cX5_countBox 58 = .ok (.aload_n 3, 1) := by decide +kernel
theorem dX5_countBox_59 : decode cX5_countBox 59 = .ok (.getfield 138, 3) := by decide +kernel
theorem dX5_countBox_62 : decode cX5_countBox 62 = .ok (.iconst 3, 1) := by decide +kernel
theorem dX5_countBox_63 : decode cX5_countBox 63 = .ok (.if_icmp .lt 6, 3) := by decide +kernel
theorem dX5_countBox_66 : decode cX5_countBox 66 = .ok (.bipush (-3), 2) := by decide +kernel
theorem dX5_countBox_68 : decode cX5_countBox 68 = .ok (.ireturn, 1) := by decide +kernel
theorem dX5_countBox_69 : decode cX5_countBox 69 = .ok (.aload_n 0, 1) := by decide +kernel
theorem dX5_countBox_70 : decode cX5_countBox 70 = .ok (.getfield 32, 3) := by decide +kernel
theorem dX5_countBox_73 : decode cX5_countBox 73 = .ok (.aload_n 0, 1) := by decide +kernel
theorem dX5_countBox_74 : decode cX5_countBox 74 = .ok (.getfield 12, 3) := by decide +kernel
theorem dX5_countBox_77 : decode cX5_countBox 77 = .ok (.invokevirtual 47, 3) := by decide +kernel
theorem dX5_countBox_80 : decode cX5_countBox 80 = .ok (.aload_n 3, 1) := by decide +kernel
theorem dX5_countBox_81 : decode cX5_countBox 81 = .ok (.iload_n 2, 1) := by decide +kernel
theorem dX5_countBox_82 : decode cX5_countBox 82 = .ok (.putfield 141, 3) := by decide +kernel
theorem dX5_countBox_85 : decode cX5_countBox 85 = .ok (.aload_n 3, 1) := by decide +kernel
theorem dX5_countBox_86 : decode cX5_countBox 86 = .ok (.dup, 1) := by decide +kernel
theorem dX5_countBox_87 : decode cX5_countBox 87 = .ok (.getfield 138, 3) := by decide +kernel
theorem dX5_countBox_90 : decode cX5_countBox 90 = .ok (.iconst 1, 1) := by decide +kernel
theorem dX5_countBox_91 : decode cX5_countBox 91 = .ok (.iadd, 1) := by decide +kernel
theorem dX5_countBox_92 : decode cX5_countBox 92 = .ok (.putfield 138, 3) := by decide +kernel
theorem dX5_countBox_95 : decode cX5_countBox 95 = .ok (.aload_n 3, 1) := by decide +kernel
theorem dX5_countBox_96 : decode cX5_countBox 96 = .ok (.getfield 138, 3) := by decide +kernel
theorem dX5_countBox_99 : decode cX5_countBox 99 = .ok (.ireturn, 1) := by decide +kernel
theorem dX5_readArrivals_0 : decode cX5_readArrivals 0 = .ok (.aload_n 0, 1) := by decide +kernel
theorem dX5_readArrivals_1 : decode cX5_readArrivals 1 = .ok (.getfield 12, 3) := by decide +kernel
theorem dX5_readArrivals_4 : decode cX5_readArrivals 4 = .ok (.iload_n 1, 1) := by decide +kernel
theorem dX5_readArrivals_5 : decode cX5_readArrivals 5 = .ok (.invokevirtual 62, 3) := by decide +kernel
theorem dX5_readArrivals_8 : decode cX5_readArrivals 8 = .ok (.ifCond .ne 5, 3) := by decide +kernel
theorem dX5_readArrivals_11 : decode cX5_readArrivals 11 = .ok (.iconst (-1), 1) := by decide +kernel
theorem dX5_readArrivals_12 : decode cX5_readArrivals 12 = .ok (.ireturn, 1) := by decide +kernel
theorem dX5_readArrivals_13 : decode cX5_readArrivals 13 = .ok (.aload_n 0, 1) := by decide +kernel
theorem dX5_readArrivals_14 : decode cX5_readArrivals 14 = .ok (.iload_n 2, 1) := by decide +kernel
theorem dX5_readArrivals_15 : decode cX5_readArrivals 15 = .ok (.invokevirtual 66, 3) := by decide +kernel
theorem dX5_readArrivals_18 : decode cX5_readArrivals 18 = .ok (.ifCond .ne 6, 3) := by decide +kernel
theorem dX5_readArrivals_21 : decode cX5_readArrivals 21 = .ok (.bipush (-2), 2) := by decide +kernel
theorem dX5_readArrivals_23 : decode cX5_readArrivals 23 = .ok (.ireturn, 1) := by decide +kernel
theorem dX5_readArrivals_24 : decode cX5_readArrivals 24 = .ok (.aload_n 0, 1) := by decide +kernel
theorem dX5_readArrivals_25 : decode cX5_readArrivals 25 = .ok (.getfield 39, 3) := by decide +kernel
theorem dX5_readArrivals_28 : decode cX5_readArrivals 28 = .ok (.invokevirtual 151, 3) := by decide +kernel
theorem dX5_readArrivals_31 : decode cX5_readArrivals 31 = .ok (.istore_n 3, 1) := by decide +kernel
theorem dX5_readArrivals_32 : decode cX5_readArrivals 32 = .ok (.iload_n 3, 1) := by decide +kernel
theorem dX5_readArrivals_33 : decode cX5_readArrivals 33 = .ok (.iconst (-1), 1) := by decide +kernel
theorem dX5_readArrivals_34 : decode cX5_readArrivals 34 = .ok (.if_icmp .eq 8, 3) := by decide +kernel
theorem dX5_readArrivals_37 : decode cX5_readArrivals 37 = .ok (.bipush (-100), 2) := by decide +kernel
theorem dX5_readArrivals_39 : decode cX5_readArrivals 39 = .ok (.iload_n 3, 1) := by decide +kernel
theorem dX5_readArrivals_40 : decode cX5_readArrivals 40 = .ok (.isub, 1) := by decide +kernel
theorem dX5_readArrivals_41 : decode cX5_readArrivals 41 = .ok (.ireturn, 1) := by decide +kernel
theorem dX5_readArrivals_42 : decode cX5_readArrivals 42 = .ok (.aload_n 0, 1) := by decide +kernel
theorem dX5_readArrivals_43 : decode cX5_readArrivals 43 = .ok (.getfield 39, 3) := by decide +kernel
theorem dX5_readArrivals_46 : decode cX5_readArrivals 46 = .ok (.invokevirtual 155, 3) := by decide +kernel
theorem dX5_readArrivals_49 : decode cX5_readArrivals 49 = .ok (.istore 4, 2) := by decide +kernel
theorem dX5_readArrivals_51 : decode cX5_readArrivals 51 = .ok (.aload_n 0, 1) := by decide +kernel
theorem dX5_readArrivals_52 : decode cX5_readArrivals 52 = .ok (.getfield 39, 3) := by decide +kernel
theorem dX5_readArrivals_55 : decode cX5_readArrivals 55 = .ok (.iload 4, 2) := by decide +kernel
theorem dX5_readArrivals_57 : decode cX5_readArrivals 57 = .ok (.invokevirtual 158, 3) := by decide +kernel
theorem dX5_readArrivals_60 : decode cX5_readArrivals 60 = .ok (.sipush 500, 3) := by decide +kernel
theorem dX5_readArrivals_63 : decode cX5_readArrivals 63 = .ok (.if_icmp .le 6, 3) := by decide +kernel
theorem dX5_readArrivals_66 : decode cX5_readArrivals 66 = .ok (.bipush (-2), 2) := by decide +kernel
theorem dX5_readArrivals_68 : decode cX5_readArrivals 68 = .ok (.ireturn, 1) := by decide +kernel
theorem dX5_readArrivals_69 : decode cX5_readArrivals 69 = .ok (.iload_n 2, 1) := by decide +kernel
theorem dX5_readArrivals_70 : decode cX5_readArrivals 70 = .ok (.iload 4, 2) := by decide +kernel
theorem dX5_readArrivals_72 : decode cX5_readArrivals 72 = .ok (.iadd, 1) := by decide +kernel
theorem dX5_readArrivals_73 : decode cX5_readArrivals 73 = .ok (.bipush 15, 2) := by decide +kernel
theorem dX5_readArrivals_75 : decode cX5_readArrivals 75 = .ok (.if_icmp .le 6, 3) := by decide +kernel
theorem dX5_readArrivals_78 : decode cX5_readArrivals 78 = .ok (.bipush (-3), 2) := by decide +kernel
theorem dX5_readArrivals_80 : decode cX5_readArrivals 80 = .ok (.ireturn, 1) := by decide +kernel
theorem dX5_readArrivals_81 : decode cX5_readArrivals 81 = .ok (.aload_n 0, 1) := by decide +kernel
theorem dX5_readArrivals_82 : decode cX5_readArrivals 82 = .ok (.getfield 32, 3) := by decide +kernel
theorem dX5_readArrivals_85 : decode cX5_readArrivals 85 = .ok (.aload_n 0, 1) := by decide +kernel
theorem dX5_readArrivals_86 : decode cX5_readArrivals 86 = .ok (.getfield 12, 3) := by decide +kernel
theorem dX5_readArrivals_89 : decode cX5_readArrivals 89 = .ok (.invokevirtual 47, 3) := by decide +kernel
theorem dX5_readArrivals_92 : decode cX5_readArrivals 92 = .ok (.aload_n 0, 1) := by decide +kernel
theorem dX5_readArrivals_93 : decode cX5_readArrivals 93 = .ok (.getfield 39, 3) := by decide +kernel
theorem dX5_readArrivals_96 : decode cX5_readArrivals 96 = .ok (.getfield 161, 3) := by decide +kernel
theorem dX5_readArrivals_99 : decode cX5_readArrivals 99 = .ok (.iconst 0, 1) := by decide +kernel
theorem dX5_readArrivals_100 : decode cX5_readArrivals 100 = .ok (.aload_n 0, 1) := by decide +kernel
theorem dX5_readArrivals_101 : decode cX5_readArrivals 101 = .ok (.getfield 12, 3) := by decide +kernel
theorem dX5_readArrivals_104 : decode cX5_readArrivals 104 = .ok (.getfield 69, 3) := by decide +kernel
theorem dX5_readArrivals_107 : decode cX5_readArrivals 107 = .ok (.iload_n 1, 1) := by decide +kernel
theorem dX5_readArrivals_108 : decode cX5_readArrivals 108 = .ok (.aaload, 1) := by decide +kernel
theorem dX5_readArrivals_109 : decode cX5_readArrivals 109 = .ok (.getfield 73, 3) := by decide +kernel
theorem dX5_readArrivals_112 : decode cX5_readArrivals 112 = .ok (.iload_n 2, 1) := by decide +kernel
theorem dX5_readArrivals_113 : decode cX5_readArrivals 113 = .ok (.iload 4, 2) := by decide +kernel
theorem dX5_readArrivals_115 : decode cX5_readArrivals 115 = .ok (.invokestatic 164, 3) := by decide +kernel
theorem dX5_readArrivals_118 : decode cX5_readArrivals 118 = .ok (.iload 4, 2) := by decide +kernel
theorem dX5_readArrivals_120 : decode cX5_readArrivals 120 = .ok (.ireturn, 1) := by decide +kernel
theorem dX5_undo_0 : decode cX5_undo 0 = .ok (.aload_n 0, 1) := by decide +kernel
theorem dX5_undo_1 : decode cX5_undo 1 = .ok (.getfield 32, 3) := by decide +kernel
theorem dX5_undo_4 : decode cX5_undo 4 = .ok (.getfield 170, 3) := by decide +kernel
theorem dX5_undo_7 : decode cX5_undo 7 = .ok (.ifCond .gt 6, 3) := by decide +kernel
theorem dX5_undo_10 : decode cX5_undo 10 = .ok (.bipush (-5), 2) := by decide +kernel
theorem dX5_undo_12 : decode cX5_undo 12 = .ok (.ireturn, 1) := by decide +kernel
theorem dX5_undo_13 : decode cX5_undo 13 = .ok (.aload_n 0, 1) := by decide +kernel
theorem dX5_undo_14 : decode cX5_undo 14 = .ok (.getfield 32, 3) := by decide +kernel
theorem dX5_undo_17 : decode cX5_undo 17 = .ok (.aload_n 0, 1) := by decide +kernel
theorem dX5_undo_18 : decode cX5_undo 18 = .ok (.getfield 12, 3) := by decide +kernel
theorem dX5_undo_21 : decode cX5_undo 21 = .ok (.invokevirtual 173, 3) := by decide +kernel
theorem dX5_undo_24 : decode cX5_undo 24 = .ok (.aload_n 0, 1) := by decide +kernel
theorem dX5_undo_25 : decode cX5_undo 25 = .ok (.getfield 32, 3) := by decide +kernel
theorem dX5_undo_28 : decode cX5_undo 28 = .ok (.getfield 170, 3) := by decide +kernel
theorem dX5_undo_31 : decode cX5_undo 31 = .ok (.ireturn, 1) := by decide +kernel
theorem dX5_keep_0 : decode cX5_keep 0 = .ok (.aload_n 0, 1) := by decide +kernel
theorem dX5_keep_1 : decode cX5_keep 1 = .ok (.getfield 19, 3) := by decide +kernel
theorem dX5_keep_4 : decode cX5_keep 4 = .ok (.aload_n 0, 1) := by decide +kernel
theorem dX5_keep_5 : decode cX5_keep 5 = .ok (.getfield 12, 3) := by decide +kernel
theorem dX5_keep_8 : decode cX5_keep 8 = .ok (.invokevirtual 176, 3) := by decide +kernel
theorem dX5_keep_11 : decode cX5_keep 11 = .ok (.aload_n 0, 1) := by decide +kernel
theorem dX5_keep_12 : decode cX5_keep 12 = .ok (.iconst 1, 1) := by decide +kernel
theorem dX5_keep_13 : decode cX5_keep 13 = .ok (.putfield 179, 3) := by decide +kernel
theorem dX5_keep_16 : decode cX5_keep 16 = .ok (.aload_n 0, 1) := by decide +kernel
theorem dX5_keep_17 : decode cX5_keep 17 = .ok (.getfield 12, 3) := by decide +kernel
theorem dX5_keep_20 : decode cX5_keep 20 = .ok (.getfield 107, 3) := by decide +kernel
theorem dX5_keep_23 : decode cX5_keep 23 = .ok (.ireturn, 1) := by decide +kernel
theorem dX5_restore_0 : decode cX5_restore 0 = .ok (.aload_n 0, 1) := by decide +kernel
theorem dX5_restore_1 : decode cX5_restore 1 = .ok (.getfield 179, 3) := by decide +kernel
theorem dX5_restore_4 : decode cX5_restore 4 = .ok (.ifCond .ne 6, 3) := by decide +kernel
theorem dX5_restore_7 : decode cX5_restore 7 = .ok (.bipush (-5), 2) := by decide +kernel
theorem dX5_restore_9 : decode cX5_restore 9 = .ok (.ireturn, 1) := by decide +kernel
theorem dX5_restore_10 : decode cX5_restore 10 = .ok (.aload_n 0, 1) := by decide +kernel
theorem dX5_restore_11 : decode cX5_restore 11 = .ok (.getfield 32, 3) := by decide +kernel
theorem dX5_restore_14 : decode cX5_restore 14 = .ok (.aload_n 0, 1) := by decide +kernel
theorem dX5_restore_15 : decode cX5_restore 15 = .ok (.getfield 12, 3) := by decide +kernel
theorem dX5_restore_18 : decode cX5_restore 18 = .ok (.invokevirtual 47, 3) := by decide +kernel
theorem dX5_restore_21 : decode cX5_restore 21 = .ok (.aload_n 0, 1) := by decide +kernel
theorem dX5_restore_22 : decode cX5_restore 22 = .ok (.getfield 12, 3) := by decide +kernel
theorem dX5_restore_25 : decode cX5_restore 25 = .ok (.aload_n 0, 1) := by decide +kernel
theorem dX5_restore_26 : decode cX5_restore 26 = .ok (.getfield 19, 3) := by decide +kernel
theorem dX5_restore_29 : decode cX5_restore 29 = .ok (.invokevirtual 176, 3) := by decide +kernel
theorem dX5_restore_32 : decode cX5_restore 32 = .ok (.aload_n 0, 1) := by decide +kernel
theorem dX5_restore_33 : decode cX5_restore 33 = .ok (.getfield 12, 3) := by decide +kernel
theorem dX5_restore_36 : decode cX5_restore 36 = .ok (.getfield 107, 3) := by decide +kernel
theorem dX5_restore_39 : decode cX5_restore 39 = .ok (.ireturn, 1) := by decide +kernel
theorem dX5_station_0 : decode cX5_station 0 = .ok (.aload_n 0, 1) := by decide +kernel
theorem dX5_station_1 : decode cX5_station 1 = .ok (.getfield 12, 3) := by decide +kernel
theorem dX5_station_4 : decode cX5_station 4 = .ok (.iload_n 1, 1) := by decide +kernel
theorem dX5_station_5 : decode cX5_station 5 = .ok (.invokevirtual 62, 3) := by decide +kernel
theorem dX5_station_8 : decode cX5_station 8 = .ok (.ifCond .ne 5, 3) := by decide +kernel
theorem dX5_station_11 : decode cX5_station 11 = .ok (.iconst (-1), 1) := by decide +kernel
theorem dX5_station_12 : decode cX5_station 12 = .ok (.ireturn, 1) := by decide +kernel
theorem dX5_station_13 : decode cX5_station 13 = .ok (.aload_n 0, 1) := by decide +kernel
theorem dX5_station_14 : decode cX5_station 14 = .ok (.getfield 12, 3) := by decide +kernel
theorem dX5_station_17 : decode cX5_station 17 = .ok (.getfield 69, 3) := by decide +kernel
theorem dX5_station_20 : decode cX5_station 20 = .ok (.iload_n 1, 1) := by decide +kernel
theorem dX5_station_21 : decode cX5_station 21 = .ok (.aaload, 1) := by decide +kernel
theorem dX5_station_22 : decode cX5_station 22 = .ok (.astore_n 3, 1) := by decide +kernel
theorem dX5_station_23 : decode cX5_station 23 = .ok (.iload_n 2, 1) := by decide +kernel
theorem dX5_station_24 : decode cX5_station 24 = .ok (.tableswitch 100 0 7 #[48, 53, 58, 63, 68, 77, 86, 91], 48) := by decide +kernel
theorem dX5_station_72 : decode cX5_station 72 = .ok (.aload_n 3, 1) := by decide +kernel
theorem dX5_station_73 : decode cX5_station 73 = .ok (.getfield 135, 3) := by decide +kernel
theorem dX5_station_76 : decode cX5_station 76 = .ok (.ireturn, 1) := by decide +kernel
theorem dX5_station_77 : decode cX5_station 77 = .ok (.aload_n 3, 1) := by decide +kernel
theorem dX5_station_78 : decode cX5_station 78 = .ok (.getfield 183, 3) := by decide +kernel
theorem dX5_station_81 : decode cX5_station 81 = .ok (.ireturn, 1) := by decide +kernel
theorem dX5_station_82 : decode cX5_station 82 = .ok (.aload_n 3, 1) := by decide +kernel
theorem dX5_station_83 : decode cX5_station 83 = .ok (.getfield 186, 3) := by decide +kernel
theorem dX5_station_86 : decode cX5_station 86 = .ok (.ireturn, 1) := by decide +kernel
theorem dX5_station_87 : decode cX5_station 87 = .ok (.aload_n 3, 1) := by decide +kernel
theorem dX5_station_88 : decode cX5_station 88 = .ok (.getfield 189, 3) := by decide +kernel
theorem dX5_station_91 : decode cX5_station 91 = .ok (.ireturn, 1) := by decide +kernel
theorem dX5_station_92 : decode cX5_station 92 = .ok (.aload_n 0, 1) := by decide +kernel
theorem dX5_station_93 : decode cX5_station 93 = .ok (.getfield 12, 3) := by decide +kernel
theorem dX5_station_96 : decode cX5_station 96 = .ok (.iload_n 1, 1) := by decide +kernel
theorem dX5_station_97 : decode cX5_station 97 = .ok (.invokevirtual 94, 3) := by decide +kernel
theorem dX5_station_100 : decode cX5_station 100 = .ok (.ireturn, 1) := by decide +kernel
theorem dX5_station_101 : decode cX5_station 101 = .ok (.aload_n 0, 1) := by decide +kernel
theorem dX5_station_102 : decode cX5_station 102 = .ok (.getfield 12, 3) := by decide +kernel
theorem dX5_station_105 : decode cX5_station 105 = .ok (.iload_n 1, 1) := by decide +kernel
theorem dX5_station_106 : decode cX5_station 106 = .ok (.invokevirtual 192, 3) := by decide +kernel
theorem dX5_station_109 : decode cX5_station 109 = .ok (.ireturn, 1) := by decide +kernel
theorem dX5_station_110 : decode cX5_station 110 = .ok (.aload_n 3, 1) := by decide +kernel
theorem dX5_station_111 : decode cX5_station 111 = .ok (.invokevirtual 195, 3) := by decide +kernel
theorem dX5_station_114 : decode cX5_station 114 = .ok (.ireturn, 1) := by decide +kernel
theorem dX5_station_115 : decode cX5_station 115 = .ok (.aload_n 0, 1) := by decide +kernel
theorem dX5_station_116 : decode cX5_station 116 = .ok (.getfield 12, 3) := by decide +kernel
theorem dX5_station_119 : decode cX5_station 119 = .ok (.iload_n 1, 1) := by decide +kernel
theorem dX5_station_120 : decode cX5_station 120 = .ok (.invokevirtual 198, 3) := by decide +kernel
theorem dX5_station_123 : decode cX5_station 123 = .ok (.ireturn, 1) := by decide +kernel
theorem dX5_station_124 : decode cX5_station 124 = .ok (.bipush (-2), 2) := by decide +kernel
theorem dX5_station_126 : decode cX5_station 126 = .ok (.ireturn, 1) := by decide +kernel
theorem dX5_papers_0 : decode cX5_papers 0 = .ok (.aload_n 0, 1) := by decide +kernel
theorem dX5_papers_1 : decode cX5_papers 1 = .ok (.getfield 12, 3) := by decide +kernel
theorem dX5_papers_4 : decode cX5_papers 4 = .ok (.iload_n 1, 1) := by decide +kernel
theorem dX5_papers_5 : decode cX5_papers 5 = .ok (.invokevirtual 62, 3) := by decide +kernel
theorem dX5_papers_8 : decode cX5_papers 8 = .ok (.ifCond .ne 5, 3) := by decide +kernel
theorem dX5_papers_11 : decode cX5_papers 11 = .ok (.iconst (-1), 1) := by decide +kernel
theorem dX5_papers_12 : decode cX5_papers 12 = .ok (.ireturn, 1) := by decide +kernel
theorem dX5_papers_13 : decode cX5_papers 13 = .ok (.aload_n 0, 1) := by decide +kernel
theorem dX5_papers_14 : decode cX5_papers 14 = .ok (.getfield 12, 3) := by decide +kernel
theorem dX5_papers_17 : decode cX5_papers 17 = .ok (.getfield 69, 3) := by decide +kernel
theorem dX5_papers_20 : decode cX5_papers 20 = .ok (.iload_n 1, 1) := by decide +kernel
theorem dX5_papers_21 : decode cX5_papers 21 = .ok (.aaload, 1) := by decide +kernel
theorem dX5_papers_22 : decode cX5_papers 22 = .ok (.astore_n 3, 1) := by decide +kernel
theorem dX5_papers_23 : decode cX5_papers 23 = .ok (.iload_n 2, 1) := by decide +kernel
theorem dX5_papers_24 : decode cX5_papers 24 = .ok (.tableswitch 129 0 8 #[52, 57, 62, 67, 72, 77, 82, 99, 124], 52) := by decide +kernel
theorem dX5_papers_76 : decode cX5_papers 76 = .ok (.aload_n 3, 1) := by decide +kernel
theorem dX5_papers_77 : decode cX5_papers 77 = .ok (.getfield 116, 3) := by decide +kernel
theorem dX5_papers_80 : decode cX5_papers 80 = .ok (.ireturn, 1) := by decide +kernel
theorem dX5_papers_81 : decode cX5_papers 81 = .ok (.aload_n 3, 1) := by decide +kernel
theorem dX5_papers_82 : decode cX5_papers 82 = .ok (.getfield 125, 3) := by decide +kernel
theorem dX5_papers_85 : decode cX5_papers 85 = .ok (.ireturn, 1) := by decide +kernel
theorem dX5_papers_86 : decode cX5_papers 86 = .ok (.aload_n 3, 1) := by decide +kernel
theorem dX5_papers_87 : decode cX5_papers 87 = .ok (.getfield 122, 3) := by decide +kernel
theorem dX5_papers_90 : decode cX5_papers 90 = .ok (.ireturn, 1) := by decide +kernel
theorem dX5_papers_91 : decode cX5_papers 91 = .ok (.aload_n 3, 1) := by decide +kernel
theorem dX5_papers_92 : decode cX5_papers 92 = .ok (.getfield 128, 3) := by decide +kernel
theorem dX5_papers_95 : decode cX5_papers 95 = .ok (.ireturn, 1) := by decide +kernel
theorem dX5_papers_96 : decode cX5_papers 96 = .ok (.aload_n 3, 1) := by decide +kernel
theorem dX5_papers_97 : decode cX5_papers 97 = .ok (.getfield 131, 3) := by decide +kernel
theorem dX5_papers_100 : decode cX5_papers 100 = .ok (.ireturn, 1) := by decide +kernel
theorem dX5_papers_101 : decode cX5_papers 101 = .ok (.aload_n 3, 1) := by decide +kernel
theorem dX5_papers_102 : decode cX5_papers 102 = .ok (.getfield 119, 3) := by decide +kernel
theorem dX5_papers_105 : decode cX5_papers 105 = .ok (.ireturn, 1) := by decide +kernel
theorem dX5_papers_106 : decode cX5_papers 106 = .ok (.aload_n 3, 1) := by decide +kernel
theorem dX5_papers_107 : decode cX5_papers 107 = .ok (.invokevirtual 201, 3) := by decide +kernel
theorem dX5_papers_110 : decode cX5_papers 110 = .ok (.ifCond .eq 10, 3) := by decide +kernel
theorem dX5_papers_113 : decode cX5_papers 113 = .ok (.aload_n 3, 1) := by decide +kernel
theorem dX5_papers_114 : decode cX5_papers 114 = .ok (.getfield 141, 3) := by decide +kernel
theorem dX5_papers_117 : decode cX5_papers 117 = .ok (.goto 5, 3) := by decide +kernel
theorem dX5_papers_120 : decode cX5_papers 120 = .ok (.bipush (-5), 2) := by decide +kernel
theorem dX5_papers_122 : decode cX5_papers 122 = .ok (.ireturn, 1) := by decide +kernel
theorem dX5_papers_123 : decode cX5_papers 123 = .ok (.aload_n 3, 1) := by decide +kernel
theorem dX5_papers_124 : decode cX5_papers 124 = .ok (.invokevirtual 201, 3) := by decide +kernel
theorem dX5_papers_127 : decode cX5_papers 127 = .ok (.ifCond .eq 18, 3) := by decide +kernel
theorem dX5_papers_130 : decode cX5_papers 130 = .ok (.aload_n 3, 1) := by decide +kernel
theorem dX5_papers_131 : decode cX5_papers 131 = .ok (.getfield 141, 3) := by decide +kernel
theorem dX5_papers_134 : decode cX5_papers 134 = .ok (.aload_n 3, 1) := by decide +kernel
theorem dX5_papers_135 : decode cX5_papers 135 = .ok (.getfield 119, 3) := by decide +kernel
theorem dX5_papers_138 : decode cX5_papers 138 = .ok (.isub, 1) := by decide +kernel
theorem dX5_papers_139 : decode cX5_papers 139 = .ok (.ldc 204, 2) := by decide +kernel
theorem dX5_papers_141 : decode cX5_papers 141 = .ok (.iadd, 1) := by decide +kernel
theorem dX5_papers_142 : decode cX5_papers 142 = .ok (.goto 5, 3) := by decide +kernel
theorem dX5_papers_145 : decode cX5_papers 145 = .ok (.bipush (-5), 2) := by decide +kernel
theorem dX5_papers_147 : decode cX5_papers 147 = .ok (.ireturn, 1) := by decide +kernel
theorem dX5_papers_148 : decode cX5_papers 148 = .ok (.aload_n 3, 1) := by decide +kernel
theorem dX5_papers_149 : decode cX5_papers 149 = .ok (.getfield 138, 3) := by decide +kernel
theorem dX5_papers_152 : decode cX5_papers 152 = .ok (.ireturn, 1) := by decide +kernel
theorem dX5_papers_153 : decode cX5_papers 153 = .ok (.bipush (-2), 2) := by decide +kernel
theorem dX5_papers_155 : decode cX5_papers 155 = .ok (.ireturn, 1) := by decide +kernel
theorem dX5_clerk_0 : decode cX5_clerk 0 = .ok (.aload_n 0, 1) := by decide +kernel
theorem dX5_clerk_1 : decode cX5_clerk 1 = .ok (.getfield 12, 3) := by decide +kernel
theorem dX5_clerk_4 : decode cX5_clerk 4 = .ok (.iload_n 1, 1) := by decide +kernel
theorem dX5_clerk_5 : decode cX5_clerk 5 = .ok (.invokevirtual 77, 3) := by decide +kernel
theorem dX5_clerk_8 : decode cX5_clerk 8 = .ok (.ifCond .ne 5, 3) := by decide +kernel
theorem dX5_clerk_11 : decode cX5_clerk 11 = .ok (.iconst (-1), 1) := by decide +kernel
theorem dX5_clerk_12 : decode cX5_clerk 12 = .ok (.ireturn, 1) := by decide +kernel
theorem dX5_clerk_13 : decode cX5_clerk 13 = .ok (.aload_n 0, 1) := by decide +kernel
theorem dX5_clerk_14 : decode cX5_clerk 14 = .ok (.getfield 12, 3) := by decide +kernel
theorem dX5_clerk_17 : decode cX5_clerk 17 = .ok (.getfield 80, 3) := by decide +kernel
theorem dX5_clerk_20 : decode cX5_clerk 20 = .ok (.iload_n 1, 1) := by decide +kernel
theorem dX5_clerk_21 : decode cX5_clerk 21 = .ok (.aaload, 1) := by decide +kernel
theorem dX5_clerk_22 : decode cX5_clerk 22 = .ok (.astore_n 3, 1) := by decide +kernel
theorem dX5_clerk_23 : decode cX5_clerk 23 = .ok (.iload_n 2, 1) := by decide +kernel
theorem dX5_clerk_24 : decode cX5_clerk 24 = .ok (.tableswitch 103 0 6 #[44, 49, 54, 59, 64, 69, 82], 44) := by decide +kernel
theorem dX5_clerk_68 : decode cX5_clerk 68 = .ok (.aload_n 3, 1) := by decide +kernel
theorem dX5_clerk_69 : decode cX5_clerk 69 = .ok (.getfield 205, 3) := by decide +kernel
theorem dX5_clerk_72 : decode cX5_clerk 72 = .ok (.ireturn, 1) := by decide +kernel
theorem dX5_clerk_73 : decode cX5_clerk 73 = .ok (.aload_n 3, 1) := by decide +kernel
theorem dX5_clerk_74 : decode cX5_clerk 74 = .ok (.getfield 208, 3) := by decide +kernel
theorem dX5_clerk_77 : decode cX5_clerk 77 = .ok (.ireturn, 1) := by decide +kernel
theorem dX5_clerk_78 : decode cX5_clerk 78 = .ok (.aload_n 3, 1) := by decide +kernel
theorem dX5_clerk_79 : decode cX5_clerk 79 = .ok (.getfield 211, 3) := by decide +kernel
theorem dX5_clerk_82 : decode cX5_clerk 82 = .ok (.ireturn, 1) := by decide +kernel
theorem dX5_clerk_83 : decode cX5_clerk 83 = .ok (.aload_n 3, 1) := by decide +kernel
theorem dX5_clerk_84 : decode cX5_clerk 84 = .ok (.getfield 101, 3) := by decide +kernel
theorem dX5_clerk_87 : decode cX5_clerk 87 = .ok (.ireturn, 1) := by decide +kernel
theorem dX5_clerk_88 : decode cX5_clerk 88 = .ok (.aload_n 3, 1) := by decide +kernel
theorem dX5_clerk_89 : decode cX5_clerk 89 = .ok (.getfield 214, 3) := by decide +kernel
theorem dX5_clerk_92 : decode cX5_clerk 92 = .ok (.ireturn, 1) := by decide +kernel
theorem dX5_clerk_93 : decode cX5_clerk 93 = .ok (.aload_n 3, 1) := by decide +kernel
theorem dX5_clerk_94 : decode cX5_clerk 94 = .ok (.invokevirtual 217, 3) := by decide +kernel
theorem dX5_clerk_97 : decode cX5_clerk 97 = .ok (.ifCond .eq 7, 3) := by decide +kernel
theorem dX5_clerk_100 : decode cX5_clerk 100 = .ok (.iconst 1, 1) := by decide +kernel
theorem dX5_clerk_101 : decode cX5_clerk 101 = .ok (.goto 4, 3) := by decide +kernel
theorem dX5_clerk_104 : decode cX5_clerk 104 = .ok (.iconst 0, 1) := by decide +kernel
theorem dX5_clerk_105 : decode cX5_clerk 105 = .ok (.ireturn, 1) := by decide +kernel
theorem dX5_clerk_106 : decode cX5_clerk 106 = .ok (.aload_n 3, 1) := by decide +kernel
theorem dX5_clerk_107 : decode cX5_clerk 107 = .ok (.invokevirtual 84, 3) := by decide +kernel
theorem dX5_clerk_110 : decode cX5_clerk 110 = .ok (.ifCond .eq 14, 3) := by decide +kernel
theorem dX5_clerk_113 : decode cX5_clerk 113 = .ok (.aload_n 0, 1) := by decide +kernel
theorem dX5_clerk_114 : decode cX5_clerk 114 = .ok (.getfield 12, 3) := by decide +kernel
theorem dX5_clerk_117 : decode cX5_clerk 117 = .ok (.iload_n 1, 1) := by decide +kernel
theorem dX5_clerk_118 : decode cX5_clerk 118 = .ok (.invokevirtual 220, 3) := by decide +kernel
theorem dX5_clerk_121 : decode cX5_clerk 121 = .ok (.goto 5, 3) := by decide +kernel
theorem dX5_clerk_124 : decode cX5_clerk 124 = .ok (.bipush (-5), 2) := by decide +kernel
theorem dX5_clerk_126 : decode cX5_clerk 126 = .ok (.ireturn, 1) := by decide +kernel
theorem dX5_clerk_127 : decode cX5_clerk 127 = .ok (.bipush (-2), 2) := by decide +kernel
theorem dX5_clerk_129 : decode cX5_clerk 129 = .ok (.ireturn, 1) := by decide +kernel
theorem dX5_arrivals_0 : decode cX5_arrivals 0 = .ok (.aload_n 0, 1) := by decide +kernel
theorem dX5_arrivals_1 : decode cX5_arrivals 1 = .ok (.getfield 12, 3) := by decide +kernel
theorem dX5_arrivals_4 : decode cX5_arrivals 4 = .ok (.iload_n 1, 1) := by decide +kernel
theorem dX5_arrivals_5 : decode cX5_arrivals 5 = .ok (.invokevirtual 62, 3) := by decide +kernel
theorem dX5_arrivals_8 : decode cX5_arrivals 8 = .ok (.ifCond .ne 5, 3) := by decide +kernel
theorem dX5_arrivals_11 : decode cX5_arrivals 11 = .ok (.iconst (-1), 1) := by decide +kernel
theorem dX5_arrivals_12 : decode cX5_arrivals 12 = .ok (.ireturn, 1) := by decide +kernel
theorem dX5_arrivals_13 : decode cX5_arrivals 13 = .ok (.iload_n 2, 1) := by decide +kernel
theorem dX5_arrivals_14 : decode cX5_arrivals 14 = .ok (.iconst 0, 1) := by decide +kernel
theorem dX5_arrivals_15 : decode cX5_arrivals 15 = .ok (.bipush 14, 2) := by decide +kernel
theorem dX5_arrivals_17 : decode cX5_arrivals 17 = .ok (.invokestatic 51, 3) := by decide +kernel
theorem dX5_arrivals_20 : decode cX5_arrivals 20 = .ok (.ifCond .ne 6, 3) := by decide +kernel
theorem dX5_arrivals_23 : decode cX5_arrivals 23 = .ok (.bipush (-2), 2) := by decide +kernel
theorem dX5_arrivals_25 : decode cX5_arrivals 25 = .ok (.ireturn, 1) := by decide +kernel
theorem dX5_arrivals_26 : decode cX5_arrivals 26 = .ok (.aload_n 0, 1) := by decide +kernel
theorem dX5_arrivals_27 : decode cX5_arrivals 27 = .ok (.getfield 12, 3) := by decide +kernel
theorem dX5_arrivals_30 : decode cX5_arrivals 30 = .ok (.getfield 69, 3) := by decide +kernel
theorem dX5_arrivals_33 : decode cX5_arrivals 33 = .ok (.iload_n 1, 1) := by decide +kernel
theorem dX5_arrivals_34 : decode cX5_arrivals 34 = .ok (.aaload, 1) := by decide +kernel
theorem dX5_arrivals_35 : decode cX5_arrivals 35 = .ok (.getfield 73, 3) := by decide +kernel
theorem dX5_arrivals_38 : decode cX5_arrivals 38 = .ok (.iload_n 2, 1) := by decide +kernel
theorem dX5_arrivals_39 : decode cX5_arrivals 39 = .ok (.iaload, 1) := by decide +kernel
theorem dX5_arrivals_40 : decode cX5_arrivals 40 = .ok (.ireturn, 1) := by decide +kernel
theorem dX5_free_0 : decode cX5_free 0 = .ok (.iload_n 1, 1) := by decide +kernel
theorem dX5_free_1 : decode cX5_free 1 = .ok (.ifCond .ge 6, 3) := by decide +kernel
theorem dX5_free_4 : decode cX5_free 4 = .ok (.bipush (-2), 2) := by decide +kernel
theorem dX5_free_6 : decode cX5_free 6 = .ok (.ireturn, 1) := by decide +kernel
theorem dX5_free_7 : decode cX5_free 7 = .ok (.iconst 0, 1) := by decide +kernel
theorem dX5_free_8 : decode cX5_free 8 = .ok (.istore_n 2, 1) := by decide +kernel
theorem dX5_free_9 : decode cX5_free 9 = .ok (.iload_n 2, 1) := by decide +kernel
theorem dX5_free_10 : decode cX5_free 10 = .ok (.aload_n 0, 1) := by decide +kernel
theorem dX5_free_11 : decode cX5_free 11 = .ok (.getfield 12, 3) := by decide +kernel
theorem dX5_free_14 : decode cX5_free 14 = .ok (.getfield 55, 3) := by decide +kernel
theorem dX5_free_17 : decode cX5_free 17 = .ok (.if_icmp .ge 38, 3) := by decide +kernel
theorem dX5_free_20 : decode cX5_free 20 = .ok (.aload_n 0, 1) := by decide +kernel
theorem dX5_free_21 : decode cX5_free 21 = .ok (.getfield 12, 3) := by decide +kernel
theorem dX5_free_24 : decode cX5_free 24 = .ok (.getfield 80, 3) := by decide +kernel
theorem dX5_free_27 : decode cX5_free 27 = .ok (.iload_n 2, 1) := by decide +kernel
theorem dX5_free_28 : decode cX5_free 28 = .ok (.aaload, 1) := by decide +kernel
theorem dX5_free_29 : decode cX5_free 29 = .ok (.invokevirtual 84, 3) := by decide +kernel
theorem dX5_free_32 : decode cX5_free 32 = .ok (.ifCond .eq 17, 3) := by decide +kernel
theorem dX5_free_35 : decode cX5_free 35 = .ok (.aload_n 0, 1) := by decide +kernel
theorem dX5_free_36 : decode cX5_free 36 = .ok (.getfield 12, 3) := by decide +kernel
theorem dX5_free_39 : decode cX5_free 39 = .ok (.iload_n 2, 1) := by decide +kernel
theorem dX5_free_40 : decode cX5_free 40 = .ok (.invokevirtual 220, 3) := by decide +kernel
theorem dX5_free_43 : decode cX5_free 43 = .ok (.iload_n 1, 1) := by decide +kernel
theorem dX5_free_44 : decode cX5_free 44 = .ok (.if_icmp .ne 5, 3) := by decide +kernel
theorem dX5_free_47 : decode cX5_free 47 = .ok (.iload_n 2, 1) := by decide +kernel
theorem dX5_free_48 : decode cX5_free 48 = .ok (.ireturn, 1) := by decide +kernel
theorem dX5_free_49 : decode cX5_free 49 = .ok (.iinc 2 1, 3) := by decide +kernel
theorem dX5_free_52 : decode cX5_free 52 = .ok (.goto (-43), 3) := by decide +kernel
theorem dX5_free_55 : decode cX5_free 55 = .ok (.bipush (-5), 2) := by decide +kernel
theorem dX5_free_57 : decode cX5_free 57 = .ok (.ireturn, 1) := by decide +kernel
theorem dX5_busiest_0 : decode cX5_busiest 0 = .ok (.iload_n 1, 1) := by decide +kernel
theorem dX5_busiest_1 : decode cX5_busiest 1 = .ok (.ifCond .ge 6, 3) := by decide +kernel
theorem dX5_busiest_4 : decode cX5_busiest 4 = .ok (.bipush (-2), 2) := by decide +kernel
theorem dX5_busiest_6 : decode cX5_busiest 6 = .ok (.ireturn, 1) := by decide +kernel
theorem dX5_busiest_7 : decode cX5_busiest 7 = .ok (.iconst 0, 1) := by decide +kernel
theorem dX5_busiest_8 : decode cX5_busiest 8 = .ok (.istore_n 2, 1) := by decide +kernel
theorem dX5_busiest_9 : decode cX5_busiest 9 = .ok (.iload_n 2, 1) := by decide +kernel
theorem dX5_busiest_10 : decode cX5_busiest 10 = .ok (.aload_n 0, 1) := by decide +kernel
theorem dX5_busiest_11 : decode cX5_busiest 11 = .ok (.getfield 12, 3) := by decide +kernel
theorem dX5_busiest_14 : decode cX5_busiest 14 = .ok (.getfield 43, 3) := by decide +kernel
theorem dX5_busiest_17 : decode cX5_busiest 17 = .ok (.if_icmp .ge 23, 3) := by decide +kernel
theorem dX5_busiest_20 : decode cX5_busiest 20 = .ok (.aload_n 0, 1) := by decide +kernel
theorem dX5_busiest_21 : decode cX5_busiest 21 = .ok (.getfield 12, 3) := by decide +kernel
theorem dX5_busiest_24 : decode cX5_busiest 24 = .ok (.iload_n 2, 1) := by decide +kernel
theorem dX5_busiest_25 : decode cX5_busiest 25 = .ok (.invokevirtual 223, 3) := by decide +kernel
theorem dX5_busiest_28 : decode cX5_busiest 28 = .ok (.iload_n 1, 1) := by decide +kernel
theorem dX5_busiest_29 : decode cX5_busiest 29 = .ok (.if_icmp .ne 5, 3) := by decide +kernel
theorem dX5_busiest_32 : decode cX5_busiest 32 = .ok (.iload_n 2, 1) := by decide +kernel
theorem dX5_busiest_33 : decode cX5_busiest 33 = .ok (.ireturn, 1) := by decide +kernel
theorem dX5_busiest_34 : decode cX5_busiest 34 = .ok (.iinc 2 1, 3) := by decide +kernel
theorem dX5_busiest_37 : decode cX5_busiest 37 = .ok (.goto (-28), 3) := by decide +kernel
theorem dX5_busiest_40 : decode cX5_busiest 40 = .ok (.bipush (-5), 2) := by decide +kernel
theorem dX5_busiest_42 : decode cX5_busiest 42 = .ok (.ireturn, 1) := by decide +kernel
theorem dX5_queueIn_0 : decode cX5_queueIn 0 = .ok (.aload_n 0, 1) := by decide +kernel
theorem dX5_queueIn_1 : decode cX5_queueIn 1 = .ok (.getfield 12, 3) := by decide +kernel
theorem dX5_queueIn_4 : decode cX5_queueIn 4 = .ok (.iload_n 1, 1) := by decide +kernel
theorem dX5_queueIn_5 : decode cX5_queueIn 5 = .ok (.invokevirtual 62, 3) := by decide +kernel
theorem dX5_queueIn_8 : decode cX5_queueIn 8 = .ok (.ifCond .ne 5, 3) := by decide +kernel
theorem dX5_queueIn_11 : decode cX5_queueIn 11 = .ok (.iconst (-1), 1) := by decide +kernel
theorem dX5_queueIn_12 : decode cX5_queueIn 12 = .ok (.ireturn, 1) := by decide +kernel
theorem dX5_queueIn_13 : decode cX5_queueIn 13 = .ok (.iload_n 2, 1) := by decide +kernel
theorem dX5_queueIn_14 : decode cX5_queueIn 14 = .ok (.iconst 0, 1) := by decide +kernel
theorem dX5_queueIn_15 : decode cX5_queueIn 15 = .ok (.bipush 18, 2) := by decide +kernel
theorem dX5_queueIn_17 : decode cX5_queueIn 17 = .ok (.invokestatic 51, 3) := by decide +kernel
theorem dX5_queueIn_20 : decode cX5_queueIn 20 = .ok (.ifCond .ne 6, 3) := by decide +kernel
theorem dX5_queueIn_23 : decode cX5_queueIn 23 = .ok (.bipush (-2), 2) := by decide +kernel
theorem dX5_queueIn_25 : decode cX5_queueIn 25 = .ok (.ireturn, 1) := by decide +kernel
theorem dX5_queueIn_26 : decode cX5_queueIn 26 = .ok (.aload_n 0, 1) := by decide +kernel
theorem dX5_queueIn_27 : decode cX5_queueIn 27 = .ok (.getfield 12, 3) := by decide +kernel
theorem dX5_queueIn_30 : decode cX5_queueIn 30 = .ok (.getfield 107, 3) := by decide +kernel
theorem dX5_queueIn_33 : decode cX5_queueIn 33 = .ok (.iload_n 2, 1) := by decide +kernel
theorem dX5_queueIn_34 : decode cX5_queueIn 34 = .ok (.iadd, 1) := by decide +kernel
theorem dX5_queueIn_35 : decode cX5_queueIn 35 = .ok (.bipush 18, 2) := by decide +kernel
theorem dX5_queueIn_37 : decode cX5_queueIn 37 = .ok (.if_icmp .le 6, 3) := by decide +kernel
theorem dX5_queueIn_40 : decode cX5_queueIn 40 = .ok (.bipush (-4), 2) := by decide +kernel
theorem dX5_queueIn_42 : decode cX5_queueIn 42 = .ok (.ireturn, 1) := by decide +kernel
theorem dX5_queueIn_43 : decode cX5_queueIn 43 = .ok (.aload_n 0, 1) := by decide +kernel
theorem dX5_queueIn_44 : decode cX5_queueIn 44 = .ok (.getfield 16, 3) := by decide +kernel
theorem dX5_queueIn_47 : decode cX5_queueIn 47 = .ok (.aload_n 0, 1) := by decide +kernel
theorem dX5_queueIn_48 : decode cX5_queueIn 48 = .ok (.getfield 12, 3) := by decide +kernel
theorem dX5_queueIn_51 : decode cX5_queueIn 51 = .ok (.invokevirtual 176, 3) := by decide +kernel
theorem dX5_queueIn_54 : decode cX5_queueIn 54 = .ok (.aload_n 0, 1) := by decide +kernel
theorem dX5_queueIn_55 : decode cX5_queueIn 55 = .ok (.getfield 16, 3) := by decide +kernel
theorem dX5_queueIn_58 : decode cX5_queueIn 58 = .ok (.iload_n 2, 1) := by decide +kernel
theorem dX5_queueIn_59 : decode cX5_queueIn 59 = .ok (.invokevirtual 110, 3) := by decide +kernel
theorem dX5_queueIn_62 : decode cX5_queueIn 62 = .ok (.pop, 1) := by decide +kernel
theorem dX5_queueIn_63 : decode cX5_queueIn 63 = .ok (.aload_n 0, 1) := by decide +kernel
theorem dX5_queueIn_64 : decode cX5_queueIn 64 = .ok (.getfield 16, 3) := by decide +kernel
theorem dX5_queueIn_67 : decode cX5_queueIn 67 = .ok (.getfield 69, 3) := by decide +kernel
theorem dX5_queueIn_70 : decode cX5_queueIn 70 = .ok (.iload_n 1, 1) := by decide +kernel
theorem dX5_queueIn_71 : decode cX5_queueIn 71 = .ok (.aaload, 1) := by decide +kernel
theorem dX5_queueIn_72 : decode cX5_queueIn 72 = .ok (.getfield 135, 3) := by decide +kernel
theorem dX5_queueIn_75 : decode cX5_queueIn 75 = .ok (.ireturn, 1) := by decide +kernel
theorem dX5_lacks_0 : decode cX5_lacks 0 = .ok (.aload_n 0, 1) := by decide +kernel
theorem dX5_lacks_1 : decode cX5_lacks 1 = .ok (.getfield 12, 3) := by decide +kernel
theorem dX5_lacks_4 : decode cX5_lacks 4 = .ok (.iload_n 1, 1) := by decide +kernel
theorem dX5_lacks_5 : decode cX5_lacks 5 = .ok (.invokevirtual 62, 3) := by decide +kernel
theorem dX5_lacks_8 : decode cX5_lacks 8 = .ok (.ifCond .ne 5, 3) := by decide +kernel
theorem dX5_lacks_11 : decode cX5_lacks 11 = .ok (.iconst (-1), 1) := by decide +kernel
theorem dX5_lacks_12 : decode cX5_lacks 12 = .ok (.ireturn, 1) := by decide +kernel
theorem dX5_lacks_13 : decode cX5_lacks 13 = .ok (.aload_n 0, 1) := by decide +kernel
theorem dX5_lacks_14 : decode cX5_lacks 14 = .ok (.getfield 16, 3) := by decide +kernel
theorem dX5_lacks_17 : decode cX5_lacks 17 = .ok (.aload_n 0, 1) := by decide +kernel
theorem dX5_lacks_18 : decode cX5_lacks 18 = .ok (.getfield 12, 3) := by decide +kernel
theorem dX5_lacks_21 : decode cX5_lacks 21 = .ok (.invokevirtual 176, 3) := by decide +kernel
theorem dX5_lacks_24 : decode cX5_lacks 24 = .ok (.aload_n 0, 1) := by decide +kernel
theorem dX5_lacks_25 : decode cX5_lacks 25 = .ok (.getfield 16, 3) := by decide +kernel
theorem dX5_lacks_28 : decode cX5_lacks 28 = .ok (.getfield 69, 3) := by decide +kernel
theorem dX5_lacks_31 : decode cX5_lacks 31 = .ok (.iload_n 1, 1) := by decide +kernel
theorem dX5_lacks_32 : decode cX5_lacks 32 = .ok (.aaload, 1) := by decide +kernel
theorem dX5_lacks_33 : decode cX5_lacks 33 = .ok (.astore_n 2, 1) := by decide +kernel
theorem dX5_lacks_34 : decode cX5_lacks 34 = .ok (.aload_n 2, 1) := by decide +kernel
theorem dX5_lacks_35 : decode cX5_lacks 35 = .ok (.sipush 7500, 3) := by decide +kernel
theorem dX5_lacks_38 : decode cX5_lacks 38 = .ok (.putfield 116, 3) := by decide +kernel
theorem dX5_lacks_41 : decode cX5_lacks 41 = .ok (.aload_n 0, 1) := by decide +kernel
theorem dX5_lacks_42 : decode cX5_lacks 42 = .ok (.getfield 16, 3) := by decide +kernel
theorem dX5_lacks_45 : decode cX5_lacks 45 = .ok (.bipush 18, 2) := by decide +kernel
theorem dX5_lacks_47 : decode cX5_lacks 47 = .ok (.aload_n 0, 1) := by decide +kernel
theorem dX5_lacks_48 : decode cX5_lacks 48 = .ok (.getfield 12, 3) := by decide +kernel
theorem dX5_lacks_51 : decode cX5_lacks 51 = .ok (.getfield 107, 3) := by decide +kernel
theorem dX5_lacks_54 : decode cX5_lacks 54 = .ok (.isub, 1) := by decide +kernel
theorem dX5_lacks_55 : decode cX5_lacks 55 = .ok (.invokevirtual 110, 3) := by decide +kernel
theorem dX5_lacks_58 : decode cX5_lacks 58 = .ok (.pop, 1) := by decide +kernel
theorem dX5_lacks_59 : decode cX5_lacks 59 = .ok (.aload_n 2, 1) := by decide +kernel
theorem dX5_lacks_60 : decode cX5_lacks 60 = .ok (.getfield 186, 3) := by decide +kernel
theorem dX5_lacks_63 : decode cX5_lacks 63 = .ok (.aload_n 0, 1) := by decide +kernel
theorem dX5_lacks_64 : decode cX5_lacks 64 = .ok (.getfield 12, 3) := by decide +kernel
theorem dX5_lacks_67 : decode cX5_lacks 67 = .ok (.getfield 69, 3) := by decide +kernel
theorem dX5_lacks_70 : decode cX5_lacks 70 = .ok (.iload_n 1, 1) := by decide +kernel
theorem dX5_lacks_71 : decode cX5_lacks 71 = .ok (.aaload, 1) := by decide +kernel
theorem dX5_lacks_72 : decode cX5_lacks 72 = .ok (.getfield 186, 3) := by decide +kernel
theorem dX5_lacks_75 : decode cX5_lacks 75 = .ok (.isub, 1) := by decide +kernel
theorem dX5_lacks_76 : decode cX5_lacks 76 = .ok (.istore_n 3, 1) := by decide +kernel
theorem dX5_lacks_77 : decode cX5_lacks 77 = .ok (.iconst 0, 1) := by decide +kernel
theorem dX5_lacks_78 : decode cX5_lacks 78 = .ok (.iload_n 3, 1) := by decide +kernel
theorem dX5_lacks_79 : decode cX5_lacks 79 = .ok (.aload_n 0, 1) := by decide +kernel
theorem dX5_lacks_80 : decode cX5_lacks 80 = .ok (.getfield 12, 3) := by decide +kernel
theorem dX5_lacks_83 : decode cX5_lacks 83 = .ok (.getfield 69, 3) := by decide +kernel
theorem dX5_lacks_86 : decode cX5_lacks 86 = .ok (.iload_n 1, 1) := by decide +kernel
theorem dX5_lacks_87 : decode cX5_lacks 87 = .ok (.aaload, 1) := by decide +kernel
theorem dX5_lacks_88 : decode cX5_lacks 88 = .ok (.getfield 116, 3) := by decide +kernel
theorem dX5_lacks_91 : decode cX5_lacks 91 = .ok (.isub, 1) := by decide +kernel
theorem dX5_lacks_92 : decode cX5_lacks 92 = .ok (.invokestatic 226, 3) := by decide +kernel
theorem dX5_lacks_95 : decode cX5_lacks 95 = .ok (.ireturn, 1) := by decide +kernel
theorem dX5_count_0 : decode cX5_count 0 = .ok (.iload_n 1, 1) := by decide +kernel
theorem dX5_count_1 : decode cX5_count 1 = .ok (.tableswitch 209 0 15 #[79, 87, 95, 103, 111, 119, 127, 135, 143, 151, 159, 168, 177, 185, 193, 201], 79) := by decide +kernel
theorem dX5_count_80 : decode cX5_count 80 = .ok (.aload_n 0, 1) := by decide +kernel
theorem dX5_count_81 : decode cX5_count 81 = .ok (.getfield 12, 3) := by decide +kernel
theorem dX5_count_84 : decode cX5_count 84 = .ok (.getfield 107, 3) := by decide +kernel
theorem dX5_count_87 : decode cX5_count 87 = .ok (.ireturn, 1) := by decide +kernel
theorem dX5_count_88 : decode cX5_count 88 = .ok (.aload_n 0, 1) := by decide +kernel
theorem dX5_count_89 : decode cX5_count 89 = .ok (.getfield 12, 3) := by decide +kernel
theorem dX5_count_92 : decode cX5_count 92 = .ok (.getfield 43, 3) := by decide +kernel
theorem dX5_count_95 : decode cX5_count 95 = .ok (.ireturn, 1) := by decide +kernel
theorem dX5_count_96 : decode cX5_count 96 = .ok (.aload_n 0, 1) := by decide +kernel
theorem dX5_count_97 : decode cX5_count 97 = .ok (.getfield 12, 3) := by decide +kernel
theorem dX5_count_100 : decode cX5_count 100 = .ok (.getfield 55, 3) := by decide +kernel
theorem dX5_count_103 : decode cX5_count 103 = .ok (.ireturn, 1) := by decide +kernel
theorem dX5_count_104 : decode cX5_count 104 = .ok (.aload_n 0, 1) := by decide +kernel
theorem dX5_count_105 : decode cX5_count 105 = .ok (.getfield 12, 3) := by decide +kernel
theorem dX5_count_108 : decode cX5_count 108 = .ok (.invokevirtual 231, 3) := by decide +kernel
theorem dX5_count_111 : decode cX5_count 111 = .ok (.ireturn, 1) := by decide +kernel
theorem dX5_count_112 : decode cX5_count 112 = .ok (.aload_n 0, 1) := by decide +kernel
theorem dX5_count_113 : decode cX5_count 113 = .ok (.getfield 12, 3) := by decide +kernel
theorem dX5_count_116 : decode cX5_count 116 = .ok (.invokevirtual 234, 3) := by decide +kernel
theorem dX5_count_119 : decode cX5_count 119 = .ok (.ireturn, 1) := by decide +kernel
theorem dX5_count_120 : decode cX5_count 120 = .ok (.aload_n 0, 1) := by decide +kernel
theorem dX5_count_121 : decode cX5_count 121 = .ok (.invokevirtual 237, 3) := by decide +kernel
theorem dX5_count_124 : decode cX5_count 124 = .ok (.getfield 135, 3) := by decide +kernel
theorem dX5_count_127 : decode cX5_count 127 = .ok (.ireturn, 1) := by decide +kernel
theorem dX5_count_128 : decode cX5_count 128 = .ok (.aload_n 0, 1) := by decide +kernel
theorem dX5_count_129 : decode cX5_count 129 = .ok (.invokevirtual 237, 3) := by decide +kernel
theorem dX5_count_132 : decode cX5_count 132 = .ok (.getfield 186, 3) := by decide +kernel
theorem dX5_count_135 : decode cX5_count 135 = .ok (.ireturn, 1) := by decide +kernel
theorem dX5_count_136 : decode cX5_count 136 = .ok (.aload_n 0, 1) := by decide +kernel
theorem dX5_count_137 : decode cX5_count 137 = .ok (.invokevirtual 237, 3) := by decide +kernel
theorem dX5_count_140 : decode cX5_count 140 = .ok (.getfield 116, 3) := by decide +kernel
theorem dX5_count_143 : decode cX5_count 143 = .ok (.ireturn, 1) := by decide +kernel
theorem dX5_count_144 : decode cX5_count 144 = .ok (.aload_n 0, 1) := by decide +kernel
theorem dX5_count_145 : decode cX5_count 145 = .ok (.invokevirtual 237, 3) := by decide +kernel
theorem dX5_count_148 : decode cX5_count 148 = .ok (.getfield 125, 3) := by decide +kernel
theorem dX5_count_151 : decode cX5_count 151 = .ok (.ireturn, 1) := by decide +kernel
theorem dX5_count_152 : decode cX5_count 152 = .ok (.aload_n 0, 1) := by decide +kernel
theorem dX5_count_153 : decode cX5_count 153 = .ok (.invokevirtual 237, 3) := by decide +kernel
theorem dX5_count_156 : decode cX5_count 156 = .ok (.getfield 119, 3) := by decide +kernel
theorem dX5_count_159 : decode cX5_count 159 = .ok (.ireturn, 1) := by decide +kernel
theorem dX5_count_160 : decode cX5_count 160 = .ok (.aload_n 0, 1) := by decide +kernel
theorem dX5_count_161 : decode cX5_count 161 = .ok (.getfield 12, 3) := by decide +kernel
theorem dX5_count_164 : decode cX5_count 164 = .ok (.iconst 1, 1) := by decide +kernel
theorem dX5_count_165 : decode cX5_count 165 = .ok (.invokevirtual 240, 3) := by decide +kernel
theorem dX5_count_168 : decode cX5_count 168 = .ok (.ireturn, 1) := by decide +kernel
theorem dX5_count_169 : decode cX5_count 169 = .ok (.aload_n 0, 1) := by decide +kernel
theorem dX5_count_170 : decode cX5_count 170 = .ok (.getfield 12, 3) := by decide +kernel
theorem dX5_count_173 : decode cX5_count 173 = .ok (.iconst 0, 1) := by decide +kernel
theorem dX5_count_174 : decode cX5_count 174 = .ok (.invokevirtual 240, 3) := by decide +kernel
theorem dX5_count_177 : decode cX5_count 177 = .ok (.ireturn, 1) := by decide +kernel
theorem dX5_count_178 : decode cX5_count 178 = .ok (.aload_n 0, 1) := by decide +kernel
theorem dX5_count_179 : decode cX5_count 179 = .ok (.invokevirtual 237, 3) := by decide +kernel
theorem dX5_count_182 : decode cX5_count 182 = .ok (.getfield 189, 3) := by decide +kernel
theorem dX5_count_185 : decode cX5_count 185 = .ok (.ireturn, 1) := by decide +kernel
theorem dX5_count_186 : decode cX5_count 186 = .ok (.aload_n 0, 1) := by decide +kernel
theorem dX5_count_187 : decode cX5_count 187 = .ok (.getfield 12, 3) := by decide +kernel
theorem dX5_count_190 : decode cX5_count 190 = .ok (.invokevirtual 244, 3) := by decide +kernel
theorem dX5_count_193 : decode cX5_count 193 = .ok (.ireturn, 1) := by decide +kernel
theorem dX5_count_194 : decode cX5_count 194 = .ok (.aload_n 0, 1) := by decide +kernel
theorem dX5_count_195 : decode cX5_count 195 = .ok (.getfield 32, 3) := by decide +kernel
theorem dX5_count_198 : decode cX5_count 198 = .ok (.getfield 170, 3) := by decide +kernel
theorem dX5_count_201 : decode cX5_count 201 = .ok (.ireturn, 1) := by decide +kernel
theorem dX5_count_202 : decode cX5_count 202 = .ok (.aload_n 0, 1) := by decide +kernel
theorem dX5_count_203 : decode cX5_count 203 = .ok (.getfield 39, 3) := by decide +kernel
theorem dX5_count_206 : decode cX5_count 206 = .ok (.getfield 144, 3) := by decide +kernel
theorem dX5_count_209 : decode cX5_count 209 = .ok (.ireturn, 1) := by decide +kernel
theorem dX5_count_210 : decode cX5_count 210 = .ok (.bipush (-2), 2) := by decide +kernel
theorem dX5_count_212 : decode cX5_count 212 = .ok (.ireturn, 1) := by decide +kernel
theorem dX5_total_0 : decode cX5_total 0 = .ok (.aload_n 0, 1) := by decide +kernel
theorem dX5_total_1 : decode cX5_total 1 = .ok (.getfield 25, 3) := by decide +kernel
theorem dX5_total_4 : decode cX5_total 4 = .ok (.aload_n 0, 1) := by decide +kernel
theorem dX5_total_5 : decode cX5_total 5 = .ok (.getfield 12, 3) := by decide +kernel
theorem dX5_total_8 : decode cX5_total 8 = .ok (.getfield 69, 3) := by decide +kernel
theorem dX5_total_11 : decode cX5_total 11 = .ok (.aload_n 0, 1) := by decide +kernel
theorem dX5_total_12 : decode cX5_total 12 = .ok (.getfield 12, 3) := by decide +kernel
theorem dX5_total_15 : decode cX5_total 15 = .ok (.getfield 43, 3) := by decide +kernel
theorem dX5_total_18 : decode cX5_total 18 = .ok (.invokevirtual 246, 3) := by decide +kernel
theorem dX5_total_21 : decode cX5_total 21 = .ok (.aload_n 0, 1) := by decide +kernel
theorem dX5_total_22 : decode cX5_total 22 = .ok (.getfield 25, 3) := by decide +kernel
theorem dX5_total_25 : decode cX5_total 25 = .ok (.areturn, 1) := by decide +kernel
theorem dX5_isHourToCome_0 : decode cX5_isHourToCome 0 = .ok (.iload_n 1, 1) := by decide +kernel
theorem dX5_isHourToCome_1 : decode cX5_isHourToCome 1 = .ok (.aload_n 0, 1) := by decide +kernel
theorem dX5_isHourToCome_2 : decode cX5_isHourToCome 2 = .ok (.getfield 12, 3) := by decide +kernel
theorem dX5_isHourToCome_5 : decode cX5_isHourToCome 5 = .ok (.getfield 107, 3) := by decide +kernel
theorem dX5_isHourToCome_8 : decode cX5_isHourToCome 8 = .ok (.if_icmp .lt 17, 3) := by decide +kernel
theorem dX5_isHourToCome_11 : decode cX5_isHourToCome 11 = .ok (.iload_n 1, 1) := by decide +kernel
theorem dX5_isHourToCome_12 : decode cX5_isHourToCome 12 = .ok (.iconst 0, 1) := by decide +kernel
theorem dX5_isHourToCome_13 : decode cX5_isHourToCome 13 = .ok (.bipush 14, 2) := by decide +kernel
theorem dX5_isHourToCome_15 : decode cX5_isHourToCome 15 = .ok (.invokestatic 51, 3) := by decide +kernel
theorem dX5_isHourToCome_18 : decode cX5_isHourToCome 18 = .ok (.ifCond .eq 7, 3) := by decide +kernel
theorem dX5_isHourToCome_21 : decode cX5_isHourToCome 21 = .ok (.iconst 1, 1) := by decide +kernel
theorem dX5_isHourToCome_22 : decode cX5_isHourToCome 22 = .ok (.goto 4, 3) := by decide +kernel
theorem dX5_isHourToCome_25 : decode cX5_isHourToCome 25 = .ok (.iconst 0, 1) := by decide +kernel
theorem dX5_isHourToCome_26 : decode cX5_isHourToCome 26 = .ok (.ireturn, 1) := by decide +kernel
theorem dX5_isPaperNumber_0 : decode cX5_isPaperNumber 0 = .ok (.iload_n 0, 1) := by decide +kernel
theorem dX5_isPaperNumber_1 : decode cX5_isPaperNumber 1 = .ok (.iconst 1, 1) := by decide +kernel
theorem dX5_isPaperNumber_2 : decode cX5_isPaperNumber 2 = .ok (.sipush 9999, 3) := by decide +kernel
theorem dX5_isPaperNumber_5 : decode cX5_isPaperNumber 5 = .ok (.invokestatic 51, 3) := by decide +kernel
theorem dX5_isPaperNumber_8 : decode cX5_isPaperNumber 8 = .ok (.ireturn, 1) := by decide +kernel
theorem dX5_isWithin_0 : decode cX5_isWithin 0 = .ok (.iload_n 0, 1) := by decide +kernel
theorem dX5_isWithin_1 : decode cX5_isWithin 1 = .ok (.iload_n 1, 1) := by decide +kernel
theorem dX5_isWithin_2 : decode cX5_isWithin 2 = .ok (.if_icmp .lt 12, 3) := by decide +kernel
theorem dX5_isWithin_5 : decode cX5_isWithin 5 = .ok (.iload_n 0, 1) := by decide +kernel
theorem dX5_isWithin_6 : decode cX5_isWithin 6 = .ok (.iload_n 2, 1) := by decide +kernel
theorem dX5_isWithin_7 : decode cX5_isWithin 7 = .ok (.if_icmp .gt 7, 3) := by decide +kernel
theorem dX5_isWithin_10 : decode cX5_isWithin 10 = .ok (.iconst 1, 1) := by decide +kernel
theorem dX5_isWithin_11 : decode cX5_isWithin 11 = .ok (.goto 4, 3) := by decide +kernel
theorem dX5_isWithin_14 : decode cX5_isWithin 14 = .ok (.iconst 0, 1) := by decide +kernel
theorem dX5_isWithin_15 : decode cX5_isWithin 15 = .ok (.ireturn, 1) := by decide +kernel
theorem dJ9_max_7cf53_0 : decode cJ9_max_7cf53 0 = .ok (.iload_n 0, 1) := by decide +kernel
theorem dJ9_max_7cf53_1 : decode cJ9_max_7cf53 1 = .ok (.iload_n 1, 1) := by decide +kernel
theorem dJ9_max_7cf53_2 : decode cJ9_max_7cf53 2 = .ok (.if_icmp .lt 7, 3) := by decide +kernel
theorem dJ9_max_7cf53_5 : decode cJ9_max_7cf53 5 = .ok (.iload_n 0, 1) := by decide +kernel
theorem dJ9_max_7cf53_6 : decode cJ9_max_7cf53 6 = .ok (.goto 4, 3) := by decide +kernel
theorem dJ9_max_7cf53_9 : decode cJ9_max_7cf53 9 = .ok (.iload_n 1, 1) := by decide +kernel
theorem dJ9_max_7cf53_10 : decode cJ9_max_7cf53 10 = .ok (.ireturn, 1) := by decide +kernel
theorem dJ9_min_7cf53_0 : decode cJ9_min_7cf53 0 = .ok (.iload_n 0, 1) := by decide +kernel
theorem dJ9_min_7cf53_1 : decode cJ9_min_7cf53 1 = .ok (.iload_n 1, 1) := by decide +kernel
theorem dJ9_min_7cf53_2 : decode cJ9_min_7cf53 2 = .ok (.if_icmp .gt 7, 3) := by decide +kernel
theorem dJ9_min_7cf53_5 : decode cJ9_min_7cf53 5 = .ok (.iload_n 0, 1) := by decide +kernel
theorem dJ9_min_7cf53_6 : decode cJ9_min_7cf53 6 = .ok (.goto 4, 3) := by decide +kernel
theorem dJ9_min_7cf53_9 : decode cJ9_min_7cf53 9 = .ok (.iload_n 1, 1) := by decide +kernel
theorem dJ9_min_7cf53_10 : decode cJ9_min_7cf53 10 = .ok (.ireturn, 1) := by decide +kernel
theorem dL_cell_0 : decode cL_cell 0 = .ok (.iload_n 1, 1) := by decide +kernel
theorem dL_cell_1 : decode cL_cell 1 = .ok (.aload_n 0, 1) := by decide +kernel
theorem dL_cell_2 : decode cL_cell 2 = .ok (.arraylength, 1) := by decide +kernel
theorem dL_cell_3 : decode cL_cell 3 = .ok (.if_icmp .ge 9, 3) := by decide +kernel
theorem dL_cell_6 : decode cL_cell 6 = .ok (.aload_n 0, 1) := by decide +kernel
theorem dL_cell_7 : decode cL_cell 7 = .ok (.iload_n 1, 1) := by decide +kernel
theorem dL_cell_8 : decode cL_cell 8 = .ok (.iaload, 1) := by decide +kernel
theorem dL_cell_9 : decode cL_cell 9 = .ok (.goto 9, 3) := by decide +kernel
theorem dL_cell_12 : decode cL_cell 12 = .ok (.ldc 7, 2) := by decide +kernel
theorem dL_cell_14 : decode cL_cell 14 = .ok (.iload_n 1, 1) := by decide +kernel
theorem dL_cell_15 : decode cL_cell 15 = .ok (.iconst 3, 1) := by decide +kernel
theorem dL_cell_16 : decode cL_cell 16 = .ok (.iadd, 1) := by decide +kernel
theorem dL_cell_17 : decode cL_cell 17 = .ok (.imul, 1) := by decide +kernel
theorem dL_cell_18 : decode cL_cell 18 = .ok (.ireturn, 1) := by decide +kernel
theorem dL_up_0 : decode cL_up 0 = .ok (.iload_n 0, 1) := by decide +kernel
theorem dL_up_1 : decode cL_up 1 = .ok (.ldc 8, 2) := by decide +kernel
theorem dL_up_3 : decode cL_up 3 = .ok (.iand, 1) := by decide +kernel
theorem dL_up_4 : decode cL_up 4 = .ok (.iload_n 1, 1) := by decide +kernel
theorem dL_up_5 : decode cL_up 5 = .ok (.irem, 1) := by decide +kernel
theorem dL_up_6 : decode cL_up 6 = .ok (.ireturn, 1) := by decide +kernel
theorem dL_mark_0 : decode cL_mark 0 = .ok (.ldc2_w 9, 3) := by decide +kernel
theorem dL_mark_3 : decode cL_mark 3 = .ok (.lstore_n 1, 1) := by decide +kernel
theorem dL_mark_4 : decode cL_mark 4 = .ok (.iconst 0, 1) := by decide +kernel
theorem dL_mark_5 : decode cL_mark 5 = .ok (.istore_n 3, 1) := by decide +kernel
theorem dL_mark_6 : decode cL_mark 6 = .ok (.iload_n 3, 1) := by decide +kernel
theorem dL_mark_7 : decode cL_mark 7 = .ok (.bipush 14, 2) := by decide +kernel
theorem dL_mark_9 : decode cL_mark 9 = .ok (.if_icmp .ge 22, 3) := by decide +kernel
theorem dL_mark_12 : decode cL_mark 12 = .ok (.ldc2_w 11, 3) := by decide +kernel
theorem dL_mark_15 : decode cL_mark 15 = .ok (.lload_n 1, 1) := by decide +kernel
theorem dL_mark_16 : decode cL_mark 16 = .ok (.lmul, 1) := by decide +kernel
theorem dL_mark_17 : decode cL_mark 17 = .ok (.aload_n 0, 1) := by decide +kernel
theorem dL_mark_18 : decode cL_mark 18 = .ok (.iload_n 3, 1) := by decide +kernel
theorem dL_mark_19 : decode cL_mark 19 = .ok (.invokevirtual 13, 3) := by decide +kernel
theorem dL_mark_22 : decode cL_mark 22 = .ok (.i2l, 1) := by decide +kernel
theorem dL_mark_23 : decode cL_mark 23 = .ok (.ladd, 1) := by decide +kernel
theorem dL_mark_24 : decode cL_mark 24 = .ok (.lstore_n 1, 1) := by decide +kernel
theorem dL_mark_25 : decode cL_mark 25 = .ok (.iinc 3 1, 3) := by decide +kernel
theorem dL_mark_28 : decode cL_mark 28 = .ok (.goto (-22), 3) := by decide +kernel
theorem dL_mark_31 : decode cL_mark 31 = .ok (.iconst 0, 1) := by decide +kernel
theorem dL_mark_32 : decode cL_mark 32 = .ok (.istore_n 3, 1) := by decide +kernel
theorem dL_mark_33 : decode cL_mark 33 = .ok (.iload_n 3, 1) := by decide +kernel
theorem dL_mark_34 : decode cL_mark 34 = .ok (.aload_n 0, 1) := by decide +kernel
theorem dL_mark_35 : decode cL_mark 35 = .ok (.iconst 1, 1) := by decide +kernel
theorem dL_mark_36 : decode cL_mark 36 = .ok (.invokevirtual 13, 3) := by decide +kernel
theorem dL_mark_39 : decode cL_mark 39 = .ok (.if_icmp .ge 99, 3) := by decide +kernel
theorem dL_mark_42 : decode cL_mark 42 = .ok (.iconst 0, 1) := by decide +kernel
theorem dL_mark_43 : decode cL_mark 43 = .ok (.istore 4, 2) := by decide +kernel
theorem dL_mark_45 : decode cL_mark 45 = .ok (.iload 4, 2) := by decide +kernel
theorem dL_mark_47 : decode cL_mark 47 = .ok (.bipush 8, 2) := by decide +kernel
theorem dL_mark_49 : decode cL_mark 49 = .ok (.if_icmp .ge 37, 3) := by decide +kernel
theorem dL_mark_52 : decode cL_mark 52 = .ok (.ldc2_w 11, 3) := by decide +kernel
theorem dL_mark_55 : decode cL_mark 55 = .ok (.ldc2_w 11, 3) := by decide +kernel
theorem dL_mark_58 : decode cL_mark 58 = .ok (.lload_n 1, 1) := by decide +kernel
theorem dL_mark_59 : decode cL_mark 59 = .ok (.lmul, 1) := by decide +kernel
theorem dL_mark_60 : decode cL_mark 60 = .ok (.aload_n 0, 1) := by decide +kernel
theorem dL_mark_61 : decode cL_mark 61 = .ok (.iload_n 3, 1) := by decide +kernel
theorem dL_mark_62 : decode cL_mark 62 = .ok (.iload 4, 2) := by decide +kernel
theorem dL_mark_64 : decode cL_mark 64 = .ok (.invokevirtual 19, 3) := by decide +kernel
theorem dL_mark_67 : decode cL_mark 67 = .ok (.i2l, 1) := by decide +kernel
theorem dL_mark_68 : decode cL_mark 68 = .ok (.ladd, 1) := by decide +kernel
theorem dL_mark_69 : decode cL_mark 69 = .ok (.lmul, 1) := by decide +kernel
theorem dL_mark_70 : decode cL_mark 70 = .ok (.aload_n 0, 1) := by decide +kernel
theorem dL_mark_71 : decode cL_mark 71 = .ok (.iload_n 3, 1) := by decide +kernel
theorem dL_mark_72 : decode cL_mark 72 = .ok (.iload 4, 2) := by decide +kernel
theorem dL_mark_74 : decode cL_mark 74 = .ok (.invokevirtual 23, 3) := by decide +kernel
theorem dL_mark_77 : decode cL_mark 77 = .ok (.i2l, 1) := by decide +kernel
theorem dL_mark_78 : decode cL_mark 78 = .ok (.ladd, 1) := by decide +kernel
theorem dL_mark_79 : decode cL_mark 79 = .ok (.lstore_n 1, 1) := by decide +kernel
theorem dL_mark_80 : decode cL_mark 80 = .ok (.iinc 4 1, 3) := by decide +kernel
theorem dL_mark_83 : decode cL_mark 83 = .ok (.goto (-38), 3) := by decide +kernel
theorem dL_mark_86 : decode cL_mark 86 = .ok (.ldc2_w 11, 3) := by decide +kernel
theorem dL_mark_89 : decode cL_mark 89 = .ok (.lload_n 1, 1) := by decide +kernel
theorem dL_mark_90 : decode cL_mark 90 = .ok (.lmul, 1) := by decide +kernel
theorem dL_mark_91 : decode cL_mark 91 = .ok (.aload_n 0, 1) := by decide +kernel
theorem dL_mark_92 : decode cL_mark 92 = .ok (.iload_n 3, 1) := by decide +kernel
theorem dL_mark_93 : decode cL_mark 93 = .ok (.bipush 8, 2) := by decide +kernel
theorem dL_mark_95 : decode cL_mark 95 = .ok (.invokevirtual 23, 3) := by decide +kernel
theorem dL_mark_98 : decode cL_mark 98 = .ok (.i2l, 1) := by decide +kernel
theorem dL_mark_99 : decode cL_mark 99 = .ok (.ladd, 1) := by decide +kernel
theorem dL_mark_100 : decode cL_mark 100 = .ok (.lstore_n 1, 1) := by decide +kernel
theorem dL_mark_101 : decode cL_mark 101 = .ok (.iconst 0, 1) := by decide +kernel
theorem dL_mark_102 : decode cL_mark 102 = .ok (.istore 4, 2) := by decide +kernel
theorem dL_mark_104 : decode cL_mark 104 = .ok (.iload 4, 2) := by decide +kernel
theorem dL_mark_106 : decode cL_mark 106 = .ok (.bipush 15, 2) := by decide +kernel
theorem dL_mark_108 : decode cL_mark 108 = .ok (.if_icmp .ge 24, 3) := by decide +kernel
theorem dL_mark_111 : decode cL_mark 111 = .ok (.ldc2_w 11, 3) := by decide +kernel
theorem dL_mark_114 : decode cL_mark 114 = .ok (.lload_n 1, 1) := by decide +kernel
theorem dL_mark_115 : decode cL_mark 115 = .ok (.lmul, 1) := by decide +kernel
theorem dL_mark_116 : decode cL_mark 116 = .ok (.aload_n 0, 1) := by decide +kernel
theorem dL_mark_117 : decode cL_mark 117 = .ok (.iload_n 3, 1) := by decide +kernel
theorem dL_mark_118 : decode cL_mark 118 = .ok (.iload 4, 2) := by decide +kernel
theorem dL_mark_120 : decode cL_mark 120 = .ok (.invokevirtual 26, 3) := by decide +kernel
theorem dL_mark_123 : decode cL_mark 123 = .ok (.i2l, 1) := by decide +kernel
theorem dL_mark_124 : decode cL_mark 124 = .ok (.ladd, 1) := by decide +kernel
theorem dL_mark_125 : decode cL_mark 125 = .ok (.lstore_n 1, 1) := by decide +kernel
theorem dL_mark_126 : decode cL_mark 126 = .ok (.iinc 4 1, 3) := by decide +kernel
theorem dL_mark_129 : decode cL_mark 129 = .ok (.goto (-25), 3) := by decide +kernel
theorem dL_mark_132 : decode cL_mark 132 = .ok (.iinc 3 1, 3) := by decide +kernel
theorem dL_mark_135 : decode cL_mark 135 = .ok (.goto (-102), 3) := by decide +kernel
theorem dL_mark_138 : decode cL_mark 138 = .ok (.iconst 0, 1) := by decide +kernel
theorem dL_mark_139 : decode cL_mark 139 = .ok (.istore_n 3, 1) := by decide +kernel
theorem dL_mark_140 : decode cL_mark 140 = .ok (.iload_n 3, 1) := by decide +kernel
theorem dL_mark_141 : decode cL_mark 141 = .ok (.aload_n 0, 1) := by decide +kernel
theorem dL_mark_142 : decode cL_mark 142 = .ok (.iconst 2, 1) := by decide +kernel
theorem dL_mark_143 : decode cL_mark 143 = .ok (.invokevirtual 13, 3) := by decide +kernel
theorem dL_mark_146 : decode cL_mark 146 = .ok (.if_icmp .ge 40, 3) := by decide +kernel
theorem dL_mark_149 : decode cL_mark 149 = .ok (.iconst 0, 1) := by decide +kernel
theorem dL_mark_150 : decode cL_mark 150 = .ok (.istore 4, 2) := by decide +kernel
theorem dL_mark_152 : decode cL_mark 152 = .ok (.iload 4, 2) := by decide +kernel
theorem dL_mark_154 : decode cL_mark 154 = .ok (.bipush 7, 2) := by decide +kernel
theorem dL_mark_156 : decode cL_mark 156 = .ok (.if_icmp .ge 24, 3) := by decide +kernel
theorem dL_mark_159 : decode cL_mark 159 = .ok (.ldc2_w 11, 3) := by decide +kernel
theorem dL_mark_162 : decode cL_mark 162 = .ok (.lload_n 1, 1) := by decide +kernel
theorem dL_mark_163 : decode cL_mark 163 = .ok (.lmul, 1) := by decide +kernel
theorem dL_mark_164 : decode cL_mark 164 = .ok (.aload_n 0, 1) := by decide +kernel
theorem dL_mark_165 : decode cL_mark 165 = .ok (.iload_n 3, 1) := by decide +kernel
theorem dL_mark_166 : decode cL_mark 166 = .ok (.iload 4, 2) := by decide +kernel
theorem dL_mark_168 : decode cL_mark 168 = .ok (.invokevirtual 29, 3) := by decide +kernel
theorem dL_mark_171 : decode cL_mark 171 = .ok (.i2l, 1) := by decide +kernel
theorem dL_mark_172 : decode cL_mark 172 = .ok (.ladd, 1) := by decide +kernel
theorem dL_mark_173 : decode cL_mark 173 = .ok (.lstore_n 1, 1) := by decide +kernel
theorem dL_mark_174 : decode cL_mark 174 = .ok (.iinc 4 1, 3) := by decide +kernel
theorem dL_mark_177 : decode cL_mark 177 = .ok (.goto (-25), 3) := by decide +kernel
theorem dL_mark_180 : decode cL_mark 180 = .ok (.iinc 3 1, 3) := by decide +kernel
theorem dL_mark_183 : decode cL_mark 183 = .ok (.goto (-43), 3) := by decide +kernel
theorem dL_mark_186 : decode cL_mark 186 = .ok (.lload_n 1, 1) := by decide +kernel
theorem dL_mark_187 : decode cL_mark 187 = .ok (.lreturn, 1) := by decide +kernel
theorem dL_fails_0 : decode cL_fails 0 = .ok (.aload_n 0, 1) := by decide +kernel
theorem dL_fails_1 : decode cL_fails 1 = .ok (.invokestatic 32, 3) := by decide +kernel
theorem dL_fails_4 : decode cL_fails 4 = .ok (.lstore_n 1, 1) := by decide +kernel
theorem dL_fails_5 : decode cL_fails 5 = .ok (.aload_n 0, 1) := by decide +kernel
theorem dL_fails_6 : decode cL_fails 6 = .ok (.bipush 14, 2) := by decide +kernel
theorem dL_fails_8 : decode cL_fails 8 = .ok (.invokevirtual 13, 3) := by decide +kernel
theorem dL_fails_11 : decode cL_fails 11 = .ok (.istore_n 3, 1) := by decide +kernel
theorem dL_fails_12 : decode cL_fails 12 = .ok (.aload_n 0, 1) := by decide +kernel
theorem dL_fails_13 : decode cL_fails 13 = .ok (.iconst 1, 1) := by decide +kernel
theorem dL_fails_14 : decode cL_fails 14 = .ok (.invokevirtual 13, 3) := by decide +kernel
theorem dL_fails_17 : decode cL_fails 17 = .ok (.istore 4, 2) := by decide +kernel
theorem dL_fails_19 : decode cL_fails 19 = .ok (.aload_n 0, 1) := by decide +kernel
theorem dL_fails_20 : decode cL_fails 20 = .ok (.iconst 2, 1) := by decide +kernel
theorem dL_fails_21 : decode cL_fails 21 = .ok (.invokevirtual 13, 3) := by decide +kernel
theorem dL_fails_24 : decode cL_fails 24 = .ok (.istore 5, 2) := by decide +kernel
theorem dL_fails_26 : decode cL_fails 26 = .ok (.aload_n 0, 1) := by decide +kernel
theorem dL_fails_27 : decode cL_fails 27 = .ok (.iconst 0, 1) := by decide +kernel
theorem dL_fails_28 : decode cL_fails 28 = .ok (.invokevirtual 13, 3) := by decide +kernel
theorem dL_fails_31 : decode cL_fails 31 = .ok (.istore 6, 2) := by decide +kernel
theorem dL_fails_33 : decode cL_fails 33 = .ok (.aload_n 0, 1) := by decide +kernel
theorem dL_fails_34 : decode cL_fails 34 = .ok (.iconst 0, 1) := by decide +kernel
theorem dL_fails_35 : decode cL_fails 35 = .ok (.iconst 1, 1) := by decide +kernel
theorem dL_fails_36 : decode cL_fails 36 = .ok (.invokevirtual 38, 3) := by decide +kernel
theorem dL_fails_39 : decode cL_fails 39 = .ok (.bipush (-2), 2) := by decide +kernel
theorem dL_fails_41 : decode cL_fails 41 = .ok (.if_icmp .ne 217, 3) := by decide +kernel
theorem dL_fails_44 : decode cL_fails 44 = .ok (.aload_n 0, 1) := by decide +kernel
theorem dL_fails_45 : decode cL_fails 45 = .ok (.bipush 61, 2) := by decide +kernel
theorem dL_fails_47 : decode cL_fails 47 = .ok (.iconst 1, 1) := by decide +kernel
theorem dL_fails_48 : decode cL_fails 48 = .ok (.invokevirtual 38, 3) := by decide +kernel
theorem dL_fails_51 : decode cL_fails 51 = .ok (.bipush (-2), 2) := by decide +kernel
theorem dL_fails_53 : decode cL_fails 53 = .ok (.if_icmp .ne 205, 3) := by decide +kernel
theorem dL_fails_56 : decode cL_fails 56 = .ok (.aload_n 0, 1) := by decide +kernel
theorem dL_fails_57 : decode cL_fails 57 = .ok (.iconst 1, 1) := by decide +kernel
theorem dL_fails_58 : decode cL_fails 58 = .ok (.iconst 0, 1) := by decide +kernel
theorem dL_fails_59 : decode cL_fails 59 = .ok (.invokevirtual 38, 3) := by decide +kernel
theorem dL_fails_62 : decode cL_fails 62 = .ok (.bipush (-2), 2) := by decide +kernel
theorem dL_fails_64 : decode cL_fails 64 = .ok (.if_icmp .ne 194, 3) := by decide +kernel
theorem dL_fails_67 : decode cL_fails 67 = .ok (.aload_n 0, 1) := by decide +kernel
theorem dL_fails_68 : decode cL_fails 68 = .ok (.iconst 1, 1) := by decide +kernel
theorem dL_fails_69 : decode cL_fails 69 = .ok (.bipush 7, 2) := by decide +kernel
theorem dL_fails_71 : decode cL_fails 71 = .ok (.invokevirtual 38, 3) := by decide +kernel
theorem dL_fails_74 : decode cL_fails 74 = .ok (.bipush (-2), 2) := by decide +kernel
theorem dL_fails_76 : decode cL_fails 76 = .ok (.if_icmp .ne 182, 3) := by decide +kernel
theorem dL_fails_79 : decode cL_fails 79 = .ok (.aload_n 0, 1) := by decide +kernel
theorem dL_fails_80 : decode cL_fails 80 = .ok (.iload 4, 2) := by decide +kernel
theorem dL_fails_82 : decode cL_fails 82 = .ok (.bipush 14, 2) := by decide +kernel
theorem dL_fails_84 : decode cL_fails 84 = .ok (.iconst 1, 1) := by decide +kernel
theorem dL_fails_85 : decode cL_fails 85 = .ok (.invokevirtual 41, 3) := by decide +kernel
theorem dL_fails_88 : decode cL_fails 88 = .ok (.iconst (-1), 1) := by decide +kernel
theorem dL_fails_89 : decode cL_fails 89 = .ok (.if_icmp .ne 169, 3) := by decide +kernel
theorem dL_fails_92 : decode cL_fails 92 = .ok (.aload_n 0, 1) := by decide +kernel
theorem dL_fails_93 : decode cL_fails 93 = .ok (.iload 5, 2) := by decide +kernel
theorem dL_fails_95 : decode cL_fails 95 = .ok (.iconst 0, 1) := by decide +kernel
theorem dL_fails_96 : decode cL_fails 96 = .ok (.invokevirtual 45, 3) := by decide +kernel
theorem dL_fails_99 : decode cL_fails 99 = .ok (.iconst (-1), 1) := by decide +kernel
theorem dL_fails_100 : decode cL_fails 100 = .ok (.if_icmp .ne 158, 3) := by decide +kernel
theorem dL_fails_103 : decode cL_fails 103 = .ok (.aload_n 0, 1) := by decide +kernel
theorem dL_fails_104 : decode cL_fails 104 = .ok (.iconst 0, 1) := by decide +kernel
theorem dL_fails_105 : decode cL_fails 105 = .ok (.iload 4, 2) := by decide +kernel
theorem dL_fails_107 : decode cL_fails 107 = .ok (.invokevirtual 45, 3) := by decide +kernel
theorem dL_fails_110 : decode cL_fails 110 = .ok (.iconst (-1), 1) := by decide +kernel
theorem dL_fails_111 : decode cL_fails 111 = .ok (.if_icmp .ne 147, 3) := by decide +kernel
theorem dL_fails_114 : decode cL_fails 114 = .ok (.aload_n 0, 1) := by decide +kernel
theorem dL_fails_115 : decode cL_fails 115 = .ok (.iload 5, 2) := by decide +kernel
theorem dL_fails_117 : decode cL_fails 117 = .ok (.invokevirtual 48, 3) := by decide +kernel
theorem dL_fails_120 : decode cL_fails 120 = .ok (.iconst (-1), 1) := by decide +kernel
theorem dL_fails_121 : decode cL_fails 121 = .ok (.if_icmp .ne 137, 3) := by decide +kernel
theorem dL_fails_124 : decode cL_fails 124 = .ok (.aload_n 0, 1) := by decide +kernel
theorem dL_fails_125 : decode cL_fails 125 = .ok (.iconst 0, 1) := by decide +kernel
theorem dL_fails_126 : decode cL_fails 126 = .ok (.invokevirtual 51, 3) := by decide +kernel
theorem dL_fails_129 : decode cL_fails 129 = .ok (.bipush (-2), 2) := by decide +kernel
theorem dL_fails_131 : decode cL_fails 131 = .ok (.if_icmp .ne 127, 3) := by decide +kernel
theorem dL_fails_134 : decode cL_fails 134 = .ok (.aload_n 0, 1) := by decide +kernel
theorem dL_fails_135 : decode cL_fails 135 = .ok (.bipush 19, 2) := by decide +kernel
theorem dL_fails_137 : decode cL_fails 137 = .ok (.invokevirtual 51, 3) := by decide +kernel
theorem dL_fails_140 : decode cL_fails 140 = .ok (.bipush (-2), 2) := by decide +kernel
theorem dL_fails_142 : decode cL_fails 142 = .ok (.if_icmp .ne 116, 3) := by decide +kernel
theorem dL_fails_145 : decode cL_fails 145 = .ok (.aload_n 0, 1) := by decide +kernel
theorem dL_fails_146 : decode cL_fails 146 = .ok (.iload 4, 2) := by decide +kernel
theorem dL_fails_148 : decode cL_fails 148 = .ok (.iconst 1, 1) := by decide +kernel
theorem dL_fails_149 : decode cL_fails 149 = .ok (.invokevirtual 54, 3) := by decide +kernel
theorem dL_fails_152 : decode cL_fails 152 = .ok (.iconst (-1), 1) := by decide +kernel
theorem dL_fails_153 : decode cL_fails 153 = .ok (.if_icmp .ne 105, 3) := by decide +kernel
theorem dL_fails_156 : decode cL_fails 156 = .ok (.aload_n 0, 1) := by decide +kernel
theorem dL_fails_157 : decode cL_fails 157 = .ok (.iload 4, 2) := by decide +kernel
theorem dL_fails_159 : decode cL_fails 159 = .ok (.iconst 0, 1) := by decide +kernel
theorem dL_fails_160 : decode cL_fails 160 = .ok (.iconst 1, 1) := by decide +kernel
theorem dL_fails_161 : decode cL_fails 161 = .ok (.invokevirtual 57, 3) := by decide +kernel
theorem dL_fails_164 : decode cL_fails 164 = .ok (.iconst (-1), 1) := by decide +kernel
theorem dL_fails_165 : decode cL_fails 165 = .ok (.if_icmp .ne 93, 3) := by decide +kernel
theorem dL_fails_168 : decode cL_fails 168 = .ok (.aload_n 0, 1) := by decide +kernel
theorem dL_fails_169 : decode cL_fails 169 = .ok (.iconst 0, 1) := by decide +kernel
theorem dL_fails_170 : decode cL_fails 170 = .ok (.iload 4, 2) := by decide +kernel
theorem dL_fails_172 : decode cL_fails 172 = .ok (.iconst 1, 1) := by decide +kernel
theorem dL_fails_173 : decode cL_fails 173 = .ok (.invokevirtual 57, 3) := by decide +kernel
theorem dL_fails_176 : decode cL_fails 176 = .ok (.iconst (-1), 1) := by decide +kernel
theorem dL_fails_177 : decode cL_fails 177 = .ok (.if_icmp .ne 81, 3) := by decide +kernel
theorem dL_fails_180 : decode cL_fails 180 = .ok (.aload_n 0, 1) := by decide +kernel
theorem dL_fails_181 : decode cL_fails 181 = .ok (.iload 4, 2) := by decide +kernel
theorem dL_fails_183 : decode cL_fails 183 = .ok (.iconst 1, 1) := by decide +kernel
theorem dL_fails_184 : decode cL_fails 184 = .ok (.invokevirtual 60, 3) := by decide +kernel
theorem dL_fails_187 : decode cL_fails 187 = .ok (.iconst (-1), 1) := by decide +kernel
theorem dL_fails_188 : decode cL_fails 188 = .ok (.if_icmp .ne 70, 3) := by decide +kernel
theorem dL_fails_191 : decode cL_fails 191 = .ok (.aload_n 0, 1) := by decide +kernel
theorem dL_fails_192 : decode cL_fails 192 = .ok (.iconst (-1), 1) := by decide +kernel
theorem dL_fails_193 : decode cL_fails 193 = .ok (.iconst 1, 1) := by decide +kernel
theorem dL_fails_194 : decode cL_fails 194 = .ok (.invokevirtual 63, 3) := by decide +kernel
theorem dL_fails_197 : decode cL_fails 197 = .ok (.iconst (-1), 1) := by decide +kernel
theorem dL_fails_198 : decode cL_fails 198 = .ok (.if_icmp .ne 60, 3) := by decide +kernel
theorem dL_fails_201 : decode cL_fails 201 = .ok (.aload_n 0, 1) := by decide +kernel
theorem dL_fails_202 : decode cL_fails 202 = .ok (.iload 4, 2) := by decide +kernel
theorem dL_fails_204 : decode cL_fails 204 = .ok (.iconst 1, 1) := by decide +kernel
theorem dL_fails_205 : decode cL_fails 205 = .ok (.invokevirtual 66, 3) := by decide +kernel
theorem dL_fails_208 : decode cL_fails 208 = .ok (.iconst (-1), 1) := by decide +kernel
theorem dL_fails_209 : decode cL_fails 209 = .ok (.if_icmp .ne 49, 3) := by decide +kernel
theorem dL_fails_212 : decode cL_fails 212 = .ok (.aload_n 0, 1) := by decide +kernel
theorem dL_fails_213 : decode cL_fails 213 = .ok (.iload 4, 2) := by decide +kernel
theorem dL_fails_215 : decode cL_fails 215 = .ok (.iconst 1, 1) := by decide +kernel
theorem dL_fails_216 : decode cL_fails 216 = .ok (.invokevirtual 69, 3) := by decide +kernel
theorem dL_fails_219 : decode cL_fails 219 = .ok (.iconst (-1), 1) := by decide +kernel
theorem dL_fails_220 : decode cL_fails 220 = .ok (.if_icmp .ne 38, 3) := by decide +kernel
theorem dL_fails_223 : decode cL_fails 223 = .ok (.aload_n 0, 1) := by decide +kernel
theorem dL_fails_224 : decode cL_fails 224 = .ok (.iload 4, 2) := by decide +kernel
theorem dL_fails_226 : decode cL_fails 226 = .ok (.bipush 14, 2) := by decide +kernel
theorem dL_fails_228 : decode cL_fails 228 = .ok (.invokevirtual 72, 3) := by decide +kernel
theorem dL_fails_231 : decode cL_fails 231 = .ok (.iconst (-1), 1) := by decide +kernel
theorem dL_fails_232 : decode cL_fails 232 = .ok (.if_icmp .ne 26, 3) := by decide +kernel
theorem dL_fails_235 : decode cL_fails 235 = .ok (.iload 6, 2) := by decide +kernel
theorem dL_fails_237 : decode cL_fails 237 = .ok (.ifCond .eq 17, 3) := by decide +kernel
theorem dL_fails_240 : decode cL_fails 240 = .ok (.aload_n 0, 1) := by decide +kernel
theorem dL_fails_241 : decode cL_fails 241 = .ok (.bipush 19, 2) := by decide +kernel
theorem dL_fails_243 : decode cL_fails 243 = .ok (.iload 6, 2) := by decide +kernel
theorem dL_fails_245 : decode cL_fails 245 = .ok (.isub, 1) := by decide +kernel
theorem dL_fails_246 : decode cL_fails 246 = .ok (.invokevirtual 51, 3) := by decide +kernel
theorem dL_fails_249 : decode cL_fails 249 = .ok (.bipush (-4), 2) := by decide +kernel
theorem dL_fails_251 : decode cL_fails 251 = .ok (.if_icmp .ne 7, 3) := by decide +kernel
theorem dL_fails_254 : decode cL_fails 254 = .ok (.iconst 1, 1) := by decide +kernel
theorem dL_fails_255 : decode cL_fails 255 = .ok (.goto 4, 3) := by decide +kernel
theorem dL_fails_258 : decode cL_fails 258 = .ok (.iconst 0, 1) := by decide +kernel
theorem dL_fails_259 : decode cL_fails 259 = .ok (.istore 7, 2) := by decide +kernel
theorem dL_fails_261 : decode cL_fails 261 = .ok (.iload 7, 2) := by decide +kernel
theorem dL_fails_263 : decode cL_fails 263 = .ok (.ifCond .eq 134, 3) := by decide +kernel
theorem dL_fails_266 : decode cL_fails 266 = .ok (.aload_n 0, 1) := by decide +kernel
theorem dL_fails_267 : decode cL_fails 267 = .ok (.iload 4, 2) := by decide +kernel
theorem dL_fails_269 : decode cL_fails 269 = .ok (.iconst 0, 1) := by decide +kernel
theorem dL_fails_270 : decode cL_fails 270 = .ok (.invokevirtual 19, 3) := by decide +kernel
theorem dL_fails_273 : decode cL_fails 273 = .ok (.iconst (-1), 1) := by decide +kernel
theorem dL_fails_274 : decode cL_fails 274 = .ok (.if_icmp .ne 123, 3) := by decide +kernel
theorem dL_fails_277 : decode cL_fails 277 = .ok (.aload_n 0, 1) := by decide +kernel
theorem dL_fails_278 : decode cL_fails 278 = .ok (.iconst (-1), 1) := by decide +kernel
theorem dL_fails_279 : decode cL_fails 279 = .ok (.iconst 0, 1) := by decide +kernel
theorem dL_fails_280 : decode cL_fails 280 = .ok (.invokevirtual 23, 3) := by decide +kernel
theorem dL_fails_283 : decode cL_fails 283 = .ok (.iconst (-1), 1) := by decide +kernel
theorem dL_fails_284 : decode cL_fails 284 = .ok (.if_icmp .ne 113, 3) := by decide +kernel
theorem dL_fails_287 : decode cL_fails 287 = .ok (.aload_n 0, 1) := by decide +kernel
theorem dL_fails_288 : decode cL_fails 288 = .ok (.iload 5, 2) := by decide +kernel
theorem dL_fails_290 : decode cL_fails 290 = .ok (.iconst 0, 1) := by decide +kernel
theorem dL_fails_291 : decode cL_fails 291 = .ok (.invokevirtual 29, 3) := by decide +kernel
theorem dL_fails_294 : decode cL_fails 294 = .ok (.iconst (-1), 1) := by decide +kernel
theorem dL_fails_295 : decode cL_fails 295 = .ok (.if_icmp .ne 102, 3) := by decide +kernel
theorem dL_fails_298 : decode cL_fails 298 = .ok (.aload_n 0, 1) := by decide +kernel
theorem dL_fails_299 : decode cL_fails 299 = .ok (.iload 4, 2) := by decide +kernel
theorem dL_fails_301 : decode cL_fails 301 = .ok (.iconst 0, 1) := by decide +kernel
theorem dL_fails_302 : decode cL_fails 302 = .ok (.invokevirtual 26, 3) := by decide +kernel
theorem dL_fails_305 : decode cL_fails 305 = .ok (.iconst (-1), 1) := by decide +kernel
theorem dL_fails_306 : decode cL_fails 306 = .ok (.if_icmp .ne 91, 3) := by decide +kernel
theorem dL_fails_309 : decode cL_fails 309 = .ok (.aload_n 0, 1) := by decide +kernel
theorem dL_fails_310 : decode cL_fails 310 = .ok (.iconst (-1), 1) := by decide +kernel
theorem dL_fails_311 : decode cL_fails 311 = .ok (.invokevirtual 75, 3) := by decide +kernel
theorem dL_fails_314 : decode cL_fails 314 = .ok (.bipush (-2), 2) := by decide +kernel
theorem dL_fails_316 : decode cL_fails 316 = .ok (.if_icmp .ne 81, 3) := by decide +kernel
theorem dL_fails_319 : decode cL_fails 319 = .ok (.aload_n 0, 1) := by decide +kernel
theorem dL_fails_320 : decode cL_fails 320 = .ok (.bipush 12, 2) := by decide +kernel
theorem dL_fails_322 : decode cL_fails 322 = .ok (.invokevirtual 75, 3) := by decide +kernel
theorem dL_fails_325 : decode cL_fails 325 = .ok (.bipush (-5), 2) := by decide +kernel
theorem dL_fails_327 : decode cL_fails 327 = .ok (.if_icmp .ne 70, 3) := by decide +kernel
theorem dL_fails_330 : decode cL_fails 330 = .ok (.aload_n 0, 1) := by decide +kernel
theorem dL_fails_331 : decode cL_fails 331 = .ok (.iconst (-1), 1) := by decide +kernel
theorem dL_fails_332 : decode cL_fails 332 = .ok (.invokevirtual 78, 3) := by decide +kernel
theorem dL_fails_335 : decode cL_fails 335 = .ok (.bipush (-2), 2) := by decide +kernel
theorem dL_fails_337 : decode cL_fails 337 = .ok (.if_icmp .ne 60, 3) := by decide +kernel
theorem dL_fails_340 : decode cL_fails 340 = .ok (.aload_n 0, 1) := by decide +kernel
theorem dL_fails_341 : decode cL_fails 341 = .ok (.iload 4, 2) := by decide +kernel
theorem dL_fails_343 : decode cL_fails 343 = .ok (.invokevirtual 78, 3) := by decide +kernel
theorem dL_fails_346 : decode cL_fails 346 = .ok (.bipush (-5), 2) := by decide +kernel
theorem dL_fails_348 : decode cL_fails 348 = .ok (.if_icmp .ne 49, 3) := by decide +kernel
theorem dL_fails_351 : decode cL_fails 351 = .ok (.aload_n 0, 1) := by decide +kernel
theorem dL_fails_352 : decode cL_fails 352 = .ok (.iload 4, 2) := by decide +kernel
theorem dL_fails_354 : decode cL_fails 354 = .ok (.iconst 0, 1) := by decide +kernel
theorem dL_fails_355 : decode cL_fails 355 = .ok (.invokevirtual 81, 3) := by decide +kernel
theorem dL_fails_358 : decode cL_fails 358 = .ok (.iconst (-1), 1) := by decide +kernel
theorem dL_fails_359 : decode cL_fails 359 = .ok (.if_icmp .ne 38, 3) := by decide +kernel
theorem dL_fails_362 : decode cL_fails 362 = .ok (.aload_n 0, 1) := by decide +kernel
theorem dL_fails_363 : decode cL_fails 363 = .ok (.iload 4, 2) := by decide +kernel
theorem dL_fails_365 : decode cL_fails 365 = .ok (.invokevirtual 84, 3) := by decide +kernel
theorem dL_fails_368 : decode cL_fails 368 = .ok (.iconst (-1), 1) := by decide +kernel
theorem dL_fails_369 : decode cL_fails 369 = .ok (.if_icmp .ne 28, 3) := by decide +kernel
theorem dL_fails_372 : decode cL_fails 372 = .ok (.aload_n 0, 1) := by decide +kernel
theorem dL_fails_373 : decode cL_fails 373 = .ok (.bipush 16, 2) := by decide +kernel
theorem dL_fails_375 : decode cL_fails 375 = .ok (.invokevirtual 13, 3) := by decide +kernel
theorem dL_fails_378 : decode cL_fails 378 = .ok (.bipush (-2), 2) := by decide +kernel
theorem dL_fails_380 : decode cL_fails 380 = .ok (.if_icmp .ne 17, 3) := by decide +kernel
theorem dL_fails_383 : decode cL_fails 383 = .ok (.aload_n 0, 1) := by decide +kernel
theorem dL_fails_384 : decode cL_fails 384 = .ok (.iconst (-1), 1) := by decide +kernel
theorem dL_fails_385 : decode cL_fails 385 = .ok (.invokevirtual 13, 3) := by decide +kernel
theorem dL_fails_388 : decode cL_fails 388 = .ok (.bipush (-2), 2) := by decide +kernel
theorem dL_fails_390 : decode cL_fails 390 = .ok (.if_icmp .ne 7, 3) := by decide +kernel
theorem dL_fails_393 : decode cL_fails 393 = .ok (.iconst 1, 1) := by decide +kernel
theorem dL_fails_394 : decode cL_fails 394 = .ok (.goto 4, 3) := by decide +kernel
theorem dL_fails_397 : decode cL_fails 397 = .ok (.iconst 0, 1) := by decide +kernel
theorem dL_fails_398 : decode cL_fails 398 = .ok (.istore 7, 2) := by decide +kernel
theorem dL_fails_400 : decode cL_fails 400 = .ok (.iload 7, 2) := by decide +kernel
theorem dL_fails_402 : decode cL_fails 402 = .ok (.ifCond .eq 254, 3) := by decide +kernel
theorem dL_fails_405 : decode cL_fails 405 = .ok (.iload 4, 2) := by decide +kernel
theorem dL_fails_407 : decode cL_fails 407 = .ok (.ifCond .eq 228, 3) := by decide +kernel
theorem dL_fails_410 : decode cL_fails 410 = .ok (.aload_n 0, 1) := by decide +kernel
theorem dL_fails_411 : decode cL_fails 411 = .ok (.iconst 0, 1) := by decide +kernel
theorem dL_fails_412 : decode cL_fails 412 = .ok (.iload 6, 2) := by decide +kernel
theorem dL_fails_414 : decode cL_fails 414 = .ok (.iconst 1, 1) := by decide +kernel
theorem dL_fails_415 : decode cL_fails 415 = .ok (.isub, 1) := by decide +kernel
theorem dL_fails_416 : decode cL_fails 416 = .ok (.iconst 1, 1) := by decide +kernel
theorem dL_fails_417 : decode cL_fails 417 = .ok (.invokevirtual 41, 3) := by decide +kernel
theorem dL_fails_420 : decode cL_fails 420 = .ok (.bipush (-2), 2) := by decide +kernel
theorem dL_fails_422 : decode cL_fails 422 = .ok (.if_icmp .ne 234, 3) := by decide +kernel
theorem dL_fails_425 : decode cL_fails 425 = .ok (.aload_n 0, 1) := by decide +kernel
theorem dL_fails_426 : decode cL_fails 426 = .ok (.iconst 0, 1) := by decide +kernel
theorem dL_fails_427 : decode cL_fails 427 = .ok (.bipush 15, 2) := by decide +kernel
theorem dL_fails_429 : decode cL_fails 429 = .ok (.iconst 1, 1) := by decide +kernel
theorem dL_fails_430 : decode cL_fails 430 = .ok (.invokevirtual 41, 3) := by decide +kernel
theorem dL_fails_433 : decode cL_fails 433 = .ok (.bipush (-2), 2) := by decide +kernel
theorem dL_fails_435 : decode cL_fails 435 = .ok (.if_icmp .ne 221, 3) := by decide +kernel
theorem dL_fails_438 : decode cL_fails 438 = .ok (.aload_n 0, 1) := by decide +kernel
theorem dL_fails_439 : decode cL_fails 439 = .ok (.iconst 0, 1) := by decide +kernel
theorem dL_fails_440 : decode cL_fails 440 = .ok (.bipush 14, 2) := by decide +kernel
theorem dL_fails_442 : decode cL_fails 442 = .ok (.sipush 501, 3) := by decide +kernel
theorem dL_fails_445 : decode cL_fails 445 = .ok (.invokevirtual 41, 3) := by decide +kernel
theorem dL_fails_448 : decode cL_fails 448 = .ok (.bipush (-2), 2) := by decide +kernel
theorem dL_fails_450 : decode cL_fails 450 = .ok (.if_icmp .ne 206, 3) := by decide +kernel
theorem dL_fails_453 : decode cL_fails 453 = .ok (.aload_n 0, 1) := by decide +kernel
theorem dL_fails_454 : decode cL_fails 454 = .ok (.iconst 0, 1) := by decide +kernel
theorem dL_fails_455 : decode cL_fails 455 = .ok (.iconst 0, 1) := by decide +kernel
theorem dL_fails_456 : decode cL_fails 456 = .ok (.invokevirtual 54, 3) := by decide +kernel
theorem dL_fails_459 : decode cL_fails 459 = .ok (.bipush (-2), 2) := by decide +kernel
theorem dL_fails_461 : decode cL_fails 461 = .ok (.if_icmp .ne 195, 3) := by decide +kernel
theorem dL_fails_464 : decode cL_fails 464 = .ok (.aload_n 0, 1) := by decide +kernel
theorem dL_fails_465 : decode cL_fails 465 = .ok (.iconst 0, 1) := by decide +kernel
theorem dL_fails_466 : decode cL_fails 466 = .ok (.sipush 10000, 3) := by decide +kernel
theorem dL_fails_469 : decode cL_fails 469 = .ok (.invokevirtual 54, 3) := by decide +kernel
theorem dL_fails_472 : decode cL_fails 472 = .ok (.bipush (-2), 2) := by decide +kernel
theorem dL_fails_474 : decode cL_fails 474 = .ok (.if_icmp .ne 182, 3) := by decide +kernel
theorem dL_fails_477 : decode cL_fails 477 = .ok (.aload_n 0, 1) := by decide +kernel
theorem dL_fails_478 : decode cL_fails 478 = .ok (.iconst 0, 1) := by decide +kernel
theorem dL_fails_479 : decode cL_fails 479 = .ok (.iconst 0, 1) := by decide +kernel
theorem dL_fails_480 : decode cL_fails 480 = .ok (.iconst 1, 1) := by decide +kernel
theorem dL_fails_481 : decode cL_fails 481 = .ok (.invokevirtual 57, 3) := by decide +kernel
theorem dL_fails_484 : decode cL_fails 484 = .ok (.bipush (-2), 2) := by decide +kernel
theorem dL_fails_486 : decode cL_fails 486 = .ok (.if_icmp .ne 170, 3) := by decide +kernel
theorem dL_fails_489 : decode cL_fails 489 = .ok (.aload_n 0, 1) := by decide +kernel
theorem dL_fails_490 : decode cL_fails 490 = .ok (.iconst 0, 1) := by decide +kernel
theorem dL_fails_491 : decode cL_fails 491 = .ok (.iconst 0, 1) := by decide +kernel
theorem dL_fails_492 : decode cL_fails 492 = .ok (.invokevirtual 60, 3) := by decide +kernel
theorem dL_fails_495 : decode cL_fails 495 = .ok (.bipush (-2), 2) := by decide +kernel
theorem dL_fails_497 : decode cL_fails 497 = .ok (.if_icmp .ne 159, 3) := by decide +kernel
theorem dL_fails_500 : decode cL_fails 500 = .ok (.aload_n 0, 1) := by decide +kernel
theorem dL_fails_501 : decode cL_fails 501 = .ok (.iconst 0, 1) := by decide +kernel
theorem dL_fails_502 : decode cL_fails 502 = .ok (.sipush 9999, 3) := by decide +kernel
theorem dL_fails_505 : decode cL_fails 505 = .ok (.invokevirtual 60, 3) := by decide +kernel
theorem dL_fails_508 : decode cL_fails 508 = .ok (.bipush (-4), 2) := by decide +kernel
theorem dL_fails_510 : decode cL_fails 510 = .ok (.if_icmp .ne 146, 3) := by decide +kernel
theorem dL_fails_513 : decode cL_fails 513 = .ok (.aload_n 0, 1) := by decide +kernel
theorem dL_fails_514 : decode cL_fails 514 = .ok (.iconst 0, 1) := by decide +kernel
theorem dL_fails_515 : decode cL_fails 515 = .ok (.iconst 0, 1) := by decide +kernel
theorem dL_fails_516 : decode cL_fails 516 = .ok (.invokevirtual 63, 3) := by decide +kernel
theorem dL_fails_519 : decode cL_fails 519 = .ok (.bipush (-2), 2) := by decide +kernel
theorem dL_fails_521 : decode cL_fails 521 = .ok (.if_icmp .ne 135, 3) := by decide +kernel
theorem dL_fails_524 : decode cL_fails 524 = .ok (.aload_n 0, 1) := by decide +kernel
theorem dL_fails_525 : decode cL_fails 525 = .ok (.iconst 0, 1) := by decide +kernel
theorem dL_fails_526 : decode cL_fails 526 = .ok (.sipush 10000, 3) := by decide +kernel
theorem dL_fails_529 : decode cL_fails 529 = .ok (.invokevirtual 66, 3) := by decide +kernel
theorem dL_fails_532 : decode cL_fails 532 = .ok (.bipush (-2), 2) := by decide +kernel
theorem dL_fails_534 : decode cL_fails 534 = .ok (.if_icmp .ne 122, 3) := by decide +kernel
theorem dL_fails_537 : decode cL_fails 537 = .ok (.aload_n 0, 1) := by decide +kernel
theorem dL_fails_538 : decode cL_fails 538 = .ok (.iconst 0, 1) := by decide +kernel
theorem dL_fails_539 : decode cL_fails 539 = .ok (.ldc 87, 2) := by decide +kernel
theorem dL_fails_541 : decode cL_fails 541 = .ok (.invokevirtual 69, 3) := by decide +kernel
theorem dL_fails_544 : decode cL_fails 544 = .ok (.bipush (-2), 2) := by decide +kernel
theorem dL_fails_546 : decode cL_fails 546 = .ok (.if_icmp .ne 110, 3) := by decide +kernel
theorem dL_fails_549 : decode cL_fails 549 = .ok (.iload 6, 2) := by decide +kernel
theorem dL_fails_551 : decode cL_fails 551 = .ok (.bipush 14, 2) := by decide +kernel
theorem dL_fails_553 : decode cL_fails 553 = .ok (.if_icmp .gt 14, 3) := by decide +kernel
theorem dL_fails_556 : decode cL_fails 556 = .ok (.aload_n 0, 1) := by decide +kernel
theorem dL_fails_557 : decode cL_fails 557 = .ok (.iconst 0, 1) := by decide +kernel
theorem dL_fails_558 : decode cL_fails 558 = .ok (.iconst 0, 1) := by decide +kernel
theorem dL_fails_559 : decode cL_fails 559 = .ok (.invokevirtual 69, 3) := by decide +kernel
theorem dL_fails_562 : decode cL_fails 562 = .ok (.bipush (-4), 2) := by decide +kernel
theorem dL_fails_564 : decode cL_fails 564 = .ok (.if_icmp .ne 92, 3) := by decide +kernel
theorem dL_fails_567 : decode cL_fails 567 = .ok (.aload_n 0, 1) := by decide +kernel
theorem dL_fails_568 : decode cL_fails 568 = .ok (.iconst 0, 1) := by decide +kernel
theorem dL_fails_569 : decode cL_fails 569 = .ok (.bipush 8, 2) := by decide +kernel
theorem dL_fails_571 : decode cL_fails 571 = .ok (.invokevirtual 19, 3) := by decide +kernel
theorem dL_fails_574 : decode cL_fails 574 = .ok (.bipush (-2), 2) := by decide +kernel
theorem dL_fails_576 : decode cL_fails 576 = .ok (.if_icmp .ne 80, 3) := by decide +kernel
theorem dL_fails_579 : decode cL_fails 579 = .ok (.aload_n 0, 1) := by decide +kernel
theorem dL_fails_580 : decode cL_fails 580 = .ok (.iconst 0, 1) := by decide +kernel
theorem dL_fails_581 : decode cL_fails 581 = .ok (.bipush 9, 2) := by decide +kernel
theorem dL_fails_583 : decode cL_fails 583 = .ok (.invokevirtual 23, 3) := by decide +kernel
theorem dL_fails_586 : decode cL_fails 586 = .ok (.bipush (-2), 2) := by decide +kernel
theorem dL_fails_588 : decode cL_fails 588 = .ok (.if_icmp .ne 68, 3) := by decide +kernel
theorem dL_fails_591 : decode cL_fails 591 = .ok (.aload_n 0, 1) := by decide +kernel
theorem dL_fails_592 : decode cL_fails 592 = .ok (.iconst 0, 1) := by decide +kernel
theorem dL_fails_593 : decode cL_fails 593 = .ok (.bipush 15, 2) := by decide +kernel
theorem dL_fails_595 : decode cL_fails 595 = .ok (.invokevirtual 26, 3) := by decide +kernel
theorem dL_fails_598 : decode cL_fails 598 = .ok (.bipush (-2), 2) := by decide +kernel
theorem dL_fails_600 : decode cL_fails 600 = .ok (.if_icmp .ne 56, 3) := by decide +kernel
theorem dL_fails_603 : decode cL_fails 603 = .ok (.aload_n 0, 1) := by decide +kernel
theorem dL_fails_604 : decode cL_fails 604 = .ok (.iconst 0, 1) := by decide +kernel
theorem dL_fails_605 : decode cL_fails 605 = .ok (.bipush 19, 2) := by decide +kernel
theorem dL_fails_607 : decode cL_fails 607 = .ok (.invokevirtual 81, 3) := by decide +kernel
theorem dL_fails_610 : decode cL_fails 610 = .ok (.bipush (-2), 2) := by decide +kernel
theorem dL_fails_612 : decode cL_fails 612 = .ok (.if_icmp .ne 44, 3) := by decide +kernel
theorem dL_fails_615 : decode cL_fails 615 = .ok (.iload 6, 2) := by decide +kernel
theorem dL_fails_617 : decode cL_fails 617 = .ok (.ifCond .eq 18, 3) := by decide +kernel
theorem dL_fails_620 : decode cL_fails 620 = .ok (.aload_n 0, 1) := by decide +kernel
theorem dL_fails_621 : decode cL_fails 621 = .ok (.iconst 0, 1) := by decide +kernel
theorem dL_fails_622 : decode cL_fails 622 = .ok (.bipush 19, 2) := by decide +kernel
theorem dL_fails_624 : decode cL_fails 624 = .ok (.iload 6, 2) := by decide +kernel
theorem dL_fails_626 : decode cL_fails 626 = .ok (.isub, 1) := by decide +kernel
theorem dL_fails_627 : decode cL_fails 627 = .ok (.invokevirtual 81, 3) := by decide +kernel
theorem dL_fails_630 : decode cL_fails 630 = .ok (.bipush (-4), 2) := by decide +kernel
theorem dL_fails_632 : decode cL_fails 632 = .ok (.if_icmp .ne 24, 3) := by decide +kernel
theorem dL_fails_635 : decode cL_fails 635 = .ok (.iload 5, 2) := by decide +kernel
theorem dL_fails_637 : decode cL_fails 637 = .ok (.ifCond .eq 15, 3) := by decide +kernel
theorem dL_fails_640 : decode cL_fails 640 = .ok (.aload_n 0, 1) := by decide +kernel
theorem dL_fails_641 : decode cL_fails 641 = .ok (.iconst 0, 1) := by decide +kernel
theorem dL_fails_642 : decode cL_fails 642 = .ok (.bipush 7, 2) := by decide +kernel
theorem dL_fails_644 : decode cL_fails 644 = .ok (.invokevirtual 29, 3) := by decide +kernel
theorem dL_fails_647 : decode cL_fails 647 = .ok (.bipush (-2), 2) := by decide +kernel
theorem dL_fails_649 : decode cL_fails 649 = .ok (.if_icmp .ne 7, 3) := by decide +kernel
theorem dL_fails_652 : decode cL_fails 652 = .ok (.iconst 1, 1) := by decide +kernel
theorem dL_fails_653 : decode cL_fails 653 = .ok (.goto 4, 3) := by decide +kernel
theorem dL_fails_656 : decode cL_fails 656 = .ok (.iconst 0, 1) := by decide +kernel
theorem dL_fails_657 : decode cL_fails 657 = .ok (.istore 7, 2) := by decide +kernel
theorem dL_fails_659 : decode cL_fails 659 = .ok (.iload 7, 2) := by decide +kernel
theorem dL_fails_661 : decode cL_fails 661 = .ok (.ifCond .eq 26, 3) := by decide +kernel
theorem dL_fails_664 : decode cL_fails 664 = .ok (.aload_n 0, 1) := by decide +kernel
theorem dL_fails_665 : decode cL_fails 665 = .ok (.invokestatic 32, 3) := by decide +kernel
theorem dL_fails_668 : decode cL_fails 668 = .ok (.lload_n 1, 1) := by decide +kernel
theorem dL_fails_669 : decode cL_fails 669 = .ok (.lcmp, 1) := by decide +kernel
theorem dL_fails_670 : decode cL_fails 670 = .ok (.ifCond .ne 17, 3) := by decide +kernel
theorem dL_fails_673 : decode cL_fails 673 = .ok (.aload_n 0, 1) := by decide +kernel
theorem dL_fails_674 : decode cL_fails 674 = .ok (.bipush 14, 2) := by decide +kernel
theorem dL_fails_676 : decode cL_fails 676 = .ok (.invokevirtual 13, 3) := by decide +kernel
theorem dL_fails_679 : decode cL_fails 679 = .ok (.iload_n 3, 1) := by decide +kernel
theorem dL_fails_680 : decode cL_fails 680 = .ok (.if_icmp .ne 7, 3) := by decide +kernel
theorem dL_fails_683 : decode cL_fails 683 = .ok (.iconst 1, 1) := by decide +kernel
theorem dL_fails_684 : decode cL_fails 684 = .ok (.goto 4, 3) := by decide +kernel
theorem dL_fails_687 : decode cL_fails 687 = .ok (.iconst 0, 1) := by decide +kernel
theorem dL_fails_688 : decode cL_fails 688 = .ok (.ireturn, 1) := by decide +kernel
theorem dL_stations_0 : decode cL_stations 0 = .ok (.aload_n 0, 1) := by decide +kernel
theorem dL_stations_1 : decode cL_stations 1 = .ok (.iconst 0, 1) := by decide +kernel
theorem dL_stations_2 : decode cL_stations 2 = .ok (.invokevirtual 13, 3) := by decide +kernel
theorem dL_stations_5 : decode cL_stations 5 = .ok (.bipush 15, 2) := by decide +kernel
theorem dL_stations_7 : decode cL_stations 7 = .ok (.if_icmp .ge 11, 3) := by decide +kernel
theorem dL_stations_10 : decode cL_stations 10 = .ok (.aload_n 0, 1) := by decide +kernel
theorem dL_stations_11 : decode cL_stations 11 = .ok (.iconst 0, 1) := by decide +kernel
theorem dL_stations_12 : decode cL_stations 12 = .ok (.invokevirtual 13, 3) := by decide +kernel
theorem dL_stations_15 : decode cL_stations 15 = .ok (.goto 5, 3) := by decide +kernel
theorem dL_stations_18 : decode cL_stations 18 = .ok (.bipush 15, 2) := by decide +kernel
theorem dL_stations_20 : decode cL_stations 20 = .ok (.istore_n 2, 1) := by decide +kernel
theorem dL_stations_21 : decode cL_stations 21 = .ok (.iconst 0, 1) := by decide +kernel
theorem dL_stations_22 : decode cL_stations 22 = .ok (.istore_n 3, 1) := by decide +kernel
theorem dL_stations_23 : decode cL_stations 23 = .ok (.iconst 0, 1) := by decide +kernel
theorem dL_stations_24 : decode cL_stations 24 = .ok (.istore 4, 2) := by decide +kernel
theorem dL_stations_26 : decode cL_stations 26 = .ok (.iconst 0, 1) := by decide +kernel
theorem dL_stations_27 : decode cL_stations 27 = .ok (.istore 5, 2) := by decide +kernel
theorem dL_stations_29 : decode cL_stations 29 = .ok (.iconst 0, 1) := by decide +kernel
theorem dL_stations_30 : decode cL_stations 30 = .ok (.istore 6, 2) := by decide +kernel
theorem dL_stations_32 : decode cL_stations 32 = .ok (.iconst 0, 1) := by decide +kernel
theorem dL_stations_33 : decode cL_stations 33 = .ok (.istore 7, 2) := by decide +kernel
theorem dL_stations_35 : decode cL_stations 35 = .ok (.iconst 0, 1) := by decide +kernel
theorem dL_stations_36 : decode cL_stations 36 = .ok (.istore 8, 2) := by decide +kernel
theorem dL_stations_38 : decode cL_stations 38 = .ok (.iconst 0, 1) := by decide +kernel
theorem dL_stations_39 : decode cL_stations 39 = .ok (.istore 9, 2) := by decide +kernel
theorem dL_stations_41 : decode cL_stations 41 = .ok (.iconst 0, 1) := by decide +kernel
theorem dL_stations_42 : decode cL_stations 42 = .ok (.istore 10, 2) := by decide +kernel
theorem dL_stations_44 : decode cL_stations 44 = .ok (.iconst 0, 1) := by decide +kernel
theorem dL_stations_45 : decode cL_stations 45 = .ok (.istore 11, 2) := by decide +kernel
theorem dL_stations_47 : decode cL_stations 47 = .ok (.iload 11, 2) := by decide +kernel
theorem dL_stations_49 : decode cL_stations 49 = .ok (.aload_n 0, 1) := by decide +kernel
theorem dL_stations_50 : decode cL_stations 50 = .ok (.iconst 1, 1) := by decide +kernel
theorem dL_stations_51 : decode cL_stations 51 = .ok (.invokevirtual 13, 3) := by decide +kernel
theorem dL_stations_54 : decode cL_stations 54 = .ok (.if_icmp .ge 442, 3) := by decide +kernel
theorem dL_stations_57 : decode cL_stations 57 = .ok (.iconst 0, 1) := by decide +kernel
theorem dL_stations_58 : decode cL_stations 58 = .ok (.istore 12, 2) := by decide +kernel
theorem dL_stations_60 : decode cL_stations 60 = .ok (.iconst 0, 1) := by decide +kernel
theorem dL_stations_61 : decode cL_stations 61 = .ok (.istore 13, 2) := by decide +kernel
theorem dL_stations_63 : decode cL_stations 63 = .ok (.iconst 0, 1) := by decide +kernel
theorem dL_stations_64 : decode cL_stations 64 = .ok (.istore 14, 2) := by decide +kernel
theorem dL_stations_66 : decode cL_stations 66 = .ok (.iload 14, 2) := by decide +kernel
theorem dL_stations_68 : decode cL_stations 68 = .ok (.bipush 15, 2) := by decide +kernel
theorem dL_stations_70 : decode cL_stations 70 = .ok (.if_icmp .ge 45, 3) := by decide +kernel
theorem dL_stations_73 : decode cL_stations 73 = .ok (.iload 12, 2) := by decide +kernel
theorem dL_stations_75 : decode cL_stations 75 = .ok (.iload 14, 2) := by decide +kernel
theorem dL_stations_77 : decode cL_stations 77 = .ok (.iload_n 2, 1) := by decide +kernel
theorem dL_stations_78 : decode cL_stations 78 = .ok (.if_icmp .ge 14, 3) := by decide +kernel
theorem dL_stations_81 : decode cL_stations 81 = .ok (.aload_n 0, 1) := by decide +kernel
theorem dL_stations_82 : decode cL_stations 82 = .ok (.iload 11, 2) := by decide +kernel
theorem dL_stations_84 : decode cL_stations 84 = .ok (.iload 14, 2) := by decide +kernel
theorem dL_stations_86 : decode cL_stations 86 = .ok (.invokevirtual 26, 3) := by decide +kernel
theorem dL_stations_89 : decode cL_stations 89 = .ok (.goto 4, 3) := by decide +kernel
theorem dL_stations_92 : decode cL_stations 92 = .ok (.iconst 0, 1) := by decide +kernel
theorem dL_stations_93 : decode cL_stations 93 = .ok (.iadd, 1) := by decide +kernel
theorem dL_stations_94 : decode cL_stations 94 = .ok (.istore 12, 2) := by decide +kernel
theorem dL_stations_96 : decode cL_stations 96 = .ok (.iload 13, 2) := by decide +kernel
theorem dL_stations_98 : decode cL_stations 98 = .ok (.aload_n 0, 1) := by decide +kernel
theorem dL_stations_99 : decode cL_stations 99 = .ok (.iload 11, 2) := by decide +kernel
theorem dL_stations_101 : decode cL_stations 101 = .ok (.iload 14, 2) := by decide +kernel
theorem dL_stations_103 : decode cL_stations 103 = .ok (.invokevirtual 26, 3) := by decide +kernel
theorem dL_stations_106 : decode cL_stations 106 = .ok (.iadd, 1) := by decide +kernel
theorem dL_stations_107 : decode cL_stations 107 = .ok (.istore 13, 2) := by decide +kernel
theorem dL_stations_109 : decode cL_stations 109 = .ok (.iinc 14 1, 3) := by decide +kernel
theorem dL_stations_112 : decode cL_stations 112 = .ok (.goto (-46), 3) := by decide +kernel
theorem dL_stations_115 : decode cL_stations 115 = .ok (.aload_n 0, 1) := by decide +kernel
theorem dL_stations_116 : decode cL_stations 116 = .ok (.iload 11, 2) := by decide +kernel
theorem dL_stations_118 : decode cL_stations 118 = .ok (.iconst 0, 1) := by decide +kernel
theorem dL_stations_119 : decode cL_stations 119 = .ok (.invokevirtual 19, 3) := by decide +kernel
theorem dL_stations_122 : decode cL_stations 122 = .ok (.istore 14, 2) := by decide +kernel
theorem dL_stations_124 : decode cL_stations 124 = .ok (.aload_n 0, 1) := by decide +kernel
theorem dL_stations_125 : decode cL_stations 125 = .ok (.iload 11, 2) := by decide +kernel
theorem dL_stations_127 : decode cL_stations 127 = .ok (.iconst 5, 1) := by decide +kernel
theorem dL_stations_128 : decode cL_stations 128 = .ok (.invokevirtual 19, 3) := by decide +kernel
theorem dL_stations_131 : decode cL_stations 131 = .ok (.istore 15, 2) := by decide +kernel
theorem dL_stations_133 : decode cL_stations 133 = .ok (.aload_n 0, 1) := by decide +kernel
theorem dL_stations_134 : decode cL_stations 134 = .ok (.iload 11, 2) := by decide +kernel
theorem dL_stations_136 : decode cL_stations 136 = .ok (.iconst 5, 1) := by decide +kernel
theorem dL_stations_137 : decode cL_stations 137 = .ok (.invokevirtual 23, 3) := by decide +kernel
theorem dL_stations_140 : decode cL_stations 140 = .ok (.istore 16, 2) := by decide +kernel
theorem dL_stations_142 : decode cL_stations 142 = .ok (.aload_n 0, 1) := by decide +kernel
theorem dL_stations_143 : decode cL_stations 143 = .ok (.iload 11, 2) := by decide +kernel
theorem dL_stations_145 : decode cL_stations 145 = .ok (.bipush 6, 2) := by decide +kernel
theorem dL_stations_147 : decode cL_stations 147 = .ok (.invokevirtual 23, 3) := by decide +kernel
theorem dL_stations_150 : decode cL_stations 150 = .ok (.istore 17, 2) := by decide +kernel
theorem dL_stations_152 : decode cL_stations 152 = .ok (.iload 14, 2) := by decide +kernel
theorem dL_stations_154 : decode cL_stations 154 = .ok (.ifCond .ne 7, 3) := by decide +kernel
theorem dL_stations_157 : decode cL_stations 157 = .ok (.iconst 0, 1) := by decide +kernel
theorem dL_stations_158 : decode cL_stations 158 = .ok (.goto 23, 3) := by decide +kernel
theorem dL_stations_161 : decode cL_stations 161 = .ok (.iload 15, 2) := by decide +kernel
theorem dL_stations_163 : decode cL_stations 163 = .ok (.ifCond .ne 8, 3) := by decide +kernel
theorem dL_stations_166 : decode cL_stations 166 = .ok (.bipush (-5), 2) := by decide +kernel
theorem dL_stations_168 : decode cL_stations 168 = .ok (.goto 13, 3) := by decide +kernel
theorem dL_stations_171 : decode cL_stations 171 = .ok (.iload 14, 2) := by decide +kernel
theorem dL_stations_173 : decode cL_stations 173 = .ok (.iload 15, 2) := by decide +kernel
theorem dL_stations_175 : decode cL_stations 175 = .ok (.iadd, 1) := by decide +kernel
theorem dL_stations_176 : decode cL_stations 176 = .ok (.iconst 1, 1) := by decide +kernel
theorem dL_stations_177 : decode cL_stations 177 = .ok (.isub, 1) := by decide +kernel
theorem dL_stations_178 : decode cL_stations 178 = .ok (.iload 15, 2) := by decide +kernel
theorem dL_stations_180 : decode cL_stations 180 = .ok (.idiv, 1) := by decide +kernel
theorem dL_stations_181 : decode cL_stations 181 = .ok (.istore 18, 2) := by decide +kernel
theorem dL_stations_183 : decode cL_stations 183 = .ok (.iload 14, 2) := by decide +kernel
theorem dL_stations_185 : decode cL_stations 185 = .ok (.iload 12, 2) := by decide +kernel
theorem dL_stations_187 : decode cL_stations 187 = .ok (.aload_n 0, 1) := by decide +kernel
theorem dL_stations_188 : decode cL_stations 188 = .ok (.iload 11, 2) := by decide +kernel
theorem dL_stations_190 : decode cL_stations 190 = .ok (.iconst 2, 1) := by decide +kernel
theorem dL_stations_191 : decode cL_stations 191 = .ok (.invokevirtual 19, 3) := by decide +kernel
theorem dL_stations_194 : decode cL_stations 194 = .ok (.isub, 1) := by decide +kernel
theorem dL_stations_195 : decode cL_stations 195 = .ok (.if_icmp .ne 189, 3) := by decide +kernel
theorem dL_stations_198 : decode cL_stations 198 = .ok (.aload_n 0, 1) := by decide +kernel
theorem dL_stations_199 : decode cL_stations 199 = .ok (.iload 11, 2) := by decide +kernel
theorem dL_stations_201 : decode cL_stations 201 = .ok (.iconst 1, 1) := by decide +kernel
theorem dL_stations_202 : decode cL_stations 202 = .ok (.invokevirtual 19, 3) := by decide +kernel
theorem dL_stations_205 : decode cL_stations 205 = .ok (.iload 14, 2) := by decide +kernel
theorem dL_stations_207 : decode cL_stations 207 = .ok (.if_icmp .lt 177, 3) := by decide +kernel
theorem dL_stations_210 : decode cL_stations 210 = .ok (.aload_n 0, 1) := by decide +kernel
theorem dL_stations_211 : decode cL_stations 211 = .ok (.iload 11, 2) := by decide +kernel
theorem dL_stations_213 : decode cL_stations 213 = .ok (.bipush 6, 2) := by decide +kernel
theorem dL_stations_215 : decode cL_stations 215 = .ok (.invokevirtual 19, 3) := by decide +kernel
theorem dL_stations_218 : decode cL_stations 218 = .ok (.iload 13, 2) := by decide +kernel
theorem dL_stations_220 : decode cL_stations 220 = .ok (.if_icmp .ne 164, 3) := by decide +kernel
theorem dL_stations_223 : decode cL_stations 223 = .ok (.aload_n 0, 1) := by decide +kernel
theorem dL_stations_224 : decode cL_stations 224 = .ok (.iload 11, 2) := by decide +kernel
theorem dL_stations_226 : decode cL_stations 226 = .ok (.bipush 7, 2) := by decide +kernel
theorem dL_stations_228 : decode cL_stations 228 = .ok (.invokevirtual 19, 3) := by decide +kernel
theorem dL_stations_231 : decode cL_stations 231 = .ok (.iload 18, 2) := by decide +kernel
theorem dL_stations_233 : decode cL_stations 233 = .ok (.if_icmp .ne 151, 3) := by decide +kernel
theorem dL_stations_236 : decode cL_stations 236 = .ok (.aload_n 0, 1) := by decide +kernel
theorem dL_stations_237 : decode cL_stations 237 = .ok (.iload 11, 2) := by decide +kernel
theorem dL_stations_239 : decode cL_stations 239 = .ok (.iconst 1, 1) := by decide +kernel
theorem dL_stations_240 : decode cL_stations 240 = .ok (.invokevirtual 23, 3) := by decide +kernel
theorem dL_stations_243 : decode cL_stations 243 = .ok (.aload_n 0, 1) := by decide +kernel
theorem dL_stations_244 : decode cL_stations 244 = .ok (.iload 11, 2) := by decide +kernel
theorem dL_stations_246 : decode cL_stations 246 = .ok (.iconst 2, 1) := by decide +kernel
theorem dL_stations_247 : decode cL_stations 247 = .ok (.invokevirtual 19, 3) := by decide +kernel
theorem dL_stations_250 : decode cL_stations 250 = .ok (.aload_n 0, 1) := by decide +kernel
theorem dL_stations_251 : decode cL_stations 251 = .ok (.iload 11, 2) := by decide +kernel
theorem dL_stations_253 : decode cL_stations 253 = .ok (.iconst 2, 1) := by decide +kernel
theorem dL_stations_254 : decode cL_stations 254 = .ok (.invokevirtual 23, 3) := by decide +kernel
theorem dL_stations_257 : decode cL_stations 257 = .ok (.iadd, 1) := by decide +kernel
theorem dL_stations_258 : decode cL_stations 258 = .ok (.if_icmp .ne 126, 3) := by decide +kernel
theorem dL_stations_261 : decode cL_stations 261 = .ok (.iload 16, 2) := by decide +kernel
theorem dL_stations_263 : decode cL_stations 263 = .ok (.aload_n 0, 1) := by decide +kernel
theorem dL_stations_264 : decode cL_stations 264 = .ok (.iload 11, 2) := by decide +kernel
theorem dL_stations_266 : decode cL_stations 266 = .ok (.iconst 2, 1) := by decide +kernel
theorem dL_stations_267 : decode cL_stations 267 = .ok (.invokevirtual 19, 3) := by decide +kernel
theorem dL_stations_270 : decode cL_stations 270 = .ok (.aload_n 0, 1) := by decide +kernel
theorem dL_stations_271 : decode cL_stations 271 = .ok (.iload 11, 2) := by decide +kernel
theorem dL_stations_273 : decode cL_stations 273 = .ok (.iconst 3, 1) := by decide +kernel
theorem dL_stations_274 : decode cL_stations 274 = .ok (.invokevirtual 23, 3) := by decide +kernel
theorem dL_stations_277 : decode cL_stations 277 = .ok (.isub, 1) := by decide +kernel
theorem dL_stations_278 : decode cL_stations 278 = .ok (.aload_n 0, 1) := by decide +kernel
theorem dL_stations_279 : decode cL_stations 279 = .ok (.iload 11, 2) := by decide +kernel
theorem dL_stations_281 : decode cL_stations 281 = .ok (.iconst 4, 1) := by decide +kernel
theorem dL_stations_282 : decode cL_stations 282 = .ok (.invokevirtual 23, 3) := by decide +kernel
theorem dL_stations_285 : decode cL_stations 285 = .ok (.isub, 1) := by decide +kernel
theorem dL_stations_286 : decode cL_stations 286 = .ok (.if_icmp .ne 98, 3) := by decide +kernel
theorem dL_stations_289 : decode cL_stations 289 = .ok (.iload 16, 2) := by decide +kernel
theorem dL_stations_291 : decode cL_stations 291 = .ok (.ifCond .lt 93, 3) := by decide +kernel
theorem dL_stations_294 : decode cL_stations 294 = .ok (.aload_n 0, 1) := by decide +kernel
theorem dL_stations_295 : decode cL_stations 295 = .ok (.iload 11, 2) := by decide +kernel
theorem dL_stations_297 : decode cL_stations 297 = .ok (.iconst 0, 1) := by decide +kernel
theorem dL_stations_298 : decode cL_stations 298 = .ok (.invokevirtual 23, 3) := by decide +kernel
theorem dL_stations_301 : decode cL_stations 301 = .ok (.aload_n 0, 1) := by decide +kernel
theorem dL_stations_302 : decode cL_stations 302 = .ok (.iload 11, 2) := by decide +kernel
theorem dL_stations_304 : decode cL_stations 304 = .ok (.iconst 1, 1) := by decide +kernel
theorem dL_stations_305 : decode cL_stations 305 = .ok (.invokevirtual 23, 3) := by decide +kernel
theorem dL_stations_308 : decode cL_stations 308 = .ok (.iadd, 1) := by decide +kernel
theorem dL_stations_309 : decode cL_stations 309 = .ok (.aload_n 1, 1) := by decide +kernel
theorem dL_stations_310 : decode cL_stations 310 = .ok (.iload 11, 2) := by decide +kernel
theorem dL_stations_312 : decode cL_stations 312 = .ok (.iaload, 1) := by decide +kernel
theorem dL_stations_313 : decode cL_stations 313 = .ok (.if_icmp .ne 71, 3) := by decide +kernel
theorem dL_stations_316 : decode cL_stations 316 = .ok (.aload_n 0, 1) := by decide +kernel
theorem dL_stations_317 : decode cL_stations 317 = .ok (.iload 11, 2) := by decide +kernel
theorem dL_stations_319 : decode cL_stations 319 = .ok (.iconst 0, 1) := by decide +kernel
theorem dL_stations_320 : decode cL_stations 320 = .ok (.invokevirtual 23, 3) := by decide +kernel
theorem dL_stations_323 : decode cL_stations 323 = .ok (.ifCond .lt 61, 3) := by decide +kernel
theorem dL_stations_326 : decode cL_stations 326 = .ok (.iload 17, 2) := by decide +kernel
theorem dL_stations_328 : decode cL_stations 328 = .ok (.ifCond .ge 7, 3) := by decide +kernel
theorem dL_stations_331 : decode cL_stations 331 = .ok (.iconst 1, 1) := by decide +kernel
theorem dL_stations_332 : decode cL_stations 332 = .ok (.goto 4, 3) := by decide +kernel
theorem dL_stations_335 : decode cL_stations 335 = .ok (.iconst 0, 1) := by decide +kernel
theorem dL_stations_336 : decode cL_stations 336 = .ok (.aload_n 0, 1) := by decide +kernel
theorem dL_stations_337 : decode cL_stations 337 = .ok (.iload 11, 2) := by decide +kernel
theorem dL_stations_339 : decode cL_stations 339 = .ok (.bipush 8, 2) := by decide +kernel
theorem dL_stations_341 : decode cL_stations 341 = .ok (.invokevirtual 23, 3) := by decide +kernel
theorem dL_stations_344 : decode cL_stations 344 = .ok (.ifCond .ne 7, 3) := by decide +kernel
theorem dL_stations_347 : decode cL_stations 347 = .ok (.iconst 1, 1) := by decide +kernel
theorem dL_stations_348 : decode cL_stations 348 = .ok (.goto 4, 3) := by decide +kernel
theorem dL_stations_351 : decode cL_stations 351 = .ok (.iconst 0, 1) := by decide +kernel
theorem dL_stations_352 : decode cL_stations 352 = .ok (.if_icmp .ne 32, 3) := by decide +kernel
theorem dL_stations_355 : decode cL_stations 355 = .ok (.aload_n 0, 1) := by decide +kernel
theorem dL_stations_356 : decode cL_stations 356 = .ok (.iload 11, 2) := by decide +kernel
theorem dL_stations_358 : decode cL_stations 358 = .ok (.bipush 7, 2) := by decide +kernel
theorem dL_stations_360 : decode cL_stations 360 = .ok (.invokevirtual 23, 3) := by decide +kernel
theorem dL_stations_363 : decode cL_stations 363 = .ok (.iload 17, 2) := by decide +kernel
theorem dL_stations_365 : decode cL_stations 365 = .ok (.ifCond .ge 8, 3) := by decide +kernel
theorem dL_stations_368 : decode cL_stations 368 = .ok (.bipush (-5), 2) := by decide +kernel
theorem dL_stations_370 : decode cL_stations 370 = .ok (.goto 11, 3) := by decide +kernel
theorem dL_stations_373 : decode cL_stations 373 = .ok (.iload 17, 2) := by decide +kernel
theorem dL_stations_375 : decode cL_stations 375 = .ok (.iload 16, 2) := by decide +kernel
theorem dL_stations_377 : decode cL_stations 377 = .ok (.isub, 1) := by decide +kernel
theorem dL_stations_378 : decode cL_stations 378 = .ok (.ldc 87, 2) := by decide +kernel
theorem dL_stations_380 : decode cL_stations 380 = .ok (.iadd, 1) := by decide +kernel
theorem dL_stations_381 : decode cL_stations 381 = .ok (.if_icmp .eq 5, 3) := by decide +kernel
theorem dL_stations_384 : decode cL_stations 384 = .ok (.iconst 0, 1) := by decide +kernel
theorem dL_stations_385 : decode cL_stations 385 = .ok (.ireturn, 1) := by decide +kernel
theorem dL_stations_386 : decode cL_stations 386 = .ok (.iload_n 3, 1) := by decide +kernel
theorem dL_stations_387 : decode cL_stations 387 = .ok (.iload 14, 2) := by decide +kernel
theorem dL_stations_389 : decode cL_stations 389 = .ok (.iadd, 1) := by decide +kernel
theorem dL_stations_390 : decode cL_stations 390 = .ok (.istore_n 3, 1) := by decide +kernel
theorem dL_stations_391 : decode cL_stations 391 = .ok (.iload 4, 2) := by decide +kernel
theorem dL_stations_393 : decode cL_stations 393 = .ok (.aload_n 0, 1) := by decide +kernel
theorem dL_stations_394 : decode cL_stations 394 = .ok (.iload 11, 2) := by decide +kernel
theorem dL_stations_396 : decode cL_stations 396 = .ok (.iconst 2, 1) := by decide +kernel
theorem dL_stations_397 : decode cL_stations 397 = .ok (.invokevirtual 19, 3) := by decide +kernel
theorem dL_stations_400 : decode cL_stations 400 = .ok (.iadd, 1) := by decide +kernel
theorem dL_stations_401 : decode cL_stations 401 = .ok (.istore 4, 2) := by decide +kernel
theorem dL_stations_403 : decode cL_stations 403 = .ok (.iload 5, 2) := by decide +kernel
theorem dL_stations_405 : decode cL_stations 405 = .ok (.aload_n 0, 1) := by decide +kernel
theorem dL_stations_406 : decode cL_stations 406 = .ok (.iload 11, 2) := by decide +kernel
theorem dL_stations_408 : decode cL_stations 408 = .ok (.iconst 0, 1) := by decide +kernel
theorem dL_stations_409 : decode cL_stations 409 = .ok (.invokevirtual 23, 3) := by decide +kernel
theorem dL_stations_412 : decode cL_stations 412 = .ok (.iadd, 1) := by decide +kernel
theorem dL_stations_413 : decode cL_stations 413 = .ok (.istore 5, 2) := by decide +kernel
theorem dL_stations_415 : decode cL_stations 415 = .ok (.iload 6, 2) := by decide +kernel
theorem dL_stations_417 : decode cL_stations 417 = .ok (.aload_n 0, 1) := by decide +kernel
theorem dL_stations_418 : decode cL_stations 418 = .ok (.iload 11, 2) := by decide +kernel
theorem dL_stations_420 : decode cL_stations 420 = .ok (.iconst 1, 1) := by decide +kernel
theorem dL_stations_421 : decode cL_stations 421 = .ok (.invokevirtual 23, 3) := by decide +kernel
theorem dL_stations_424 : decode cL_stations 424 = .ok (.iadd, 1) := by decide +kernel
theorem dL_stations_425 : decode cL_stations 425 = .ok (.istore 6, 2) := by decide +kernel
theorem dL_stations_427 : decode cL_stations 427 = .ok (.iload 7, 2) := by decide +kernel
theorem dL_stations_429 : decode cL_stations 429 = .ok (.iload 16, 2) := by decide +kernel
theorem dL_stations_431 : decode cL_stations 431 = .ok (.iadd, 1) := by decide +kernel
theorem dL_stations_432 : decode cL_stations 432 = .ok (.istore 7, 2) := by decide +kernel
theorem dL_stations_434 : decode cL_stations 434 = .ok (.iload 8, 2) := by decide +kernel
theorem dL_stations_436 : decode cL_stations 436 = .ok (.aload_n 0, 1) := by decide +kernel
theorem dL_stations_437 : decode cL_stations 437 = .ok (.iload 11, 2) := by decide +kernel
theorem dL_stations_439 : decode cL_stations 439 = .ok (.iconst 3, 1) := by decide +kernel
theorem dL_stations_440 : decode cL_stations 440 = .ok (.invokevirtual 19, 3) := by decide +kernel
theorem dL_stations_443 : decode cL_stations 443 = .ok (.iadd, 1) := by decide +kernel
theorem dL_stations_444 : decode cL_stations 444 = .ok (.istore 8, 2) := by decide +kernel
theorem dL_stations_446 : decode cL_stations 446 = .ok (.iload 9, 2) := by decide +kernel
theorem dL_stations_448 : decode cL_stations 448 = .ok (.iload 17, 2) := by decide +kernel
theorem dL_stations_450 : decode cL_stations 450 = .ok (.ifCond .lt 14, 3) := by decide +kernel
theorem dL_stations_453 : decode cL_stations 453 = .ok (.iload 17, 2) := by decide +kernel
theorem dL_stations_455 : decode cL_stations 455 = .ok (.iload 16, 2) := by decide +kernel
theorem dL_stations_457 : decode cL_stations 457 = .ok (.if_icmp .ne 7, 3) := by decide +kernel
theorem dL_stations_460 : decode cL_stations 460 = .ok (.iconst 1, 1) := by decide +kernel
theorem dL_stations_461 : decode cL_stations 461 = .ok (.goto 4, 3) := by decide +kernel
theorem dL_stations_464 : decode cL_stations 464 = .ok (.iconst 0, 1) := by decide +kernel
theorem dL_stations_465 : decode cL_stations 465 = .ok (.iadd, 1) := by decide +kernel
theorem dL_stations_466 : decode cL_stations 466 = .ok (.istore 9, 2) := by decide +kernel
theorem dL_stations_468 : decode cL_stations 468 = .ok (.iload 10, 2) := by decide +kernel
theorem dL_stations_470 : decode cL_stations 470 = .ok (.iload 17, 2) := by decide +kernel
theorem dL_stations_472 : decode cL_stations 472 = .ok (.ifCond .lt 14, 3) := by decide +kernel
theorem dL_stations_475 : decode cL_stations 475 = .ok (.iload 17, 2) := by decide +kernel
theorem dL_stations_477 : decode cL_stations 477 = .ok (.iload 16, 2) := by decide +kernel
theorem dL_stations_479 : decode cL_stations 479 = .ok (.if_icmp .eq 7, 3) := by decide +kernel
theorem dL_stations_482 : decode cL_stations 482 = .ok (.iconst 1, 1) := by decide +kernel
theorem dL_stations_483 : decode cL_stations 483 = .ok (.goto 4, 3) := by decide +kernel
theorem dL_stations_486 : decode cL_stations 486 = .ok (.iconst 0, 1) := by decide +kernel
theorem dL_stations_487 : decode cL_stations 487 = .ok (.iadd, 1) := by decide +kernel
theorem dL_stations_488 : decode cL_stations 488 = .ok (.istore 10, 2) := by decide +kernel
theorem dL_stations_490 : decode cL_stations 490 = .ok (.iinc 11 1, 3) := by decide +kernel
theorem dL_stations_493 : decode cL_stations 493 = .ok (.goto (-446), 3) := by decide +kernel
theorem dL_stations_496 : decode cL_stations 496 = .ok (.iconst (-1), 1) := by decide +kernel
theorem dL_stations_497 : decode cL_stations 497 = .ok (.istore 11, 2) := by decide +kernel
theorem dL_stations_499 : decode cL_stations 499 = .ok (.ldc 88, 2) := by decide +kernel
theorem dL_stations_501 : decode cL_stations 501 = .ok (.istore 12, 2) := by decide +kernel
theorem dL_stations_503 : decode cL_stations 503 = .ok (.iconst 0, 1) := by decide +kernel
theorem dL_stations_504 : decode cL_stations 504 = .ok (.istore 13, 2) := by decide +kernel
theorem dL_stations_506 : decode cL_stations 506 = .ok (.iload 13, 2) := by decide +kernel
theorem dL_stations_508 : decode cL_stations 508 = .ok (.aload_n 0, 1) := by decide +kernel
theorem dL_stations_509 : decode cL_stations 509 = .ok (.iconst 1, 1) := by decide +kernel
theorem dL_stations_510 : decode cL_stations 510 = .ok (.invokevirtual 13, 3) := by decide +kernel
theorem dL_stations_513 : decode cL_stations 513 = .ok (.if_icmp .ge 68, 3) := by decide +kernel
theorem dL_stations_516 : decode cL_stations 516 = .ok (.aload_n 0, 1) := by decide +kernel
theorem dL_stations_517 : decode cL_stations 517 = .ok (.iload 13, 2) := by decide +kernel
theorem dL_stations_519 : decode cL_stations 519 = .ok (.invokevirtual 78, 3) := by decide +kernel
theorem dL_stations_522 : decode cL_stations 522 = .ok (.istore 14, 2) := by decide +kernel
theorem dL_stations_524 : decode cL_stations 524 = .ok (.iload 14, 2) := by decide +kernel
theorem dL_stations_526 : decode cL_stations 526 = .ok (.ifCond .lt 34, 3) := by decide +kernel
theorem dL_stations_529 : decode cL_stations 529 = .ok (.aload_n 0, 1) := by decide +kernel
theorem dL_stations_530 : decode cL_stations 530 = .ok (.iload 14, 2) := by decide +kernel
theorem dL_stations_532 : decode cL_stations 532 = .ok (.iconst 0, 1) := by decide +kernel
theorem dL_stations_533 : decode cL_stations 533 = .ok (.invokevirtual 19, 3) := by decide +kernel
theorem dL_stations_536 : decode cL_stations 536 = .ok (.iload 12, 2) := by decide +kernel
theorem dL_stations_538 : decode cL_stations 538 = .ok (.if_icmp .gt 22, 3) := by decide +kernel
theorem dL_stations_541 : decode cL_stations 541 = .ok (.aload_n 0, 1) := by decide +kernel
theorem dL_stations_542 : decode cL_stations 542 = .ok (.iload 14, 2) := by decide +kernel
theorem dL_stations_544 : decode cL_stations 544 = .ok (.iconst 0, 1) := by decide +kernel
theorem dL_stations_545 : decode cL_stations 545 = .ok (.invokevirtual 19, 3) := by decide +kernel
theorem dL_stations_548 : decode cL_stations 548 = .ok (.iload 12, 2) := by decide +kernel
theorem dL_stations_550 : decode cL_stations 550 = .ok (.if_icmp .ne 12, 3) := by decide +kernel
theorem dL_stations_553 : decode cL_stations 553 = .ok (.iload 14, 2) := by decide +kernel
theorem dL_stations_555 : decode cL_stations 555 = .ok (.iload 11, 2) := by decide +kernel
theorem dL_stations_557 : decode cL_stations 557 = .ok (.if_icmp .ge 5, 3) := by decide +kernel
theorem dL_stations_560 : decode cL_stations 560 = .ok (.iconst 0, 1) := by decide +kernel
theorem dL_stations_561 : decode cL_stations 561 = .ok (.ireturn, 1) := by decide +kernel
theorem dL_stations_562 : decode cL_stations 562 = .ok (.aload_n 0, 1) := by decide +kernel
theorem dL_stations_563 : decode cL_stations 563 = .ok (.iload 14, 2) := by decide +kernel
theorem dL_stations_565 : decode cL_stations 565 = .ok (.iconst 0, 1) := by decide +kernel
theorem dL_stations_566 : decode cL_stations 566 = .ok (.invokevirtual 19, 3) := by decide +kernel
theorem dL_stations_569 : decode cL_stations 569 = .ok (.istore 12, 2) := by decide +kernel
theorem dL_stations_571 : decode cL_stations 571 = .ok (.iload 14, 2) := by decide +kernel
theorem dL_stations_573 : decode cL_stations 573 = .ok (.istore 11, 2) := by decide +kernel
theorem dL_stations_575 : decode cL_stations 575 = .ok (.iinc 13 1, 3) := by decide +kernel
theorem dL_stations_578 : decode cL_stations 578 = .ok (.goto (-72), 3) := by decide +kernel
theorem dL_stations_581 : decode cL_stations 581 = .ok (.aload_n 0, 1) := by decide +kernel
theorem dL_stations_582 : decode cL_stations 582 = .ok (.iconst 5, 1) := by decide +kernel
theorem dL_stations_583 : decode cL_stations 583 = .ok (.invokevirtual 13, 3) := by decide +kernel
theorem dL_stations_586 : decode cL_stations 586 = .ok (.iload_n 3, 1) := by decide +kernel
theorem dL_stations_587 : decode cL_stations 587 = .ok (.if_icmp .ne 84, 3) := by decide +kernel
theorem dL_stations_590 : decode cL_stations 590 = .ok (.aload_n 0, 1) := by decide +kernel
theorem dL_stations_591 : decode cL_stations 591 = .ok (.bipush 6, 2) := by decide +kernel
theorem dL_stations_593 : decode cL_stations 593 = .ok (.invokevirtual 13, 3) := by decide +kernel
theorem dL_stations_596 : decode cL_stations 596 = .ok (.iload 4, 2) := by decide +kernel
theorem dL_stations_598 : decode cL_stations 598 = .ok (.if_icmp .ne 73, 3) := by decide +kernel
theorem dL_stations_601 : decode cL_stations 601 = .ok (.aload_n 0, 1) := by decide +kernel
theorem dL_stations_602 : decode cL_stations 602 = .ok (.bipush 7, 2) := by decide +kernel
theorem dL_stations_604 : decode cL_stations 604 = .ok (.invokevirtual 13, 3) := by decide +kernel
theorem dL_stations_607 : decode cL_stations 607 = .ok (.iload 5, 2) := by decide +kernel
theorem dL_stations_609 : decode cL_stations 609 = .ok (.if_icmp .ne 62, 3) := by decide +kernel
theorem dL_stations_612 : decode cL_stations 612 = .ok (.aload_n 0, 1) := by decide +kernel
theorem dL_stations_613 : decode cL_stations 613 = .ok (.bipush 8, 2) := by decide +kernel
theorem dL_stations_615 : decode cL_stations 615 = .ok (.invokevirtual 13, 3) := by decide +kernel
theorem dL_stations_618 : decode cL_stations 618 = .ok (.iload 6, 2) := by decide +kernel
theorem dL_stations_620 : decode cL_stations 620 = .ok (.if_icmp .ne 51, 3) := by decide +kernel
theorem dL_stations_623 : decode cL_stations 623 = .ok (.aload_n 0, 1) := by decide +kernel
theorem dL_stations_624 : decode cL_stations 624 = .ok (.bipush 9, 2) := by decide +kernel
theorem dL_stations_626 : decode cL_stations 626 = .ok (.invokevirtual 13, 3) := by decide +kernel
theorem dL_stations_629 : decode cL_stations 629 = .ok (.iload 7, 2) := by decide +kernel
theorem dL_stations_631 : decode cL_stations 631 = .ok (.if_icmp .ne 40, 3) := by decide +kernel
theorem dL_stations_634 : decode cL_stations 634 = .ok (.aload_n 0, 1) := by decide +kernel
theorem dL_stations_635 : decode cL_stations 635 = .ok (.bipush 10, 2) := by decide +kernel
theorem dL_stations_637 : decode cL_stations 637 = .ok (.invokevirtual 13, 3) := by decide +kernel
theorem dL_stations_640 : decode cL_stations 640 = .ok (.iload 9, 2) := by decide +kernel
theorem dL_stations_642 : decode cL_stations 642 = .ok (.if_icmp .ne 29, 3) := by decide +kernel
theorem dL_stations_645 : decode cL_stations 645 = .ok (.aload_n 0, 1) := by decide +kernel
theorem dL_stations_646 : decode cL_stations 646 = .ok (.bipush 11, 2) := by decide +kernel
theorem dL_stations_648 : decode cL_stations 648 = .ok (.invokevirtual 13, 3) := by decide +kernel
theorem dL_stations_651 : decode cL_stations 651 = .ok (.iload 10, 2) := by decide +kernel
theorem dL_stations_653 : decode cL_stations 653 = .ok (.if_icmp .ne 18, 3) := by decide +kernel
theorem dL_stations_656 : decode cL_stations 656 = .ok (.aload_n 0, 1) := by decide +kernel
theorem dL_stations_657 : decode cL_stations 657 = .ok (.bipush 12, 2) := by decide +kernel
theorem dL_stations_659 : decode cL_stations 659 = .ok (.invokevirtual 13, 3) := by decide +kernel
theorem dL_stations_662 : decode cL_stations 662 = .ok (.iload 8, 2) := by decide +kernel
theorem dL_stations_664 : decode cL_stations 664 = .ok (.if_icmp .ne 7, 3) := by decide +kernel
theorem dL_stations_667 : decode cL_stations 667 = .ok (.iconst 1, 1) := by decide +kernel
theorem dL_stations_668 : decode cL_stations 668 = .ok (.goto 4, 3) := by decide +kernel
theorem dL_stations_671 : decode cL_stations 671 = .ok (.iconst 0, 1) := by decide +kernel
theorem dL_stations_672 : decode cL_stations 672 = .ok (.ireturn, 1) := by decide +kernel
theorem dL_clerks_0 : decode cL_clerks 0 = .ok (.iconst 0, 1) := by decide +kernel
theorem dL_clerks_1 : decode cL_clerks 1 = .ok (.istore_n 1, 1) := by decide +kernel
theorem dL_clerks_2 : decode cL_clerks 2 = .ok (.iconst 0, 1) := by decide +kernel
theorem dL_clerks_3 : decode cL_clerks 3 = .ok (.istore_n 2, 1) := by decide +kernel
theorem dL_clerks_4 : decode cL_clerks 4 = .ok (.iconst 0, 1) := by decide +kernel
theorem dL_clerks_5 : decode cL_clerks 5 = .ok (.istore_n 3, 1) := by decide +kernel
theorem dL_clerks_6 : decode cL_clerks 6 = .ok (.iconst 0, 1) := by decide +kernel
theorem dL_clerks_7 : decode cL_clerks 7 = .ok (.istore 4, 2) := by decide +kernel
theorem dL_clerks_9 : decode cL_clerks 9 = .ok (.iload 4, 2) := by decide +kernel
theorem dL_clerks_11 : decode cL_clerks 11 = .ok (.aload_n 0, 1) := by decide +kernel
theorem dL_clerks_12 : decode cL_clerks 12 = .ok (.iconst 2, 1) := by decide +kernel
theorem dL_clerks_13 : decode cL_clerks 13 = .ok (.invokevirtual 13, 3) := by decide +kernel
theorem dL_clerks_16 : decode cL_clerks 16 = .ok (.if_icmp .ge 201, 3) := by decide +kernel
theorem dL_clerks_19 : decode cL_clerks 19 = .ok (.aload_n 0, 1) := by decide +kernel
theorem dL_clerks_20 : decode cL_clerks 20 = .ok (.iload 4, 2) := by decide +kernel
theorem dL_clerks_22 : decode cL_clerks 22 = .ok (.iconst 2, 1) := by decide +kernel
theorem dL_clerks_23 : decode cL_clerks 23 = .ok (.invokevirtual 29, 3) := by decide +kernel
theorem dL_clerks_26 : decode cL_clerks 26 = .ok (.istore 5, 2) := by decide +kernel
theorem dL_clerks_28 : decode cL_clerks 28 = .ok (.aload_n 0, 1) := by decide +kernel
theorem dL_clerks_29 : decode cL_clerks 29 = .ok (.iload 4, 2) := by decide +kernel
theorem dL_clerks_31 : decode cL_clerks 31 = .ok (.iconst 3, 1) := by decide +kernel
theorem dL_clerks_32 : decode cL_clerks 32 = .ok (.invokevirtual 29, 3) := by decide +kernel
theorem dL_clerks_35 : decode cL_clerks 35 = .ok (.istore 6, 2) := by decide +kernel
theorem dL_clerks_37 : decode cL_clerks 37 = .ok (.aload_n 0, 1) := by decide +kernel
theorem dL_clerks_38 : decode cL_clerks 38 = .ok (.iload 4, 2) := by decide +kernel
theorem dL_clerks_40 : decode cL_clerks 40 = .ok (.bipush 6, 2) := by decide +kernel
theorem dL_clerks_42 : decode cL_clerks 42 = .ok (.invokevirtual 29, 3) := by decide +kernel
theorem dL_clerks_45 : decode cL_clerks 45 = .ok (.istore 7, 2) := by decide +kernel
theorem dL_clerks_47 : decode cL_clerks 47 = .ok (.aload_n 0, 1) := by decide +kernel
theorem dL_clerks_48 : decode cL_clerks 48 = .ok (.iload 4, 2) := by decide +kernel
theorem dL_clerks_50 : decode cL_clerks 50 = .ok (.iconst 5, 1) := by decide +kernel
theorem dL_clerks_51 : decode cL_clerks 51 = .ok (.invokevirtual 29, 3) := by decide +kernel
theorem dL_clerks_54 : decode cL_clerks 54 = .ok (.iconst 1, 1) := by decide +kernel
theorem dL_clerks_55 : decode cL_clerks 55 = .ok (.if_icmp .ne 7, 3) := by decide +kernel
theorem dL_clerks_58 : decode cL_clerks 58 = .ok (.iconst 1, 1) := by decide +kernel
theorem dL_clerks_59 : decode cL_clerks 59 = .ok (.goto 4, 3) := by decide +kernel
theorem dL_clerks_62 : decode cL_clerks 62 = .ok (.iconst 0, 1) := by decide +kernel
theorem dL_clerks_63 : decode cL_clerks 63 = .ok (.istore 8, 2) := by decide +kernel
theorem dL_clerks_65 : decode cL_clerks 65 = .ok (.iload 6, 2) := by decide +kernel
theorem dL_clerks_67 : decode cL_clerks 67 = .ok (.ifCond .lt 106, 3) := by decide +kernel
theorem dL_clerks_70 : decode cL_clerks 70 = .ok (.iload 6, 2) := by decide +kernel
theorem dL_clerks_72 : decode cL_clerks 72 = .ok (.aload_n 0, 1) := by decide +kernel
theorem dL_clerks_73 : decode cL_clerks 73 = .ok (.iload 4, 2) := by decide +kernel
theorem dL_clerks_75 : decode cL_clerks 75 = .ok (.iconst 1, 1) := by decide +kernel
theorem dL_clerks_76 : decode cL_clerks 76 = .ok (.invokevirtual 29, 3) := by decide +kernel
theorem dL_clerks_79 : decode cL_clerks 79 = .ok (.if_icmp .gt 94, 3) := by decide +kernel
theorem dL_clerks_82 : decode cL_clerks 82 = .ok (.iload 6, 2) := by decide +kernel
theorem dL_clerks_84 : decode cL_clerks 84 = .ok (.aload_n 0, 1) := by decide +kernel
theorem dL_clerks_85 : decode cL_clerks 85 = .ok (.iload 4, 2) := by decide +kernel
theorem dL_clerks_87 : decode cL_clerks 87 = .ok (.iconst 4, 1) := by decide +kernel
theorem dL_clerks_88 : decode cL_clerks 88 = .ok (.invokevirtual 29, 3) := by decide +kernel
theorem dL_clerks_91 : decode cL_clerks 91 = .ok (.if_icmp .gt 82, 3) := by decide +kernel
theorem dL_clerks_94 : decode cL_clerks 94 = .ok (.iload 5, 2) := by decide +kernel
theorem dL_clerks_96 : decode cL_clerks 96 = .ok (.ifCond .ge 8, 3) := by decide +kernel
theorem dL_clerks_99 : decode cL_clerks 99 = .ok (.iload 6, 2) := by decide +kernel
theorem dL_clerks_101 : decode cL_clerks 101 = .ok (.ifCond .ne 72, 3) := by decide +kernel
theorem dL_clerks_104 : decode cL_clerks 104 = .ok (.iload 5, 2) := by decide +kernel
theorem dL_clerks_106 : decode cL_clerks 106 = .ok (.ifCond .lt 8, 3) := by decide +kernel
theorem dL_clerks_109 : decode cL_clerks 109 = .ok (.iload 8, 2) := by decide +kernel
theorem dL_clerks_111 : decode cL_clerks 111 = .ok (.ifCond .ne 62, 3) := by decide +kernel
theorem dL_clerks_114 : decode cL_clerks 114 = .ok (.iload 7, 2) := by decide +kernel
theorem dL_clerks_116 : decode cL_clerks 116 = .ok (.ifCond .lt 7, 3) := by decide +kernel
theorem dL_clerks_119 : decode cL_clerks 119 = .ok (.iconst 1, 1) := by decide +kernel
theorem dL_clerks_120 : decode cL_clerks 120 = .ok (.goto 4, 3) := by decide +kernel
theorem dL_clerks_123 : decode cL_clerks 123 = .ok (.iconst 0, 1) := by decide +kernel
theorem dL_clerks_124 : decode cL_clerks 124 = .ok (.iload 5, 2) := by decide +kernel
theorem dL_clerks_126 : decode cL_clerks 126 = .ok (.ifCond .ge 12, 3) := by decide +kernel
theorem dL_clerks_129 : decode cL_clerks 129 = .ok (.iload 8, 2) := by decide +kernel
theorem dL_clerks_131 : decode cL_clerks 131 = .ok (.ifCond .ne 7, 3) := by decide +kernel
theorem dL_clerks_134 : decode cL_clerks 134 = .ok (.iconst 1, 1) := by decide +kernel
theorem dL_clerks_135 : decode cL_clerks 135 = .ok (.goto 4, 3) := by decide +kernel
theorem dL_clerks_138 : decode cL_clerks 138 = .ok (.iconst 0, 1) := by decide +kernel
theorem dL_clerks_139 : decode cL_clerks 139 = .ok (.if_icmp .ne 34, 3) := by decide +kernel
theorem dL_clerks_142 : decode cL_clerks 142 = .ok (.iload 7, 2) := by decide +kernel
theorem dL_clerks_144 : decode cL_clerks 144 = .ok (.ifCond .lt 14, 3) := by decide +kernel
theorem dL_clerks_147 : decode cL_clerks 147 = .ok (.aload_n 0, 1) := by decide +kernel
theorem dL_clerks_148 : decode cL_clerks 148 = .ok (.iload 7, 2) := by decide +kernel
theorem dL_clerks_150 : decode cL_clerks 150 = .ok (.invokevirtual 75, 3) := by decide +kernel
theorem dL_clerks_153 : decode cL_clerks 153 = .ok (.iload 4, 2) := by decide +kernel
theorem dL_clerks_155 : decode cL_clerks 155 = .ok (.if_icmp .ne 18, 3) := by decide +kernel
theorem dL_clerks_158 : decode cL_clerks 158 = .ok (.aload_n 0, 1) := by decide +kernel
theorem dL_clerks_159 : decode cL_clerks 159 = .ok (.iload 4, 2) := by decide +kernel
theorem dL_clerks_161 : decode cL_clerks 161 = .ok (.iconst 4, 1) := by decide +kernel
theorem dL_clerks_162 : decode cL_clerks 162 = .ok (.invokevirtual 29, 3) := by decide +kernel
theorem dL_clerks_165 : decode cL_clerks 165 = .ok (.aload_n 0, 1) := by decide +kernel
theorem dL_clerks_166 : decode cL_clerks 166 = .ok (.iconst 0, 1) := by decide +kernel
theorem dL_clerks_167 : decode cL_clerks 167 = .ok (.invokevirtual 13, 3) := by decide +kernel
theorem dL_clerks_170 : decode cL_clerks 170 = .ok (.if_icmp .le 5, 3) := by decide +kernel
theorem dL_clerks_173 : decode cL_clerks 173 = .ok (.iconst 0, 1) := by decide +kernel
theorem dL_clerks_174 : decode cL_clerks 174 = .ok (.ireturn, 1) := by decide +kernel
theorem dL_clerks_175 : decode cL_clerks 175 = .ok (.iload_n 1, 1) := by decide +kernel
theorem dL_clerks_176 : decode cL_clerks 176 = .ok (.iload 5, 2) := by decide +kernel
theorem dL_clerks_178 : decode cL_clerks 178 = .ok (.ifCond .lt 7, 3) := by decide +kernel
theorem dL_clerks_181 : decode cL_clerks 181 = .ok (.iconst 1, 1) := by decide +kernel
theorem dL_clerks_182 : decode cL_clerks 182 = .ok (.goto 4, 3) := by decide +kernel
theorem dL_clerks_185 : decode cL_clerks 185 = .ok (.iconst 0, 1) := by decide +kernel
theorem dL_clerks_186 : decode cL_clerks 186 = .ok (.iadd, 1) := by decide +kernel
theorem dL_clerks_187 : decode cL_clerks 187 = .ok (.istore_n 1, 1) := by decide +kernel
theorem dL_clerks_188 : decode cL_clerks 188 = .ok (.iload_n 2, 1) := by decide +kernel
theorem dL_clerks_189 : decode cL_clerks 189 = .ok (.iload 7, 2) := by decide +kernel
theorem dL_clerks_191 : decode cL_clerks 191 = .ok (.ifCond .lt 7, 3) := by decide +kernel
theorem dL_clerks_194 : decode cL_clerks 194 = .ok (.iconst 1, 1) := by decide +kernel
theorem dL_clerks_195 : decode cL_clerks 195 = .ok (.goto 4, 3) := by decide +kernel
theorem dL_clerks_198 : decode cL_clerks 198 = .ok (.iconst 0, 1) := by decide +kernel
theorem dL_clerks_199 : decode cL_clerks 199 = .ok (.iadd, 1) := by decide +kernel
theorem dL_clerks_200 : decode cL_clerks 200 = .ok (.istore_n 2, 1) := by decide +kernel
theorem dL_clerks_201 : decode cL_clerks 201 = .ok (.iload_n 3, 1) := by decide +kernel
theorem dL_clerks_202 : decode cL_clerks 202 = .ok (.aload_n 0, 1) := by decide +kernel
theorem dL_clerks_203 : decode cL_clerks 203 = .ok (.iload 4, 2) := by decide +kernel
theorem dL_clerks_205 : decode cL_clerks 205 = .ok (.iconst 4, 1) := by decide +kernel
theorem dL_clerks_206 : decode cL_clerks 206 = .ok (.invokevirtual 29, 3) := by decide +kernel
theorem dL_clerks_209 : decode cL_clerks 209 = .ok (.iadd, 1) := by decide +kernel
theorem dL_clerks_210 : decode cL_clerks 210 = .ok (.istore_n 3, 1) := by decide +kernel
theorem dL_clerks_211 : decode cL_clerks 211 = .ok (.iinc 4 1, 3) := by decide +kernel
theorem dL_clerks_214 : decode cL_clerks 214 = .ok (.goto (-205), 3) := by decide +kernel
theorem dL_clerks_217 : decode cL_clerks 217 = .ok (.iconst 0, 1) := by decide +kernel
theorem dL_clerks_218 : decode cL_clerks 218 = .ok (.istore 4, 2) := by decide +kernel
theorem dL_clerks_220 : decode cL_clerks 220 = .ok (.iload 4, 2) := by decide +kernel
theorem dL_clerks_222 : decode cL_clerks 222 = .ok (.iconst 1, 1) := by decide +kernel
theorem dL_clerks_223 : decode cL_clerks 223 = .ok (.iadd, 1) := by decide +kernel
theorem dL_clerks_224 : decode cL_clerks 224 = .ok (.iload_n 2, 1) := by decide +kernel
theorem dL_clerks_225 : decode cL_clerks 225 = .ok (.if_icmp .ge 70, 3) := by decide +kernel
theorem dL_clerks_228 : decode cL_clerks 228 = .ok (.aload_n 0, 1) := by decide +kernel
theorem dL_clerks_229 : decode cL_clerks 229 = .ok (.iload 4, 2) := by decide +kernel
theorem dL_clerks_231 : decode cL_clerks 231 = .ok (.invokevirtual 75, 3) := by decide +kernel
theorem dL_clerks_234 : decode cL_clerks 234 = .ok (.istore 5, 2) := by decide +kernel
theorem dL_clerks_236 : decode cL_clerks 236 = .ok (.aload_n 0, 1) := by decide +kernel
theorem dL_clerks_237 : decode cL_clerks 237 = .ok (.iload 4, 2) := by decide +kernel
theorem dL_clerks_239 : decode cL_clerks 239 = .ok (.iconst 1, 1) := by decide +kernel
theorem dL_clerks_240 : decode cL_clerks 240 = .ok (.iadd, 1) := by decide +kernel
theorem dL_clerks_241 : decode cL_clerks 241 = .ok (.invokevirtual 75, 3) := by decide +kernel
theorem dL_clerks_244 : decode cL_clerks 244 = .ok (.istore 6, 2) := by decide +kernel
theorem dL_clerks_246 : decode cL_clerks 246 = .ok (.aload_n 0, 1) := by decide +kernel
theorem dL_clerks_247 : decode cL_clerks 247 = .ok (.iload 5, 2) := by decide +kernel
theorem dL_clerks_249 : decode cL_clerks 249 = .ok (.iconst 4, 1) := by decide +kernel
theorem dL_clerks_250 : decode cL_clerks 250 = .ok (.invokevirtual 29, 3) := by decide +kernel
theorem dL_clerks_253 : decode cL_clerks 253 = .ok (.aload_n 0, 1) := by decide +kernel
theorem dL_clerks_254 : decode cL_clerks 254 = .ok (.iload 6, 2) := by decide +kernel
theorem dL_clerks_256 : decode cL_clerks 256 = .ok (.iconst 4, 1) := by decide +kernel
theorem dL_clerks_257 : decode cL_clerks 257 = .ok (.invokevirtual 29, 3) := by decide +kernel
theorem dL_clerks_260 : decode cL_clerks 260 = .ok (.if_icmp .gt 27, 3) := by decide +kernel
theorem dL_clerks_263 : decode cL_clerks 263 = .ok (.aload_n 0, 1) := by decide +kernel
theorem dL_clerks_264 : decode cL_clerks 264 = .ok (.iload 5, 2) := by decide +kernel
theorem dL_clerks_266 : decode cL_clerks 266 = .ok (.iconst 4, 1) := by decide +kernel
theorem dL_clerks_267 : decode cL_clerks 267 = .ok (.invokevirtual 29, 3) := by decide +kernel
theorem dL_clerks_270 : decode cL_clerks 270 = .ok (.aload_n 0, 1) := by decide +kernel
theorem dL_clerks_271 : decode cL_clerks 271 = .ok (.iload 6, 2) := by decide +kernel
theorem dL_clerks_273 : decode cL_clerks 273 = .ok (.iconst 4, 1) := by decide +kernel
theorem dL_clerks_274 : decode cL_clerks 274 = .ok (.invokevirtual 29, 3) := by decide +kernel
theorem dL_clerks_277 : decode cL_clerks 277 = .ok (.if_icmp .ne 12, 3) := by decide +kernel
theorem dL_clerks_280 : decode cL_clerks 280 = .ok (.iload 5, 2) := by decide +kernel
theorem dL_clerks_282 : decode cL_clerks 282 = .ok (.iload 6, 2) := by decide +kernel
theorem dL_clerks_284 : decode cL_clerks 284 = .ok (.if_icmp .le 5, 3) := by decide +kernel
theorem dL_clerks_287 : decode cL_clerks 287 = .ok (.iconst 0, 1) := by decide +kernel
theorem dL_clerks_288 : decode cL_clerks 288 = .ok (.ireturn, 1) := by decide +kernel
theorem dL_clerks_289 : decode cL_clerks 289 = .ok (.iinc 4 1, 3) := by decide +kernel
theorem dL_clerks_292 : decode cL_clerks 292 = .ok (.goto (-72), 3) := by decide +kernel
theorem dL_clerks_295 : decode cL_clerks 295 = .ok (.iconst 0, 1) := by decide +kernel
theorem dL_clerks_296 : decode cL_clerks 296 = .ok (.istore 4, 2) := by decide +kernel
theorem dL_clerks_298 : decode cL_clerks 298 = .ok (.iconst 0, 1) := by decide +kernel
theorem dL_clerks_299 : decode cL_clerks 299 = .ok (.istore 5, 2) := by decide +kernel
theorem dL_clerks_301 : decode cL_clerks 301 = .ok (.iload 5, 2) := by decide +kernel
theorem dL_clerks_303 : decode cL_clerks 303 = .ok (.aload_n 0, 1) := by decide +kernel
theorem dL_clerks_304 : decode cL_clerks 304 = .ok (.iconst 1, 1) := by decide +kernel
theorem dL_clerks_305 : decode cL_clerks 305 = .ok (.invokevirtual 13, 3) := by decide +kernel
theorem dL_clerks_308 : decode cL_clerks 308 = .ok (.if_icmp .ge 117, 3) := by decide +kernel
theorem dL_clerks_311 : decode cL_clerks 311 = .ok (.iconst 0, 1) := by decide +kernel
theorem dL_clerks_312 : decode cL_clerks 312 = .ok (.istore 6, 2) := by decide +kernel
theorem dL_clerks_314 : decode cL_clerks 314 = .ok (.iconst 0, 1) := by decide +kernel
theorem dL_clerks_315 : decode cL_clerks 315 = .ok (.istore 7, 2) := by decide +kernel
theorem dL_clerks_317 : decode cL_clerks 317 = .ok (.iconst 0, 1) := by decide +kernel
theorem dL_clerks_318 : decode cL_clerks 318 = .ok (.istore 8, 2) := by decide +kernel
theorem dL_clerks_320 : decode cL_clerks 320 = .ok (.iload 8, 2) := by decide +kernel
theorem dL_clerks_322 : decode cL_clerks 322 = .ok (.aload_n 0, 1) := by decide +kernel
theorem dL_clerks_323 : decode cL_clerks 323 = .ok (.iconst 2, 1) := by decide +kernel
theorem dL_clerks_324 : decode cL_clerks 324 = .ok (.invokevirtual 13, 3) := by decide +kernel
theorem dL_clerks_327 : decode cL_clerks 327 = .ok (.if_icmp .ge 59, 3) := by decide +kernel
theorem dL_clerks_330 : decode cL_clerks 330 = .ok (.iload 6, 2) := by decide +kernel
theorem dL_clerks_332 : decode cL_clerks 332 = .ok (.aload_n 0, 1) := by decide +kernel
theorem dL_clerks_333 : decode cL_clerks 333 = .ok (.iload 8, 2) := by decide +kernel
theorem dL_clerks_335 : decode cL_clerks 335 = .ok (.iconst 2, 1) := by decide +kernel
theorem dL_clerks_336 : decode cL_clerks 336 = .ok (.invokevirtual 29, 3) := by decide +kernel
theorem dL_clerks_339 : decode cL_clerks 339 = .ok (.iload 5, 2) := by decide +kernel
theorem dL_clerks_341 : decode cL_clerks 341 = .ok (.if_icmp .ne 7, 3) := by decide +kernel
theorem dL_clerks_344 : decode cL_clerks 344 = .ok (.iconst 1, 1) := by decide +kernel
theorem dL_clerks_345 : decode cL_clerks 345 = .ok (.goto 4, 3) := by decide +kernel
theorem dL_clerks_348 : decode cL_clerks 348 = .ok (.iconst 0, 1) := by decide +kernel
theorem dL_clerks_349 : decode cL_clerks 349 = .ok (.iadd, 1) := by decide +kernel
theorem dL_clerks_350 : decode cL_clerks 350 = .ok (.istore 6, 2) := by decide +kernel
theorem dL_clerks_352 : decode cL_clerks 352 = .ok (.iload 7, 2) := by decide +kernel
theorem dL_clerks_354 : decode cL_clerks 354 = .ok (.aload_n 0, 1) := by decide +kernel
theorem dL_clerks_355 : decode cL_clerks 355 = .ok (.iload 8, 2) := by decide +kernel
theorem dL_clerks_357 : decode cL_clerks 357 = .ok (.iconst 2, 1) := by decide +kernel
theorem dL_clerks_358 : decode cL_clerks 358 = .ok (.invokevirtual 29, 3) := by decide +kernel
theorem dL_clerks_361 : decode cL_clerks 361 = .ok (.iload 5, 2) := by decide +kernel
theorem dL_clerks_363 : decode cL_clerks 363 = .ok (.if_icmp .ne 13, 3) := by decide +kernel
theorem dL_clerks_366 : decode cL_clerks 366 = .ok (.aload_n 0, 1) := by decide +kernel
theorem dL_clerks_367 : decode cL_clerks 367 = .ok (.iload 8, 2) := by decide +kernel
theorem dL_clerks_369 : decode cL_clerks 369 = .ok (.iconst 0, 1) := by decide +kernel
theorem dL_clerks_370 : decode cL_clerks 370 = .ok (.invokevirtual 29, 3) := by decide +kernel
theorem dL_clerks_373 : decode cL_clerks 373 = .ok (.goto 4, 3) := by decide +kernel
theorem dL_clerks_376 : decode cL_clerks 376 = .ok (.iconst 0, 1) := by decide +kernel
theorem dL_clerks_377 : decode cL_clerks 377 = .ok (.iadd, 1) := by decide +kernel
theorem dL_clerks_378 : decode cL_clerks 378 = .ok (.istore 7, 2) := by decide +kernel
theorem dL_clerks_380 : decode cL_clerks 380 = .ok (.iinc 8 1, 3) := by decide +kernel
theorem dL_clerks_383 : decode cL_clerks 383 = .ok (.goto (-63), 3) := by decide +kernel
theorem dL_clerks_386 : decode cL_clerks 386 = .ok (.iload 4, 2) := by decide +kernel
theorem dL_clerks_388 : decode cL_clerks 388 = .ok (.iload 6, 2) := by decide +kernel
theorem dL_clerks_390 : decode cL_clerks 390 = .ok (.iadd, 1) := by decide +kernel
theorem dL_clerks_391 : decode cL_clerks 391 = .ok (.istore 4, 2) := by decide +kernel
theorem dL_clerks_393 : decode cL_clerks 393 = .ok (.aload_n 0, 1) := by decide +kernel
theorem dL_clerks_394 : decode cL_clerks 394 = .ok (.iload 5, 2) := by decide +kernel
theorem dL_clerks_396 : decode cL_clerks 396 = .ok (.iconst 4, 1) := by decide +kernel
theorem dL_clerks_397 : decode cL_clerks 397 = .ok (.invokevirtual 19, 3) := by decide +kernel
theorem dL_clerks_400 : decode cL_clerks 400 = .ok (.iload 6, 2) := by decide +kernel
theorem dL_clerks_402 : decode cL_clerks 402 = .ok (.if_icmp .ne 15, 3) := by decide +kernel
theorem dL_clerks_405 : decode cL_clerks 405 = .ok (.aload_n 0, 1) := by decide +kernel
theorem dL_clerks_406 : decode cL_clerks 406 = .ok (.iload 5, 2) := by decide +kernel
theorem dL_clerks_408 : decode cL_clerks 408 = .ok (.iconst 5, 1) := by decide +kernel
theorem dL_clerks_409 : decode cL_clerks 409 = .ok (.invokevirtual 19, 3) := by decide +kernel
theorem dL_clerks_412 : decode cL_clerks 412 = .ok (.iload 7, 2) := by decide +kernel
theorem dL_clerks_414 : decode cL_clerks 414 = .ok (.if_icmp .eq 5, 3) := by decide +kernel
theorem dL_clerks_417 : decode cL_clerks 417 = .ok (.iconst 0, 1) := by decide +kernel
theorem dL_clerks_418 : decode cL_clerks 418 = .ok (.ireturn, 1) := by decide +kernel
theorem dL_clerks_419 : decode cL_clerks 419 = .ok (.iinc 5 1, 3) := by decide +kernel
theorem dL_clerks_422 : decode cL_clerks 422 = .ok (.goto (-121), 3) := by decide +kernel
theorem dL_clerks_425 : decode cL_clerks 425 = .ok (.aload_n 0, 1) := by decide +kernel
theorem dL_clerks_426 : decode cL_clerks 426 = .ok (.iconst 3, 1) := by decide +kernel
theorem dL_clerks_427 : decode cL_clerks 427 = .ok (.invokevirtual 13, 3) := by decide +kernel
theorem dL_clerks_430 : decode cL_clerks 430 = .ok (.iload_n 1, 1) := by decide +kernel
theorem dL_clerks_431 : decode cL_clerks 431 = .ok (.if_icmp .ne 42, 3) := by decide +kernel
theorem dL_clerks_434 : decode cL_clerks 434 = .ok (.iload 4, 2) := by decide +kernel
theorem dL_clerks_436 : decode cL_clerks 436 = .ok (.iload_n 1, 1) := by decide +kernel
theorem dL_clerks_437 : decode cL_clerks 437 = .ok (.if_icmp .ne 36, 3) := by decide +kernel
theorem dL_clerks_440 : decode cL_clerks 440 = .ok (.aload_n 0, 1) := by decide +kernel
theorem dL_clerks_441 : decode cL_clerks 441 = .ok (.iconst 4, 1) := by decide +kernel
theorem dL_clerks_442 : decode cL_clerks 442 = .ok (.invokevirtual 13, 3) := by decide +kernel
theorem dL_clerks_445 : decode cL_clerks 445 = .ok (.iload_n 2, 1) := by decide +kernel
theorem dL_clerks_446 : decode cL_clerks 446 = .ok (.if_icmp .ne 27, 3) := by decide +kernel
theorem dL_clerks_449 : decode cL_clerks 449 = .ok (.aload_n 0, 1) := by decide +kernel
theorem dL_clerks_450 : decode cL_clerks 450 = .ok (.iload_n 2, 1) := by decide +kernel
theorem dL_clerks_451 : decode cL_clerks 451 = .ok (.invokevirtual 75, 3) := by decide +kernel
theorem dL_clerks_454 : decode cL_clerks 454 = .ok (.bipush (-5), 2) := by decide +kernel
theorem dL_clerks_456 : decode cL_clerks 456 = .ok (.if_icmp .ne 17, 3) := by decide +kernel
theorem dL_clerks_459 : decode cL_clerks 459 = .ok (.aload_n 0, 1) := by decide +kernel
theorem dL_clerks_460 : decode cL_clerks 460 = .ok (.bipush 13, 2) := by decide +kernel
theorem dL_clerks_462 : decode cL_clerks 462 = .ok (.invokevirtual 13, 3) := by decide +kernel
theorem dL_clerks_465 : decode cL_clerks 465 = .ok (.iload_n 3, 1) := by decide +kernel
theorem dL_clerks_466 : decode cL_clerks 466 = .ok (.if_icmp .ne 7, 3) := by decide +kernel
theorem dL_clerks_469 : decode cL_clerks 469 = .ok (.iconst 1, 1) := by decide +kernel
theorem dL_clerks_470 : decode cL_clerks 470 = .ok (.goto 4, 3) := by decide +kernel
theorem dL_clerks_473 : decode cL_clerks 473 = .ok (.iconst 0, 1) := by decide +kernel
theorem dL_clerks_474 : decode cL_clerks 474 = .ok (.ireturn, 1) := by decide +kernel
theorem dL_lacks_0 : decode cL_lacks 0 = .ok (.aload_n 0, 1) := by decide +kernel
theorem dL_lacks_1 : decode cL_lacks 1 = .ok (.iconst 1, 1) := by decide +kernel
theorem dL_lacks_2 : decode cL_lacks 2 = .ok (.invokevirtual 13, 3) := by decide +kernel
theorem dL_lacks_5 : decode cL_lacks 5 = .ok (.istore_n 2, 1) := by decide +kernel
theorem dL_lacks_6 : decode cL_lacks 6 = .ok (.iload_n 2, 1) := by decide +kernel
theorem dL_lacks_7 : decode cL_lacks 7 = .ok (.ifCond .ne 5, 3) := by decide +kernel
theorem dL_lacks_10 : decode cL_lacks 10 = .ok (.iconst 1, 1) := by decide +kernel
theorem dL_lacks_11 : decode cL_lacks 11 = .ok (.ireturn, 1) := by decide +kernel
theorem dL_lacks_12 : decode cL_lacks 12 = .ok (.iload_n 1, 1) := by decide +kernel
theorem dL_lacks_13 : decode cL_lacks 13 = .ok (.iload_n 2, 1) := by decide +kernel
theorem dL_lacks_14 : decode cL_lacks 14 = .ok (.invokestatic 89, 3) := by decide +kernel
theorem dL_lacks_17 : decode cL_lacks 17 = .ok (.istore_n 3, 1) := by decide +kernel
theorem dL_lacks_18 : decode cL_lacks 18 = .ok (.aload_n 0, 1) := by decide +kernel
theorem dL_lacks_19 : decode cL_lacks 19 = .ok (.iload_n 3, 1) := by decide +kernel
theorem dL_lacks_20 : decode cL_lacks 20 = .ok (.invokevirtual 84, 3) := by decide +kernel
theorem dL_lacks_23 : decode cL_lacks 23 = .ok (.istore 4, 2) := by decide +kernel
theorem dL_lacks_25 : decode cL_lacks 25 = .ok (.aload_n 0, 1) := by decide +kernel
theorem dL_lacks_26 : decode cL_lacks 26 = .ok (.iload_n 3, 1) := by decide +kernel
theorem dL_lacks_27 : decode cL_lacks 27 = .ok (.iconst 0, 1) := by decide +kernel
theorem dL_lacks_28 : decode cL_lacks 28 = .ok (.invokevirtual 23, 3) := by decide +kernel
theorem dL_lacks_31 : decode cL_lacks 31 = .ok (.istore 5, 2) := by decide +kernel
theorem dL_lacks_33 : decode cL_lacks 33 = .ok (.iload 4, 2) := by decide +kernel
theorem dL_lacks_35 : decode cL_lacks 35 = .ok (.ifCond .ge 5, 3) := by decide +kernel
theorem dL_lacks_38 : decode cL_lacks 38 = .ok (.iconst 0, 1) := by decide +kernel
theorem dL_lacks_39 : decode cL_lacks 39 = .ok (.ireturn, 1) := by decide +kernel
theorem dL_lacks_40 : decode cL_lacks 40 = .ok (.iload 4, 2) := by decide +kernel
theorem dL_lacks_42 : decode cL_lacks 42 = .ok (.ifCond .eq 14, 3) := by decide +kernel
theorem dL_lacks_45 : decode cL_lacks 45 = .ok (.iload 5, 2) := by decide +kernel
theorem dL_lacks_47 : decode cL_lacks 47 = .ok (.iload 4, 2) := by decide +kernel
theorem dL_lacks_49 : decode cL_lacks 49 = .ok (.iadd, 1) := by decide +kernel
theorem dL_lacks_50 : decode cL_lacks 50 = .ok (.sipush 9999, 3) := by decide +kernel
theorem dL_lacks_53 : decode cL_lacks 53 = .ok (.if_icmp .le 5, 3) := by decide +kernel
theorem dL_lacks_56 : decode cL_lacks 56 = .ok (.iconst 1, 1) := by decide +kernel
theorem dL_lacks_57 : decode cL_lacks 57 = .ok (.ireturn, 1) := by decide +kernel
theorem dL_lacks_58 : decode cL_lacks 58 = .ok (.iload 4, 2) := by decide +kernel
theorem dL_lacks_60 : decode cL_lacks 60 = .ok (.iconst 1, 1) := by decide +kernel
theorem dL_lacks_61 : decode cL_lacks 61 = .ok (.if_icmp .eq 31, 3) := by decide +kernel
theorem dL_lacks_64 : decode cL_lacks 64 = .ok (.aload_n 0, 1) := by decide +kernel
theorem dL_lacks_65 : decode cL_lacks 65 = .ok (.iload_n 3, 1) := by decide +kernel
theorem dL_lacks_66 : decode cL_lacks 66 = .ok (.iload 4, 2) := by decide +kernel
theorem dL_lacks_68 : decode cL_lacks 68 = .ok (.iconst 1, 1) := by decide +kernel
theorem dL_lacks_69 : decode cL_lacks 69 = .ok (.isub, 1) := by decide +kernel
theorem dL_lacks_70 : decode cL_lacks 70 = .ok (.invokevirtual 54, 3) := by decide +kernel
theorem dL_lacks_73 : decode cL_lacks 73 = .ok (.iload 5, 2) := by decide +kernel
theorem dL_lacks_75 : decode cL_lacks 75 = .ok (.iload 4, 2) := by decide +kernel
theorem dL_lacks_77 : decode cL_lacks 77 = .ok (.iadd, 1) := by decide +kernel
theorem dL_lacks_78 : decode cL_lacks 78 = .ok (.iconst 1, 1) := by decide +kernel
theorem dL_lacks_79 : decode cL_lacks 79 = .ok (.isub, 1) := by decide +kernel
theorem dL_lacks_80 : decode cL_lacks 80 = .ok (.if_icmp .ne 79, 3) := by decide +kernel
theorem dL_lacks_83 : decode cL_lacks 83 = .ok (.aload_n 0, 1) := by decide +kernel
theorem dL_lacks_84 : decode cL_lacks 84 = .ok (.iload_n 3, 1) := by decide +kernel
theorem dL_lacks_85 : decode cL_lacks 85 = .ok (.invokevirtual 84, 3) := by decide +kernel
theorem dL_lacks_88 : decode cL_lacks 88 = .ok (.iconst 1, 1) := by decide +kernel
theorem dL_lacks_89 : decode cL_lacks 89 = .ok (.if_icmp .ne 70, 3) := by decide +kernel
theorem dL_lacks_92 : decode cL_lacks 92 = .ok (.aload_n 0, 1) := by decide +kernel
theorem dL_lacks_93 : decode cL_lacks 93 = .ok (.iload_n 3, 1) := by decide +kernel
theorem dL_lacks_94 : decode cL_lacks 94 = .ok (.iconst 1, 1) := by decide +kernel
theorem dL_lacks_95 : decode cL_lacks 95 = .ok (.invokevirtual 54, 3) := by decide +kernel
theorem dL_lacks_98 : decode cL_lacks 98 = .ok (.iload 5, 2) := by decide +kernel
theorem dL_lacks_100 : decode cL_lacks 100 = .ok (.iload 4, 2) := by decide +kernel
theorem dL_lacks_102 : decode cL_lacks 102 = .ok (.iadd, 1) := by decide +kernel
theorem dL_lacks_103 : decode cL_lacks 103 = .ok (.if_icmp .ne 56, 3) := by decide +kernel
theorem dL_lacks_106 : decode cL_lacks 106 = .ok (.aload_n 0, 1) := by decide +kernel
theorem dL_lacks_107 : decode cL_lacks 107 = .ok (.iload_n 3, 1) := by decide +kernel
theorem dL_lacks_108 : decode cL_lacks 108 = .ok (.invokevirtual 84, 3) := by decide +kernel
theorem dL_lacks_111 : decode cL_lacks 111 = .ok (.ifCond .ne 48, 3) := by decide +kernel
theorem dL_lacks_114 : decode cL_lacks 114 = .ok (.aload_n 0, 1) := by decide +kernel
theorem dL_lacks_115 : decode cL_lacks 115 = .ok (.invokevirtual 92, 3) := by decide +kernel
theorem dL_lacks_118 : decode cL_lacks 118 = .ok (.ifCond .lt 41, 3) := by decide +kernel
theorem dL_lacks_121 : decode cL_lacks 121 = .ok (.iload 4, 2) := by decide +kernel
theorem dL_lacks_123 : decode cL_lacks 123 = .ok (.iconst 1, 1) := by decide +kernel
theorem dL_lacks_124 : decode cL_lacks 124 = .ok (.if_icmp .eq 10, 3) := by decide +kernel
theorem dL_lacks_127 : decode cL_lacks 127 = .ok (.aload_n 0, 1) := by decide +kernel
theorem dL_lacks_128 : decode cL_lacks 128 = .ok (.invokevirtual 92, 3) := by decide +kernel
theorem dL_lacks_131 : decode cL_lacks 131 = .ok (.ifCond .lt 28, 3) := by decide +kernel
theorem dL_lacks_134 : decode cL_lacks 134 = .ok (.aload_n 0, 1) := by decide +kernel
theorem dL_lacks_135 : decode cL_lacks 135 = .ok (.iload_n 3, 1) := by decide +kernel
theorem dL_lacks_136 : decode cL_lacks 136 = .ok (.iconst 0, 1) := by decide +kernel
theorem dL_lacks_137 : decode cL_lacks 137 = .ok (.invokevirtual 23, 3) := by decide +kernel
theorem dL_lacks_140 : decode cL_lacks 140 = .ok (.iload 5, 2) := by decide +kernel
theorem dL_lacks_142 : decode cL_lacks 142 = .ok (.if_icmp .ne 17, 3) := by decide +kernel
theorem dL_lacks_145 : decode cL_lacks 145 = .ok (.aload_n 0, 1) := by decide +kernel
theorem dL_lacks_146 : decode cL_lacks 146 = .ok (.iload_n 3, 1) := by decide +kernel
theorem dL_lacks_147 : decode cL_lacks 147 = .ok (.invokevirtual 84, 3) := by decide +kernel
theorem dL_lacks_150 : decode cL_lacks 150 = .ok (.iload 4, 2) := by decide +kernel
theorem dL_lacks_152 : decode cL_lacks 152 = .ok (.if_icmp .ne 7, 3) := by decide +kernel
theorem dL_lacks_155 : decode cL_lacks 155 = .ok (.iconst 1, 1) := by decide +kernel
theorem dL_lacks_156 : decode cL_lacks 156 = .ok (.goto 4, 3) := by decide +kernel
theorem dL_lacks_159 : decode cL_lacks 159 = .ok (.iconst 0, 1) := by decide +kernel
theorem dL_lacks_160 : decode cL_lacks 160 = .ok (.ireturn, 1) := by decide +kernel
theorem dL_passes_0 : decode cL_passes 0 = .ok (.aload_n 0, 1) := by decide +kernel
theorem dL_passes_1 : decode cL_passes 1 = .ok (.iconst 0, 1) := by decide +kernel
theorem dL_passes_2 : decode cL_passes 2 = .ok (.invokevirtual 13, 3) := by decide +kernel
theorem dL_passes_5 : decode cL_passes 5 = .ok (.istore_n 2, 1) := by decide +kernel
theorem dL_passes_6 : decode cL_passes 6 = .ok (.iconst 1, 1) := by decide +kernel
theorem dL_passes_7 : decode cL_passes 7 = .ok (.iload_n 1, 1) := by decide +kernel
theorem dL_passes_8 : decode cL_passes 8 = .ok (.iconst 3, 1) := by decide +kernel
theorem dL_passes_9 : decode cL_passes 9 = .ok (.invokestatic 89, 3) := by decide +kernel
theorem dL_passes_12 : decode cL_passes 12 = .ok (.iadd, 1) := by decide +kernel
theorem dL_passes_13 : decode cL_passes 13 = .ok (.istore_n 3, 1) := by decide +kernel
theorem dL_passes_14 : decode cL_passes 14 = .ok (.iload_n 2, 1) := by decide +kernel
theorem dL_passes_15 : decode cL_passes 15 = .ok (.iload_n 3, 1) := by decide +kernel
theorem dL_passes_16 : decode cL_passes 16 = .ok (.iadd, 1) := by decide +kernel
theorem dL_passes_17 : decode cL_passes 17 = .ok (.bipush 18, 2) := by decide +kernel
theorem dL_passes_19 : decode cL_passes 19 = .ok (.if_icmp .le 19, 3) := by decide +kernel
theorem dL_passes_22 : decode cL_passes 22 = .ok (.aload_n 0, 1) := by decide +kernel
theorem dL_passes_23 : decode cL_passes 23 = .ok (.iload_n 3, 1) := by decide +kernel
theorem dL_passes_24 : decode cL_passes 24 = .ok (.invokevirtual 51, 3) := by decide +kernel
theorem dL_passes_27 : decode cL_passes 27 = .ok (.bipush (-4), 2) := by decide +kernel
theorem dL_passes_29 : decode cL_passes 29 = .ok (.if_icmp .ne 7, 3) := by decide +kernel
theorem dL_passes_32 : decode cL_passes 32 = .ok (.iconst 1, 1) := by decide +kernel
theorem dL_passes_33 : decode cL_passes 33 = .ok (.goto 4, 3) := by decide +kernel
theorem dL_passes_36 : decode cL_passes 36 = .ok (.iconst 0, 1) := by decide +kernel
theorem dL_passes_37 : decode cL_passes 37 = .ok (.ireturn, 1) := by decide +kernel
theorem dL_passes_38 : decode cL_passes 38 = .ok (.aload_n 0, 1) := by decide +kernel
theorem dL_passes_39 : decode cL_passes 39 = .ok (.iconst 1, 1) := by decide +kernel
theorem dL_passes_40 : decode cL_passes 40 = .ok (.invokevirtual 13, 3) := by decide +kernel
theorem dL_passes_43 : decode cL_passes 43 = .ok (.ifCond .ne 7, 3) := by decide +kernel
theorem dL_passes_46 : decode cL_passes 46 = .ok (.iconst 0, 1) := by decide +kernel
theorem dL_passes_47 : decode cL_passes 47 = .ok (.goto 14, 3) := by decide +kernel
theorem dL_passes_50 : decode cL_passes 50 = .ok (.iload_n 1, 1) := by decide +kernel
theorem dL_passes_51 : decode cL_passes 51 = .ok (.iconst 4, 1) := by decide +kernel
theorem dL_passes_52 : decode cL_passes 52 = .ok (.ishr, 1) := by decide +kernel
theorem dL_passes_53 : decode cL_passes 53 = .ok (.aload_n 0, 1) := by decide +kernel
theorem dL_passes_54 : decode cL_passes 54 = .ok (.iconst 1, 1) := by decide +kernel
theorem dL_passes_55 : decode cL_passes 55 = .ok (.invokevirtual 13, 3) := by decide +kernel
theorem dL_passes_58 : decode cL_passes 58 = .ok (.invokestatic 89, 3) := by decide +kernel
theorem dL_passes_61 : decode cL_passes 61 = .ok (.istore 4, 2) := by decide +kernel
theorem dL_passes_63 : decode cL_passes 63 = .ok (.aload_n 0, 1) := by decide +kernel
theorem dL_passes_64 : decode cL_passes 64 = .ok (.iload 4, 2) := by decide +kernel
theorem dL_passes_66 : decode cL_passes 66 = .ok (.iload_n 3, 1) := by decide +kernel
theorem dL_passes_67 : decode cL_passes 67 = .ok (.invokevirtual 81, 3) := by decide +kernel
theorem dL_passes_70 : decode cL_passes 70 = .ok (.istore 5, 2) := by decide +kernel
theorem dL_passes_72 : decode cL_passes 72 = .ok (.aload_n 0, 1) := by decide +kernel
theorem dL_passes_73 : decode cL_passes 73 = .ok (.bipush 6, 2) := by decide +kernel
theorem dL_passes_75 : decode cL_passes 75 = .ok (.invokevirtual 13, 3) := by decide +kernel
theorem dL_passes_78 : decode cL_passes 78 = .ok (.istore 6, 2) := by decide +kernel
theorem dL_passes_80 : decode cL_passes 80 = .ok (.iconst 0, 1) := by decide +kernel
theorem dL_passes_81 : decode cL_passes 81 = .ok (.istore 7, 2) := by decide +kernel
theorem dL_passes_83 : decode cL_passes 83 = .ok (.iconst 0, 1) := by decide +kernel
theorem dL_passes_84 : decode cL_passes 84 = .ok (.istore 8, 2) := by decide +kernel
theorem dL_passes_86 : decode cL_passes 86 = .ok (.iload 8, 2) := by decide +kernel
theorem dL_passes_88 : decode cL_passes 88 = .ok (.aload_n 0, 1) := by decide +kernel
theorem dL_passes_89 : decode cL_passes 89 = .ok (.iconst 2, 1) := by decide +kernel
theorem dL_passes_90 : decode cL_passes 90 = .ok (.invokevirtual 13, 3) := by decide +kernel
theorem dL_passes_93 : decode cL_passes 93 = .ok (.if_icmp .ge 33, 3) := by decide +kernel
theorem dL_passes_96 : decode cL_passes 96 = .ok (.iload 7, 2) := by decide +kernel
theorem dL_passes_98 : decode cL_passes 98 = .ok (.aload_n 0, 1) := by decide +kernel
theorem dL_passes_99 : decode cL_passes 99 = .ok (.iload 8, 2) := by decide +kernel
theorem dL_passes_101 : decode cL_passes 101 = .ok (.iconst 5, 1) := by decide +kernel
theorem dL_passes_102 : decode cL_passes 102 = .ok (.invokevirtual 29, 3) := by decide +kernel
theorem dL_passes_105 : decode cL_passes 105 = .ok (.iconst 1, 1) := by decide +kernel
theorem dL_passes_106 : decode cL_passes 106 = .ok (.if_icmp .ne 10, 3) := by decide +kernel
theorem dL_passes_109 : decode cL_passes 109 = .ok (.iconst 1, 1) := by decide +kernel
theorem dL_passes_110 : decode cL_passes 110 = .ok (.iload 8, 2) := by decide +kernel
theorem dL_passes_112 : decode cL_passes 112 = .ok (.ishl, 1) := by decide +kernel
theorem dL_passes_113 : decode cL_passes 113 = .ok (.goto 4, 3) := by decide +kernel
theorem dL_passes_116 : decode cL_passes 116 = .ok (.iconst 0, 1) := by decide +kernel
theorem dL_passes_117 : decode cL_passes 117 = .ok (.ior, 1) := by decide +kernel
theorem dL_passes_118 : decode cL_passes 118 = .ok (.istore 7, 2) := by decide +kernel
theorem dL_passes_120 : decode cL_passes 120 = .ok (.iinc 8 1, 3) := by decide +kernel
theorem dL_passes_123 : decode cL_passes 123 = .ok (.goto (-37), 3) := by decide +kernel
theorem dL_passes_126 : decode cL_passes 126 = .ok (.aload_n 0, 1) := by decide +kernel
theorem dL_passes_127 : decode cL_passes 127 = .ok (.iload 4, 2) := by decide +kernel
theorem dL_passes_129 : decode cL_passes 129 = .ok (.iconst 0, 1) := by decide +kernel
theorem dL_passes_130 : decode cL_passes 130 = .ok (.invokevirtual 81, 3) := by decide +kernel
theorem dL_passes_133 : decode cL_passes 133 = .ok (.aload_n 0, 1) := by decide +kernel
theorem dL_passes_134 : decode cL_passes 134 = .ok (.iload 4, 2) := by decide +kernel
theorem dL_passes_136 : decode cL_passes 136 = .ok (.iconst 0, 1) := by decide +kernel
theorem dL_passes_137 : decode cL_passes 137 = .ok (.invokevirtual 19, 3) := by decide +kernel
theorem dL_passes_140 : decode cL_passes 140 = .ok (.if_icmp .ne 43, 3) := by decide +kernel
theorem dL_passes_143 : decode cL_passes 143 = .ok (.aload_n 0, 1) := by decide +kernel
theorem dL_passes_144 : decode cL_passes 144 = .ok (.iload_n 3, 1) := by decide +kernel
theorem dL_passes_145 : decode cL_passes 145 = .ok (.invokevirtual 51, 3) := by decide +kernel
theorem dL_passes_148 : decode cL_passes 148 = .ok (.aload_n 0, 1) := by decide +kernel
theorem dL_passes_149 : decode cL_passes 149 = .ok (.bipush 6, 2) := by decide +kernel
theorem dL_passes_151 : decode cL_passes 151 = .ok (.invokevirtual 13, 3) := by decide +kernel
theorem dL_passes_154 : decode cL_passes 154 = .ok (.iload 6, 2) := by decide +kernel
theorem dL_passes_156 : decode cL_passes 156 = .ok (.isub, 1) := by decide +kernel
theorem dL_passes_157 : decode cL_passes 157 = .ok (.if_icmp .ne 26, 3) := by decide +kernel
theorem dL_passes_160 : decode cL_passes 160 = .ok (.aload_n 0, 1) := by decide +kernel
theorem dL_passes_161 : decode cL_passes 161 = .ok (.iconst 0, 1) := by decide +kernel
theorem dL_passes_162 : decode cL_passes 162 = .ok (.invokevirtual 13, 3) := by decide +kernel
theorem dL_passes_165 : decode cL_passes 165 = .ok (.iload_n 2, 1) := by decide +kernel
theorem dL_passes_166 : decode cL_passes 166 = .ok (.iload_n 3, 1) := by decide +kernel
theorem dL_passes_167 : decode cL_passes 167 = .ok (.iadd, 1) := by decide +kernel
theorem dL_passes_168 : decode cL_passes 168 = .ok (.if_icmp .ne 15, 3) := by decide +kernel
theorem dL_passes_171 : decode cL_passes 171 = .ok (.aload_n 0, 1) := by decide +kernel
theorem dL_passes_172 : decode cL_passes 172 = .ok (.iload 4, 2) := by decide +kernel
theorem dL_passes_174 : decode cL_passes 174 = .ok (.iconst 0, 1) := by decide +kernel
theorem dL_passes_175 : decode cL_passes 175 = .ok (.invokevirtual 19, 3) := by decide +kernel
theorem dL_passes_178 : decode cL_passes 178 = .ok (.iload 5, 2) := by decide +kernel
theorem dL_passes_180 : decode cL_passes 180 = .ok (.if_icmp .eq 5, 3) := by decide +kernel
theorem dL_passes_183 : decode cL_passes 183 = .ok (.iconst 0, 1) := by decide +kernel
theorem dL_passes_184 : decode cL_passes 184 = .ok (.ireturn, 1) := by decide +kernel
theorem dL_passes_185 : decode cL_passes 185 = .ok (.iconst 0, 1) := by decide +kernel
theorem dL_passes_186 : decode cL_passes 186 = .ok (.istore 8, 2) := by decide +kernel
theorem dL_passes_188 : decode cL_passes 188 = .ok (.iload 8, 2) := by decide +kernel
theorem dL_passes_190 : decode cL_passes 190 = .ok (.aload_n 0, 1) := by decide +kernel
theorem dL_passes_191 : decode cL_passes 191 = .ok (.iconst 2, 1) := by decide +kernel
theorem dL_passes_192 : decode cL_passes 192 = .ok (.invokevirtual 13, 3) := by decide +kernel
theorem dL_passes_195 : decode cL_passes 195 = .ok (.if_icmp .ge 38, 3) := by decide +kernel
theorem dL_passes_198 : decode cL_passes 198 = .ok (.iload 7, 2) := by decide +kernel
theorem dL_passes_200 : decode cL_passes 200 = .ok (.iload 8, 2) := by decide +kernel
theorem dL_passes_202 : decode cL_passes 202 = .ok (.ishr, 1) := by decide +kernel
theorem dL_passes_203 : decode cL_passes 203 = .ok (.iconst 1, 1) := by decide +kernel
theorem dL_passes_204 : decode cL_passes 204 = .ok (.iand, 1) := by decide +kernel
theorem dL_passes_205 : decode cL_passes 205 = .ok (.iconst 1, 1) := by decide +kernel
theorem dL_passes_206 : decode cL_passes 206 = .ok (.if_icmp .ne 21, 3) := by decide +kernel
theorem dL_passes_209 : decode cL_passes 209 = .ok (.iload_n 3, 1) := by decide +kernel
theorem dL_passes_210 : decode cL_passes 210 = .ok (.iconst 1, 1) := by decide +kernel
theorem dL_passes_211 : decode cL_passes 211 = .ok (.if_icmp .ne 16, 3) := by decide +kernel
theorem dL_passes_214 : decode cL_passes 214 = .ok (.aload_n 0, 1) := by decide +kernel
theorem dL_passes_215 : decode cL_passes 215 = .ok (.iload 8, 2) := by decide +kernel
theorem dL_passes_217 : decode cL_passes 217 = .ok (.iconst 5, 1) := by decide +kernel
theorem dL_passes_218 : decode cL_passes 218 = .ok (.invokevirtual 29, 3) := by decide +kernel
theorem dL_passes_221 : decode cL_passes 221 = .ok (.iconst 1, 1) := by decide +kernel
theorem dL_passes_222 : decode cL_passes 222 = .ok (.if_icmp .ne 5, 3) := by decide +kernel
theorem dL_passes_225 : decode cL_passes 225 = .ok (.iconst 0, 1) := by decide +kernel
theorem dL_passes_226 : decode cL_passes 226 = .ok (.ireturn, 1) := by decide +kernel
theorem dL_passes_227 : decode cL_passes 227 = .ok (.iinc 8 1, 3) := by decide +kernel
theorem dL_passes_230 : decode cL_passes 230 = .ok (.goto (-42), 3) := by decide +kernel
theorem dL_passes_233 : decode cL_passes 233 = .ok (.iconst 1, 1) := by decide +kernel
theorem dL_passes_234 : decode cL_passes 234 = .ok (.ireturn, 1) := by decide +kernel
theorem dL_act_0 : decode cL_act 0 = .ok (.iload_n 2, 1) := by decide +kernel
theorem dL_act_1 : decode cL_act 1 = .ok (.aload_n 0, 1) := by decide +kernel
theorem dL_act_2 : decode cL_act 2 = .ok (.iconst 1, 1) := by decide +kernel
theorem dL_act_3 : decode cL_act 3 = .ok (.invokevirtual 13, 3) := by decide +kernel
theorem dL_act_6 : decode cL_act 6 = .ok (.invokestatic 89, 3) := by decide +kernel
theorem dL_act_9 : decode cL_act 9 = .ok (.istore 4, 2) := by decide +kernel
theorem dL_act_11 : decode cL_act 11 = .ok (.iload_n 2, 1) := by decide +kernel
theorem dL_act_12 : decode cL_act 12 = .ok (.iconst 3, 1) := by decide +kernel
theorem dL_act_13 : decode cL_act 13 = .ok (.ishr, 1) := by decide +kernel
theorem dL_act_14 : decode cL_act 14 = .ok (.aload_n 0, 1) := by decide +kernel
theorem dL_act_15 : decode cL_act 15 = .ok (.iconst 1, 1) := by decide +kernel
theorem dL_act_16 : decode cL_act 16 = .ok (.invokevirtual 13, 3) := by decide +kernel
theorem dL_act_19 : decode cL_act 19 = .ok (.invokestatic 89, 3) := by decide +kernel
theorem dL_act_22 : decode cL_act 22 = .ok (.istore 5, 2) := by decide +kernel
theorem dL_act_24 : decode cL_act 24 = .ok (.iload_n 2, 1) := by decide +kernel
theorem dL_act_25 : decode cL_act 25 = .ok (.bipush 6, 2) := by decide +kernel
theorem dL_act_27 : decode cL_act 27 = .ok (.ishr, 1) := by decide +kernel
theorem dL_act_28 : decode cL_act 28 = .ok (.aload_n 0, 1) := by decide +kernel
theorem dL_act_29 : decode cL_act 29 = .ok (.iconst 2, 1) := by decide +kernel
theorem dL_act_30 : decode cL_act 30 = .ok (.invokevirtual 13, 3) := by decide +kernel
theorem dL_act_33 : decode cL_act 33 = .ok (.invokestatic 89, 3) := by decide +kernel
theorem dL_act_36 : decode cL_act 36 = .ok (.istore 6, 2) := by decide +kernel
theorem dL_act_38 : decode cL_act 38 = .ok (.iconst 1, 1) := by decide +kernel
theorem dL_act_39 : decode cL_act 39 = .ok (.iload_n 1, 1) := by decide +kernel
theorem dL_act_40 : decode cL_act 40 = .ok (.iconst 4, 1) := by decide +kernel
theorem dL_act_41 : decode cL_act 41 = .ok (.ishr, 1) := by decide +kernel
theorem dL_act_42 : decode cL_act 42 = .ok (.bipush 120, 2) := by decide +kernel
theorem dL_act_44 : decode cL_act 44 = .ok (.invokestatic 89, 3) := by decide +kernel
theorem dL_act_47 : decode cL_act 47 = .ok (.iadd, 1) := by decide +kernel
theorem dL_act_48 : decode cL_act 48 = .ok (.istore 7, 2) := by decide +kernel
theorem dL_act_50 : decode cL_act 50 = .ok (.iload_n 1, 1) := by decide +kernel
theorem dL_act_51 : decode cL_act 51 = .ok (.bipush 11, 2) := by decide +kernel
theorem dL_act_53 : decode cL_act 53 = .ok (.invokestatic 89, 3) := by decide +kernel
theorem dL_act_56 : decode cL_act 56 = .ok (.tableswitch 213 0 9 #[56, 56, 81, 81, 90, 97, 97, 128, 179, 196], 56) := by decide +kernel
theorem dL_act_112 : decode cL_act 112 = .ok (.aload_n 0, 1) := by decide +kernel
theorem dL_act_113 : decode cL_act 113 = .ok (.iload 4, 2) := by decide +kernel
theorem dL_act_115 : decode cL_act 115 = .ok (.iload_n 2, 1) := by decide +kernel
theorem dL_act_116 : decode cL_act 116 = .ok (.bipush 10, 2) := by decide +kernel
theorem dL_act_118 : decode cL_act 118 = .ok (.ishr, 1) := by decide +kernel
theorem dL_act_119 : decode cL_act 119 = .ok (.bipush 15, 2) := by decide +kernel
theorem dL_act_121 : decode cL_act 121 = .ok (.invokestatic 89, 3) := by decide +kernel
theorem dL_act_124 : decode cL_act 124 = .ok (.iload_n 1, 1) := by decide +kernel
theorem dL_act_125 : decode cL_act 125 = .ok (.iconst 4, 1) := by decide +kernel
theorem dL_act_126 : decode cL_act 126 = .ok (.ishr, 1) := by decide +kernel
theorem dL_act_127 : decode cL_act 127 = .ok (.sipush 200, 3) := by decide +kernel
theorem dL_act_130 : decode cL_act 130 = .ok (.invokestatic 89, 3) := by decide +kernel
theorem dL_act_133 : decode cL_act 133 = .ok (.invokevirtual 41, 3) := by decide +kernel
theorem dL_act_136 : decode cL_act 136 = .ok (.ireturn, 1) := by decide +kernel
theorem dL_act_137 : decode cL_act 137 = .ok (.aload_n 0, 1) := by decide +kernel
theorem dL_act_138 : decode cL_act 138 = .ok (.iload 6, 2) := by decide +kernel
theorem dL_act_140 : decode cL_act 140 = .ok (.iload 4, 2) := by decide +kernel
theorem dL_act_142 : decode cL_act 142 = .ok (.invokevirtual 45, 3) := by decide +kernel
theorem dL_act_145 : decode cL_act 145 = .ok (.ireturn, 1) := by decide +kernel
theorem dL_act_146 : decode cL_act 146 = .ok (.aload_n 0, 1) := by decide +kernel
theorem dL_act_147 : decode cL_act 147 = .ok (.iload 6, 2) := by decide +kernel
theorem dL_act_149 : decode cL_act 149 = .ok (.invokevirtual 48, 3) := by decide +kernel
theorem dL_act_152 : decode cL_act 152 = .ok (.ireturn, 1) := by decide +kernel
theorem dL_act_153 : decode cL_act 153 = .ok (.aload_n 0, 1) := by decide +kernel
theorem dL_act_154 : decode cL_act 154 = .ok (.iload 4, 2) := by decide +kernel
theorem dL_act_156 : decode cL_act 156 = .ok (.iload 7, 2) := by decide +kernel
theorem dL_act_158 : decode cL_act 158 = .ok (.invokevirtual 54, 3) := by decide +kernel
theorem dL_act_161 : decode cL_act 161 = .ok (.istore 8, 2) := by decide +kernel
theorem dL_act_163 : decode cL_act 163 = .ok (.aload_n 3, 1) := by decide +kernel
theorem dL_act_164 : decode cL_act 164 = .ok (.iload 4, 2) := by decide +kernel
theorem dL_act_166 : decode cL_act 166 = .ok (.dup2, 1) := by decide +kernel
theorem dL_act_167 : decode cL_act 167 = .ok (.iaload, 1) := by decide +kernel
theorem dL_act_168 : decode cL_act 168 = .ok (.iload 8, 2) := by decide +kernel
theorem dL_act_170 : decode cL_act 170 = .ok (.ifCond .lt 8, 3) := by decide +kernel
theorem dL_act_173 : decode cL_act 173 = .ok (.iload 7, 2) := by decide +kernel
theorem dL_act_175 : decode cL_act 175 = .ok (.goto 4, 3) := by decide +kernel
theorem dL_act_178 : decode cL_act 178 = .ok (.iconst 0, 1) := by decide +kernel
theorem dL_act_179 : decode cL_act 179 = .ok (.iadd, 1) := by decide +kernel
theorem dL_act_180 : decode cL_act 180 = .ok (.iastore, 1) := by decide +kernel
theorem dL_act_181 : decode cL_act 181 = .ok (.iload 8, 2) := by decide +kernel
theorem dL_act_183 : decode cL_act 183 = .ok (.ireturn, 1) := by decide +kernel
theorem dL_act_184 : decode cL_act 184 = .ok (.aload_n 0, 1) := by decide +kernel
theorem dL_act_185 : decode cL_act 185 = .ok (.iload 4, 2) := by decide +kernel
theorem dL_act_187 : decode cL_act 187 = .ok (.iload 5, 2) := by decide +kernel
theorem dL_act_189 : decode cL_act 189 = .ok (.iload 7, 2) := by decide +kernel
theorem dL_act_191 : decode cL_act 191 = .ok (.invokevirtual 57, 3) := by decide +kernel
theorem dL_act_194 : decode cL_act 194 = .ok (.istore 8, 2) := by decide +kernel
theorem dL_act_196 : decode cL_act 196 = .ok (.aload_n 3, 1) := by decide +kernel
theorem dL_act_197 : decode cL_act 197 = .ok (.iload 4, 2) := by decide +kernel
theorem dL_act_199 : decode cL_act 199 = .ok (.dup2, 1) := by decide +kernel
theorem dL_act_200 : decode cL_act 200 = .ok (.iaload, 1) := by decide +kernel
theorem dL_act_201 : decode cL_act 201 = .ok (.iload 8, 2) := by decide +kernel
theorem dL_act_203 : decode cL_act 203 = .ok (.ifCond .lt 8, 3) := by decide +kernel
theorem dL_act_206 : decode cL_act 206 = .ok (.iload 7, 2) := by decide +kernel
theorem dL_act_208 : decode cL_act 208 = .ok (.goto 4, 3) := by decide +kernel
theorem dL_act_211 : decode cL_act 211 = .ok (.iconst 0, 1) := by decide +kernel
theorem dL_act_212 : decode cL_act 212 = .ok (.isub, 1) := by decide +kernel
theorem dL_act_213 : decode cL_act 213 = .ok (.iastore, 1) := by decide +kernel
theorem dL_act_214 : decode cL_act 214 = .ok (.aload_n 3, 1) := by decide +kernel
theorem dL_act_215 : decode cL_act 215 = .ok (.iload 5, 2) := by decide +kernel
theorem dL_act_217 : decode cL_act 217 = .ok (.dup2, 1) := by decide +kernel
theorem dL_act_218 : decode cL_act 218 = .ok (.iaload, 1) := by decide +kernel
theorem dL_act_219 : decode cL_act 219 = .ok (.iload 8, 2) := by decide +kernel
theorem dL_act_221 : decode cL_act 221 = .ok (.ifCond .lt 8, 3) := by decide +kernel
theorem dL_act_224 : decode cL_act 224 = .ok (.iload 7, 2) := by decide +kernel
theorem dL_act_226 : decode cL_act 226 = .ok (.goto 4, 3) := by decide +kernel
theorem dL_act_229 : decode cL_act 229 = .ok (.iconst 0, 1) := by decide +kernel
theorem dL_act_230 : decode cL_act 230 = .ok (.iadd, 1) := by decide +kernel
theorem dL_act_231 : decode cL_act 231 = .ok (.iastore, 1) := by decide +kernel
theorem dL_act_232 : decode cL_act 232 = .ok (.iload 8, 2) := by decide +kernel
theorem dL_act_234 : decode cL_act 234 = .ok (.ireturn, 1) := by decide +kernel
theorem dL_act_235 : decode cL_act 235 = .ok (.aload_n 0, 1) := by decide +kernel
theorem dL_act_236 : decode cL_act 236 = .ok (.iload 4, 2) := by decide +kernel
theorem dL_act_238 : decode cL_act 238 = .ok (.iconst 1, 1) := by decide +kernel
theorem dL_act_239 : decode cL_act 239 = .ok (.iload_n 1, 1) := by decide +kernel
theorem dL_act_240 : decode cL_act 240 = .ok (.iconst 4, 1) := by decide +kernel
theorem dL_act_241 : decode cL_act 241 = .ok (.ishr, 1) := by decide +kernel
theorem dL_act_242 : decode cL_act 242 = .ok (.bipush 9, 2) := by decide +kernel
theorem dL_act_244 : decode cL_act 244 = .ok (.invokestatic 89, 3) := by decide +kernel
theorem dL_act_247 : decode cL_act 247 = .ok (.iadd, 1) := by decide +kernel
theorem dL_act_248 : decode cL_act 248 = .ok (.invokevirtual 60, 3) := by decide +kernel
theorem dL_act_251 : decode cL_act 251 = .ok (.ireturn, 1) := by decide +kernel
theorem dL_act_252 : decode cL_act 252 = .ok (.aload_n 0, 1) := by decide +kernel
theorem dL_act_253 : decode cL_act 253 = .ok (.iload 4, 2) := by decide +kernel
theorem dL_act_255 : decode cL_act 255 = .ok (.iconst 1, 1) := by decide +kernel
theorem dL_act_256 : decode cL_act 256 = .ok (.iload_n 1, 1) := by decide +kernel
theorem dL_act_257 : decode cL_act 257 = .ok (.iconst 4, 1) := by decide +kernel
theorem dL_act_258 : decode cL_act 258 = .ok (.ishr, 1) := by decide +kernel
theorem dL_act_259 : decode cL_act 259 = .ok (.bipush 9, 2) := by decide +kernel
theorem dL_act_261 : decode cL_act 261 = .ok (.invokestatic 89, 3) := by decide +kernel
theorem dL_act_264 : decode cL_act 264 = .ok (.iadd, 1) := by decide +kernel
theorem dL_act_265 : decode cL_act 265 = .ok (.invokevirtual 63, 3) := by decide +kernel
theorem dL_act_268 : decode cL_act 268 = .ok (.ireturn, 1) := by decide +kernel
theorem dL_act_269 : decode cL_act 269 = .ok (.iload_n 1, 1) := by decide +kernel
theorem dL_act_270 : decode cL_act 270 = .ok (.iconst 4, 1) := by decide +kernel
theorem dL_act_271 : decode cL_act 271 = .ok (.ishr, 1) := by decide +kernel
theorem dL_act_272 : decode cL_act 272 = .ok (.iconst 1, 1) := by decide +kernel
theorem dL_act_273 : decode cL_act 273 = .ok (.iand, 1) := by decide +kernel
theorem dL_act_274 : decode cL_act 274 = .ok (.ifCond .ne 21, 3) := by decide +kernel
theorem dL_act_277 : decode cL_act 277 = .ok (.aload_n 0, 1) := by decide +kernel
theorem dL_act_278 : decode cL_act 278 = .ok (.iload 4, 2) := by decide +kernel
theorem dL_act_280 : decode cL_act 280 = .ok (.iconst 1, 1) := by decide +kernel
theorem dL_act_281 : decode cL_act 281 = .ok (.iload_n 1, 1) := by decide +kernel
theorem dL_act_282 : decode cL_act 282 = .ok (.iconst 5, 1) := by decide +kernel
theorem dL_act_283 : decode cL_act 283 = .ok (.ishr, 1) := by decide +kernel
theorem dL_act_284 : decode cL_act 284 = .ok (.iconst 4, 1) := by decide +kernel
theorem dL_act_285 : decode cL_act 285 = .ok (.invokestatic 89, 3) := by decide +kernel
theorem dL_act_288 : decode cL_act 288 = .ok (.iadd, 1) := by decide +kernel
theorem dL_act_289 : decode cL_act 289 = .ok (.invokevirtual 66, 3) := by decide +kernel
theorem dL_act_292 : decode cL_act 292 = .ok (.goto 22, 3) := by decide +kernel
theorem dL_act_295 : decode cL_act 295 = .ok (.aload_n 0, 1) := by decide +kernel
theorem dL_act_296 : decode cL_act 296 = .ok (.iload 4, 2) := by decide +kernel
theorem dL_act_298 : decode cL_act 298 = .ok (.aload_n 0, 1) := by decide +kernel
theorem dL_act_299 : decode cL_act 299 = .ok (.iload 4, 2) := by decide +kernel
theorem dL_act_301 : decode cL_act 301 = .ok (.iconst 5, 1) := by decide +kernel
theorem dL_act_302 : decode cL_act 302 = .ok (.invokevirtual 23, 3) := by decide +kernel
theorem dL_act_305 : decode cL_act 305 = .ok (.iload_n 1, 1) := by decide +kernel
theorem dL_act_306 : decode cL_act 306 = .ok (.iconst 5, 1) := by decide +kernel
theorem dL_act_307 : decode cL_act 307 = .ok (.ishr, 1) := by decide +kernel
theorem dL_act_308 : decode cL_act 308 = .ok (.iconst 1, 1) := by decide +kernel
theorem dL_act_309 : decode cL_act 309 = .ok (.iand, 1) := by decide +kernel
theorem dL_act_310 : decode cL_act 310 = .ok (.iadd, 1) := by decide +kernel
theorem dL_act_311 : decode cL_act 311 = .ok (.invokevirtual 69, 3) := by decide +kernel
theorem dL_act_314 : decode cL_act 314 = .ok (.ireturn, 1) := by decide +kernel
theorem dL_law_0 : decode cL_law 0 = .ok (.new 14, 3) := by decide +kernel
theorem dL_law_3 : decode cL_law 3 = .ok (.dup, 1) := by decide +kernel
theorem dL_law_4 : decode cL_law 4 = .ok (.invokespecial 96, 3) := by decide +kernel
theorem dL_law_7 : decode cL_law 7 = .ok (.astore_n 1, 1) := by decide +kernel
theorem dL_law_8 : decode cL_law 8 = .ok (.bipush 6, 2) := by decide +kernel
theorem dL_law_10 : decode cL_law 10 = .ok (.newarray .int, 2) := by decide +kernel
theorem dL_law_12 : decode cL_law 12 = .ok (.astore_n 2, 1) := by decide +kernel
theorem dL_law_13 : decode cL_law 13 = .ok (.aload_n 1, 1) := by decide +kernel
theorem dL_law_14 : decode cL_law 14 = .ok (.invokevirtual 92, 3) := by decide +kernel
theorem dL_law_17 : decode cL_law 17 = .ok (.bipush (-5), 2) := by decide +kernel
theorem dL_law_19 : decode cL_law 19 = .ok (.if_icmp .ne 49, 3) := by decide +kernel
theorem dL_law_22 : decode cL_law 22 = .ok (.aload_n 1, 1) := by decide +kernel
theorem dL_law_23 : decode cL_law 23 = .ok (.invokevirtual 97, 3) := by decide +kernel
theorem dL_law_26 : decode cL_law 26 = .ok (.bipush (-5), 2) := by decide +kernel
theorem dL_law_28 : decode cL_law 28 = .ok (.if_icmp .ne 40, 3) := by decide +kernel
theorem dL_law_31 : decode cL_law 31 = .ok (.aload_n 1, 1) := by decide +kernel
theorem dL_law_32 : decode cL_law 32 = .ok (.iconst 0, 1) := by decide +kernel
theorem dL_law_33 : decode cL_law 33 = .ok (.iconst 0, 1) := by decide +kernel
theorem dL_law_34 : decode cL_law 34 = .ok (.invokevirtual 72, 3) := by decide +kernel
theorem dL_law_37 : decode cL_law 37 = .ok (.iconst (-1), 1) := by decide +kernel
theorem dL_law_38 : decode cL_law 38 = .ok (.if_icmp .ne 30, 3) := by decide +kernel
theorem dL_law_41 : decode cL_law 41 = .ok (.aload_n 1, 1) := by decide +kernel
theorem dL_law_42 : decode cL_law 42 = .ok (.iconst 0, 1) := by decide +kernel
theorem dL_law_43 : decode cL_law 43 = .ok (.invokevirtual 75, 3) := by decide +kernel
theorem dL_law_46 : decode cL_law 46 = .ok (.bipush (-5), 2) := by decide +kernel
theorem dL_law_48 : decode cL_law 48 = .ok (.if_icmp .ne 20, 3) := by decide +kernel
theorem dL_law_51 : decode cL_law 51 = .ok (.aload_n 1, 1) := by decide +kernel
theorem dL_law_52 : decode cL_law 52 = .ok (.iconst 0, 1) := by decide +kernel
theorem dL_law_53 : decode cL_law 53 = .ok (.invokevirtual 78, 3) := by decide +kernel
theorem dL_law_56 : decode cL_law 56 = .ok (.bipush (-5), 2) := by decide +kernel
theorem dL_law_58 : decode cL_law 58 = .ok (.if_icmp .ne 10, 3) := by decide +kernel
theorem dL_law_61 : decode cL_law 61 = .ok (.aload_n 1, 1) := by decide +kernel
theorem dL_law_62 : decode cL_law 62 = .ok (.invokestatic 100, 3) := by decide +kernel
theorem dL_law_65 : decode cL_law 65 = .ok (.ifCond .ne 5, 3) := by decide +kernel
theorem dL_law_68 : decode cL_law 68 = .ok (.iconst 0, 1) := by decide +kernel
theorem dL_law_69 : decode cL_law 69 = .ok (.ireturn, 1) := by decide +kernel
theorem dL_law_70 : decode cL_law 70 = .ok (.iconst 1, 1) := by decide +kernel
theorem dL_law_71 : decode cL_law 71 = .ok (.aload_n 0, 1) := by decide +kernel
theorem dL_law_72 : decode cL_law 72 = .ok (.iconst 0, 1) := by decide +kernel
theorem dL_law_73 : decode cL_law 73 = .ok (.invokestatic 104, 3) := by decide +kernel
theorem dL_law_76 : decode cL_law 76 = .ok (.iconst 4, 1) := by decide +kernel
theorem dL_law_77 : decode cL_law 77 = .ok (.invokestatic 89, 3) := by decide +kernel
theorem dL_law_80 : decode cL_law 80 = .ok (.iadd, 1) := by decide +kernel
theorem dL_law_81 : decode cL_law 81 = .ok (.istore_n 3, 1) := by decide +kernel
theorem dL_law_82 : decode cL_law 82 = .ok (.iconst 1, 1) := by decide +kernel
theorem dL_law_83 : decode cL_law 83 = .ok (.aload_n 0, 1) := by decide +kernel
theorem dL_law_84 : decode cL_law 84 = .ok (.iconst 0, 1) := by decide +kernel
theorem dL_law_85 : decode cL_law 85 = .ok (.invokestatic 104, 3) := by decide +kernel
theorem dL_law_88 : decode cL_law 88 = .ok (.iconst 3, 1) := by decide +kernel
theorem dL_law_89 : decode cL_law 89 = .ok (.ishr, 1) := by decide +kernel
theorem dL_law_90 : decode cL_law 90 = .ok (.bipush 7, 2) := by decide +kernel
theorem dL_law_92 : decode cL_law 92 = .ok (.invokestatic 89, 3) := by decide +kernel
theorem dL_law_95 : decode cL_law 95 = .ok (.iadd, 1) := by decide +kernel
theorem dL_law_96 : decode cL_law 96 = .ok (.istore 4, 2) := by decide +kernel
theorem dL_law_98 : decode cL_law 98 = .ok (.iconst 0, 1) := by decide +kernel
theorem dL_law_99 : decode cL_law 99 = .ok (.istore 5, 2) := by decide +kernel
theorem dL_law_101 : decode cL_law 101 = .ok (.iload 5, 2) := by decide +kernel
theorem dL_law_103 : decode cL_law 103 = .ok (.iload_n 3, 1) := by decide +kernel
theorem dL_law_104 : decode cL_law 104 = .ok (.if_icmp .ge 20, 3) := by decide +kernel
theorem dL_law_107 : decode cL_law 107 = .ok (.aload_n 1, 1) := by decide +kernel
theorem dL_law_108 : decode cL_law 108 = .ok (.invokevirtual 108, 3) := by decide +kernel
theorem dL_law_111 : decode cL_law 111 = .ok (.iload 5, 2) := by decide +kernel
theorem dL_law_113 : decode cL_law 113 = .ok (.if_icmp .eq 5, 3) := by decide +kernel
theorem dL_law_116 : decode cL_law 116 = .ok (.iconst 0, 1) := by decide +kernel
theorem dL_law_117 : decode cL_law 117 = .ok (.ireturn, 1) := by decide +kernel
theorem dL_law_118 : decode cL_law 118 = .ok (.iinc 5 1, 3) := by decide +kernel
theorem dL_law_121 : decode cL_law 121 = .ok (.goto (-20), 3) := by decide +kernel
theorem dL_law_124 : decode cL_law 124 = .ok (.iconst 0, 1) := by decide +kernel
theorem dL_law_125 : decode cL_law 125 = .ok (.istore 5, 2) := by decide +kernel
theorem dL_law_127 : decode cL_law 127 = .ok (.iload 5, 2) := by decide +kernel
theorem dL_law_129 : decode cL_law 129 = .ok (.iload 4, 2) := by decide +kernel
theorem dL_law_131 : decode cL_law 131 = .ok (.if_icmp .ge 51, 3) := by decide +kernel
theorem dL_law_134 : decode cL_law 134 = .ok (.aload_n 0, 1) := by decide +kernel
theorem dL_law_135 : decode cL_law 135 = .ok (.iconst 1, 1) := by decide +kernel
theorem dL_law_136 : decode cL_law 136 = .ok (.iload 5, 2) := by decide +kernel
theorem dL_law_138 : decode cL_law 138 = .ok (.iadd, 1) := by decide +kernel
theorem dL_law_139 : decode cL_law 139 = .ok (.invokestatic 104, 3) := by decide +kernel
theorem dL_law_142 : decode cL_law 142 = .ok (.istore 6, 2) := by decide +kernel
theorem dL_law_144 : decode cL_law 144 = .ok (.aload_n 1, 1) := by decide +kernel
theorem dL_law_145 : decode cL_law 145 = .ok (.iconst 1, 1) := by decide +kernel
theorem dL_law_146 : decode cL_law 146 = .ok (.iload 6, 2) := by decide +kernel
theorem dL_law_148 : decode cL_law 148 = .ok (.bipush 60, 2) := by decide +kernel
theorem dL_law_150 : decode cL_law 150 = .ok (.invokestatic 89, 3) := by decide +kernel
theorem dL_law_153 : decode cL_law 153 = .ok (.iadd, 1) := by decide +kernel
theorem dL_law_154 : decode cL_law 154 = .ok (.iconst 1, 1) := by decide +kernel
theorem dL_law_155 : decode cL_law 155 = .ok (.iload 6, 2) := by decide +kernel
theorem dL_law_157 : decode cL_law 157 = .ok (.bipush 6, 2) := by decide +kernel
theorem dL_law_159 : decode cL_law 159 = .ok (.ishr, 1) := by decide +kernel
theorem dL_law_160 : decode cL_law 160 = .ok (.bipush 6, 2) := by decide +kernel
theorem dL_law_162 : decode cL_law 162 = .ok (.invokestatic 89, 3) := by decide +kernel
theorem dL_law_165 : decode cL_law 165 = .ok (.iadd, 1) := by decide +kernel
theorem dL_law_166 : decode cL_law 166 = .ok (.invokevirtual 38, 3) := by decide +kernel
theorem dL_law_169 : decode cL_law 169 = .ok (.iload 5, 2) := by decide +kernel
theorem dL_law_171 : decode cL_law 171 = .ok (.if_icmp .eq 5, 3) := by decide +kernel
theorem dL_law_174 : decode cL_law 174 = .ok (.iconst 0, 1) := by decide +kernel
theorem dL_law_175 : decode cL_law 175 = .ok (.ireturn, 1) := by decide +kernel
theorem dL_law_176 : decode cL_law 176 = .ok (.iinc 5 1, 3) := by decide +kernel
theorem dL_law_179 : decode cL_law 179 = .ok (.goto (-52), 3) := by decide +kernel
theorem dL_law_182 : decode cL_law 182 = .ok (.aload_n 1, 1) := by decide +kernel
theorem dL_law_183 : decode cL_law 183 = .ok (.invokevirtual 111, 3) := by decide +kernel
theorem dL_law_186 : decode cL_law 186 = .ok (.ifCond .eq 5, 3) := by decide +kernel
theorem dL_law_189 : decode cL_law 189 = .ok (.iconst 0, 1) := by decide +kernel
theorem dL_law_190 : decode cL_law 190 = .ok (.ireturn, 1) := by decide +kernel
theorem dL_law_191 : decode cL_law 191 = .ok (.iconst 0, 1) := by decide +kernel
theorem dL_law_192 : decode cL_law 192 = .ok (.istore 5, 2) := by decide +kernel
theorem dL_law_194 : decode cL_law 194 = .ok (.iload 5, 2) := by decide +kernel
theorem dL_law_196 : decode cL_law 196 = .ok (.bipush 26, 2) := by decide +kernel
theorem dL_law_198 : decode cL_law 198 = .ok (.if_icmp .ge 131, 3) := by decide +kernel
theorem dL_law_201 : decode cL_law 201 = .ok (.aload_n 0, 1) := by decide +kernel
theorem dL_law_202 : decode cL_law 202 = .ok (.bipush 8, 2) := by decide +kernel
theorem dL_law_204 : decode cL_law 204 = .ok (.iload 5, 2) := by decide +kernel
theorem dL_law_206 : decode cL_law 206 = .ok (.iadd, 1) := by decide +kernel
theorem dL_law_207 : decode cL_law 207 = .ok (.invokestatic 104, 3) := by decide +kernel
theorem dL_law_210 : decode cL_law 210 = .ok (.istore 6, 2) := by decide +kernel
theorem dL_law_212 : decode cL_law 212 = .ok (.aload_n 0, 1) := by decide +kernel
theorem dL_law_213 : decode cL_law 213 = .ok (.bipush 34, 2) := by decide +kernel
theorem dL_law_215 : decode cL_law 215 = .ok (.iload 5, 2) := by decide +kernel
theorem dL_law_217 : decode cL_law 217 = .ok (.iadd, 1) := by decide +kernel
theorem dL_law_218 : decode cL_law 218 = .ok (.invokestatic 104, 3) := by decide +kernel
theorem dL_law_221 : decode cL_law 221 = .ok (.istore 7, 2) := by decide +kernel
theorem dL_law_223 : decode cL_law 223 = .ok (.iload 7, 2) := by decide +kernel
theorem dL_law_225 : decode cL_law 225 = .ok (.bipush 20, 2) := by decide +kernel
theorem dL_law_227 : decode cL_law 227 = .ok (.ishr, 1) := by decide +kernel
theorem dL_law_228 : decode cL_law 228 = .ok (.iconst 3, 1) := by decide +kernel
theorem dL_law_229 : decode cL_law 229 = .ok (.iand, 1) := by decide +kernel
theorem dL_law_230 : decode cL_law 230 = .ok (.ifCond .ne 14, 3) := by decide +kernel
theorem dL_law_233 : decode cL_law 233 = .ok (.aload_n 1, 1) := by decide +kernel
theorem dL_law_234 : decode cL_law 234 = .ok (.iload 6, 2) := by decide +kernel
theorem dL_law_236 : decode cL_law 236 = .ok (.invokestatic 114, 3) := by decide +kernel
theorem dL_law_239 : decode cL_law 239 = .ok (.ifCond .ne 84, 3) := by decide +kernel
theorem dL_law_242 : decode cL_law 242 = .ok (.iconst 0, 1) := by decide +kernel
theorem dL_law_243 : decode cL_law 243 = .ok (.ireturn, 1) := by decide +kernel
theorem dL_law_244 : decode cL_law 244 = .ok (.aload_n 1, 1) := by decide +kernel
theorem dL_law_245 : decode cL_law 245 = .ok (.bipush 14, 2) := by decide +kernel
theorem dL_law_247 : decode cL_law 247 = .ok (.invokevirtual 13, 3) := by decide +kernel
theorem dL_law_250 : decode cL_law 250 = .ok (.istore 8, 2) := by decide +kernel
theorem dL_law_252 : decode cL_law 252 = .ok (.aload_n 1, 1) := by decide +kernel
theorem dL_law_253 : decode cL_law 253 = .ok (.invokestatic 32, 3) := by decide +kernel
theorem dL_law_256 : decode cL_law 256 = .ok (.lstore 9, 2) := by decide +kernel
theorem dL_law_258 : decode cL_law 258 = .ok (.aload_n 1, 1) := by decide +kernel
theorem dL_law_259 : decode cL_law 259 = .ok (.iload 6, 2) := by decide +kernel
theorem dL_law_261 : decode cL_law 261 = .ok (.iload 7, 2) := by decide +kernel
theorem dL_law_263 : decode cL_law 263 = .ok (.aload_n 2, 1) := by decide +kernel
theorem dL_law_264 : decode cL_law 264 = .ok (.invokestatic 118, 3) := by decide +kernel
theorem dL_law_267 : decode cL_law 267 = .ok (.istore 11, 2) := by decide +kernel
theorem dL_law_269 : decode cL_law 269 = .ok (.iload 11, 2) := by decide +kernel
theorem dL_law_271 : decode cL_law 271 = .ok (.ifCond .ge 27, 3) := by decide +kernel
theorem dL_law_274 : decode cL_law 274 = .ok (.aload_n 1, 1) := by decide +kernel
theorem dL_law_275 : decode cL_law 275 = .ok (.invokestatic 32, 3) := by decide +kernel
theorem dL_law_278 : decode cL_law 278 = .ok (.lload 9, 2) := by decide +kernel
theorem dL_law_280 : decode cL_law 280 = .ok (.lcmp, 1) := by decide +kernel
theorem dL_law_281 : decode cL_law 281 = .ok (.ifCond .ne 40, 3) := by decide +kernel
theorem dL_law_284 : decode cL_law 284 = .ok (.aload_n 1, 1) := by decide +kernel
theorem dL_law_285 : decode cL_law 285 = .ok (.bipush 14, 2) := by decide +kernel
theorem dL_law_287 : decode cL_law 287 = .ok (.invokevirtual 13, 3) := by decide +kernel
theorem dL_law_290 : decode cL_law 290 = .ok (.iload 8, 2) := by decide +kernel
theorem dL_law_292 : decode cL_law 292 = .ok (.if_icmp .eq 31, 3) := by decide +kernel
theorem dL_law_295 : decode cL_law 295 = .ok (.goto 26, 3) := by decide +kernel
theorem dL_law_298 : decode cL_law 298 = .ok (.aload_n 1, 1) := by decide +kernel
theorem dL_law_299 : decode cL_law 299 = .ok (.bipush 14, 2) := by decide +kernel
theorem dL_law_301 : decode cL_law 301 = .ok (.invokevirtual 13, 3) := by decide +kernel
theorem dL_law_304 : decode cL_law 304 = .ok (.iload 8, 2) := by decide +kernel
theorem dL_law_306 : decode cL_law 306 = .ok (.iconst 4, 1) := by decide +kernel
theorem dL_law_307 : decode cL_law 307 = .ok (.if_icmp .ge 10, 3) := by decide +kernel
theorem dL_law_310 : decode cL_law 310 = .ok (.iload 8, 2) := by decide +kernel
theorem dL_law_312 : decode cL_law 312 = .ok (.iconst 1, 1) := by decide +kernel
theorem dL_law_313 : decode cL_law 313 = .ok (.iadd, 1) := by decide +kernel
theorem dL_law_314 : decode cL_law 314 = .ok (.goto 4, 3) := by decide +kernel
theorem dL_law_317 : decode cL_law 317 = .ok (.iconst 4, 1) := by decide +kernel
theorem dL_law_318 : decode cL_law 318 = .ok (.if_icmp .eq 5, 3) := by decide +kernel
theorem dL_law_321 : decode cL_law 321 = .ok (.iconst 0, 1) := by decide +kernel
theorem dL_law_322 : decode cL_law 322 = .ok (.ireturn, 1) := by decide +kernel
theorem dL_law_323 : decode cL_law 323 = .ok (.iinc 5 1, 3) := by decide +kernel
theorem dL_law_326 : decode cL_law 326 = .ok (.goto (-132), 3) := by decide +kernel
theorem dL_law_329 : decode cL_law 329 = .ok (.aload_n 1, 1) := by decide +kernel
theorem dL_law_330 : decode cL_law 330 = .ok (.aload_n 2, 1) := by decide +kernel
theorem dL_law_331 : decode cL_law 331 = .ok (.invokestatic 122, 3) := by decide +kernel
theorem dL_law_334 : decode cL_law 334 = .ok (.ifCond .eq 30, 3) := by decide +kernel
theorem dL_law_337 : decode cL_law 337 = .ok (.aload_n 1, 1) := by decide +kernel
theorem dL_law_338 : decode cL_law 338 = .ok (.invokestatic 126, 3) := by decide +kernel
theorem dL_law_341 : decode cL_law 341 = .ok (.ifCond .eq 23, 3) := by decide +kernel
theorem dL_law_344 : decode cL_law 344 = .ok (.aload_n 1, 1) := by decide +kernel
theorem dL_law_345 : decode cL_law 345 = .ok (.aload_n 0, 1) := by decide +kernel
theorem dL_law_346 : decode cL_law 346 = .ok (.bipush 60, 2) := by decide +kernel
theorem dL_law_348 : decode cL_law 348 = .ok (.invokestatic 104, 3) := by decide +kernel
theorem dL_law_351 : decode cL_law 351 = .ok (.invokestatic 129, 3) := by decide +kernel
theorem dL_law_354 : decode cL_law 354 = .ok (.ifCond .eq 10, 3) := by decide +kernel
theorem dL_law_357 : decode cL_law 357 = .ok (.aload_n 1, 1) := by decide +kernel
theorem dL_law_358 : decode cL_law 358 = .ok (.invokestatic 100, 3) := by decide +kernel
theorem dL_law_361 : decode cL_law 361 = .ok (.ifCond .ne 5, 3) := by decide +kernel
theorem dL_law_364 : decode cL_law 364 = .ok (.iconst 0, 1) := by decide +kernel
theorem dL_law_365 : decode cL_law 365 = .ok (.ireturn, 1) := by decide +kernel
theorem dL_law_366 : decode cL_law 366 = .ok (.aload_n 1, 1) := by decide +kernel
theorem dL_law_367 : decode cL_law 367 = .ok (.invokestatic 32, 3) := by decide +kernel
theorem dL_law_370 : decode cL_law 370 = .ok (.lstore 5, 2) := by decide +kernel
theorem dL_law_372 : decode cL_law 372 = .ok (.aload_n 1, 1) := by decide +kernel
theorem dL_law_373 : decode cL_law 373 = .ok (.invokevirtual 97, 3) := by decide +kernel
theorem dL_law_376 : decode cL_law 376 = .ok (.ifCond .ne 58, 3) := by decide +kernel
theorem dL_law_379 : decode cL_law 379 = .ok (.aload_n 1, 1) := by decide +kernel
theorem dL_law_380 : decode cL_law 380 = .ok (.iconst 0, 1) := by decide +kernel
theorem dL_law_381 : decode cL_law 381 = .ok (.invokevirtual 13, 3) := by decide +kernel
theorem dL_law_384 : decode cL_law 384 = .ok (.ifCond .ne 50, 3) := by decide +kernel
theorem dL_law_387 : decode cL_law 387 = .ok (.aload_n 1, 1) := by decide +kernel
theorem dL_law_388 : decode cL_law 388 = .ok (.bipush 6, 2) := by decide +kernel
theorem dL_law_390 : decode cL_law 390 = .ok (.invokevirtual 13, 3) := by decide +kernel
theorem dL_law_393 : decode cL_law 393 = .ok (.ifCond .ne 41, 3) := by decide +kernel
theorem dL_law_396 : decode cL_law 396 = .ok (.aload_n 1, 1) := by decide +kernel
theorem dL_law_397 : decode cL_law 397 = .ok (.iconst 2, 1) := by decide +kernel
theorem dL_law_398 : decode cL_law 398 = .ok (.invokevirtual 13, 3) := by decide +kernel
theorem dL_law_401 : decode cL_law 401 = .ok (.iload 4, 2) := by decide +kernel
theorem dL_law_403 : decode cL_law 403 = .ok (.if_icmp .ne 31, 3) := by decide +kernel
theorem dL_law_406 : decode cL_law 406 = .ok (.aload_n 1, 1) := by decide +kernel
theorem dL_law_407 : decode cL_law 407 = .ok (.invokestatic 126, 3) := by decide +kernel
theorem dL_law_410 : decode cL_law 410 = .ok (.ifCond .eq 24, 3) := by decide +kernel
theorem dL_law_413 : decode cL_law 413 = .ok (.aload_n 1, 1) := by decide +kernel
theorem dL_law_414 : decode cL_law 414 = .ok (.invokevirtual 92, 3) := by decide +kernel
theorem dL_law_417 : decode cL_law 417 = .ok (.ifCond .lt 17, 3) := by decide +kernel
theorem dL_law_420 : decode cL_law 420 = .ok (.aload_n 1, 1) := by decide +kernel
theorem dL_law_421 : decode cL_law 421 = .ok (.invokestatic 32, 3) := by decide +kernel
theorem dL_law_424 : decode cL_law 424 = .ok (.lload 5, 2) := by decide +kernel
theorem dL_law_426 : decode cL_law 426 = .ok (.lcmp, 1) := by decide +kernel
theorem dL_law_427 : decode cL_law 427 = .ok (.ifCond .ne 7, 3) := by decide +kernel
theorem dL_law_430 : decode cL_law 430 = .ok (.iconst 1, 1) := by decide +kernel
theorem dL_law_431 : decode cL_law 431 = .ok (.goto 4, 3) := by decide +kernel
theorem dL_law_434 : decode cL_law 434 = .ok (.iconst 0, 1) := by decide +kernel
theorem dL_law_435 : decode cL_law 435 = .ok (.ireturn, 1) := by decide +kernel
