theorem dX0_init_0 : decode cX0_init 0 = .ok (.aload_n 0, 1) := by decide +kernel
theorem dX0_init_1 : decode cX0_init 1 = .ok (.invokespecial 3, 3) := by decide +kernel
theorem dX0_init_4 : decode cX0_init 4 = .ok (.aload_n 0, 1) := by decide +kernel
theorem dX0_init_5 : decode cX0_init 5 = .ok (.bipush 60, 2) := by decide +kernel
theorem dX0_init_7 : decode cX0_init 7 = .ok (.newarray .int, 2) := by decide +kernel
theorem dX0_init_9 : decode cX0_init 9 = .ok (.putfield 11, 3) := by decide +kernel
theorem dX0_init_12 : decode cX0_init 12 = .ok (.aload_n 0, 1) := by decide +kernel
theorem dX0_init_13 : decode cX0_init 13 = .ok (.iconst 0, 1) := by decide +kernel
theorem dX0_init_14 : decode cX0_init 14 = .ok (.putfield 15, 3) := by decide +kernel
theorem dX0_init_17 : decode cX0_init 17 = .ok (.return_, 1) := by decide +kernel
theorem dX0_isFull_0 : decode cX0_isFull 0 = .ok (.aload_n 0, 1) := by decide +kernel
theorem dX0_isFull_1 : decode cX0_isFull 1 = .ok (.getfield 15, 3) := by decide +kernel
theorem dX0_isFull_4 : decode cX0_isFull 4 = .ok (.bipush 60, 2) := by decide +kernel
theorem dX0_isFull_6 : decode cX0_isFull 6 = .ok (.if_icmp .lt 7, 3) := by decide +kernel
theorem dX0_isFull_9 : decode cX0_isFull 9 = .ok (.iconst 1, 1) := by decide +kernel
theorem dX0_isFull_10 : decode cX0_isFull 10 = .ok (.goto 4, 3) := by decide +kernel
theorem dX0_isFull_13 : decode cX0_isFull 13 = .ok (.iconst 0, 1) := by decide +kernel
theorem dX0_isFull_14 : decode cX0_isFull 14 = .ok (.ireturn, 1) := by decide +kernel
theorem dX0_addCode_0 : decode cX0_addCode 0 = .ok (.aload_n 0, 1) := by decide +kernel
theorem dX0_addCode_1 : decode cX0_addCode 1 = .ok (.getfield 11, 3) := by decide +kernel
theorem dX0_addCode_4 : decode cX0_addCode 4 = .ok (.aload_n 0, 1) := by decide +kernel
theorem dX0_addCode_5 : decode cX0_addCode 5 = .ok (.getfield 15, 3) := by decide +kernel
theorem dX0_addCode_8 : decode cX0_addCode 8 = .ok (.iload_n 1, 1) := by decide +kernel
theorem dX0_addCode_9 : decode cX0_addCode 9 = .ok (.iastore, 1) := by decide +kernel
theorem dX0_addCode_10 : decode cX0_addCode 10 = .ok (.aload_n 0, 1) := by decide +kernel
theorem dX0_addCode_11 : decode cX0_addCode 11 = .ok (.dup, 1) := by decide +kernel
theorem dX0_addCode_12 : decode cX0_addCode 12 = .ok (.getfield 15, 3) := by decide +kernel
theorem dX0_addCode_15 : decode cX0_addCode 15 = .ok (.iconst 1, 1) := by decide +kernel
theorem dX0_addCode_16 : decode cX0_addCode 16 = .ok (.iadd, 1) := by decide +kernel
theorem dX0_addCode_17 : decode cX0_addCode 17 = .ok (.putfield 15, 3) := by decide +kernel
theorem dX0_addCode_20 : decode cX0_addCode 20 = .ok (.return_, 1) := by decide +kernel
theorem dX0_findError_0 : decode cX0_findError 0 = .ok (.iconst 0, 1) := by decide +kernel
theorem dX0_findError_1 : decode cX0_findError 1 = .ok (.istore_n 1, 1) := by decide +kernel
theorem dX0_findError_2 : decode cX0_findError 2 = .ok (.iconst 0, 1) := by decide +kernel
theorem dX0_findError_3 : decode cX0_findError 3 = .ok (.istore_n 2, 1) := by decide +kernel
theorem dX0_findError_4 : decode cX0_findError 4 = .ok (.iload_n 2, 1) := by decide +kernel
theorem dX0_findError_5 : decode cX0_findError 5 = .ok (.aload_n 0, 1) := by decide +kernel
theorem dX0_findError_6 : decode cX0_findError 6 = .ok (.getfield 15, 3) := by decide +kernel
theorem dX0_findError_9 : decode cX0_findError 9 = .ok (.if_icmp .ge 27, 3) := by decide +kernel
theorem dX0_findError_12 : decode cX0_findError 12 = .ok (.iload_n 1, 1) := by decide +kernel
theorem dX0_findError_13 : decode cX0_findError 13 = .ok (.aload_n 0, 1) := by decide +kernel
theorem dX0_findError_14 : decode cX0_findError 14 = .ok (.getfield 11, 3) := by decide +kernel
theorem dX0_findError_17 : decode cX0_findError 17 = .ok (.iload_n 2, 1) := by decide +kernel
theorem dX0_findError_18 : decode cX0_findError 18 = .ok (.iaload, 1) := by decide +kernel
theorem dX0_findError_19 : decode cX0_findError 19 = .ok (.invokestatic 19, 3) := by decide +kernel
theorem dX0_findError_22 : decode cX0_findError 22 = .ok (.istore_n 1, 1) := by decide +kernel
theorem dX0_findError_23 : decode cX0_findError 23 = .ok (.iload_n 1, 1) := by decide +kernel
theorem dX0_findError_24 : decode cX0_findError 24 = .ok (.iconst (-1), 1) := by decide +kernel
theorem dX0_findError_25 : decode cX0_findError 25 = .ok (.if_icmp .ne 5, 3) := by decide +kernel
theorem dX0_findError_28 : decode cX0_findError 28 = .ok (.iload_n 2, 1) := by decide +kernel
theorem dX0_findError_29 : decode cX0_findError 29 = .ok (.ireturn, 1) := by decide +kernel
theorem dX0_findError_30 : decode cX0_findError 30 = .ok (.iinc 2 1, 3) := by decide +kernel
theorem dX0_findError_33 : decode cX0_findError 33 = .ok (.goto (-29), 3) := by decide +kernel
theorem dX0_findError_36 : decode cX0_findError 36 = .ok (.aload_n 0, 1) := by decide +kernel
theorem dX0_findError_37 : decode cX0_findError 37 = .ok (.getfield 15, 3) := by decide +kernel
theorem dX0_findError_40 : decode cX0_findError 40 = .ok (.ireturn, 1) := by decide +kernel
theorem dX0_isComplete_0 : decode cX0_isComplete 0 = .ok (.iconst 0, 1) := by decide +kernel
theorem dX0_isComplete_1 : decode cX0_isComplete 1 = .ok (.istore_n 1, 1) := by decide +kernel
theorem dX0_isComplete_2 : decode cX0_isComplete 2 = .ok (.iconst 0, 1) := by decide +kernel
theorem dX0_isComplete_3 : decode cX0_isComplete 3 = .ok (.istore_n 2, 1) := by decide +kernel
theorem dX0_isComplete_4 : decode cX0_isComplete 4 = .ok (.iload_n 2, 1) := by decide +kernel
theorem dX0_isComplete_5 : decode cX0_isComplete 5 = .ok (.aload_n 0, 1) := by decide +kernel
theorem dX0_isComplete_6 : decode cX0_isComplete 6 = .ok (.getfield 15, 3) := by decide +kernel
theorem dX0_isComplete_9 : decode cX0_isComplete 9 = .ok (.if_icmp .ge 25, 3) := by decide +kernel
theorem dX0_isComplete_12 : decode cX0_isComplete 12 = .ok (.iload_n 1, 1) := by decide +kernel
theorem dX0_isComplete_13 : decode cX0_isComplete 13 = .ok (.iconst (-1), 1) := by decide +kernel
theorem dX0_isComplete_14 : decode cX0_isComplete 14 = .ok (.if_icmp .eq 20, 3) := by decide +kernel
theorem dX0_isComplete_17 : decode cX0_isComplete 17 = .ok (.iload_n 1, 1) := by decide +kernel
theorem dX0_isComplete_18 : decode cX0_isComplete 18 = .ok (.aload_n 0, 1) := by decide +kernel
theorem dX0_isComplete_19 : decode cX0_isComplete 19 = .ok (.getfield 11, 3) := by decide +kernel
theorem dX0_isComplete_22 : decode cX0_isComplete 22 = .ok (.iload_n 2, 1) := by decide +kernel
theorem dX0_isComplete_23 : decode cX0_isComplete 23 = .ok (.iaload, 1) := by decide +kernel
theorem dX0_isComplete_24 : decode cX0_isComplete 24 = .ok (.invokestatic 19, 3) := by decide +kernel
theorem dX0_isComplete_27 : decode cX0_isComplete 27 = .ok (.istore_n 1, 1) := by decide +kernel
theorem dX0_isComplete_28 : decode cX0_isComplete 28 = .ok (.iinc 2 1, 3) := by decide +kernel
theorem dX0_isComplete_31 : decode cX0_isComplete 31 = .ok (.goto (-27), 3) := by decide +kernel
theorem dX0_isComplete_34 : decode cX0_isComplete 34 = .ok (.iload_n 1, 1) := by decide +kernel
theorem dX0_isComplete_35 : decode cX0_isComplete 35 = .ok (.iconst 5, 1) := by decide +kernel
theorem dX0_isComplete_36 : decode cX0_isComplete 36 = .ok (.if_icmp .ne 7, 3) := by decide +kernel
theorem dX0_isComplete_39 : decode cX0_isComplete 39 = .ok (.iconst 1, 1) := by decide +kernel
theorem dX0_isComplete_40 : decode cX0_isComplete 40 = .ok (.goto 4, 3) := by decide +kernel
theorem dX0_isComplete_43 : decode cX0_isComplete 43 = .ok (.iconst 0, 1) := by decide +kernel
theorem dX0_isComplete_44 : decode cX0_isComplete 44 = .ok (.ireturn, 1) := by decide +kernel
theorem dX0_stateBehind_0 : decode cX0_stateBehind 0 = .ok (.iload_n 0, 1) := by decide +kernel
theorem dX0_stateBehind_1 : decode cX0_stateBehind 1 = .ok (.tableswitch 87 0 4 #[35, 49, 54, 67, 82], 35) := by decide +kernel
theorem dX0_stateBehind_36 : decode cX0_stateBehind 36 = .ok (.iload_n 1, 1) := by decide +kernel
theorem dX0_stateBehind_37 : decode cX0_stateBehind 37 = .ok (.invokestatic 23, 3) := by decide +kernel
theorem dX0_stateBehind_40 : decode cX0_stateBehind 40 = .ok (.iconst (-1), 1) := by decide +kernel
theorem dX0_stateBehind_41 : decode cX0_stateBehind 41 = .ok (.if_icmp .eq 7, 3) := by decide +kernel
theorem dX0_stateBehind_44 : decode cX0_stateBehind 44 = .ok (.iconst 1, 1) := by decide +kernel
theorem dX0_stateBehind_45 : decode cX0_stateBehind 45 = .ok (.goto 4, 3) := by decide +kernel
theorem dX0_stateBehind_48 : decode cX0_stateBehind 48 = .ok (.iconst (-1), 1) := by decide +kernel
theorem dX0_stateBehind_49 : decode cX0_stateBehind 49 = .ok (.ireturn, 1) := by decide +kernel
theorem dX0_stateBehind_50 : decode cX0_stateBehind 50 = .ok (.iload_n 1, 1) := by decide +kernel
theorem dX0_stateBehind_51 : decode cX0_stateBehind 51 = .ok (.invokestatic 27, 3) := by decide +kernel
theorem dX0_stateBehind_54 : decode cX0_stateBehind 54 = .ok (.ireturn, 1) := by decide +kernel
theorem dX0_stateBehind_55 : decode cX0_stateBehind 55 = .ok (.iload_n 1, 1) := by decide +kernel
theorem dX0_stateBehind_56 : decode cX0_stateBehind 56 = .ok (.invokestatic 30, 3) := by decide +kernel
theorem dX0_stateBehind_59 : decode cX0_stateBehind 59 = .ok (.ifCond .eq 7, 3) := by decide +kernel
theorem dX0_stateBehind_62 : decode cX0_stateBehind 62 = .ok (.iconst 4, 1) := by decide +kernel
theorem dX0_stateBehind_63 : decode cX0_stateBehind 63 = .ok (.goto 4, 3) := by decide +kernel
theorem dX0_stateBehind_66 : decode cX0_stateBehind 66 = .ok (.iconst (-1), 1) := by decide +kernel
theorem dX0_stateBehind_67 : decode cX0_stateBehind 67 = .ok (.ireturn, 1) := by decide +kernel
theorem dX0_stateBehind_68 : decode cX0_stateBehind 68 = .ok (.iload_n 1, 1) := by decide +kernel
theorem dX0_stateBehind_69 : decode cX0_stateBehind 69 = .ok (.bipush 48, 2) := by decide +kernel
theorem dX0_stateBehind_71 : decode cX0_stateBehind 71 = .ok (.if_icmp .ne 7, 3) := by decide +kernel
theorem dX0_stateBehind_74 : decode cX0_stateBehind 74 = .ok (.iconst 4, 1) := by decide +kernel
theorem dX0_stateBehind_75 : decode cX0_stateBehind 75 = .ok (.goto 7, 3) := by decide +kernel
theorem dX0_stateBehind_78 : decode cX0_stateBehind 78 = .ok (.iload_n 1, 1) := by decide +kernel
theorem dX0_stateBehind_79 : decode cX0_stateBehind 79 = .ok (.invokestatic 34, 3) := by decide +kernel
theorem dX0_stateBehind_82 : decode cX0_stateBehind 82 = .ok (.ireturn, 1) := by decide +kernel
theorem dX0_stateBehind_83 : decode cX0_stateBehind 83 = .ok (.iload_n 1, 1) := by decide +kernel
theorem dX0_stateBehind_84 : decode cX0_stateBehind 84 = .ok (.invokestatic 34, 3) := by decide +kernel
theorem dX0_stateBehind_87 : decode cX0_stateBehind 87 = .ok (.ireturn, 1) := by decide +kernel
theorem dX0_stateBehind_88 : decode cX0_stateBehind 88 = .ok (.iload_n 1, 1) := by decide +kernel
theorem dX0_stateBehind_89 : decode cX0_stateBehind 89 = .ok (.bipush 44, 2) := by decide +kernel
theorem dX0_stateBehind_91 : decode cX0_stateBehind 91 = .ok (.if_icmp .ne 7, 3) := by decide +kernel
theorem dX0_stateBehind_94 : decode cX0_stateBehind 94 = .ok (.iconst 0, 1) := by decide +kernel
theorem dX0_stateBehind_95 : decode cX0_stateBehind 95 = .ok (.goto 4, 3) := by decide +kernel
theorem dX0_stateBehind_98 : decode cX0_stateBehind 98 = .ok (.iconst (-1), 1) := by decide +kernel
theorem dX0_stateBehind_99 : decode cX0_stateBehind 99 = .ok (.ireturn, 1) := by decide +kernel
theorem dX0_stateBehindFirstDigit_0 : decode cX0_stateBehindFirstDigit 0 = .ok (.iload_n 0, 1) := by decide +kernel
theorem dX0_stateBehindFirstDigit_1 : decode cX0_stateBehindFirstDigit 1 = .ok (.invokestatic 30, 3) := by decide +kernel
theorem dX0_stateBehindFirstDigit_4 : decode cX0_stateBehindFirstDigit 4 = .ok (.ifCond .eq 9, 3) := by decide +kernel
theorem dX0_stateBehindFirstDigit_7 : decode cX0_stateBehindFirstDigit 7 = .ok (.iload_n 0, 1) := by decide +kernel
theorem dX0_stateBehindFirstDigit_8 : decode cX0_stateBehindFirstDigit 8 = .ok (.bipush 48, 2) := by decide +kernel
theorem dX0_stateBehindFirstDigit_10 : decode cX0_stateBehindFirstDigit 10 = .ok (.if_icmp .ne 5, 3) := by decide +kernel
theorem dX0_stateBehindFirstDigit_13 : decode cX0_stateBehindFirstDigit 13 = .ok (.iconst (-1), 1) := by decide +kernel
theorem dX0_stateBehindFirstDigit_14 : decode cX0_stateBehindFirstDigit 14 = .ok (.ireturn, 1) := by decide +kernel
theorem dX0_stateBehindFirstDigit_15 : decode cX0_stateBehindFirstDigit 15 = .ok (.iload_n 0, 1) := by decide +kernel
theorem dX0_stateBehindFirstDigit_16 : decode cX0_stateBehindFirstDigit 16 = .ok (.bipush 53, 2) := by decide +kernel
theorem dX0_stateBehindFirstDigit_18 : decode cX0_stateBehindFirstDigit 18 = .ok (.if_icmp .ne 5, 3) := by decide +kernel
theorem dX0_stateBehindFirstDigit_21 : decode cX0_stateBehindFirstDigit 21 = .ok (.iconst 3, 1) := by decide +kernel
theorem dX0_stateBehindFirstDigit_22 : decode cX0_stateBehindFirstDigit 22 = .ok (.ireturn, 1) := by decide +kernel
theorem dX0_stateBehindFirstDigit_23 : decode cX0_stateBehindFirstDigit 23 = .ok (.iload_n 0, 1) := by decide +kernel
theorem dX0_stateBehindFirstDigit_24 : decode cX0_stateBehindFirstDigit 24 = .ok (.bipush 53, 2) := by decide +kernel
theorem dX0_stateBehindFirstDigit_26 : decode cX0_stateBehindFirstDigit 26 = .ok (.if_icmp .ge 7, 3) := by decide +kernel
theorem dX0_stateBehindFirstDigit_29 : decode cX0_stateBehindFirstDigit 29 = .ok (.iconst 2, 1) := by decide +kernel
theorem dX0_stateBehindFirstDigit_30 : decode cX0_stateBehindFirstDigit 30 = .ok (.goto 4, 3) := by decide +kernel
theorem dX0_stateBehindFirstDigit_33 : decode cX0_stateBehindFirstDigit 33 = .ok (.iconst 4, 1) := by decide +kernel
theorem dX0_stateBehindFirstDigit_34 : decode cX0_stateBehindFirstDigit 34 = .ok (.ireturn, 1) := by decide +kernel
theorem dX0_stateBehindCoupling_0 : decode cX0_stateBehindCoupling 0 = .ok (.iload_n 0, 1) := by decide +kernel
theorem dX0_stateBehindCoupling_1 : decode cX0_stateBehindCoupling 1 = .ok (.invokestatic 37, 3) := by decide +kernel
theorem dX0_stateBehindCoupling_4 : decode cX0_stateBehindCoupling 4 = .ok (.iconst (-1), 1) := by decide +kernel
theorem dX0_stateBehindCoupling_5 : decode cX0_stateBehindCoupling 5 = .ok (.if_icmp .eq 7, 3) := by decide +kernel
theorem dX0_stateBehindCoupling_8 : decode cX0_stateBehindCoupling 8 = .ok (.iconst 5, 1) := by decide +kernel
theorem dX0_stateBehindCoupling_9 : decode cX0_stateBehindCoupling 9 = .ok (.goto 4, 3) := by decide +kernel
theorem dX0_stateBehindCoupling_12 : decode cX0_stateBehindCoupling 12 = .ok (.iconst (-1), 1) := by decide +kernel
theorem dX0_stateBehindCoupling_13 : decode cX0_stateBehindCoupling 13 = .ok (.ireturn, 1) := by decide +kernel
theorem dX0_isDigit_0 : decode cX0_isDigit 0 = .ok (.iload_n 0, 1) := by decide +kernel
theorem dX0_isDigit_1 : decode cX0_isDigit 1 = .ok (.bipush 48, 2) := by decide +kernel
theorem dX0_isDigit_3 : decode cX0_isDigit 3 = .ok (.if_icmp .lt 13, 3) := by decide +kernel
theorem dX0_isDigit_6 : decode cX0_isDigit 6 = .ok (.iload_n 0, 1) := by decide +kernel
theorem dX0_isDigit_7 : decode cX0_isDigit 7 = .ok (.bipush 57, 2) := by decide +kernel
theorem dX0_isDigit_9 : decode cX0_isDigit 9 = .ok (.if_icmp .gt 7, 3) := by decide +kernel
theorem dX0_isDigit_12 : decode cX0_isDigit 12 = .ok (.iconst 1, 1) := by decide +kernel
theorem dX0_isDigit_13 : decode cX0_isDigit 13 = .ok (.goto 4, 3) := by decide +kernel
theorem dX0_isDigit_16 : decode cX0_isDigit 16 = .ok (.iconst 0, 1) := by decide +kernel
theorem dX0_isDigit_17 : decode cX0_isDigit 17 = .ok (.ireturn, 1) := by decide +kernel
theorem dX0_kindOf_0 : decode cX0_kindOf 0 = .ok (.iload_n 0, 1) := by decide +kernel
theorem dX0_kindOf_1 : decode cX0_kindOf 1 = .ok (.lookupswitch 41 #[(108, 39), (110, 35), (114, 37)], 35) := by decide +kernel
theorem dX0_kindOf_36 : decode cX0_kindOf 36 = .ok (.iconst 0, 1) := by decide +kernel
theorem dX0_kindOf_37 : decode cX0_kindOf 37 = .ok (.ireturn, 1) := by decide +kernel
theorem dX0_kindOf_38 : decode cX0_kindOf 38 = .ok (.iconst 1, 1) := by decide +kernel
theorem dX0_kindOf_39 : decode cX0_kindOf 39 = .ok (.ireturn, 1) := by decide +kernel
theorem dX0_kindOf_40 : decode cX0_kindOf 40 = .ok (.iconst 2, 1) := by decide +kernel
theorem dX0_kindOf_41 : decode cX0_kindOf 41 = .ok (.ireturn, 1) := by decide +kernel
theorem dX0_kindOf_42 : decode cX0_kindOf 42 = .ok (.iconst (-1), 1) := by decide +kernel
theorem dX0_kindOf_43 : decode cX0_kindOf 43 = .ok (.ireturn, 1) := by decide +kernel
theorem dX0_couplingOf_0 : decode cX0_couplingOf 0 = .ok (.iload_n 0, 1) := by decide +kernel
theorem dX0_couplingOf_1 : decode cX0_couplingOf 1 = .ok (.bipush 97, 2) := by decide +kernel
theorem dX0_couplingOf_3 : decode cX0_couplingOf 3 = .ok (.if_icmp .lt 16, 3) := by decide +kernel
theorem dX0_couplingOf_6 : decode cX0_couplingOf 6 = .ok (.iload_n 0, 1) := by decide +kernel
theorem dX0_couplingOf_7 : decode cX0_couplingOf 7 = .ok (.bipush 99, 2) := by decide +kernel
theorem dX0_couplingOf_9 : decode cX0_couplingOf 9 = .ok (.if_icmp .gt 10, 3) := by decide +kernel
theorem dX0_couplingOf_12 : decode cX0_couplingOf 12 = .ok (.iload_n 0, 1) := by decide +kernel
theorem dX0_couplingOf_13 : decode cX0_couplingOf 13 = .ok (.bipush 97, 2) := by decide +kernel
theorem dX0_couplingOf_15 : decode cX0_couplingOf 15 = .ok (.isub, 1) := by decide +kernel
theorem dX0_couplingOf_16 : decode cX0_couplingOf 16 = .ok (.goto 4, 3) := by decide +kernel
theorem dX0_couplingOf_19 : decode cX0_couplingOf 19 = .ok (.iconst (-1), 1) := by decide +kernel
theorem dX0_couplingOf_20 : decode cX0_couplingOf 20 = .ok (.ireturn, 1) := by decide +kernel
theorem dX1_strengthOf_0 : decode cX1_strengthOf 0 = .ok (.iload_n 0, 1) := by decide +kernel
theorem dX1_strengthOf_1 : decode cX1_strengthOf 1 = .ok (.lookupswitch 57 #[(0, 27), (1, 41)], 27) := by decide +kernel
theorem dX1_strengthOf_28 : decode cX1_strengthOf 28 = .ok (.iconst 0, 1) := by decide +kernel
theorem dX1_strengthOf_29 : decode cX1_strengthOf 29 = .ok (.bipush 16, 2) := by decide +kernel
theorem dX1_strengthOf_31 : decode cX1_strengthOf 31 = .ok (.iload_n 1, 1) := by decide +kernel
theorem dX1_strengthOf_32 : decode cX1_strengthOf 32 = .ok (.bipush 10, 2) := by decide +kernel
theorem dX1_strengthOf_34 : decode cX1_strengthOf 34 = .ok (.idiv, 1) := by decide +kernel
theorem dX1_strengthOf_35 : decode cX1_strengthOf 35 = .ok (.isub, 1) := by decide +kernel
theorem dX1_strengthOf_36 : decode cX1_strengthOf 36 = .ok (.iload_n 2, 1) := by decide +kernel
theorem dX1_strengthOf_37 : decode cX1_strengthOf 37 = .ok (.isub, 1) := by decide +kernel
theorem dX1_strengthOf_38 : decode cX1_strengthOf 38 = .ok (.invokestatic 9, 3) := by decide +kernel
theorem dX1_strengthOf_41 : decode cX1_strengthOf 41 = .ok (.ireturn, 1) := by decide +kernel
theorem dX1_strengthOf_42 : decode cX1_strengthOf 42 = .ok (.iconst 0, 1) := by decide +kernel
theorem dX1_strengthOf_43 : decode cX1_strengthOf 43 = .ok (.bipush 20, 2) := by decide +kernel
theorem dX1_strengthOf_45 : decode cX1_strengthOf 45 = .ok (.iload_n 1, 1) := by decide +kernel
theorem dX1_strengthOf_46 : decode cX1_strengthOf 46 = .ok (.bipush 8, 2) := by decide +kernel
theorem dX1_strengthOf_48 : decode cX1_strengthOf 48 = .ok (.idiv, 1) := by decide +kernel
theorem dX1_strengthOf_49 : decode cX1_strengthOf 49 = .ok (.isub, 1) := by decide +kernel
theorem dX1_strengthOf_50 : decode cX1_strengthOf 50 = .ok (.iload_n 2, 1) := by decide +kernel
theorem dX1_strengthOf_51 : decode cX1_strengthOf 51 = .ok (.iconst 2, 1) := by decide +kernel
theorem dX1_strengthOf_52 : decode cX1_strengthOf 52 = .ok (.idiv, 1) := by decide +kernel
theorem dX1_strengthOf_53 : decode cX1_strengthOf 53 = .ok (.isub, 1) := by decide +kernel
theorem dX1_strengthOf_54 : decode cX1_strengthOf 54 = .ok (.invokestatic 9, 3) := by decide +kernel
theorem dX1_strengthOf_57 : decode cX1_strengthOf 57 = .ok (.ireturn, 1) := by decide +kernel
theorem dX1_strengthOf_58 : decode cX1_strengthOf 58 = .ok (.iconst 0, 1) := by decide +kernel
theorem dX1_strengthOf_59 : decode cX1_strengthOf 59 = .ok (.bipush 24, 2) := by decide +kernel
theorem dX1_strengthOf_61 : decode cX1_strengthOf 61 = .ok (.iload_n 1, 1) := by decide +kernel
theorem dX1_strengthOf_62 : decode cX1_strengthOf 62 = .ok (.iconst 5, 1) := by decide +kernel
theorem dX1_strengthOf_63 : decode cX1_strengthOf 63 = .ok (.idiv, 1) := by decide +kernel
theorem dX1_strengthOf_64 : decode cX1_strengthOf 64 = .ok (.isub, 1) := by decide +kernel
theorem dX1_strengthOf_65 : decode cX1_strengthOf 65 = .ok (.invokestatic 9, 3) := by decide +kernel
theorem dX1_strengthOf_68 : decode cX1_strengthOf 68 = .ok (.ireturn, 1) := by decide +kernel
theorem dX1_lifeOf_0 : decode cX1_lifeOf 0 = .ok (.iload_n 0, 1) := by decide +kernel
theorem dX1_lifeOf_1 : decode cX1_lifeOf 1 = .ok (.lookupswitch 35 #[(0, 27), (1, 31)], 27) := by decide +kernel
theorem dX1_lifeOf_28 : decode cX1_lifeOf 28 = .ok (.sipush 900, 3) := by decide +kernel
theorem dX1_lifeOf_31 : decode cX1_lifeOf 31 = .ok (.ireturn, 1) := by decide +kernel
theorem dX1_lifeOf_32 : decode cX1_lifeOf 32 = .ok (.sipush 1500, 3) := by decide +kernel
theorem dX1_lifeOf_35 : decode cX1_lifeOf 35 = .ok (.ireturn, 1) := by decide +kernel
theorem dX1_lifeOf_36 : decode cX1_lifeOf 36 = .ok (.sipush 1200, 3) := by decide +kernel
theorem dX1_lifeOf_39 : decode cX1_lifeOf 39 = .ok (.ireturn, 1) := by decide +kernel
theorem dX1_daysInForce_0 : decode cX1_daysInForce 0 = .ok (.iload_n 0, 1) := by decide +kernel
theorem dX1_daysInForce_1 : decode cX1_daysInForce 1 = .ok (.lookupswitch 34 #[(0, 27), (1, 30)], 27) := by decide +kernel
theorem dX1_daysInForce_28 : decode cX1_daysInForce 28 = .ok (.bipush 100, 2) := by decide +kernel
theorem dX1_daysInForce_30 : decode cX1_daysInForce 30 = .ok (.ireturn, 1) := by decide +kernel
theorem dX1_daysInForce_31 : decode cX1_daysInForce 31 = .ok (.sipush 150, 3) := by decide +kernel
theorem dX1_daysInForce_34 : decode cX1_daysInForce 34 = .ok (.ireturn, 1) := by decide +kernel
theorem dX1_daysInForce_35 : decode cX1_daysInForce 35 = .ok (.sipush 200, 3) := by decide +kernel
theorem dX1_daysInForce_38 : decode cX1_daysInForce 38 = .ok (.ireturn, 1) := by decide +kernel
theorem dX1_costOf_0 : decode cX1_costOf 0 = .ok (.iload_n 0, 1) := by decide +kernel
theorem dX1_costOf_1 : decode cX1_costOf 1 = .ok (.lookupswitch 35 #[(0, 27), (1, 31)], 27) := by decide +kernel
theorem dX1_costOf_28 : decode cX1_costOf 28 = .ok (.iconst 2, 1) := by decide +kernel
theorem dX1_costOf_29 : decode cX1_costOf 29 = .ok (.iload_n 1, 1) := by decide +kernel
theorem dX1_costOf_30 : decode cX1_costOf 30 = .ok (.imul, 1) := by decide +kernel
theorem dX1_costOf_31 : decode cX1_costOf 31 = .ok (.ireturn, 1) := by decide +kernel
theorem dX1_costOf_32 : decode cX1_costOf 32 = .ok (.iconst 3, 1) := by decide +kernel
theorem dX1_costOf_33 : decode cX1_costOf 33 = .ok (.iload_n 1, 1) := by decide +kernel
theorem dX1_costOf_34 : decode cX1_costOf 34 = .ok (.imul, 1) := by decide +kernel
theorem dX1_costOf_35 : decode cX1_costOf 35 = .ok (.ireturn, 1) := by decide +kernel
theorem dX1_costOf_36 : decode cX1_costOf 36 = .ok (.iconst 4, 1) := by decide +kernel
theorem dX1_costOf_37 : decode cX1_costOf 37 = .ok (.iload_n 1, 1) := by decide +kernel
theorem dX1_costOf_38 : decode cX1_costOf 38 = .ok (.imul, 1) := by decide +kernel
theorem dX1_costOf_39 : decode cX1_costOf 39 = .ok (.bipush 10, 2) := by decide +kernel
theorem dX1_costOf_41 : decode cX1_costOf 41 = .ok (.iadd, 1) := by decide +kernel
theorem dX1_costOf_42 : decode cX1_costOf 42 = .ok (.ireturn, 1) := by decide +kernel
theorem dX2_init_0 : decode cX2_init 0 = .ok (.aload_n 0, 1) := by decide +kernel
theorem dX2_init_1 : decode cX2_init 1 = .ok (.invokespecial 3, 3) := by decide +kernel
theorem dX2_init_4 : decode cX2_init 4 = .ok (.return_, 1) := by decide +kernel
theorem dX2_begin_0 : decode cX2_begin 0 = .ok (.aload_n 0, 1) := by decide +kernel
theorem dX2_begin_1 : decode cX2_begin 1 = .ok (.iconst 0, 1) := by decide +kernel
theorem dX2_begin_2 : decode cX2_begin 2 = .ok (.putfield 9, 3) := by decide +kernel
theorem dX2_begin_5 : decode cX2_begin 5 = .ok (.aload_n 0, 1) := by decide +kernel
theorem dX2_begin_6 : decode cX2_begin 6 = .ok (.iconst 0, 1) := by decide +kernel
theorem dX2_begin_7 : decode cX2_begin 7 = .ok (.putfield 15, 3) := by decide +kernel
theorem dX2_begin_10 : decode cX2_begin 10 = .ok (.aload_n 0, 1) := by decide +kernel
theorem dX2_begin_11 : decode cX2_begin 11 = .ok (.iconst 0, 1) := by decide +kernel
theorem dX2_begin_12 : decode cX2_begin 12 = .ok (.putfield 18, 3) := by decide +kernel
theorem dX2_begin_15 : decode cX2_begin 15 = .ok (.aload_n 0, 1) := by decide +kernel
theorem dX2_begin_16 : decode cX2_begin 16 = .ok (.iconst (-1), 1) := by decide +kernel
theorem dX2_begin_17 : decode cX2_begin 17 = .ok (.putfield 21, 3) := by decide +kernel
theorem dX2_begin_20 : decode cX2_begin 20 = .ok (.return_, 1) := by decide +kernel
theorem dX2_join_0 : decode cX2_join 0 = .ok (.aload_n 0, 1) := by decide +kernel
theorem dX2_join_1 : decode cX2_join 1 = .ok (.getfield 21, 3) := by decide +kernel
theorem dX2_join_4 : decode cX2_join 4 = .ok (.iconst (-1), 1) := by decide +kernel
theorem dX2_join_5 : decode cX2_join 5 = .ok (.if_icmp .eq 31, 3) := by decide +kernel
theorem dX2_join_8 : decode cX2_join 8 = .ok (.aload_n 0, 1) := by decide +kernel
theorem dX2_join_9 : decode cX2_join 9 = .ok (.getfield 21, 3) := by decide +kernel
theorem dX2_join_12 : decode cX2_join 12 = .ok (.iload_n 3, 1) := by decide +kernel
theorem dX2_join_13 : decode cX2_join 13 = .ok (.if_icmp .eq 23, 3) := by decide +kernel
theorem dX2_join_16 : decode cX2_join 16 = .ok (.aload_n 0, 1) := by decide +kernel
theorem dX2_join_17 : decode cX2_join 17 = .ok (.getfield 15, 3) := by decide +kernel
theorem dX2_join_20 : decode cX2_join 20 = .ok (.iload 4, 2) := by decide +kernel
theorem dX2_join_22 : decode cX2_join 22 = .ok (.if_icmp .lt 4, 3) := by decide +kernel
theorem dX2_join_25 : decode cX2_join 25 = .ok (.return_, 1) := by decide +kernel
theorem dX2_join_26 : decode cX2_join 26 = .ok (.aload_n 0, 1) := by decide +kernel
theorem dX2_join_27 : decode cX2_join 27 = .ok (.dup, 1) := by decide +kernel
theorem dX2_join_28 : decode cX2_join 28 = .ok (.getfield 15, 3) := by decide +kernel
theorem dX2_join_31 : decode cX2_join 31 = .ok (.iconst 1, 1) := by decide +kernel
theorem dX2_join_32 : decode cX2_join 32 = .ok (.iadd, 1) := by decide +kernel
theorem dX2_join_33 : decode cX2_join 33 = .ok (.putfield 15, 3) := by decide +kernel
theorem dX2_join_36 : decode cX2_join 36 = .ok (.aload_n 0, 1) := by decide +kernel
theorem dX2_join_37 : decode cX2_join 37 = .ok (.iload_n 3, 1) := by decide +kernel
theorem dX2_join_38 : decode cX2_join 38 = .ok (.putfield 21, 3) := by decide +kernel
theorem dX2_join_41 : decode cX2_join 41 = .ok (.aload_n 0, 1) := by decide +kernel
theorem dX2_join_42 : decode cX2_join 42 = .ok (.dup, 1) := by decide +kernel
theorem dX2_join_43 : decode cX2_join 43 = .ok (.getfield 9, 3) := by decide +kernel
theorem dX2_join_46 : decode cX2_join 46 = .ok (.iload_n 2, 1) := by decide +kernel
theorem dX2_join_47 : decode cX2_join 47 = .ok (.iadd, 1) := by decide +kernel
theorem dX2_join_48 : decode cX2_join 48 = .ok (.putfield 9, 3) := by decide +kernel
theorem dX2_join_51 : decode cX2_join 51 = .ok (.aload_n 0, 1) := by decide +kernel
theorem dX2_join_52 : decode cX2_join 52 = .ok (.dup, 1) := by decide +kernel
theorem dX2_join_53 : decode cX2_join 53 = .ok (.getfield 18, 3) := by decide +kernel
theorem dX2_join_56 : decode cX2_join 56 = .ok (.iconst 1, 1) := by decide +kernel
theorem dX2_join_57 : decode cX2_join 57 = .ok (.iload_n 1, 1) := by decide +kernel
theorem dX2_join_58 : decode cX2_join 58 = .ok (.ishl, 1) := by decide +kernel
theorem dX2_join_59 : decode cX2_join 59 = .ok (.ior, 1) := by decide +kernel
theorem dX2_join_60 : decode cX2_join 60 = .ok (.putfield 18, 3) := by decide +kernel
theorem dX2_join_63 : decode cX2_join 63 = .ok (.return_, 1) := by decide +kernel
theorem dX3_init_0 : decode cX3_init 0 = .ok (.aload_n 0, 1) := by decide +kernel
theorem dX3_init_1 : decode cX3_init 1 = .ok (.invokespecial 3, 3) := by decide +kernel
theorem dX3_init_4 : decode cX3_init 4 = .ok (.aload_n 0, 1) := by decide +kernel
theorem dX3_init_5 : decode cX3_init 5 = .ok (.iconst 0, 1) := by decide +kernel
theorem dX3_init_6 : decode cX3_init 6 = .ok (.putfield 9, 3) := by decide +kernel
theorem dX3_init_9 : decode cX3_init 9 = .ok (.aload_n 0, 1) := by decide +kernel
theorem dX3_init_10 : decode cX3_init 10 = .ok (.sipush 200, 3) := by decide +kernel
theorem dX3_init_13 : decode cX3_init 13 = .ok (.putfield 15, 3) := by decide +kernel
theorem dX3_init_16 : decode cX3_init 16 = .ok (.aload_n 0, 1) := by decide +kernel
theorem dX3_init_17 : decode cX3_init 17 = .ok (.iconst 3, 1) := by decide +kernel
theorem dX3_init_18 : decode cX3_init 18 = .ok (.newarray .int, 2) := by decide +kernel
theorem dX3_init_20 : decode cX3_init 20 = .ok (.dup, 1) := by decide +kernel
theorem dX3_init_21 : decode cX3_init 21 = .ok (.iconst 0, 1) := by decide +kernel
theorem dX3_init_22 : decode cX3_init 22 = .ok (.bipush 60, 2) := by decide +kernel
theorem dX3_init_24 : decode cX3_init 24 = .ok (.iastore, 1) := by decide +kernel
theorem dX3_init_25 : decode cX3_init 25 = .ok (.dup, 1) := by decide +kernel
theorem dX3_init_26 : decode cX3_init 26 = .ok (.iconst 1, 1) := by decide +kernel
theorem dX3_init_27 : decode cX3_init 27 = .ok (.bipush 60, 2) := by decide +kernel
theorem dX3_init_29 : decode cX3_init 29 = .ok (.iastore, 1) := by decide +kernel
theorem dX3_init_30 : decode cX3_init 30 = .ok (.dup, 1) := by decide +kernel
theorem dX3_init_31 : decode cX3_init 31 = .ok (.iconst 2, 1) := by decide +kernel
theorem dX3_init_32 : decode cX3_init 32 = .ok (.bipush 60, 2) := by decide +kernel
theorem dX3_init_34 : decode cX3_init 34 = .ok (.iastore, 1) := by decide +kernel
theorem dX3_init_35 : decode cX3_init 35 = .ok (.putfield 18, 3) := by decide +kernel
theorem dX3_init_38 : decode cX3_init 38 = .ok (.aload_n 0, 1) := by decide +kernel
theorem dX3_init_39 : decode cX3_init 39 = .ok (.iconst 3, 1) := by decide +kernel
theorem dX3_init_40 : decode cX3_init 40 = .ok (.newarray .int, 2) := by decide +kernel
theorem dX3_init_42 : decode cX3_init 42 = .ok (.dup, 1) := by decide +kernel
theorem dX3_init_43 : decode cX3_init 43 = .ok (.iconst 0, 1) := by decide +kernel
theorem dX3_init_44 : decode cX3_init 44 = .ok (.bipush 12, 2) := by decide +kernel
theorem dX3_init_46 : decode cX3_init 46 = .ok (.iastore, 1) := by decide +kernel
theorem dX3_init_47 : decode cX3_init 47 = .ok (.dup, 1) := by decide +kernel
theorem dX3_init_48 : decode cX3_init 48 = .ok (.iconst 1, 1) := by decide +kernel
theorem dX3_init_49 : decode cX3_init 49 = .ok (.iconst 1, 1) := by decide +kernel
theorem dX3_init_50 : decode cX3_init 50 = .ok (.iastore, 1) := by decide +kernel
theorem dX3_init_51 : decode cX3_init 51 = .ok (.dup, 1) := by decide +kernel
theorem dX3_init_52 : decode cX3_init 52 = .ok (.iconst 2, 1) := by decide +kernel
theorem dX3_init_53 : decode cX3_init 53 = .ok (.bipush 50, 2) := by decide +kernel
theorem dX3_init_55 : decode cX3_init 55 = .ok (.iastore, 1) := by decide +kernel
theorem dX3_init_56 : decode cX3_init 56 = .ok (.putfield 22, 3) := by decide +kernel
theorem dX3_init_59 : decode cX3_init 59 = .ok (.aload_n 0, 1) := by decide +kernel
theorem dX3_init_60 : decode cX3_init 60 = .ok (.bipush 14, 2) := by decide +kernel
theorem dX3_init_62 : decode cX3_init 62 = .ok (.newarray .int, 2) := by decide +kernel
theorem dX3_init_64 : decode cX3_init 64 = .ok (.putfield 25, 3) := by decide +kernel
theorem dX3_init_67 : decode cX3_init 67 = .ok (.aload_n 0, 1) := by decide +kernel
theorem dX3_init_68 : decode cX3_init 68 = .ok (.bipush 14, 2) := by decide +kernel
theorem dX3_init_70 : decode cX3_init 70 = .ok (.newarray .int, 2) := by decide +kernel
theorem dX3_init_72 : decode cX3_init 72 = .ok (.putfield 28, 3) := by decide +kernel
theorem dX3_init_75 : decode cX3_init 75 = .ok (.aload_n 0, 1) := by decide +kernel
theorem dX3_init_76 : decode cX3_init 76 = .ok (.bipush 14, 2) := by decide +kernel
theorem dX3_init_78 : decode cX3_init 78 = .ok (.newarray .int, 2) := by decide +kernel
theorem dX3_init_80 : decode cX3_init 80 = .ok (.putfield 31, 3) := by decide +kernel
theorem dX3_init_83 : decode cX3_init 83 = .ok (.aload_n 0, 1) := by decide +kernel
theorem dX3_init_84 : decode cX3_init 84 = .ok (.bipush 14, 2) := by decide +kernel
theorem dX3_init_86 : decode cX3_init 86 = .ok (.newarray .int, 2) := by decide +kernel
theorem dX3_init_88 : decode cX3_init 88 = .ok (.putfield 34, 3) := by decide +kernel
theorem dX3_init_91 : decode cX3_init 91 = .ok (.aload_n 0, 1) := by decide +kernel
theorem dX3_init_92 : decode cX3_init 92 = .ok (.bipush 14, 2) := by decide +kernel
theorem dX3_init_94 : decode cX3_init 94 = .ok (.newarray .int, 2) := by decide +kernel
theorem dX3_init_96 : decode cX3_init 96 = .ok (.putfield 37, 3) := by decide +kernel
theorem dX3_init_99 : decode cX3_init 99 = .ok (.aload_n 0, 1) := by decide +kernel
theorem dX3_init_100 : decode cX3_init 100 = .ok (.bipush 14, 2) := by decide +kernel
theorem dX3_init_102 : decode cX3_init 102 = .ok (.newarray .int, 2) := by decide +kernel
theorem dX3_init_104 : decode cX3_init 104 = .ok (.putfield 40, 3) := by decide +kernel
theorem dX3_init_107 : decode cX3_init 107 = .ok (.aload_n 0, 1) := by decide +kernel
theorem dX3_init_108 : decode cX3_init 108 = .ok (.bipush 14, 2) := by decide +kernel
theorem dX3_init_110 : decode cX3_init 110 = .ok (.newarray .int, 2) := by decide +kernel
theorem dX3_init_112 : decode cX3_init 112 = .ok (.putfield 43, 3) := by decide +kernel
theorem dX3_init_115 : decode cX3_init 115 = .ok (.aload_n 0, 1) := by decide +kernel
theorem dX3_init_116 : decode cX3_init 116 = .ok (.bipush 14, 2) := by decide +kernel
theorem dX3_init_118 : decode cX3_init 118 = .ok (.newarray .int, 2) := by decide +kernel
theorem dX3_init_120 : decode cX3_init 120 = .ok (.putfield 46, 3) := by decide +kernel
theorem dX3_init_123 : decode cX3_init 123 = .ok (.aload_n 0, 1) := by decide +kernel
theorem dX3_init_124 : decode cX3_init 124 = .ok (.new 49, 3) := by decide +kernel
theorem dX3_init_127 : decode cX3_init 127 = .ok (.dup, 1) := by decide +kernel
theorem dX3_init_128 : decode cX3_init 128 = .ok (.invokespecial 51, 3) := by decide +kernel
theorem dX3_init_131 : decode cX3_init 131 = .ok (.putfield 52, 3) := by decide +kernel
theorem dX3_init_134 : decode cX3_init 134 = .ok (.return_, 1) := by decide +kernel
theorem dX3_copyFrom_0 : decode cX3_copyFrom 0 = .ok (.aload_n 0, 1) := by decide +kernel
theorem dX3_copyFrom_1 : decode cX3_copyFrom 1 = .ok (.aload_n 1, 1) := by decide +kernel
theorem dX3_copyFrom_2 : decode cX3_copyFrom 2 = .ok (.getfield 9, 3) := by decide +kernel
theorem dX3_copyFrom_5 : decode cX3_copyFrom 5 = .ok (.putfield 9, 3) := by decide +kernel
theorem dX3_copyFrom_8 : decode cX3_copyFrom 8 = .ok (.aload_n 0, 1) := by decide +kernel
theorem dX3_copyFrom_9 : decode cX3_copyFrom 9 = .ok (.aload_n 1, 1) := by decide +kernel
theorem dX3_copyFrom_10 : decode cX3_copyFrom 10 = .ok (.getfield 15, 3) := by decide +kernel
theorem dX3_copyFrom_13 : decode cX3_copyFrom 13 = .ok (.putfield 15, 3) := by decide +kernel
theorem dX3_copyFrom_16 : decode cX3_copyFrom 16 = .ok (.aload_n 0, 1) := by decide +kernel
theorem dX3_copyFrom_17 : decode cX3_copyFrom 17 = .ok (.aload_n 1, 1) := by decide +kernel
theorem dX3_copyFrom_18 : decode cX3_copyFrom 18 = .ok (.getfield 56, 3) := by decide +kernel
theorem dX3_copyFrom_21 : decode cX3_copyFrom 21 = .ok (.putfield 56, 3) := by decide +kernel
theorem dX3_copyFrom_24 : decode cX3_copyFrom 24 = .ok (.aload_n 0, 1) := by decide +kernel
theorem dX3_copyFrom_25 : decode cX3_copyFrom 25 = .ok (.aload_n 1, 1) := by decide +kernel
theorem dX3_copyFrom_26 : decode cX3_copyFrom 26 = .ok (.getfield 59, 3) := by decide +kernel
theorem dX3_copyFrom_29 : decode cX3_copyFrom 29 = .ok (.putfield 59, 3) := by decide +kernel
theorem dX3_copyFrom_32 : decode cX3_copyFrom 32 = .ok (.aload_n 0, 1) := by decide +kernel
theorem dX3_copyFrom_33 : decode cX3_copyFrom 33 = .ok (.aload_n 1, 1) := by decide +kernel
theorem dX3_copyFrom_34 : decode cX3_copyFrom 34 = .ok (.getfield 62, 3) := by decide +kernel
theorem dX3_copyFrom_37 : decode cX3_copyFrom 37 = .ok (.putfield 62, 3) := by decide +kernel
theorem dX3_copyFrom_40 : decode cX3_copyFrom 40 = .ok (.aload_n 0, 1) := by decide +kernel
theorem dX3_copyFrom_41 : decode cX3_copyFrom 41 = .ok (.aload_n 1, 1) := by decide +kernel
theorem dX3_copyFrom_42 : decode cX3_copyFrom 42 = .ok (.getfield 65, 3) := by decide +kernel
theorem dX3_copyFrom_45 : decode cX3_copyFrom 45 = .ok (.putfield 65, 3) := by decide +kernel
theorem dX3_copyFrom_48 : decode cX3_copyFrom 48 = .ok (.aload_n 1, 1) := by decide +kernel
theorem dX3_copyFrom_49 : decode cX3_copyFrom 49 = .ok (.getfield 18, 3) := by decide +kernel
theorem dX3_copyFrom_52 : decode cX3_copyFrom 52 = .ok (.iconst 0, 1) := by decide +kernel
theorem dX3_copyFrom_53 : decode cX3_copyFrom 53 = .ok (.aload_n 0, 1) := by decide +kernel
theorem dX3_copyFrom_54 : decode cX3_copyFrom 54 = .ok (.getfield 18, 3) := by decide +kernel
theorem dX3_copyFrom_57 : decode cX3_copyFrom 57 = .ok (.iconst 0, 1) := by decide +kernel
theorem dX3_copyFrom_58 : decode cX3_copyFrom 58 = .ok (.iconst 3, 1) := by decide +kernel
theorem dX3_copyFrom_59 : decode cX3_copyFrom 59 = .ok (.invokestatic 68, 3) := by decide +kernel
theorem dX3_copyFrom_62 : decode cX3_copyFrom 62 = .ok (.aload_n 1, 1) := by decide +kernel
theorem dX3_copyFrom_63 : decode cX3_copyFrom 63 = .ok (.getfield 22, 3) := by decide +kernel
theorem dX3_copyFrom_66 : decode cX3_copyFrom 66 = .ok (.iconst 0, 1) := by decide +kernel
theorem dX3_copyFrom_67 : decode cX3_copyFrom 67 = .ok (.aload_n 0, 1) := by decide +kernel
theorem dX3_copyFrom_68 : decode cX3_copyFrom 68 = .ok (.getfield 22, 3) := by decide +kernel
theorem dX3_copyFrom_71 : decode cX3_copyFrom 71 = .ok (.iconst 0, 1) := by decide +kernel
theorem dX3_copyFrom_72 : decode cX3_copyFrom 72 = .ok (.iconst 3, 1) := by decide +kernel
theorem dX3_copyFrom_73 : decode cX3_copyFrom 73 = .ok (.invokestatic 68, 3) := by decide +kernel
theorem dX3_copyFrom_76 : decode cX3_copyFrom 76 = .ok (.aload_n 1, 1) := by decide +kernel
theorem dX3_copyFrom_77 : decode cX3_copyFrom 77 = .ok (.getfield 25, 3) := by decide +kernel
theorem dX3_copyFrom_80 : decode cX3_copyFrom 80 = .ok (.iconst 0, 1) := by decide +kernel
theorem dX3_copyFrom_81 : decode cX3_copyFrom 81 = .ok (.aload_n 0, 1) := by decide +kernel
theorem dX3_copyFrom_82 : decode cX3_copyFrom 82 = .ok (.getfield 25, 3) := by decide +kernel
theorem dX3_copyFrom_85 : decode cX3_copyFrom 85 = .ok (.iconst 0, 1) := by decide +kernel
theorem dX3_copyFrom_86 : decode cX3_copyFrom 86 = .ok (.bipush 14, 2) := by decide +kernel
theorem dX3_copyFrom_88 : decode cX3_copyFrom 88 = .ok (.invokestatic 68, 3) := by decide +kernel
theorem dX3_copyFrom_91 : decode cX3_copyFrom 91 = .ok (.aload_n 1, 1) := by decide +kernel
theorem dX3_copyFrom_92 : decode cX3_copyFrom 92 = .ok (.getfield 28, 3) := by decide +kernel
theorem dX3_copyFrom_95 : decode cX3_copyFrom 95 = .ok (.iconst 0, 1) := by decide +kernel
theorem dX3_copyFrom_96 : decode cX3_copyFrom 96 = .ok (.aload_n 0, 1) := by decide +kernel
theorem dX3_copyFrom_97 : decode cX3_copyFrom 97 = .ok (.getfield 28, 3) := by decide +kernel
theorem dX3_copyFrom_100 : decode cX3_copyFrom 100 = .ok (.iconst 0, 1) := by decide +kernel
theorem dX3_copyFrom_101 : decode cX3_copyFrom 101 = .ok (.bipush 14, 2) := by decide +kernel
theorem dX3_copyFrom_103 : decode cX3_copyFrom 103 = .ok (.invokestatic 68, 3) := by decide +kernel
theorem dX3_copyFrom_106 : decode cX3_copyFrom 106 = .ok (.aload_n 1, 1) := by decide +kernel
theorem dX3_copyFrom_107 : decode cX3_copyFrom 107 = .ok (.getfield 31, 3) := by decide +kernel
theorem dX3_copyFrom_110 : decode cX3_copyFrom 110 = .ok (.iconst 0, 1) := by decide +kernel
theorem dX3_copyFrom_111 : decode cX3_copyFrom 111 = .ok (.aload_n 0, 1) := by decide +kernel
theorem dX3_copyFrom_112 : decode cX3_copyFrom 112 = .ok (.getfield 31, 3) := by decide +kernel
theorem dX3_copyFrom_115 : decode cX3_copyFrom 115 = .ok (.iconst 0, 1) := by decide +kernel
theorem dX3_copyFrom_116 : decode cX3_copyFrom 116 = .ok (.bipush 14, 2) := by decide +kernel
theorem dX3_copyFrom_118 : decode cX3_copyFrom 118 = .ok (.invokestatic 68, 3) := by decide +kernel
theorem dX3_copyFrom_121 : decode cX3_copyFrom 121 = .ok (.aload_n 1, 1) := by decide +kernel
theorem dX3_copyFrom_122 : decode cX3_copyFrom 122 = .ok (.getfield 34, 3) := by decide +kernel
theorem dX3_copyFrom_125 : decode cX3_copyFrom 125 = .ok (.iconst 0, 1) := by decide +kernel
theorem dX3_copyFrom_126 : decode cX3_copyFrom 126 = .ok (.aload_n 0, 1) := by decide +kernel
theorem dX3_copyFrom_127 : decode cX3_copyFrom 127 = .ok (.getfield 34, 3) := by decide +kernel
theorem dX3_copyFrom_130 : decode cX3_copyFrom 130 = .ok (.iconst 0, 1) := by decide +kernel
theorem dX3_copyFrom_131 : decode cX3_copyFrom 131 = .ok (.bipush 14, 2) := by decide +kernel
theorem dX3_copyFrom_133 : decode cX3_copyFrom 133 = .ok (.invokestatic 68, 3) := by decide +kernel
theorem dX3_copyFrom_136 : decode cX3_copyFrom 136 = .ok (.aload_n 1, 1) := by decide +kernel
theorem dX3_copyFrom_137 : decode cX3_copyFrom 137 = .ok (.getfield 37, 3) := by decide +kernel
theorem dX3_copyFrom_140 : decode cX3_copyFrom 140 = .ok (.iconst 0, 1) := by decide +kernel
theorem dX3_copyFrom_141 : decode cX3_copyFrom 141 = .ok (.aload_n 0, 1) := by decide +kernel
theorem dX3_copyFrom_142 : decode cX3_copyFrom 142 = .ok (.getfield 37, 3) := by decide +kernel
theorem dX3_copyFrom_145 : decode cX3_copyFrom 145 = .ok (.iconst 0, 1) := by decide +kernel
theorem dX3_copyFrom_146 : decode cX3_copyFrom 146 = .ok (.bipush 14, 2) := by decide +kernel
theorem dX3_copyFrom_148 : decode cX3_copyFrom 148 = .ok (.invokestatic 68, 3) := by decide +kernel
theorem dX3_copyFrom_151 : decode cX3_copyFrom 151 = .ok (.aload_n 1, 1) := by decide +kernel
theorem dX3_copyFrom_152 : decode cX3_copyFrom 152 = .ok (.getfield 40, 3) := by decide +kernel
theorem dX3_copyFrom_155 : decode cX3_copyFrom 155 = .ok (.iconst 0, 1) := by decide +kernel
theorem dX3_copyFrom_156 : decode cX3_copyFrom 156 = .ok (.aload_n 0, 1) := by decide +kernel
theorem dX3_copyFrom_157 : decode cX3_copyFrom 157 = .ok (.getfield 40, 3) := by decide +kernel
theorem dX3_copyFrom_160 : decode cX3_copyFrom 160 = .ok (.iconst 0, 1) := by decide +kernel
theorem dX3_copyFrom_161 : decode cX3_copyFrom 161 = .ok (.bipush 14, 2) := by decide +kernel
theorem dX3_copyFrom_163 : decode cX3_copyFrom 163 = .ok (.invokestatic 68, 3) := by decide +kernel
theorem dX3_copyFrom_166 : decode cX3_copyFrom 166 = .ok (.aload_n 1, 1) := by decide +kernel
theorem dX3_copyFrom_167 : decode cX3_copyFrom 167 = .ok (.getfield 43, 3) := by decide +kernel
theorem dX3_copyFrom_170 : decode cX3_copyFrom 170 = .ok (.iconst 0, 1) := by decide +kernel
theorem dX3_copyFrom_171 : decode cX3_copyFrom 171 = .ok (.aload_n 0, 1) := by decide +kernel
theorem dX3_copyFrom_172 : decode cX3_copyFrom 172 = .ok (.getfield 43, 3) := by decide +kernel
theorem dX3_copyFrom_175 : decode cX3_copyFrom 175 = .ok (.iconst 0, 1) := by decide +kernel
theorem dX3_copyFrom_176 : decode cX3_copyFrom 176 = .ok (.bipush 14, 2) := by decide +kernel
theorem dX3_copyFrom_178 : decode cX3_copyFrom 178 = .ok (.invokestatic 68, 3) := by decide +kernel
theorem dX3_copyFrom_181 : decode cX3_copyFrom 181 = .ok (.aload_n 1, 1) := by decide +kernel
theorem dX3_copyFrom_182 : decode cX3_copyFrom 182 = .ok (.getfield 46, 3) := by decide +kernel
theorem dX3_copyFrom_185 : decode cX3_copyFrom 185 = .ok (.iconst 0, 1) := by decide +kernel
theorem dX3_copyFrom_186 : decode cX3_copyFrom 186 = .ok (.aload_n 0, 1) := by decide +kernel
theorem dX3_copyFrom_187 : decode cX3_copyFrom 187 = .ok (.getfield 46, 3) := by decide +kernel
theorem dX3_copyFrom_190 : decode cX3_copyFrom 190 = .ok (.iconst 0, 1) := by decide +kernel
theorem dX3_copyFrom_191 : decode cX3_copyFrom 191 = .ok (.bipush 14, 2) := by decide +kernel
theorem dX3_copyFrom_193 : decode cX3_copyFrom 193 = .ok (.invokestatic 68, 3) := by decide +kernel
theorem dX3_copyFrom_196 : decode cX3_copyFrom 196 = .ok (.return_, 1) := by decide +kernel
theorem dX3_isGone_0 : decode cX3_isGone 0 = .ok (.aload_n 0, 1) := by decide +kernel
theorem dX3_isGone_1 : decode cX3_isGone 1 = .ok (.getfield 43, 3) := by decide +kernel
theorem dX3_isGone_4 : decode cX3_isGone 4 = .ok (.iload_n 1, 1) := by decide +kernel
theorem dX3_isGone_5 : decode cX3_isGone 5 = .ok (.iaload, 1) := by decide +kernel
theorem dX3_isGone_6 : decode cX3_isGone 6 = .ok (.iconst (-1), 1) := by decide +kernel
theorem dX3_isGone_7 : decode cX3_isGone 7 = .ok (.if_icmp .ne 7, 3) := by decide +kernel
theorem dX3_isGone_10 : decode cX3_isGone 10 = .ok (.iconst 1, 1) := by decide +kernel
theorem dX3_isGone_11 : decode cX3_isGone 11 = .ok (.goto 4, 3) := by decide +kernel
theorem dX3_isGone_14 : decode cX3_isGone 14 = .ok (.iconst 0, 1) := by decide +kernel
theorem dX3_isGone_15 : decode cX3_isGone 15 = .ok (.ireturn, 1) := by decide +kernel
theorem dX3_isLent_0 : decode cX3_isLent 0 = .ok (.aload_n 0, 1) := by decide +kernel
theorem dX3_isLent_1 : decode cX3_isLent 1 = .ok (.getfield 43, 3) := by decide +kernel
theorem dX3_isLent_4 : decode cX3_isLent 4 = .ok (.iload_n 1, 1) := by decide +kernel
theorem dX3_isLent_5 : decode cX3_isLent 5 = .ok (.iaload, 1) := by decide +kernel
theorem dX3_isLent_6 : decode cX3_isLent 6 = .ok (.iconst 4, 1) := by decide +kernel
theorem dX3_isLent_7 : decode cX3_isLent 7 = .ok (.if_icmp .ne 7, 3) := by decide +kernel
theorem dX3_isLent_10 : decode cX3_isLent 10 = .ok (.iconst 1, 1) := by decide +kernel
theorem dX3_isLent_11 : decode cX3_isLent 11 = .ok (.goto 4, 3) := by decide +kernel
theorem dX3_isLent_14 : decode cX3_isLent 14 = .ok (.iconst 0, 1) := by decide +kernel
theorem dX3_isLent_15 : decode cX3_isLent 15 = .ok (.ireturn, 1) := by decide +kernel
theorem dX3_isOnTruck_0 : decode cX3_isOnTruck 0 = .ok (.aload_n 0, 1) := by decide +kernel
theorem dX3_isOnTruck_1 : decode cX3_isOnTruck 1 = .ok (.getfield 43, 3) := by decide +kernel
theorem dX3_isOnTruck_4 : decode cX3_isOnTruck 4 = .ok (.iload_n 1, 1) := by decide +kernel
theorem dX3_isOnTruck_5 : decode cX3_isOnTruck 5 = .ok (.iaload, 1) := by decide +kernel
theorem dX3_isOnTruck_6 : decode cX3_isOnTruck 6 = .ok (.iconst 0, 1) := by decide +kernel
theorem dX3_isOnTruck_7 : decode cX3_isOnTruck 7 = .ok (.iconst 2, 1) := by decide +kernel
theorem dX3_isOnTruck_8 : decode cX3_isOnTruck 8 = .ok (.invokestatic 74, 3) := by decide +kernel
theorem dX3_isOnTruck_11 : decode cX3_isOnTruck 11 = .ok (.ireturn, 1) := by decide +kernel
theorem dX3_isReady_0 : decode cX3_isReady 0 = .ok (.aload_n 0, 1) := by decide +kernel
theorem dX3_isReady_1 : decode cX3_isReady 1 = .ok (.iload_n 1, 1) := by decide +kernel
theorem dX3_isReady_2 : decode cX3_isReady 2 = .ok (.invokevirtual 78, 3) := by decide +kernel
theorem dX3_isReady_5 : decode cX3_isReady 5 = .ok (.ifCond .ne 7, 3) := by decide +kernel
theorem dX3_isReady_8 : decode cX3_isReady 8 = .ok (.iconst 1, 1) := by decide +kernel
theorem dX3_isReady_9 : decode cX3_isReady 9 = .ok (.goto 4, 3) := by decide +kernel
theorem dX3_isReady_12 : decode cX3_isReady 12 = .ok (.iconst 0, 1) := by decide +kernel
theorem dX3_isReady_13 : decode cX3_isReady 13 = .ok (.ireturn, 1) := by decide +kernel
theorem dX3_reasonOf_0 : decode cX3_reasonOf 0 = .ok (.aload_n 0, 1) := by decide +kernel
theorem dX3_reasonOf_1 : decode cX3_reasonOf 1 = .ok (.iload_n 1, 1) := by decide +kernel
theorem dX3_reasonOf_2 : decode cX3_reasonOf 2 = .ok (.invokevirtual 82, 3) := by decide +kernel
theorem dX3_reasonOf_5 : decode cX3_reasonOf 5 = .ok (.ifCond .eq 5, 3) := by decide +kernel
theorem dX3_reasonOf_8 : decode cX3_reasonOf 8 = .ok (.iconst 1, 1) := by decide +kernel
theorem dX3_reasonOf_9 : decode cX3_reasonOf 9 = .ok (.ireturn, 1) := by decide +kernel
theorem dX3_reasonOf_10 : decode cX3_reasonOf 10 = .ok (.aload_n 0, 1) := by decide +kernel
theorem dX3_reasonOf_11 : decode cX3_reasonOf 11 = .ok (.iload_n 1, 1) := by decide +kernel
theorem dX3_reasonOf_12 : decode cX3_reasonOf 12 = .ok (.invokevirtual 86, 3) := by decide +kernel
theorem dX3_reasonOf_15 : decode cX3_reasonOf 15 = .ok (.ifCond .eq 5, 3) := by decide +kernel
theorem dX3_reasonOf_18 : decode cX3_reasonOf 18 = .ok (.iconst 2, 1) := by decide +kernel
theorem dX3_reasonOf_19 : decode cX3_reasonOf 19 = .ok (.ireturn, 1) := by decide +kernel
theorem dX3_reasonOf_20 : decode cX3_reasonOf 20 = .ok (.aload_n 0, 1) := by decide +kernel
theorem dX3_reasonOf_21 : decode cX3_reasonOf 21 = .ok (.getfield 9, 3) := by decide +kernel
theorem dX3_reasonOf_24 : decode cX3_reasonOf 24 = .ok (.aload_n 0, 1) := by decide +kernel
theorem dX3_reasonOf_25 : decode cX3_reasonOf 25 = .ok (.getfield 34, 3) := by decide +kernel
theorem dX3_reasonOf_28 : decode cX3_reasonOf 28 = .ok (.iload_n 1, 1) := by decide +kernel
theorem dX3_reasonOf_29 : decode cX3_reasonOf 29 = .ok (.iaload, 1) := by decide +kernel
theorem dX3_reasonOf_30 : decode cX3_reasonOf 30 = .ok (.isub, 1) := by decide +kernel
theorem dX3_reasonOf_31 : decode cX3_reasonOf 31 = .ok (.aload_n 0, 1) := by decide +kernel
theorem dX3_reasonOf_32 : decode cX3_reasonOf 32 = .ok (.getfield 25, 3) := by decide +kernel
theorem dX3_reasonOf_35 : decode cX3_reasonOf 35 = .ok (.iload_n 1, 1) := by decide +kernel
theorem dX3_reasonOf_36 : decode cX3_reasonOf 36 = .ok (.iaload, 1) := by decide +kernel
theorem dX3_reasonOf_37 : decode cX3_reasonOf 37 = .ok (.invokestatic 89, 3) := by decide +kernel
theorem dX3_reasonOf_40 : decode cX3_reasonOf 40 = .ok (.if_icmp .le 5, 3) := by decide +kernel
theorem dX3_reasonOf_43 : decode cX3_reasonOf 43 = .ok (.iconst 3, 1) := by decide +kernel
theorem dX3_reasonOf_44 : decode cX3_reasonOf 44 = .ok (.ireturn, 1) := by decide +kernel
theorem dX3_reasonOf_45 : decode cX3_reasonOf 45 = .ok (.aload_n 0, 1) := by decide +kernel
theorem dX3_reasonOf_46 : decode cX3_reasonOf 46 = .ok (.getfield 40, 3) := by decide +kernel
theorem dX3_reasonOf_49 : decode cX3_reasonOf 49 = .ok (.iload_n 1, 1) := by decide +kernel
theorem dX3_reasonOf_50 : decode cX3_reasonOf 50 = .ok (.iaload, 1) := by decide +kernel
theorem dX3_reasonOf_51 : decode cX3_reasonOf 51 = .ok (.iconst (-1), 1) := by decide +kernel
theorem dX3_reasonOf_52 : decode cX3_reasonOf 52 = .ok (.if_icmp .eq 16, 3) := by decide +kernel
theorem dX3_reasonOf_55 : decode cX3_reasonOf 55 = .ok (.aload_n 0, 1) := by decide +kernel
theorem dX3_reasonOf_56 : decode cX3_reasonOf 56 = .ok (.getfield 9, 3) := by decide +kernel
theorem dX3_reasonOf_59 : decode cX3_reasonOf 59 = .ok (.aload_n 0, 1) := by decide +kernel
theorem dX3_reasonOf_60 : decode cX3_reasonOf 60 = .ok (.getfield 40, 3) := by decide +kernel
theorem dX3_reasonOf_63 : decode cX3_reasonOf 63 = .ok (.iload_n 1, 1) := by decide +kernel
theorem dX3_reasonOf_64 : decode cX3_reasonOf 64 = .ok (.iaload, 1) := by decide +kernel
theorem dX3_reasonOf_65 : decode cX3_reasonOf 65 = .ok (.if_icmp .le 7, 3) := by decide +kernel
theorem dX3_reasonOf_68 : decode cX3_reasonOf 68 = .ok (.iconst 4, 1) := by decide +kernel
theorem dX3_reasonOf_69 : decode cX3_reasonOf 69 = .ok (.goto 4, 3) := by decide +kernel
theorem dX3_reasonOf_72 : decode cX3_reasonOf 72 = .ok (.iconst 0, 1) := by decide +kernel
theorem dX3_reasonOf_73 : decode cX3_reasonOf 73 = .ok (.ireturn, 1) := by decide +kernel
theorem dX3_strengthAt_0 : decode cX3_strengthAt 0 = .ok (.aload_n 0, 1) := by decide +kernel
theorem dX3_strengthAt_1 : decode cX3_strengthAt 1 = .ok (.getfield 25, 3) := by decide +kernel
theorem dX3_strengthAt_4 : decode cX3_strengthAt 4 = .ok (.iload_n 1, 1) := by decide +kernel
theorem dX3_strengthAt_5 : decode cX3_strengthAt 5 = .ok (.iaload, 1) := by decide +kernel
theorem dX3_strengthAt_6 : decode cX3_strengthAt 6 = .ok (.iload_n 2, 1) := by decide +kernel
theorem dX3_strengthAt_7 : decode cX3_strengthAt 7 = .ok (.aload_n 0, 1) := by decide +kernel
theorem dX3_strengthAt_8 : decode cX3_strengthAt 8 = .ok (.getfield 9, 3) := by decide +kernel
theorem dX3_strengthAt_11 : decode cX3_strengthAt 11 = .ok (.aload_n 0, 1) := by decide +kernel
theorem dX3_strengthAt_12 : decode cX3_strengthAt 12 = .ok (.getfield 34, 3) := by decide +kernel
theorem dX3_strengthAt_15 : decode cX3_strengthAt 15 = .ok (.iload_n 1, 1) := by decide +kernel
theorem dX3_strengthAt_16 : decode cX3_strengthAt 16 = .ok (.iaload, 1) := by decide +kernel
theorem dX3_strengthAt_17 : decode cX3_strengthAt 17 = .ok (.isub, 1) := by decide +kernel
theorem dX3_strengthAt_18 : decode cX3_strengthAt 18 = .ok (.bipush 100, 2) := by decide +kernel
theorem dX3_strengthAt_20 : decode cX3_strengthAt 20 = .ok (.idiv, 1) := by decide +kernel
theorem dX3_strengthAt_21 : decode cX3_strengthAt 21 = .ok (.invokestatic 94, 3) := by decide +kernel
theorem dX3_strengthAt_24 : decode cX3_strengthAt 24 = .ok (.ireturn, 1) := by decide +kernel
theorem dX3_priceOf_0 : decode cX3_priceOf 0 = .ok (.aload_n 0, 1) := by decide +kernel
theorem dX3_priceOf_1 : decode cX3_priceOf 1 = .ok (.getfield 25, 3) := by decide +kernel
theorem dX3_priceOf_4 : decode cX3_priceOf 4 = .ok (.iload_n 1, 1) := by decide +kernel
theorem dX3_priceOf_5 : decode cX3_priceOf 5 = .ok (.iaload, 1) := by decide +kernel
theorem dX3_priceOf_6 : decode cX3_priceOf 6 = .ok (.aload_n 0, 1) := by decide +kernel
theorem dX3_priceOf_7 : decode cX3_priceOf 7 = .ok (.getfield 28, 3) := by decide +kernel
theorem dX3_priceOf_10 : decode cX3_priceOf 10 = .ok (.iload_n 1, 1) := by decide +kernel
theorem dX3_priceOf_11 : decode cX3_priceOf 11 = .ok (.iaload, 1) := by decide +kernel
theorem dX3_priceOf_12 : decode cX3_priceOf 12 = .ok (.invokestatic 98, 3) := by decide +kernel
theorem dX3_priceOf_15 : decode cX3_priceOf 15 = .ok (.ireturn, 1) := by decide +kernel
theorem dX3_canBuy_0 : decode cX3_canBuy 0 = .ok (.aload_n 0, 1) := by decide +kernel
theorem dX3_canBuy_1 : decode cX3_canBuy 1 = .ok (.getfield 56, 3) := by decide +kernel
theorem dX3_canBuy_4 : decode cX3_canBuy 4 = .ok (.bipush 14, 2) := by decide +kernel
theorem dX3_canBuy_6 : decode cX3_canBuy 6 = .ok (.if_icmp .ge 19, 3) := by decide +kernel
theorem dX3_canBuy_9 : decode cX3_canBuy 9 = .ok (.iload_n 1, 1) := by decide +kernel
theorem dX3_canBuy_10 : decode cX3_canBuy 10 = .ok (.iload_n 2, 1) := by decide +kernel
theorem dX3_canBuy_11 : decode cX3_canBuy 11 = .ok (.invokestatic 98, 3) := by decide +kernel
theorem dX3_canBuy_14 : decode cX3_canBuy 14 = .ok (.aload_n 0, 1) := by decide +kernel
theorem dX3_canBuy_15 : decode cX3_canBuy 15 = .ok (.getfield 15, 3) := by decide +kernel
theorem dX3_canBuy_18 : decode cX3_canBuy 18 = .ok (.if_icmp .gt 7, 3) := by decide +kernel
theorem dX3_canBuy_21 : decode cX3_canBuy 21 = .ok (.iconst 1, 1) := by decide +kernel
theorem dX3_canBuy_22 : decode cX3_canBuy 22 = .ok (.goto 4, 3) := by decide +kernel
theorem dX3_canBuy_25 : decode cX3_canBuy 25 = .ok (.iconst 0, 1) := by decide +kernel
theorem dX3_canBuy_26 : decode cX3_canBuy 26 = .ok (.ireturn, 1) := by decide +kernel
theorem dX3_addHose_0 : decode cX3_addHose 0 = .ok (.aload_n 0, 1) := by decide +kernel
theorem dX3_addHose_1 : decode cX3_addHose 1 = .ok (.getfield 56, 3) := by decide +kernel
theorem dX3_addHose_4 : decode cX3_addHose 4 = .ok (.istore 5, 2) := by decide +kernel
theorem dX3_addHose_6 : decode cX3_addHose 6 = .ok (.aload_n 0, 1) := by decide +kernel
theorem dX3_addHose_7 : decode cX3_addHose 7 = .ok (.getfield 25, 3) := by decide +kernel
theorem dX3_addHose_10 : decode cX3_addHose 10 = .ok (.iload 5, 2) := by decide +kernel
theorem dX3_addHose_12 : decode cX3_addHose 12 = .ok (.iload_n 1, 1) := by decide +kernel
theorem dX3_addHose_13 : decode cX3_addHose 13 = .ok (.iastore, 1) := by decide +kernel
theorem dX3_addHose_14 : decode cX3_addHose 14 = .ok (.aload_n 0, 1) := by decide +kernel
theorem dX3_addHose_15 : decode cX3_addHose 15 = .ok (.getfield 28, 3) := by decide +kernel
theorem dX3_addHose_18 : decode cX3_addHose 18 = .ok (.iload 5, 2) := by decide +kernel
theorem dX3_addHose_20 : decode cX3_addHose 20 = .ok (.iload_n 2, 1) := by decide +kernel
theorem dX3_addHose_21 : decode cX3_addHose 21 = .ok (.iastore, 1) := by decide +kernel
theorem dX3_addHose_22 : decode cX3_addHose 22 = .ok (.aload_n 0, 1) := by decide +kernel
theorem dX3_addHose_23 : decode cX3_addHose 23 = .ok (.getfield 31, 3) := by decide +kernel
theorem dX3_addHose_26 : decode cX3_addHose 26 = .ok (.iload 5, 2) := by decide +kernel
theorem dX3_addHose_28 : decode cX3_addHose 28 = .ok (.iload_n 3, 1) := by decide +kernel
theorem dX3_addHose_29 : decode cX3_addHose 29 = .ok (.iastore, 1) := by decide +kernel
theorem dX3_addHose_30 : decode cX3_addHose 30 = .ok (.aload_n 0, 1) := by decide +kernel
theorem dX3_addHose_31 : decode cX3_addHose 31 = .ok (.getfield 34, 3) := by decide +kernel
theorem dX3_addHose_34 : decode cX3_addHose 34 = .ok (.iload 5, 2) := by decide +kernel
theorem dX3_addHose_36 : decode cX3_addHose 36 = .ok (.aload_n 0, 1) := by decide +kernel
theorem dX3_addHose_37 : decode cX3_addHose 37 = .ok (.getfield 9, 3) := by decide +kernel
theorem dX3_addHose_40 : decode cX3_addHose 40 = .ok (.iastore, 1) := by decide +kernel
theorem dX3_addHose_41 : decode cX3_addHose 41 = .ok (.aload_n 0, 1) := by decide +kernel
theorem dX3_addHose_42 : decode cX3_addHose 42 = .ok (.getfield 37, 3) := by decide +kernel
theorem dX3_addHose_45 : decode cX3_addHose 45 = .ok (.iload 5, 2) := by decide +kernel
theorem dX3_addHose_47 : decode cX3_addHose 47 = .ok (.iconst 0, 1) := by decide +kernel
theorem dX3_addHose_48 : decode cX3_addHose 48 = .ok (.iastore, 1) := by decide +kernel
theorem dX3_addHose_49 : decode cX3_addHose 49 = .ok (.aload_n 0, 1) := by decide +kernel
theorem dX3_addHose_50 : decode cX3_addHose 50 = .ok (.getfield 40, 3) := by decide +kernel
theorem dX3_addHose_53 : decode cX3_addHose 53 = .ok (.iload 5, 2) := by decide +kernel
theorem dX3_addHose_55 : decode cX3_addHose 55 = .ok (.iconst (-1), 1) := by decide +kernel
theorem dX3_addHose_56 : decode cX3_addHose 56 = .ok (.iastore, 1) := by decide +kernel
theorem dX3_addHose_57 : decode cX3_addHose 57 = .ok (.aload_n 0, 1) := by decide +kernel
theorem dX3_addHose_58 : decode cX3_addHose 58 = .ok (.getfield 43, 3) := by decide +kernel
theorem dX3_addHose_61 : decode cX3_addHose 61 = .ok (.iload 5, 2) := by decide +kernel
theorem dX3_addHose_63 : decode cX3_addHose 63 = .ok (.iload 4, 2) := by decide +kernel
theorem dX3_addHose_65 : decode cX3_addHose 65 = .ok (.iastore, 1) := by decide +kernel
theorem dX3_addHose_66 : decode cX3_addHose 66 = .ok (.aload_n 0, 1) := by decide +kernel
theorem dX3_addHose_67 : decode cX3_addHose 67 = .ok (.getfield 46, 3) := by decide +kernel
theorem dX3_addHose_70 : decode cX3_addHose 70 = .ok (.iload 5, 2) := by decide +kernel
theorem dX3_addHose_72 : decode cX3_addHose 72 = .ok (.iconst (-1), 1) := by decide +kernel
theorem dX3_addHose_73 : decode cX3_addHose 73 = .ok (.iastore, 1) := by decide +kernel
theorem dX3_addHose_74 : decode cX3_addHose 74 = .ok (.aload_n 0, 1) := by decide +kernel
theorem dX3_addHose_75 : decode cX3_addHose 75 = .ok (.dup, 1) := by decide +kernel
theorem dX3_addHose_76 : decode cX3_addHose 76 = .ok (.getfield 56, 3) := by decide +kernel
theorem dX3_addHose_79 : decode cX3_addHose 79 = .ok (.iconst 1, 1) := by decide +kernel
theorem dX3_addHose_80 : decode cX3_addHose 80 = .ok (.iadd, 1) := by decide +kernel
theorem dX3_addHose_81 : decode cX3_addHose 81 = .ok (.putfield 56, 3) := by decide +kernel
theorem dX3_addHose_84 : decode cX3_addHose 84 = .ok (.aload_n 0, 1) := by decide +kernel
theorem dX3_addHose_85 : decode cX3_addHose 85 = .ok (.dup, 1) := by decide +kernel
theorem dX3_addHose_86 : decode cX3_addHose 86 = .ok (.getfield 15, 3) := by decide +kernel
theorem dX3_addHose_89 : decode cX3_addHose 89 = .ok (.aload_n 0, 1) := by decide +kernel
theorem dX3_addHose_90 : decode cX3_addHose 90 = .ok (.iload 5, 2) := by decide +kernel
theorem dX3_addHose_92 : decode cX3_addHose 92 = .ok (.invokevirtual 102, 3) := by decide +kernel
theorem dX3_addHose_95 : decode cX3_addHose 95 = .ok (.isub, 1) := by decide +kernel
theorem dX3_addHose_96 : decode cX3_addHose 96 = .ok (.putfield 15, 3) := by decide +kernel
theorem dX3_addHose_99 : decode cX3_addHose 99 = .ok (.aload_n 0, 1) := by decide +kernel
theorem dX3_addHose_100 : decode cX3_addHose 100 = .ok (.dup, 1) := by decide +kernel
theorem dX3_addHose_101 : decode cX3_addHose 101 = .ok (.getfield 65, 3) := by decide +kernel
theorem dX3_addHose_104 : decode cX3_addHose 104 = .ok (.aload_n 0, 1) := by decide +kernel
theorem dX3_addHose_105 : decode cX3_addHose 105 = .ok (.iload 5, 2) := by decide +kernel
theorem dX3_addHose_107 : decode cX3_addHose 107 = .ok (.invokevirtual 102, 3) := by decide +kernel
theorem dX3_addHose_110 : decode cX3_addHose 110 = .ok (.iadd, 1) := by decide +kernel
theorem dX3_addHose_111 : decode cX3_addHose 111 = .ok (.putfield 65, 3) := by decide +kernel
theorem dX3_addHose_114 : decode cX3_addHose 114 = .ok (.iload 5, 2) := by decide +kernel
theorem dX3_addHose_116 : decode cX3_addHose 116 = .ok (.ireturn, 1) := by decide +kernel
theorem dX3_replaceHose_0 : decode cX3_replaceHose 0 = .ok (.aload_n 0, 1) := by decide +kernel
theorem dX3_replaceHose_1 : decode cX3_replaceHose 1 = .ok (.getfield 43, 3) := by decide +kernel
theorem dX3_replaceHose_4 : decode cX3_replaceHose 4 = .ok (.iload_n 1, 1) := by decide +kernel
theorem dX3_replaceHose_5 : decode cX3_replaceHose 5 = .ok (.iaload, 1) := by decide +kernel
theorem dX3_replaceHose_6 : decode cX3_replaceHose 6 = .ok (.istore_n 2, 1) := by decide +kernel
theorem dX3_replaceHose_7 : decode cX3_replaceHose 7 = .ok (.aload_n 0, 1) := by decide +kernel
theorem dX3_replaceHose_8 : decode cX3_replaceHose 8 = .ok (.getfield 43, 3) := by decide +kernel
theorem dX3_replaceHose_11 : decode cX3_replaceHose 11 = .ok (.iload_n 1, 1) := by decide +kernel
theorem dX3_replaceHose_12 : decode cX3_replaceHose 12 = .ok (.iconst (-1), 1) := by decide +kernel
theorem dX3_replaceHose_13 : decode cX3_replaceHose 13 = .ok (.iastore, 1) := by decide +kernel
theorem dX3_replaceHose_14 : decode cX3_replaceHose 14 = .ok (.aload_n 0, 1) := by decide +kernel
theorem dX3_replaceHose_15 : decode cX3_replaceHose 15 = .ok (.aload_n 0, 1) := by decide +kernel
theorem dX3_replaceHose_16 : decode cX3_replaceHose 16 = .ok (.getfield 25, 3) := by decide +kernel
theorem dX3_replaceHose_19 : decode cX3_replaceHose 19 = .ok (.iload_n 1, 1) := by decide +kernel
theorem dX3_replaceHose_20 : decode cX3_replaceHose 20 = .ok (.iaload, 1) := by decide +kernel
theorem dX3_replaceHose_21 : decode cX3_replaceHose 21 = .ok (.aload_n 0, 1) := by decide +kernel
theorem dX3_replaceHose_22 : decode cX3_replaceHose 22 = .ok (.getfield 28, 3) := by decide +kernel
theorem dX3_replaceHose_25 : decode cX3_replaceHose 25 = .ok (.iload_n 1, 1) := by decide +kernel
theorem dX3_replaceHose_26 : decode cX3_replaceHose 26 = .ok (.iaload, 1) := by decide +kernel
theorem dX3_replaceHose_27 : decode cX3_replaceHose 27 = .ok (.aload_n 0, 1) := by decide +kernel
theorem dX3_replaceHose_28 : decode cX3_replaceHose 28 = .ok (.getfield 31, 3) := by decide +kernel
theorem dX3_replaceHose_31 : decode cX3_replaceHose 31 = .ok (.iload_n 1, 1) := by decide +kernel
theorem dX3_replaceHose_32 : decode cX3_replaceHose 32 = .ok (.iaload, 1) := by decide +kernel
theorem dX3_replaceHose_33 : decode cX3_replaceHose 33 = .ok (.iload_n 2, 1) := by decide +kernel
theorem dX3_replaceHose_34 : decode cX3_replaceHose 34 = .ok (.invokevirtual 105, 3) := by decide +kernel
theorem dX3_replaceHose_37 : decode cX3_replaceHose 37 = .ok (.ireturn, 1) := by decide +kernel
theorem dX3_lendOut_0 : decode cX3_lendOut 0 = .ok (.aload_n 0, 1) := by decide +kernel
theorem dX3_lendOut_1 : decode cX3_lendOut 1 = .ok (.getfield 43, 3) := by decide +kernel
theorem dX3_lendOut_4 : decode cX3_lendOut 4 = .ok (.iload_n 1, 1) := by decide +kernel
theorem dX3_lendOut_5 : decode cX3_lendOut 5 = .ok (.iconst 4, 1) := by decide +kernel
theorem dX3_lendOut_6 : decode cX3_lendOut 6 = .ok (.iastore, 1) := by decide +kernel
theorem dX3_lendOut_7 : decode cX3_lendOut 7 = .ok (.aload_n 0, 1) := by decide +kernel
theorem dX3_lendOut_8 : decode cX3_lendOut 8 = .ok (.getfield 46, 3) := by decide +kernel
theorem dX3_lendOut_11 : decode cX3_lendOut 11 = .ok (.iload_n 1, 1) := by decide +kernel
theorem dX3_lendOut_12 : decode cX3_lendOut 12 = .ok (.aload_n 0, 1) := by decide +kernel
theorem dX3_lendOut_13 : decode cX3_lendOut 13 = .ok (.getfield 9, 3) := by decide +kernel
theorem dX3_lendOut_16 : decode cX3_lendOut 16 = .ok (.iload_n 2, 1) := by decide +kernel
theorem dX3_lendOut_17 : decode cX3_lendOut 17 = .ok (.iadd, 1) := by decide +kernel
theorem dX3_lendOut_18 : decode cX3_lendOut 18 = .ok (.iastore, 1) := by decide +kernel
theorem dX3_lendOut_19 : decode cX3_lendOut 19 = .ok (.aload_n 0, 1) := by decide +kernel
theorem dX3_lendOut_20 : decode cX3_lendOut 20 = .ok (.getfield 46, 3) := by decide +kernel
theorem dX3_lendOut_23 : decode cX3_lendOut 23 = .ok (.iload_n 1, 1) := by decide +kernel
theorem dX3_lendOut_24 : decode cX3_lendOut 24 = .ok (.iaload, 1) := by decide +kernel
theorem dX3_lendOut_25 : decode cX3_lendOut 25 = .ok (.ireturn, 1) := by decide +kernel
theorem dX3_stepsUpTo_0 : decode cX3_stepsUpTo 0 = .ok (.iload_n 0, 1) := by decide +kernel
theorem dX3_stepsUpTo_1 : decode cX3_stepsUpTo 1 = .ok (.iconst 4, 1) := by decide +kernel
theorem dX3_stepsUpTo_2 : decode cX3_stepsUpTo 2 = .ok (.iadd, 1) := by decide +kernel
theorem dX3_stepsUpTo_3 : decode cX3_stepsUpTo 3 = .ok (.iconst 1, 1) := by decide +kernel
theorem dX3_stepsUpTo_4 : decode cX3_stepsUpTo 4 = .ok (.isub, 1) := by decide +kernel
theorem dX3_stepsUpTo_5 : decode cX3_stepsUpTo 5 = .ok (.iconst 4, 1) := by decide +kernel
theorem dX3_stepsUpTo_6 : decode cX3_stepsUpTo 6 = .ok (.idiv, 1) := by decide +kernel
theorem dX3_stepsUpTo_7 : decode cX3_stepsUpTo 7 = .ok (.ireturn, 1) := by decide +kernel
theorem dX3_stepsHeld_0 : decode cX3_stepsHeld 0 = .ok (.iload_n 2, 1) := by decide +kernel
theorem dX3_stepsHeld_1 : decode cX3_stepsHeld 1 = .ok (.invokestatic 109, 3) := by decide +kernel
theorem dX3_stepsHeld_4 : decode cX3_stepsHeld 4 = .ok (.istore_n 3, 1) := by decide +kernel
theorem dX3_stepsHeld_5 : decode cX3_stepsHeld 5 = .ok (.aload_n 0, 1) := by decide +kernel
theorem dX3_stepsHeld_6 : decode cX3_stepsHeld 6 = .ok (.getfield 37, 3) := by decide +kernel
theorem dX3_stepsHeld_9 : decode cX3_stepsHeld 9 = .ok (.iload_n 1, 1) := by decide +kernel
theorem dX3_stepsHeld_10 : decode cX3_stepsHeld 10 = .ok (.iaload, 1) := by decide +kernel
theorem dX3_stepsHeld_11 : decode cX3_stepsHeld 11 = .ok (.istore 4, 2) := by decide +kernel
theorem dX3_stepsHeld_13 : decode cX3_stepsHeld 13 = .ok (.iconst 0, 1) := by decide +kernel
theorem dX3_stepsHeld_14 : decode cX3_stepsHeld 14 = .ok (.istore 5, 2) := by decide +kernel
theorem dX3_stepsHeld_16 : decode cX3_stepsHeld 16 = .ok (.iload 5, 2) := by decide +kernel
theorem dX3_stepsHeld_18 : decode cX3_stepsHeld 18 = .ok (.iload_n 3, 1) := by decide +kernel
theorem dX3_stepsHeld_19 : decode cX3_stepsHeld 19 = .ok (.if_icmp .ge 47, 3) := by decide +kernel
theorem dX3_stepsHeld_22 : decode cX3_stepsHeld 22 = .ok (.iconst 4, 1) := by decide +kernel
theorem dX3_stepsHeld_23 : decode cX3_stepsHeld 23 = .ok (.iload 5, 2) := by decide +kernel
theorem dX3_stepsHeld_25 : decode cX3_stepsHeld 25 = .ok (.iconst 1, 1) := by decide +kernel
theorem dX3_stepsHeld_26 : decode cX3_stepsHeld 26 = .ok (.iadd, 1) := by decide +kernel
theorem dX3_stepsHeld_27 : decode cX3_stepsHeld 27 = .ok (.imul, 1) := by decide +kernel
theorem dX3_stepsHeld_28 : decode cX3_stepsHeld 28 = .ok (.iload_n 2, 1) := by decide +kernel
theorem dX3_stepsHeld_29 : decode cX3_stepsHeld 29 = .ok (.invokestatic 112, 3) := by decide +kernel
theorem dX3_stepsHeld_32 : decode cX3_stepsHeld 32 = .ok (.istore 6, 2) := by decide +kernel
theorem dX3_stepsHeld_34 : decode cX3_stepsHeld 34 = .ok (.aload_n 0, 1) := by decide +kernel
theorem dX3_stepsHeld_35 : decode cX3_stepsHeld 35 = .ok (.iload_n 1, 1) := by decide +kernel
theorem dX3_stepsHeld_36 : decode cX3_stepsHeld 36 = .ok (.iload 4, 2) := by decide +kernel
theorem dX3_stepsHeld_38 : decode cX3_stepsHeld 38 = .ok (.invokevirtual 117, 3) := by decide +kernel
theorem dX3_stepsHeld_41 : decode cX3_stepsHeld 41 = .ok (.iload 6, 2) := by decide +kernel
theorem dX3_stepsHeld_43 : decode cX3_stepsHeld 43 = .ok (.if_icmp .ge 6, 3) := by decide +kernel
theorem dX3_stepsHeld_46 : decode cX3_stepsHeld 46 = .ok (.iload 5, 2) := by decide +kernel
theorem dX3_stepsHeld_48 : decode cX3_stepsHeld 48 = .ok (.ireturn, 1) := by decide +kernel
theorem dX3_stepsHeld_49 : decode cX3_stepsHeld 49 = .ok (.bipush 99, 2) := by decide +kernel
theorem dX3_stepsHeld_51 : decode cX3_stepsHeld 51 = .ok (.iload 4, 2) := by decide +kernel
theorem dX3_stepsHeld_53 : decode cX3_stepsHeld 53 = .ok (.iconst 1, 1) := by decide +kernel
theorem dX3_stepsHeld_54 : decode cX3_stepsHeld 54 = .ok (.iadd, 1) := by decide +kernel
theorem dX3_stepsHeld_55 : decode cX3_stepsHeld 55 = .ok (.invokestatic 112, 3) := by decide +kernel
theorem dX3_stepsHeld_58 : decode cX3_stepsHeld 58 = .ok (.istore 4, 2) := by decide +kernel
theorem dX3_stepsHeld_60 : decode cX3_stepsHeld 60 = .ok (.iinc 5 1, 3) := by decide +kernel
theorem dX3_stepsHeld_63 : decode cX3_stepsHeld 63 = .ok (.goto (-47), 3) := by decide +kernel
theorem dX3_stepsHeld_66 : decode cX3_stepsHeld 66 = .ok (.iload_n 3, 1) := by decide +kernel
theorem dX3_stepsHeld_67 : decode cX3_stepsHeld 67 = .ok (.ireturn, 1) := by decide +kernel
theorem dX3_outcomeOf_0 : decode cX3_outcomeOf 0 = .ok (.aload_n 0, 1) := by decide +kernel
theorem dX3_outcomeOf_1 : decode cX3_outcomeOf 1 = .ok (.iload_n 1, 1) := by decide +kernel
theorem dX3_outcomeOf_2 : decode cX3_outcomeOf 2 = .ok (.iload_n 2, 1) := by decide +kernel
theorem dX3_outcomeOf_3 : decode cX3_outcomeOf 3 = .ok (.invokevirtual 120, 3) := by decide +kernel
theorem dX3_outcomeOf_6 : decode cX3_outcomeOf 6 = .ok (.istore_n 3, 1) := by decide +kernel
theorem dX3_outcomeOf_7 : decode cX3_outcomeOf 7 = .ok (.iload_n 3, 1) := by decide +kernel
theorem dX3_outcomeOf_8 : decode cX3_outcomeOf 8 = .ok (.iload_n 2, 1) := by decide +kernel
theorem dX3_outcomeOf_9 : decode cX3_outcomeOf 9 = .ok (.invokestatic 109, 3) := by decide +kernel
theorem dX3_outcomeOf_12 : decode cX3_outcomeOf 12 = .ok (.if_icmp .ge 10, 3) := by decide +kernel
theorem dX3_outcomeOf_15 : decode cX3_outcomeOf 15 = .ok (.iload_n 3, 1) := by decide +kernel
theorem dX3_outcomeOf_16 : decode cX3_outcomeOf 16 = .ok (.bipush 100, 2) := by decide +kernel
theorem dX3_outcomeOf_18 : decode cX3_outcomeOf 18 = .ok (.iadd, 1) := by decide +kernel
theorem dX3_outcomeOf_19 : decode cX3_outcomeOf 19 = .ok (.goto 4, 3) := by decide +kernel
theorem dX3_outcomeOf_22 : decode cX3_outcomeOf 22 = .ok (.iload_n 3, 1) := by decide +kernel
theorem dX3_outcomeOf_23 : decode cX3_outcomeOf 23 = .ok (.ireturn, 1) := by decide +kernel
theorem dX3_runTest_0 : decode cX3_runTest 0 = .ok (.aload_n 0, 1) := by decide +kernel
theorem dX3_runTest_1 : decode cX3_runTest 1 = .ok (.iload_n 1, 1) := by decide +kernel
theorem dX3_runTest_2 : decode cX3_runTest 2 = .ok (.iload_n 2, 1) := by decide +kernel
theorem dX3_runTest_3 : decode cX3_runTest 3 = .ok (.invokevirtual 123, 3) := by decide +kernel
theorem dX3_runTest_6 : decode cX3_runTest 6 = .ok (.istore_n 3, 1) := by decide +kernel
theorem dX3_runTest_7 : decode cX3_runTest 7 = .ok (.iload_n 3, 1) := by decide +kernel
theorem dX3_runTest_8 : decode cX3_runTest 8 = .ok (.bipush 100, 2) := by decide +kernel
theorem dX3_runTest_10 : decode cX3_runTest 10 = .ok (.if_icmp .lt 7, 3) := by decide +kernel
theorem dX3_runTest_13 : decode cX3_runTest 13 = .ok (.iconst 1, 1) := by decide +kernel
theorem dX3_runTest_14 : decode cX3_runTest 14 = .ok (.goto 4, 3) := by decide +kernel
theorem dX3_runTest_17 : decode cX3_runTest 17 = .ok (.iconst 0, 1) := by decide +kernel
theorem dX3_runTest_18 : decode cX3_runTest 18 = .ok (.istore 4, 2) := by decide +kernel
theorem dX3_runTest_20 : decode cX3_runTest 20 = .ok (.aload_n 0, 1) := by decide +kernel
theorem dX3_runTest_21 : decode cX3_runTest 21 = .ok (.getfield 37, 3) := by decide +kernel
theorem dX3_runTest_24 : decode cX3_runTest 24 = .ok (.iload_n 1, 1) := by decide +kernel
theorem dX3_runTest_25 : decode cX3_runTest 25 = .ok (.bipush 99, 2) := by decide +kernel
theorem dX3_runTest_27 : decode cX3_runTest 27 = .ok (.aload_n 0, 1) := by decide +kernel
theorem dX3_runTest_28 : decode cX3_runTest 28 = .ok (.getfield 37, 3) := by decide +kernel
theorem dX3_runTest_31 : decode cX3_runTest 31 = .ok (.iload_n 1, 1) := by decide +kernel
theorem dX3_runTest_32 : decode cX3_runTest 32 = .ok (.iaload, 1) := by decide +kernel
theorem dX3_runTest_33 : decode cX3_runTest 33 = .ok (.iload 4, 2) := by decide +kernel
theorem dX3_runTest_35 : decode cX3_runTest 35 = .ok (.ifCond .eq 10, 3) := by decide +kernel
theorem dX3_runTest_38 : decode cX3_runTest 38 = .ok (.iload_n 3, 1) := by decide +kernel
theorem dX3_runTest_39 : decode cX3_runTest 39 = .ok (.bipush 100, 2) := by decide +kernel
theorem dX3_runTest_41 : decode cX3_runTest 41 = .ok (.isub, 1) := by decide +kernel
theorem dX3_runTest_42 : decode cX3_runTest 42 = .ok (.goto 4, 3) := by decide +kernel
theorem dX3_runTest_45 : decode cX3_runTest 45 = .ok (.iload_n 3, 1) := by decide +kernel
theorem dX3_runTest_46 : decode cX3_runTest 46 = .ok (.iadd, 1) := by decide +kernel
theorem dX3_runTest_47 : decode cX3_runTest 47 = .ok (.invokestatic 112, 3) := by decide +kernel
theorem dX3_runTest_50 : decode cX3_runTest 50 = .ok (.iastore, 1) := by decide +kernel
theorem dX3_runTest_51 : decode cX3_runTest 51 = .ok (.aload_n 0, 1) := by decide +kernel
theorem dX3_runTest_52 : decode cX3_runTest 52 = .ok (.dup, 1) := by decide +kernel
theorem dX3_runTest_53 : decode cX3_runTest 53 = .ok (.getfield 59, 3) := by decide +kernel
theorem dX3_runTest_56 : decode cX3_runTest 56 = .ok (.iconst 1, 1) := by decide +kernel
theorem dX3_runTest_57 : decode cX3_runTest 57 = .ok (.iadd, 1) := by decide +kernel
theorem dX3_runTest_58 : decode cX3_runTest 58 = .ok (.putfield 59, 3) := by decide +kernel
theorem dX3_runTest_61 : decode cX3_runTest 61 = .ok (.iload 4, 2) := by decide +kernel
theorem dX3_runTest_63 : decode cX3_runTest 63 = .ok (.ifCond .eq 23, 3) := by decide +kernel
theorem dX3_runTest_66 : decode cX3_runTest 66 = .ok (.aload_n 0, 1) := by decide +kernel
theorem dX3_runTest_67 : decode cX3_runTest 67 = .ok (.dup, 1) := by decide +kernel
theorem dX3_runTest_68 : decode cX3_runTest 68 = .ok (.getfield 62, 3) := by decide +kernel
theorem dX3_runTest_71 : decode cX3_runTest 71 = .ok (.iconst 1, 1) := by decide +kernel
theorem dX3_runTest_72 : decode cX3_runTest 72 = .ok (.iadd, 1) := by decide +kernel
theorem dX3_runTest_73 : decode cX3_runTest 73 = .ok (.putfield 62, 3) := by decide +kernel
theorem dX3_runTest_76 : decode cX3_runTest 76 = .ok (.aload_n 0, 1) := by decide +kernel
theorem dX3_runTest_77 : decode cX3_runTest 77 = .ok (.getfield 43, 3) := by decide +kernel
theorem dX3_runTest_80 : decode cX3_runTest 80 = .ok (.iload_n 1, 1) := by decide +kernel
theorem dX3_runTest_81 : decode cX3_runTest 81 = .ok (.iconst (-1), 1) := by decide +kernel
theorem dX3_runTest_82 : decode cX3_runTest 82 = .ok (.iastore, 1) := by decide +kernel
theorem dX3_runTest_83 : decode cX3_runTest 83 = .ok (.goto 33, 3) := by decide +kernel
theorem dX3_runTest_86 : decode cX3_runTest 86 = .ok (.iload_n 2, 1) := by decide +kernel
theorem dX3_runTest_87 : decode cX3_runTest 87 = .ok (.aload_n 0, 1) := by decide +kernel
theorem dX3_runTest_88 : decode cX3_runTest 88 = .ok (.getfield 22, 3) := by decide +kernel
theorem dX3_runTest_91 : decode cX3_runTest 91 = .ok (.iconst 0, 1) := by decide +kernel
theorem dX3_runTest_92 : decode cX3_runTest 92 = .ok (.iaload, 1) := by decide +kernel
theorem dX3_runTest_93 : decode cX3_runTest 93 = .ok (.if_icmp .lt 23, 3) := by decide +kernel
theorem dX3_runTest_96 : decode cX3_runTest 96 = .ok (.aload_n 0, 1) := by decide +kernel
theorem dX3_runTest_97 : decode cX3_runTest 97 = .ok (.getfield 40, 3) := by decide +kernel
theorem dX3_runTest_100 : decode cX3_runTest 100 = .ok (.iload_n 1, 1) := by decide +kernel
theorem dX3_runTest_101 : decode cX3_runTest 101 = .ok (.aload_n 0, 1) := by decide +kernel
theorem dX3_runTest_102 : decode cX3_runTest 102 = .ok (.getfield 9, 3) := by decide +kernel
theorem dX3_runTest_105 : decode cX3_runTest 105 = .ok (.aload_n 0, 1) := by decide +kernel
theorem dX3_runTest_106 : decode cX3_runTest 106 = .ok (.getfield 25, 3) := by decide +kernel
theorem dX3_runTest_109 : decode cX3_runTest 109 = .ok (.iload_n 1, 1) := by decide +kernel
theorem dX3_runTest_110 : decode cX3_runTest 110 = .ok (.iaload, 1) := by decide +kernel
theorem dX3_runTest_111 : decode cX3_runTest 111 = .ok (.invokestatic 126, 3) := by decide +kernel
theorem dX3_runTest_114 : decode cX3_runTest 114 = .ok (.iadd, 1) := by decide +kernel
theorem dX3_runTest_115 : decode cX3_runTest 115 = .ok (.iastore, 1) := by decide +kernel
theorem dX3_runTest_116 : decode cX3_runTest 116 = .ok (.iload_n 3, 1) := by decide +kernel
theorem dX3_runTest_117 : decode cX3_runTest 117 = .ok (.ireturn, 1) := by decide +kernel
theorem dX3_greatestSafePressure_0 : decode cX3_greatestSafePressure 0 = .ok (.bipush 24, 2) := by decide +kernel
theorem dX3_greatestSafePressure_2 : decode cX3_greatestSafePressure 2 = .ok (.istore_n 2, 1) := by decide +kernel
theorem dX3_greatestSafePressure_3 : decode cX3_greatestSafePressure 3 = .ok (.iload_n 2, 1) := by decide +kernel
theorem dX3_greatestSafePressure_4 : decode cX3_greatestSafePressure 4 = .ok (.iconst 4, 1) := by decide +kernel
theorem dX3_greatestSafePressure_5 : decode cX3_greatestSafePressure 5 = .ok (.if_icmp .lt 24, 3) := by decide +kernel
theorem dX3_greatestSafePressure_8 : decode cX3_greatestSafePressure 8 = .ok (.aload_n 0, 1) := by decide +kernel
theorem dX3_greatestSafePressure_9 : decode cX3_greatestSafePressure 9 = .ok (.iload_n 1, 1) := by decide +kernel
theorem dX3_greatestSafePressure_10 : decode cX3_greatestSafePressure 10 = .ok (.iload_n 2, 1) := by decide +kernel
theorem dX3_greatestSafePressure_11 : decode cX3_greatestSafePressure 11 = .ok (.invokevirtual 120, 3) := by decide +kernel
theorem dX3_greatestSafePressure_14 : decode cX3_greatestSafePressure 14 = .ok (.iload_n 2, 1) := by decide +kernel
theorem dX3_greatestSafePressure_15 : decode cX3_greatestSafePressure 15 = .ok (.invokestatic 109, 3) := by decide +kernel
theorem dX3_greatestSafePressure_18 : decode cX3_greatestSafePressure 18 = .ok (.if_icmp .ne 5, 3) := by decide +kernel
theorem dX3_greatestSafePressure_21 : decode cX3_greatestSafePressure 21 = .ok (.iload_n 2, 1) := by decide +kernel
theorem dX3_greatestSafePressure_22 : decode cX3_greatestSafePressure 22 = .ok (.ireturn, 1) := by decide +kernel
theorem dX3_greatestSafePressure_23 : decode cX3_greatestSafePressure 23 = .ok (.iinc 2 (-1), 3) := by decide +kernel
theorem dX3_greatestSafePressure_26 : decode cX3_greatestSafePressure 26 = .ok (.goto (-23), 3) := by decide +kernel
theorem dX3_greatestSafePressure_29 : decode cX3_greatestSafePressure 29 = .ok (.iconst (-1), 1) := by decide +kernel
theorem dX3_greatestSafePressure_30 : decode cX3_greatestSafePressure 30 = .ok (.ireturn, 1) := by decide +kernel
theorem dX3_passDay_0 : decode cX3_passDay 0 = .ok (.aload_n 0, 1) := by decide +kernel
theorem dX3_passDay_1 : decode cX3_passDay 1 = .ok (.dup, 1) := by decide +kernel
theorem dX3_passDay_2 : decode cX3_passDay 2 = .ok (.getfield 9, 3) := by decide +kernel
theorem dX3_passDay_5 : decode cX3_passDay 5 = .ok (.iconst 1, 1) := by decide +kernel
theorem dX3_passDay_6 : decode cX3_passDay 6 = .ok (.iadd, 1) := by decide +kernel
theorem dX3_passDay_7 : decode cX3_passDay 7 = .ok (.putfield 9, 3) := by decide +kernel
theorem dX3_passDay_10 : decode cX3_passDay 10 = .ok (.aload_n 0, 1) := by decide +kernel
theorem dX3_passDay_11 : decode cX3_passDay 11 = .ok (.invokevirtual 129, 3) := by decide +kernel
theorem dX3_passDay_14 : decode cX3_passDay 14 = .ok (.aload_n 0, 1) := by decide +kernel
theorem dX3_passDay_15 : decode cX3_passDay 15 = .ok (.getfield 9, 3) := by decide +kernel
theorem dX3_passDay_18 : decode cX3_passDay 18 = .ok (.bipush 10, 2) := by decide +kernel
theorem dX3_passDay_20 : decode cX3_passDay 20 = .ok (.irem, 1) := by decide +kernel
theorem dX3_passDay_21 : decode cX3_passDay 21 = .ok (.ifCond .ne 7, 3) := by decide +kernel
theorem dX3_passDay_24 : decode cX3_passDay 24 = .ok (.aload_n 0, 1) := by decide +kernel
theorem dX3_passDay_25 : decode cX3_passDay 25 = .ok (.invokevirtual 132, 3) := by decide +kernel
theorem dX3_passDay_28 : decode cX3_passDay 28 = .ok (.aload_n 0, 1) := by decide +kernel
theorem dX3_passDay_29 : decode cX3_passDay 29 = .ok (.getfield 9, 3) := by decide +kernel
theorem dX3_passDay_32 : decode cX3_passDay 32 = .ok (.bipush 30, 2) := by decide +kernel
theorem dX3_passDay_34 : decode cX3_passDay 34 = .ok (.irem, 1) := by decide +kernel
theorem dX3_passDay_35 : decode cX3_passDay 35 = .ok (.ifCond .ne 24, 3) := by decide +kernel
theorem dX3_passDay_38 : decode cX3_passDay 38 = .ok (.aload_n 0, 1) := by decide +kernel
theorem dX3_passDay_39 : decode cX3_passDay 39 = .ok (.sipush 9999, 3) := by decide +kernel
theorem dX3_passDay_42 : decode cX3_passDay 42 = .ok (.aload_n 0, 1) := by decide +kernel
theorem dX3_passDay_43 : decode cX3_passDay 43 = .ok (.getfield 15, 3) := by decide +kernel
theorem dX3_passDay_46 : decode cX3_passDay 46 = .ok (.aload_n 0, 1) := by decide +kernel
theorem dX3_passDay_47 : decode cX3_passDay 47 = .ok (.getfield 22, 3) := by decide +kernel
theorem dX3_passDay_50 : decode cX3_passDay 50 = .ok (.iconst 2, 1) := by decide +kernel
theorem dX3_passDay_51 : decode cX3_passDay 51 = .ok (.iaload, 1) := by decide +kernel
theorem dX3_passDay_52 : decode cX3_passDay 52 = .ok (.iadd, 1) := by decide +kernel
theorem dX3_passDay_53 : decode cX3_passDay 53 = .ok (.invokestatic 112, 3) := by decide +kernel
theorem dX3_passDay_56 : decode cX3_passDay 56 = .ok (.putfield 15, 3) := by decide +kernel
theorem dX3_passDay_59 : decode cX3_passDay 59 = .ok (.return_, 1) := by decide +kernel
theorem dX3_takeBackLent_0 : decode cX3_takeBackLent 0 = .ok (.iconst 0, 1) := by decide +kernel
theorem dX3_takeBackLent_1 : decode cX3_takeBackLent 1 = .ok (.istore_n 1, 1) := by decide +kernel
theorem dX3_takeBackLent_2 : decode cX3_takeBackLent 2 = .ok (.iload_n 1, 1) := by decide +kernel
theorem dX3_takeBackLent_3 : decode cX3_takeBackLent 3 = .ok (.aload_n 0, 1) := by decide +kernel
theorem dX3_takeBackLent_4 : decode cX3_takeBackLent 4 = .ok (.getfield 56, 3) := by decide +kernel
theorem dX3_takeBackLent_7 : decode cX3_takeBackLent 7 = .ok (.if_icmp .ge 44, 3) := by decide +kernel
theorem dX3_takeBackLent_10 : decode cX3_takeBackLent 10 = .ok (.aload_n 0, 1) := by decide +kernel
theorem dX3_takeBackLent_11 : decode cX3_takeBackLent 11 = .ok (.iload_n 1, 1) := by decide +kernel
theorem dX3_takeBackLent_12 : decode cX3_takeBackLent 12 = .ok (.invokevirtual 86, 3) := by decide +kernel
theorem dX3_takeBackLent_15 : decode cX3_takeBackLent 15 = .ok (.ifCond .eq 30, 3) := by decide +kernel
theorem dX3_takeBackLent_18 : decode cX3_takeBackLent 18 = .ok (.aload_n 0, 1) := by decide +kernel
theorem dX3_takeBackLent_19 : decode cX3_takeBackLent 19 = .ok (.getfield 46, 3) := by decide +kernel
theorem dX3_takeBackLent_22 : decode cX3_takeBackLent 22 = .ok (.iload_n 1, 1) := by decide +kernel
theorem dX3_takeBackLent_23 : decode cX3_takeBackLent 23 = .ok (.iaload, 1) := by decide +kernel
theorem dX3_takeBackLent_24 : decode cX3_takeBackLent 24 = .ok (.aload_n 0, 1) := by decide +kernel
theorem dX3_takeBackLent_25 : decode cX3_takeBackLent 25 = .ok (.getfield 9, 3) := by decide +kernel
theorem dX3_takeBackLent_28 : decode cX3_takeBackLent 28 = .ok (.if_icmp .ne 17, 3) := by decide +kernel
theorem dX3_takeBackLent_31 : decode cX3_takeBackLent 31 = .ok (.aload_n 0, 1) := by decide +kernel
theorem dX3_takeBackLent_32 : decode cX3_takeBackLent 32 = .ok (.getfield 43, 3) := by decide +kernel
theorem dX3_takeBackLent_35 : decode cX3_takeBackLent 35 = .ok (.iload_n 1, 1) := by decide +kernel
theorem dX3_takeBackLent_36 : decode cX3_takeBackLent 36 = .ok (.iconst 3, 1) := by decide +kernel
theorem dX3_takeBackLent_37 : decode cX3_takeBackLent 37 = .ok (.iastore, 1) := by decide +kernel
theorem dX3_takeBackLent_38 : decode cX3_takeBackLent 38 = .ok (.aload_n 0, 1) := by decide +kernel
theorem dX3_takeBackLent_39 : decode cX3_takeBackLent 39 = .ok (.getfield 46, 3) := by decide +kernel
theorem dX3_takeBackLent_42 : decode cX3_takeBackLent 42 = .ok (.iload_n 1, 1) := by decide +kernel
theorem dX3_takeBackLent_43 : decode cX3_takeBackLent 43 = .ok (.iconst (-1), 1) := by decide +kernel
theorem dX3_takeBackLent_44 : decode cX3_takeBackLent 44 = .ok (.iastore, 1) := by decide +kernel
theorem dX3_takeBackLent_45 : decode cX3_takeBackLent 45 = .ok (.iinc 1 1, 3) := by decide +kernel
theorem dX3_takeBackLent_48 : decode cX3_takeBackLent 48 = .ok (.goto (-46), 3) := by decide +kernel
theorem dX3_takeBackLent_51 : decode cX3_takeBackLent 51 = .ok (.return_, 1) := by decide +kernel
theorem dX3_wearOnTrucks_0 : decode cX3_wearOnTrucks 0 = .ok (.iconst 0, 1) := by decide +kernel
theorem dX3_wearOnTrucks_1 : decode cX3_wearOnTrucks 1 = .ok (.istore_n 1, 1) := by decide +kernel
theorem dX3_wearOnTrucks_2 : decode cX3_wearOnTrucks 2 = .ok (.iload_n 1, 1) := by decide +kernel
theorem dX3_wearOnTrucks_3 : decode cX3_wearOnTrucks 3 = .ok (.aload_n 0, 1) := by decide +kernel
theorem dX3_wearOnTrucks_4 : decode cX3_wearOnTrucks 4 = .ok (.getfield 56, 3) := by decide +kernel
theorem dX3_wearOnTrucks_7 : decode cX3_wearOnTrucks 7 = .ok (.if_icmp .ge 44, 3) := by decide +kernel
theorem dX3_wearOnTrucks_10 : decode cX3_wearOnTrucks 10 = .ok (.aload_n 0, 1) := by decide +kernel
theorem dX3_wearOnTrucks_11 : decode cX3_wearOnTrucks 11 = .ok (.iload_n 1, 1) := by decide +kernel
theorem dX3_wearOnTrucks_12 : decode cX3_wearOnTrucks 12 = .ok (.invokevirtual 135, 3) := by decide +kernel
theorem dX3_wearOnTrucks_15 : decode cX3_wearOnTrucks 15 = .ok (.ifCond .eq 30, 3) := by decide +kernel
theorem dX3_wearOnTrucks_18 : decode cX3_wearOnTrucks 18 = .ok (.aload_n 0, 1) := by decide +kernel
theorem dX3_wearOnTrucks_19 : decode cX3_wearOnTrucks 19 = .ok (.iload_n 1, 1) := by decide +kernel
theorem dX3_wearOnTrucks_20 : decode cX3_wearOnTrucks 20 = .ok (.invokevirtual 138, 3) := by decide +kernel
theorem dX3_wearOnTrucks_23 : decode cX3_wearOnTrucks 23 = .ok (.ifCond .eq 22, 3) := by decide +kernel
theorem dX3_wearOnTrucks_26 : decode cX3_wearOnTrucks 26 = .ok (.aload_n 0, 1) := by decide +kernel
theorem dX3_wearOnTrucks_27 : decode cX3_wearOnTrucks 27 = .ok (.getfield 37, 3) := by decide +kernel
theorem dX3_wearOnTrucks_30 : decode cX3_wearOnTrucks 30 = .ok (.iload_n 1, 1) := by decide +kernel
theorem dX3_wearOnTrucks_31 : decode cX3_wearOnTrucks 31 = .ok (.bipush 99, 2) := by decide +kernel
theorem dX3_wearOnTrucks_33 : decode cX3_wearOnTrucks 33 = .ok (.aload_n 0, 1) := by decide +kernel
theorem dX3_wearOnTrucks_34 : decode cX3_wearOnTrucks 34 = .ok (.getfield 37, 3) := by decide +kernel
theorem dX3_wearOnTrucks_37 : decode cX3_wearOnTrucks 37 = .ok (.iload_n 1, 1) := by decide +kernel
theorem dX3_wearOnTrucks_38 : decode cX3_wearOnTrucks 38 = .ok (.iaload, 1) := by decide +kernel
theorem dX3_wearOnTrucks_39 : decode cX3_wearOnTrucks 39 = .ok (.iconst 1, 1) := by decide +kernel
theorem dX3_wearOnTrucks_40 : decode cX3_wearOnTrucks 40 = .ok (.iadd, 1) := by decide +kernel
theorem dX3_wearOnTrucks_41 : decode cX3_wearOnTrucks 41 = .ok (.invokestatic 112, 3) := by decide +kernel
theorem dX3_wearOnTrucks_44 : decode cX3_wearOnTrucks 44 = .ok (.iastore, 1) := by decide +kernel
theorem dX3_wearOnTrucks_45 : decode cX3_wearOnTrucks 45 = .ok (.iinc 1 1, 3) := by decide +kernel
theorem dX3_wearOnTrucks_48 : decode cX3_wearOnTrucks 48 = .ok (.goto (-46), 3) := by decide +kernel
theorem dX3_wearOnTrucks_51 : decode cX3_wearOnTrucks 51 = .ok (.return_, 1) := by decide +kernel
theorem dX3_hosesAt_0 : decode cX3_hosesAt 0 = .ok (.iconst 0, 1) := by decide +kernel
theorem dX3_hosesAt_1 : decode cX3_hosesAt 1 = .ok (.istore_n 2, 1) := by decide +kernel
theorem dX3_hosesAt_2 : decode cX3_hosesAt 2 = .ok (.iconst 0, 1) := by decide +kernel
theorem dX3_hosesAt_3 : decode cX3_hosesAt 3 = .ok (.istore_n 3, 1) := by decide +kernel
theorem dX3_hosesAt_4 : decode cX3_hosesAt 4 = .ok (.iload_n 3, 1) := by decide +kernel
theorem dX3_hosesAt_5 : decode cX3_hosesAt 5 = .ok (.aload_n 0, 1) := by decide +kernel
theorem dX3_hosesAt_6 : decode cX3_hosesAt 6 = .ok (.getfield 56, 3) := by decide +kernel
theorem dX3_hosesAt_9 : decode cX3_hosesAt 9 = .ok (.if_icmp .ge 22, 3) := by decide +kernel
theorem dX3_hosesAt_12 : decode cX3_hosesAt 12 = .ok (.aload_n 0, 1) := by decide +kernel
theorem dX3_hosesAt_13 : decode cX3_hosesAt 13 = .ok (.getfield 43, 3) := by decide +kernel
theorem dX3_hosesAt_16 : decode cX3_hosesAt 16 = .ok (.iload_n 3, 1) := by decide +kernel
theorem dX3_hosesAt_17 : decode cX3_hosesAt 17 = .ok (.iaload, 1) := by decide +kernel
theorem dX3_hosesAt_18 : decode cX3_hosesAt 18 = .ok (.iload_n 1, 1) := by decide +kernel
theorem dX3_hosesAt_19 : decode cX3_hosesAt 19 = .ok (.if_icmp .ne 6, 3) := by decide +kernel
theorem dX3_hosesAt_22 : decode cX3_hosesAt 22 = .ok (.iinc 2 1, 3) := by decide +kernel
theorem dX3_hosesAt_25 : decode cX3_hosesAt 25 = .ok (.iinc 3 1, 3) := by decide +kernel
theorem dX3_hosesAt_28 : decode cX3_hosesAt 28 = .ok (.goto (-24), 3) := by decide +kernel
theorem dX3_hosesAt_31 : decode cX3_hosesAt 31 = .ok (.iload_n 2, 1) := by decide +kernel
theorem dX3_hosesAt_32 : decode cX3_hosesAt 32 = .ok (.ireturn, 1) := by decide +kernel
theorem dX3_readyHosesAt_0 : decode cX3_readyHosesAt 0 = .ok (.iconst 0, 1) := by decide +kernel
theorem dX3_readyHosesAt_1 : decode cX3_readyHosesAt 1 = .ok (.istore_n 2, 1) := by decide +kernel
theorem dX3_readyHosesAt_2 : decode cX3_readyHosesAt 2 = .ok (.iconst 0, 1) := by decide +kernel
theorem dX3_readyHosesAt_3 : decode cX3_readyHosesAt 3 = .ok (.istore_n 3, 1) := by decide +kernel
theorem dX3_readyHosesAt_4 : decode cX3_readyHosesAt 4 = .ok (.iload_n 3, 1) := by decide +kernel
theorem dX3_readyHosesAt_5 : decode cX3_readyHosesAt 5 = .ok (.aload_n 0, 1) := by decide +kernel
theorem dX3_readyHosesAt_6 : decode cX3_readyHosesAt 6 = .ok (.getfield 56, 3) := by decide +kernel
theorem dX3_readyHosesAt_9 : decode cX3_readyHosesAt 9 = .ok (.if_icmp .ge 30, 3) := by decide +kernel
theorem dX3_readyHosesAt_12 : decode cX3_readyHosesAt 12 = .ok (.aload_n 0, 1) := by decide +kernel
theorem dX3_readyHosesAt_13 : decode cX3_readyHosesAt 13 = .ok (.getfield 43, 3) := by decide +kernel
theorem dX3_readyHosesAt_16 : decode cX3_readyHosesAt 16 = .ok (.iload_n 3, 1) := by decide +kernel
theorem dX3_readyHosesAt_17 : decode cX3_readyHosesAt 17 = .ok (.iaload, 1) := by decide +kernel
theorem dX3_readyHosesAt_18 : decode cX3_readyHosesAt 18 = .ok (.iload_n 1, 1) := by decide +kernel
theorem dX3_readyHosesAt_19 : decode cX3_readyHosesAt 19 = .ok (.if_icmp .ne 14, 3) := by decide +kernel
theorem dX3_readyHosesAt_22 : decode cX3_readyHosesAt 22 = .ok (.aload_n 0, 1) := by decide +kernel
theorem dX3_readyHosesAt_23 : decode cX3_readyHosesAt 23 = .ok (.iload_n 3, 1) := by decide +kernel
theorem dX3_readyHosesAt_24 : decode cX3_readyHosesAt 24 = .ok (.invokevirtual 138, 3) := by decide +kernel
theorem dX3_readyHosesAt_27 : decode cX3_readyHosesAt 27 = .ok (.ifCond .eq 6, 3) := by decide +kernel
theorem dX3_readyHosesAt_30 : decode cX3_readyHosesAt 30 = .ok (.iinc 2 1, 3) := by decide +kernel
theorem dX3_readyHosesAt_33 : decode cX3_readyHosesAt 33 = .ok (.iinc 3 1, 3) := by decide +kernel
theorem dX3_readyHosesAt_36 : decode cX3_readyHosesAt 36 = .ok (.goto (-32), 3) := by decide +kernel
theorem dX3_readyHosesAt_39 : decode cX3_readyHosesAt 39 = .ok (.iload_n 2, 1) := by decide +kernel
theorem dX3_readyHosesAt_40 : decode cX3_readyHosesAt 40 = .ok (.ireturn, 1) := by decide +kernel
theorem dX3_readyHoses_0 : decode cX3_readyHoses 0 = .ok (.iconst 0, 1) := by decide +kernel
theorem dX3_readyHoses_1 : decode cX3_readyHoses 1 = .ok (.istore_n 1, 1) := by decide +kernel
theorem dX3_readyHoses_2 : decode cX3_readyHoses 2 = .ok (.iconst 0, 1) := by decide +kernel
theorem dX3_readyHoses_3 : decode cX3_readyHoses 3 = .ok (.istore_n 2, 1) := by decide +kernel
theorem dX3_readyHoses_4 : decode cX3_readyHoses 4 = .ok (.iload_n 2, 1) := by decide +kernel
theorem dX3_readyHoses_5 : decode cX3_readyHoses 5 = .ok (.aload_n 0, 1) := by decide +kernel
theorem dX3_readyHoses_6 : decode cX3_readyHoses 6 = .ok (.getfield 56, 3) := by decide +kernel
theorem dX3_readyHoses_9 : decode cX3_readyHoses 9 = .ok (.if_icmp .ge 20, 3) := by decide +kernel
theorem dX3_readyHoses_12 : decode cX3_readyHoses 12 = .ok (.aload_n 0, 1) := by decide +kernel
theorem dX3_readyHoses_13 : decode cX3_readyHoses 13 = .ok (.iload_n 2, 1) := by decide +kernel
theorem dX3_readyHoses_14 : decode cX3_readyHoses 14 = .ok (.invokevirtual 138, 3) := by decide +kernel
theorem dX3_readyHoses_17 : decode cX3_readyHoses 17 = .ok (.ifCond .eq 6, 3) := by decide +kernel
theorem dX3_readyHoses_20 : decode cX3_readyHoses 20 = .ok (.iinc 1 1, 3) := by decide +kernel
theorem dX3_readyHoses_23 : decode cX3_readyHoses 23 = .ok (.iinc 2 1, 3) := by decide +kernel
theorem dX3_readyHoses_26 : decode cX3_readyHoses 26 = .ok (.goto (-22), 3) := by decide +kernel
theorem dX3_readyHoses_29 : decode cX3_readyHoses 29 = .ok (.iload_n 1, 1) := by decide +kernel
theorem dX3_readyHoses_30 : decode cX3_readyHoses 30 = .ok (.ireturn, 1) := by decide +kernel
theorem dX3_layLine_0 : decode cX3_layLine 0 = .ok (.aload_n 0, 1) := by decide +kernel
theorem dX3_layLine_1 : decode cX3_layLine 1 = .ok (.getfield 52, 3) := by decide +kernel
theorem dX3_layLine_4 : decode cX3_layLine 4 = .ok (.invokevirtual 141, 3) := by decide +kernel
theorem dX3_layLine_7 : decode cX3_layLine 7 = .ok (.iconst 0, 1) := by decide +kernel
theorem dX3_layLine_8 : decode cX3_layLine 8 = .ok (.istore_n 3, 1) := by decide +kernel
theorem dX3_layLine_9 : decode cX3_layLine 9 = .ok (.iload_n 3, 1) := by decide +kernel
theorem dX3_layLine_10 : decode cX3_layLine 10 = .ok (.aload_n 0, 1) := by decide +kernel
theorem dX3_layLine_11 : decode cX3_layLine 11 = .ok (.getfield 56, 3) := by decide +kernel
theorem dX3_layLine_14 : decode cX3_layLine 14 = .ok (.if_icmp .ge 58, 3) := by decide +kernel
theorem dX3_layLine_17 : decode cX3_layLine 17 = .ok (.aload_n 0, 1) := by decide +kernel
theorem dX3_layLine_18 : decode cX3_layLine 18 = .ok (.getfield 43, 3) := by decide +kernel
theorem dX3_layLine_21 : decode cX3_layLine 21 = .ok (.iload_n 3, 1) := by decide +kernel
theorem dX3_layLine_22 : decode cX3_layLine 22 = .ok (.iaload, 1) := by decide +kernel
theorem dX3_layLine_23 : decode cX3_layLine 23 = .ok (.iload_n 1, 1) := by decide +kernel
theorem dX3_layLine_24 : decode cX3_layLine 24 = .ok (.if_icmp .eq 8, 3) := by decide +kernel
theorem dX3_layLine_27 : decode cX3_layLine 27 = .ok (.iload_n 3, 1) := by decide +kernel
theorem dX3_layLine_28 : decode cX3_layLine 28 = .ok (.iload_n 2, 1) := by decide +kernel
theorem dX3_layLine_29 : decode cX3_layLine 29 = .ok (.if_icmp .ne 37, 3) := by decide +kernel
theorem dX3_layLine_32 : decode cX3_layLine 32 = .ok (.aload_n 0, 1) := by decide +kernel
theorem dX3_layLine_33 : decode cX3_layLine 33 = .ok (.iload_n 3, 1) := by decide +kernel
theorem dX3_layLine_34 : decode cX3_layLine 34 = .ok (.invokevirtual 138, 3) := by decide +kernel
theorem dX3_layLine_37 : decode cX3_layLine 37 = .ok (.ifCond .eq 29, 3) := by decide +kernel
theorem dX3_layLine_40 : decode cX3_layLine 40 = .ok (.aload_n 0, 1) := by decide +kernel
theorem dX3_layLine_41 : decode cX3_layLine 41 = .ok (.getfield 52, 3) := by decide +kernel
theorem dX3_layLine_44 : decode cX3_layLine 44 = .ok (.iload_n 3, 1) := by decide +kernel
theorem dX3_layLine_45 : decode cX3_layLine 45 = .ok (.aload_n 0, 1) := by decide +kernel
theorem dX3_layLine_46 : decode cX3_layLine 46 = .ok (.getfield 28, 3) := by decide +kernel
theorem dX3_layLine_49 : decode cX3_layLine 49 = .ok (.iload_n 3, 1) := by decide +kernel
theorem dX3_layLine_50 : decode cX3_layLine 50 = .ok (.iaload, 1) := by decide +kernel
theorem dX3_layLine_51 : decode cX3_layLine 51 = .ok (.aload_n 0, 1) := by decide +kernel
theorem dX3_layLine_52 : decode cX3_layLine 52 = .ok (.getfield 31, 3) := by decide +kernel
theorem dX3_layLine_55 : decode cX3_layLine 55 = .ok (.iload_n 3, 1) := by decide +kernel
theorem dX3_layLine_56 : decode cX3_layLine 56 = .ok (.iaload, 1) := by decide +kernel
theorem dX3_layLine_57 : decode cX3_layLine 57 = .ok (.aload_n 0, 1) := by decide +kernel
theorem dX3_layLine_58 : decode cX3_layLine 58 = .ok (.getfield 22, 3) := by decide +kernel
theorem dX3_layLine_61 : decode cX3_layLine 61 = .ok (.iconst 1, 1) := by decide +kernel
theorem dX3_layLine_62 : decode cX3_layLine 62 = .ok (.iaload, 1) := by decide +kernel
theorem dX3_layLine_63 : decode cX3_layLine 63 = .ok (.invokevirtual 144, 3) := by decide +kernel
theorem dX3_layLine_66 : decode cX3_layLine 66 = .ok (.iinc 3 1, 3) := by decide +kernel
theorem dX3_layLine_69 : decode cX3_layLine 69 = .ok (.goto (-60), 3) := by decide +kernel
theorem dX3_layLine_72 : decode cX3_layLine 72 = .ok (.aload_n 0, 1) := by decide +kernel
theorem dX3_layLine_73 : decode cX3_layLine 73 = .ok (.getfield 52, 3) := by decide +kernel
theorem dX3_layLine_76 : decode cX3_layLine 76 = .ok (.getfield 148, 3) := by decide +kernel
theorem dX3_layLine_79 : decode cX3_layLine 79 = .ok (.aload_n 0, 1) := by decide +kernel
theorem dX3_layLine_80 : decode cX3_layLine 80 = .ok (.getfield 18, 3) := by decide +kernel
theorem dX3_layLine_83 : decode cX3_layLine 83 = .ok (.iload_n 1, 1) := by decide +kernel
theorem dX3_layLine_84 : decode cX3_layLine 84 = .ok (.iaload, 1) := by decide +kernel
theorem dX3_layLine_85 : decode cX3_layLine 85 = .ok (.if_icmp .lt 7, 3) := by decide +kernel
theorem dX3_layLine_88 : decode cX3_layLine 88 = .ok (.iconst 1, 1) := by decide +kernel
theorem dX3_layLine_89 : decode cX3_layLine 89 = .ok (.goto 4, 3) := by decide +kernel
theorem dX3_layLine_92 : decode cX3_layLine 92 = .ok (.iconst 0, 1) := by decide +kernel
theorem dX3_layLine_93 : decode cX3_layLine 93 = .ok (.ireturn, 1) := by decide +kernel
theorem dX3_wholeTrucks_0 : decode cX3_wholeTrucks 0 = .ok (.iconst 0, 1) := by decide +kernel
theorem dX3_wholeTrucks_1 : decode cX3_wholeTrucks 1 = .ok (.istore_n 1, 1) := by decide +kernel
theorem dX3_wholeTrucks_2 : decode cX3_wholeTrucks 2 = .ok (.iconst 0, 1) := by decide +kernel
theorem dX3_wholeTrucks_3 : decode cX3_wholeTrucks 3 = .ok (.istore_n 2, 1) := by decide +kernel
theorem dX3_wholeTrucks_4 : decode cX3_wholeTrucks 4 = .ok (.iload_n 2, 1) := by decide +kernel
theorem dX3_wholeTrucks_5 : decode cX3_wholeTrucks 5 = .ok (.iconst 3, 1) := by decide +kernel
theorem dX3_wholeTrucks_6 : decode cX3_wholeTrucks 6 = .ok (.if_icmp .ge 21, 3) := by decide +kernel
theorem dX3_wholeTrucks_9 : decode cX3_wholeTrucks 9 = .ok (.aload_n 0, 1) := by decide +kernel
theorem dX3_wholeTrucks_10 : decode cX3_wholeTrucks 10 = .ok (.iload_n 2, 1) := by decide +kernel
theorem dX3_wholeTrucks_11 : decode cX3_wholeTrucks 11 = .ok (.iconst (-1), 1) := by decide +kernel
theorem dX3_wholeTrucks_12 : decode cX3_wholeTrucks 12 = .ok (.invokevirtual 151, 3) := by decide +kernel
theorem dX3_wholeTrucks_15 : decode cX3_wholeTrucks 15 = .ok (.ifCond .eq 6, 3) := by decide +kernel
theorem dX3_wholeTrucks_18 : decode cX3_wholeTrucks 18 = .ok (.iinc 1 1, 3) := by decide +kernel
theorem dX3_wholeTrucks_21 : decode cX3_wholeTrucks 21 = .ok (.iinc 2 1, 3) := by decide +kernel
theorem dX3_wholeTrucks_24 : decode cX3_wholeTrucks 24 = .ok (.goto (-20), 3) := by decide +kernel
theorem dX3_wholeTrucks_27 : decode cX3_wholeTrucks 27 = .ok (.iload_n 1, 1) := by decide +kernel
theorem dX3_wholeTrucks_28 : decode cX3_wholeTrucks 28 = .ok (.ireturn, 1) := by decide +kernel
theorem dX3_cheapestHelp_0 : decode cX3_cheapestHelp 0 = .ok (.aload_n 0, 1) := by decide +kernel
theorem dX3_cheapestHelp_1 : decode cX3_cheapestHelp 1 = .ok (.iload_n 1, 1) := by decide +kernel
theorem dX3_cheapestHelp_2 : decode cX3_cheapestHelp 2 = .ok (.iconst (-1), 1) := by decide +kernel
theorem dX3_cheapestHelp_3 : decode cX3_cheapestHelp 3 = .ok (.invokevirtual 151, 3) := by decide +kernel
theorem dX3_cheapestHelp_6 : decode cX3_cheapestHelp 6 = .ok (.ifCond .eq 5, 3) := by decide +kernel
theorem dX3_cheapestHelp_9 : decode cX3_cheapestHelp 9 = .ok (.iconst (-1), 1) := by decide +kernel
theorem dX3_cheapestHelp_10 : decode cX3_cheapestHelp 10 = .ok (.ireturn, 1) := by decide +kernel
theorem dX3_cheapestHelp_11 : decode cX3_cheapestHelp 11 = .ok (.iconst (-1), 1) := by decide +kernel
theorem dX3_cheapestHelp_12 : decode cX3_cheapestHelp 12 = .ok (.istore_n 2, 1) := by decide +kernel
theorem dX3_cheapestHelp_13 : decode cX3_cheapestHelp 13 = .ok (.iconst 0, 1) := by decide +kernel
theorem dX3_cheapestHelp_14 : decode cX3_cheapestHelp 14 = .ok (.istore_n 3, 1) := by decide +kernel
theorem dX3_cheapestHelp_15 : decode cX3_cheapestHelp 15 = .ok (.iconst 0, 1) := by decide +kernel
theorem dX3_cheapestHelp_16 : decode cX3_cheapestHelp 16 = .ok (.istore 4, 2) := by decide +kernel
theorem dX3_cheapestHelp_18 : decode cX3_cheapestHelp 18 = .ok (.iload 4, 2) := by decide +kernel
theorem dX3_cheapestHelp_20 : decode cX3_cheapestHelp 20 = .ok (.aload_n 0, 1) := by decide +kernel
theorem dX3_cheapestHelp_21 : decode cX3_cheapestHelp 21 = .ok (.getfield 56, 3) := by decide +kernel
theorem dX3_cheapestHelp_24 : decode cX3_cheapestHelp 24 = .ok (.if_icmp .ge 76, 3) := by decide +kernel
theorem dX3_cheapestHelp_27 : decode cX3_cheapestHelp 27 = .ok (.aload_n 0, 1) := by decide +kernel
theorem dX3_cheapestHelp_28 : decode cX3_cheapestHelp 28 = .ok (.getfield 43, 3) := by decide +kernel
theorem dX3_cheapestHelp_31 : decode cX3_cheapestHelp 31 = .ok (.iload 4, 2) := by decide +kernel
theorem dX3_cheapestHelp_33 : decode cX3_cheapestHelp 33 = .ok (.iaload, 1) := by decide +kernel
theorem dX3_cheapestHelp_34 : decode cX3_cheapestHelp 34 = .ok (.iconst 3, 1) := by decide +kernel
theorem dX3_cheapestHelp_35 : decode cX3_cheapestHelp 35 = .ok (.if_icmp .ne 26, 3) := by decide +kernel
theorem dX3_cheapestHelp_38 : decode cX3_cheapestHelp 38 = .ok (.aload_n 0, 1) := by decide +kernel
theorem dX3_cheapestHelp_39 : decode cX3_cheapestHelp 39 = .ok (.iload 4, 2) := by decide +kernel
theorem dX3_cheapestHelp_41 : decode cX3_cheapestHelp 41 = .ok (.invokevirtual 138, 3) := by decide +kernel
theorem dX3_cheapestHelp_44 : decode cX3_cheapestHelp 44 = .ok (.ifCond .eq 17, 3) := by decide +kernel
theorem dX3_cheapestHelp_47 : decode cX3_cheapestHelp 47 = .ok (.aload_n 0, 1) := by decide +kernel
theorem dX3_cheapestHelp_48 : decode cX3_cheapestHelp 48 = .ok (.iload_n 1, 1) := by decide +kernel
theorem dX3_cheapestHelp_49 : decode cX3_cheapestHelp 49 = .ok (.iload 4, 2) := by decide +kernel
theorem dX3_cheapestHelp_51 : decode cX3_cheapestHelp 51 = .ok (.invokevirtual 151, 3) := by decide +kernel
theorem dX3_cheapestHelp_54 : decode cX3_cheapestHelp 54 = .ok (.ifCond .eq 7, 3) := by decide +kernel
theorem dX3_cheapestHelp_57 : decode cX3_cheapestHelp 57 = .ok (.iconst 1, 1) := by decide +kernel
theorem dX3_cheapestHelp_58 : decode cX3_cheapestHelp 58 = .ok (.goto 4, 3) := by decide +kernel
theorem dX3_cheapestHelp_61 : decode cX3_cheapestHelp 61 = .ok (.iconst 0, 1) := by decide +kernel
theorem dX3_cheapestHelp_62 : decode cX3_cheapestHelp 62 = .ok (.istore 5, 2) := by decide +kernel
theorem dX3_cheapestHelp_64 : decode cX3_cheapestHelp 64 = .ok (.iload 5, 2) := by decide +kernel
theorem dX3_cheapestHelp_66 : decode cX3_cheapestHelp 66 = .ok (.ifCond .eq 28, 3) := by decide +kernel
theorem dX3_cheapestHelp_69 : decode cX3_cheapestHelp 69 = .ok (.iload_n 2, 1) := by decide +kernel
theorem dX3_cheapestHelp_70 : decode cX3_cheapestHelp 70 = .ok (.iconst (-1), 1) := by decide +kernel
theorem dX3_cheapestHelp_71 : decode cX3_cheapestHelp 71 = .ok (.if_icmp .eq 13, 3) := by decide +kernel
theorem dX3_cheapestHelp_74 : decode cX3_cheapestHelp 74 = .ok (.aload_n 0, 1) := by decide +kernel
theorem dX3_cheapestHelp_75 : decode cX3_cheapestHelp 75 = .ok (.iload 4, 2) := by decide +kernel
theorem dX3_cheapestHelp_77 : decode cX3_cheapestHelp 77 = .ok (.invokevirtual 102, 3) := by decide +kernel
theorem dX3_cheapestHelp_80 : decode cX3_cheapestHelp 80 = .ok (.iload_n 3, 1) := by decide +kernel
theorem dX3_cheapestHelp_81 : decode cX3_cheapestHelp 81 = .ok (.if_icmp .ge 13, 3) := by decide +kernel
theorem dX3_cheapestHelp_84 : decode cX3_cheapestHelp 84 = .ok (.iload 4, 2) := by decide +kernel
theorem dX3_cheapestHelp_86 : decode cX3_cheapestHelp 86 = .ok (.istore_n 2, 1) := by decide +kernel
theorem dX3_cheapestHelp_87 : decode cX3_cheapestHelp 87 = .ok (.aload_n 0, 1) := by decide +kernel
theorem dX3_cheapestHelp_88 : decode cX3_cheapestHelp 88 = .ok (.iload 4, 2) := by decide +kernel
theorem dX3_cheapestHelp_90 : decode cX3_cheapestHelp 90 = .ok (.invokevirtual 102, 3) := by decide +kernel
theorem dX3_cheapestHelp_93 : decode cX3_cheapestHelp 93 = .ok (.istore_n 3, 1) := by decide +kernel
theorem dX3_cheapestHelp_94 : decode cX3_cheapestHelp 94 = .ok (.iinc 4 1, 3) := by decide +kernel
theorem dX3_cheapestHelp_97 : decode cX3_cheapestHelp 97 = .ok (.goto (-79), 3) := by decide +kernel
theorem dX3_cheapestHelp_100 : decode cX3_cheapestHelp 100 = .ok (.iload_n 2, 1) := by decide +kernel
theorem dX3_cheapestHelp_101 : decode cX3_cheapestHelp 101 = .ok (.ireturn, 1) := by decide +kernel
theorem dX3_daysToFirstLapse_0 : decode cX3_daysToFirstLapse 0 = .ok (.iconst (-1), 1) := by decide +kernel
theorem dX3_daysToFirstLapse_1 : decode cX3_daysToFirstLapse 1 = .ok (.istore_n 1, 1) := by decide +kernel
theorem dX3_daysToFirstLapse_2 : decode cX3_daysToFirstLapse 2 = .ok (.iconst 0, 1) := by decide +kernel
theorem dX3_daysToFirstLapse_3 : decode cX3_daysToFirstLapse 3 = .ok (.istore_n 2, 1) := by decide +kernel
theorem dX3_daysToFirstLapse_4 : decode cX3_daysToFirstLapse 4 = .ok (.iload_n 2, 1) := by decide +kernel
theorem dX3_daysToFirstLapse_5 : decode cX3_daysToFirstLapse 5 = .ok (.aload_n 0, 1) := by decide +kernel
theorem dX3_daysToFirstLapse_6 : decode cX3_daysToFirstLapse 6 = .ok (.getfield 56, 3) := by decide +kernel
theorem dX3_daysToFirstLapse_9 : decode cX3_daysToFirstLapse 9 = .ok (.if_icmp .ge 70, 3) := by decide +kernel
theorem dX3_daysToFirstLapse_12 : decode cX3_daysToFirstLapse 12 = .ok (.aload_n 0, 1) := by decide +kernel
theorem dX3_daysToFirstLapse_13 : decode cX3_daysToFirstLapse 13 = .ok (.iload_n 2, 1) := by decide +kernel
theorem dX3_daysToFirstLapse_14 : decode cX3_daysToFirstLapse 14 = .ok (.invokevirtual 138, 3) := by decide +kernel
theorem dX3_daysToFirstLapse_17 : decode cX3_daysToFirstLapse 17 = .ok (.ifCond .eq 56, 3) := by decide +kernel
theorem dX3_daysToFirstLapse_20 : decode cX3_daysToFirstLapse 20 = .ok (.aload_n 0, 1) := by decide +kernel
theorem dX3_daysToFirstLapse_21 : decode cX3_daysToFirstLapse 21 = .ok (.getfield 40, 3) := by decide +kernel
theorem dX3_daysToFirstLapse_24 : decode cX3_daysToFirstLapse 24 = .ok (.iload_n 2, 1) := by decide +kernel
theorem dX3_daysToFirstLapse_25 : decode cX3_daysToFirstLapse 25 = .ok (.iaload, 1) := by decide +kernel
theorem dX3_daysToFirstLapse_26 : decode cX3_daysToFirstLapse 26 = .ok (.aload_n 0, 1) := by decide +kernel
theorem dX3_daysToFirstLapse_27 : decode cX3_daysToFirstLapse 27 = .ok (.getfield 34, 3) := by decide +kernel
theorem dX3_daysToFirstLapse_30 : decode cX3_daysToFirstLapse 30 = .ok (.iload_n 2, 1) := by decide +kernel
theorem dX3_daysToFirstLapse_31 : decode cX3_daysToFirstLapse 31 = .ok (.iaload, 1) := by decide +kernel
theorem dX3_daysToFirstLapse_32 : decode cX3_daysToFirstLapse 32 = .ok (.aload_n 0, 1) := by decide +kernel
theorem dX3_daysToFirstLapse_33 : decode cX3_daysToFirstLapse 33 = .ok (.getfield 25, 3) := by decide +kernel
theorem dX3_daysToFirstLapse_36 : decode cX3_daysToFirstLapse 36 = .ok (.iload_n 2, 1) := by decide +kernel
theorem dX3_daysToFirstLapse_37 : decode cX3_daysToFirstLapse 37 = .ok (.iaload, 1) := by decide +kernel
theorem dX3_daysToFirstLapse_38 : decode cX3_daysToFirstLapse 38 = .ok (.invokestatic 89, 3) := by decide +kernel
theorem dX3_daysToFirstLapse_41 : decode cX3_daysToFirstLapse 41 = .ok (.iadd, 1) := by decide +kernel
theorem dX3_daysToFirstLapse_42 : decode cX3_daysToFirstLapse 42 = .ok (.invokestatic 112, 3) := by decide +kernel
theorem dX3_daysToFirstLapse_45 : decode cX3_daysToFirstLapse 45 = .ok (.istore_n 3, 1) := by decide +kernel
theorem dX3_daysToFirstLapse_46 : decode cX3_daysToFirstLapse 46 = .ok (.iload_n 3, 1) := by decide +kernel
theorem dX3_daysToFirstLapse_47 : decode cX3_daysToFirstLapse 47 = .ok (.iconst 1, 1) := by decide +kernel
theorem dX3_daysToFirstLapse_48 : decode cX3_daysToFirstLapse 48 = .ok (.iadd, 1) := by decide +kernel
theorem dX3_daysToFirstLapse_49 : decode cX3_daysToFirstLapse 49 = .ok (.aload_n 0, 1) := by decide +kernel
theorem dX3_daysToFirstLapse_50 : decode cX3_daysToFirstLapse 50 = .ok (.getfield 9, 3) := by decide +kernel
theorem dX3_daysToFirstLapse_53 : decode cX3_daysToFirstLapse 53 = .ok (.isub, 1) := by decide +kernel
theorem dX3_daysToFirstLapse_54 : decode cX3_daysToFirstLapse 54 = .ok (.istore 4, 2) := by decide +kernel
theorem dX3_daysToFirstLapse_56 : decode cX3_daysToFirstLapse 56 = .ok (.iload_n 1, 1) := by decide +kernel
theorem dX3_daysToFirstLapse_57 : decode cX3_daysToFirstLapse 57 = .ok (.iconst (-1), 1) := by decide +kernel
theorem dX3_daysToFirstLapse_58 : decode cX3_daysToFirstLapse 58 = .ok (.if_icmp .ne 8, 3) := by decide +kernel
theorem dX3_daysToFirstLapse_61 : decode cX3_daysToFirstLapse 61 = .ok (.iload 4, 2) := by decide +kernel
theorem dX3_daysToFirstLapse_63 : decode cX3_daysToFirstLapse 63 = .ok (.goto 9, 3) := by decide +kernel
theorem dX3_daysToFirstLapse_66 : decode cX3_daysToFirstLapse 66 = .ok (.iload_n 1, 1) := by decide +kernel
theorem dX3_daysToFirstLapse_67 : decode cX3_daysToFirstLapse 67 = .ok (.iload 4, 2) := by decide +kernel
theorem dX3_daysToFirstLapse_69 : decode cX3_daysToFirstLapse 69 = .ok (.invokestatic 112, 3) := by decide +kernel
theorem dX3_daysToFirstLapse_72 : decode cX3_daysToFirstLapse 72 = .ok (.istore_n 1, 1) := by decide +kernel
theorem dX3_daysToFirstLapse_73 : decode cX3_daysToFirstLapse 73 = .ok (.iinc 2 1, 3) := by decide +kernel
theorem dX3_daysToFirstLapse_76 : decode cX3_daysToFirstLapse 76 = .ok (.goto (-72), 3) := by decide +kernel
theorem dX3_daysToFirstLapse_79 : decode cX3_daysToFirstLapse 79 = .ok (.iload_n 1, 1) := by decide +kernel
theorem dX3_daysToFirstLapse_80 : decode cX3_daysToFirstLapse 80 = .ok (.ireturn, 1) := by decide +kernel
theorem dX4_init_0 : decode cX4_init 0 = .ok (.aload_n 0, 1) := by decide +kernel
theorem dX4_init_1 : decode cX4_init 1 = .ok (.invokespecial 1, 3) := by decide +kernel
theorem dX4_init_4 : decode cX4_init 4 = .ok (.aload_n 0, 1) := by decide +kernel
theorem dX4_init_5 : decode cX4_init 5 = .ok (.new 7, 3) := by decide +kernel
theorem dX4_init_8 : decode cX4_init 8 = .ok (.dup, 1) := by decide +kernel
theorem dX4_init_9 : decode cX4_init 9 = .ok (.invokespecial 9, 3) := by decide +kernel
theorem dX4_init_12 : decode cX4_init 12 = .ok (.putfield 10, 3) := by decide +kernel
theorem dX4_init_15 : decode cX4_init 15 = .ok (.aload_n 0, 1) := by decide +kernel
theorem dX4_init_16 : decode cX4_init 16 = .ok (.bipush 6, 2) := by decide +kernel
theorem dX4_init_18 : decode cX4_init 18 = .ok (.anewarray 7, 3) := by decide +kernel
theorem dX4_init_21 : decode cX4_init 21 = .ok (.putfield 16, 3) := by decide +kernel
theorem dX4_init_24 : decode cX4_init 24 = .ok (.iconst 0, 1) := by decide +kernel
theorem dX4_init_25 : decode cX4_init 25 = .ok (.istore_n 1, 1) := by decide +kernel
theorem dX4_init_26 : decode cX4_init 26 = .ok (.iload_n 1, 1) := by decide +kernel
theorem dX4_init_27 : decode cX4_init 27 = .ok (.bipush 6, 2) := by decide +kernel
theorem dX4_init_29 : decode cX4_init 29 = .ok (.if_icmp .ge 22, 3) := by decide +kernel
theorem dX4_init_32 : decode cX4_init 32 = .ok (.aload_n 0, 1) := by decide +kernel
theorem dX4_init_33 : decode cX4_init 33 = .ok (.getfield 16, 3) := by decide +kernel
theorem dX4_init_36 : decode cX4_init 36 = .ok (.iload_n 1, 1) := by decide +kernel
theorem dX4_init_37 : decode cX4_init 37 = .ok (.new 7, 3) := by decide +kernel
theorem dX4_init_40 : decode cX4_init 40 = .ok (.dup, 1) := by decide +kernel
theorem dX4_init_41 : decode cX4_init 41 = .ok (.invokespecial 9, 3) := by decide +kernel
theorem dX4_init_44 : decode cX4_init 44 = .ok (.aastore, 1) := by decide +kernel
theorem dX4_init_45 : decode cX4_init 45 = .ok (.iinc 1 1, 3) := by decide +kernel
theorem dX4_init_48 : decode cX4_init 48 = .ok (.goto (-22), 3) := by decide +kernel
theorem dX4_init_51 : decode cX4_init 51 = .ok (.aload_n 0, 1) := by decide +kernel
theorem dX4_init_52 : decode cX4_init 52 = .ok (.iconst 0, 1) := by decide +kernel
theorem dX4_init_53 : decode cX4_init 53 = .ok (.putfield 20, 3) := by decide +kernel
theorem dX4_init_56 : decode cX4_init 56 = .ok (.aload_n 0, 1) := by decide +kernel
theorem dX4_init_57 : decode cX4_init 57 = .ok (.iconst 0, 1) := by decide +kernel
theorem dX4_init_58 : decode cX4_init 58 = .ok (.putfield 24, 3) := by decide +kernel
theorem dX4_init_61 : decode cX4_init 61 = .ok (.aload_n 0, 1) := by decide +kernel
theorem dX4_init_62 : decode cX4_init 62 = .ok (.new 27, 3) := by decide +kernel
theorem dX4_init_65 : decode cX4_init 65 = .ok (.dup, 1) := by decide +kernel
theorem dX4_init_66 : decode cX4_init 66 = .ok (.invokespecial 29, 3) := by decide +kernel
theorem dX4_init_69 : decode cX4_init 69 = .ok (.putfield 30, 3) := by decide +kernel
theorem dX4_init_72 : decode cX4_init 72 = .ok (.return_, 1) := by decide +kernel
theorem dX4_buy_0 : decode cX4_buy 0 = .ok (.iload_n 1, 1) := by decide +kernel
theorem dX4_buy_1 : decode cX4_buy 1 = .ok (.iconst 0, 1) := by decide +kernel
theorem dX4_buy_2 : decode cX4_buy 2 = .ok (.iconst 2, 1) := by decide +kernel
theorem dX4_buy_3 : decode cX4_buy 3 = .ok (.invokestatic 34, 3) := by decide +kernel
theorem dX4_buy_6 : decode cX4_buy 6 = .ok (.ifCond .eq 22, 3) := by decide +kernel
theorem dX4_buy_9 : decode cX4_buy 9 = .ok (.iload_n 2, 1) := by decide +kernel
theorem dX4_buy_10 : decode cX4_buy 10 = .ok (.iconst 5, 1) := by decide +kernel
theorem dX4_buy_11 : decode cX4_buy 11 = .ok (.bipush 50, 2) := by decide +kernel
theorem dX4_buy_13 : decode cX4_buy 13 = .ok (.invokestatic 34, 3) := by decide +kernel
theorem dX4_buy_16 : decode cX4_buy 16 = .ok (.ifCond .eq 12, 3) := by decide +kernel
theorem dX4_buy_19 : decode cX4_buy 19 = .ok (.iload_n 3, 1) := by decide +kernel
theorem dX4_buy_20 : decode cX4_buy 20 = .ok (.iconst 0, 1) := by decide +kernel
theorem dX4_buy_21 : decode cX4_buy 21 = .ok (.iconst 2, 1) := by decide +kernel
theorem dX4_buy_22 : decode cX4_buy 22 = .ok (.invokestatic 34, 3) := by decide +kernel
theorem dX4_buy_25 : decode cX4_buy 25 = .ok (.ifCond .ne 13, 3) := by decide +kernel
theorem dX4_buy_28 : decode cX4_buy 28 = .ok (.new 38, 3) := by decide +kernel
theorem dX4_buy_31 : decode cX4_buy 31 = .ok (.dup, 1) := by decide +kernel
theorem dX4_buy_32 : decode cX4_buy 32 = .ok (.ldc 40, 2) := by decide +kernel
theorem dX4_buy_34 : decode cX4_buy 34 = .ok (.invokespecial 42, 3) := by decide +kernel
theorem dX4_buy_37 : decode cX4_buy 37 = .ok (.athrow, 1) := by decide +kernel
theorem dX4_buy_38 : decode cX4_buy 38 = .ok (.aload_n 0, 1) := by decide +kernel
theorem dX4_buy_39 : decode cX4_buy 39 = .ok (.getfield 10, 3) := by decide +kernel
theorem dX4_buy_42 : decode cX4_buy 42 = .ok (.iload_n 1, 1) := by decide +kernel
theorem dX4_buy_43 : decode cX4_buy 43 = .ok (.iload_n 2, 1) := by decide +kernel
theorem dX4_buy_44 : decode cX4_buy 44 = .ok (.invokevirtual 45, 3) := by decide +kernel
theorem dX4_buy_47 : decode cX4_buy 47 = .ok (.ifCond .ne 13, 3) := by decide +kernel
theorem dX4_buy_50 : decode cX4_buy 50 = .ok (.new 49, 3) := by decide +kernel
theorem dX4_buy_53 : decode cX4_buy 53 = .ok (.dup, 1) := by decide +kernel
theorem dX4_buy_54 : decode cX4_buy 54 = .ok (.ldc 51, 2) := by decide +kernel
theorem dX4_buy_56 : decode cX4_buy 56 = .ok (.invokespecial 53, 3) := by decide +kernel
theorem dX4_buy_59 : decode cX4_buy 59 = .ok (.athrow, 1) := by decide +kernel
theorem dX4_buy_60 : decode cX4_buy 60 = .ok (.aload_n 0, 1) := by decide +kernel
theorem dX4_buy_61 : decode cX4_buy 61 = .ok (.invokevirtual 54, 3) := by decide +kernel
theorem dX4_buy_64 : decode cX4_buy 64 = .ok (.aload_n 0, 1) := by decide +kernel
theorem dX4_buy_65 : decode cX4_buy 65 = .ok (.getfield 10, 3) := by decide +kernel
theorem dX4_buy_68 : decode cX4_buy 68 = .ok (.iload_n 1, 1) := by decide +kernel
theorem dX4_buy_69 : decode cX4_buy 69 = .ok (.iload_n 2, 1) := by decide +kernel
theorem dX4_buy_70 : decode cX4_buy 70 = .ok (.iload_n 3, 1) := by decide +kernel
theorem dX4_buy_71 : decode cX4_buy 71 = .ok (.iconst 3, 1) := by decide +kernel
theorem dX4_buy_72 : decode cX4_buy 72 = .ok (.invokevirtual 57, 3) := by decide +kernel
theorem dX4_buy_75 : decode cX4_buy 75 = .ok (.ireturn, 1) := by decide +kernel
theorem dX4_renew_0 : decode cX4_renew 0 = .ok (.aload_n 0, 1) := by decide +kernel
theorem dX4_renew_1 : decode cX4_renew 1 = .ok (.iload_n 1, 1) := by decide +kernel
theorem dX4_renew_2 : decode cX4_renew 2 = .ok (.invokevirtual 61, 3) := by decide +kernel
theorem dX4_renew_5 : decode cX4_renew 5 = .ok (.aload_n 0, 1) := by decide +kernel
theorem dX4_renew_6 : decode cX4_renew 6 = .ok (.iload_n 1, 1) := by decide +kernel
theorem dX4_renew_7 : decode cX4_renew 7 = .ok (.invokevirtual 65, 3) := by decide +kernel
theorem dX4_renew_10 : decode cX4_renew 10 = .ok (.aload_n 0, 1) := by decide +kernel
theorem dX4_renew_11 : decode cX4_renew 11 = .ok (.getfield 10, 3) := by decide +kernel
theorem dX4_renew_14 : decode cX4_renew 14 = .ok (.aload_n 0, 1) := by decide +kernel
theorem dX4_renew_15 : decode cX4_renew 15 = .ok (.getfield 10, 3) := by decide +kernel
theorem dX4_renew_18 : decode cX4_renew 18 = .ok (.getfield 68, 3) := by decide +kernel
theorem dX4_renew_21 : decode cX4_renew 21 = .ok (.iload_n 1, 1) := by decide +kernel
theorem dX4_renew_22 : decode cX4_renew 22 = .ok (.iaload, 1) := by decide +kernel
theorem dX4_renew_23 : decode cX4_renew 23 = .ok (.aload_n 0, 1) := by decide +kernel
theorem dX4_renew_24 : decode cX4_renew 24 = .ok (.getfield 10, 3) := by decide +kernel
theorem dX4_renew_27 : decode cX4_renew 27 = .ok (.getfield 72, 3) := by decide +kernel
theorem dX4_renew_30 : decode cX4_renew 30 = .ok (.iload_n 1, 1) := by decide +kernel
theorem dX4_renew_31 : decode cX4_renew 31 = .ok (.iaload, 1) := by decide +kernel
theorem dX4_renew_32 : decode cX4_renew 32 = .ok (.invokevirtual 45, 3) := by decide +kernel
theorem dX4_renew_35 : decode cX4_renew 35 = .ok (.ifCond .ne 13, 3) := by decide +kernel
theorem dX4_renew_38 : decode cX4_renew 38 = .ok (.new 49, 3) := by decide +kernel
theorem dX4_renew_41 : decode cX4_renew 41 = .ok (.dup, 1) := by decide +kernel
theorem dX4_renew_42 : decode cX4_renew 42 = .ok (.ldc 51, 2) := by decide +kernel
theorem dX4_renew_44 : decode cX4_renew 44 = .ok (.invokespecial 53, 3) := by decide +kernel
theorem dX4_renew_47 : decode cX4_renew 47 = .ok (.athrow, 1) := by decide +kernel
theorem dX4_renew_48 : decode cX4_renew 48 = .ok (.aload_n 0, 1) := by decide +kernel
theorem dX4_renew_49 : decode cX4_renew 49 = .ok (.invokevirtual 54, 3) := by decide +kernel
theorem dX4_renew_52 : decode cX4_renew 52 = .ok (.aload_n 0, 1) := by decide +kernel
theorem dX4_renew_53 : decode cX4_renew 53 = .ok (.getfield 10, 3) := by decide +kernel
theorem dX4_renew_56 : decode cX4_renew 56 = .ok (.iload_n 1, 1) := by decide +kernel
theorem dX4_renew_57 : decode cX4_renew 57 = .ok (.invokevirtual 75, 3) := by decide +kernel
theorem dX4_renew_60 : decode cX4_renew 60 = .ok (.ireturn, 1) := by decide +kernel
theorem dX4_put_0 : decode cX4_put 0 = .ok (.aload_n 0, 1) := by decide +kernel
theorem dX4_put_1 : decode cX4_put 1 = .ok (.iload_n 1, 1) := by decide +kernel
theorem dX4_put_2 : decode cX4_put 2 = .ok (.invokevirtual 61, 3) := by decide +kernel
theorem dX4_put_5 : decode cX4_put 5 = .ok (.iload_n 2, 1) := by decide +kernel
theorem dX4_put_6 : decode cX4_put 6 = .ok (.iconst 0, 1) := by decide +kernel
theorem dX4_put_7 : decode cX4_put 7 = .ok (.iconst 3, 1) := by decide +kernel
theorem dX4_put_8 : decode cX4_put 8 = .ok (.invokestatic 34, 3) := by decide +kernel
theorem dX4_put_11 : decode cX4_put 11 = .ok (.ifCond .ne 13, 3) := by decide +kernel
theorem dX4_put_14 : decode cX4_put 14 = .ok (.new 38, 3) := by decide +kernel
theorem dX4_put_17 : decode cX4_put 17 = .ok (.dup, 1) := by decide +kernel
theorem dX4_put_18 : decode cX4_put 18 = .ok (.ldc 79, 2) := by decide +kernel
theorem dX4_put_20 : decode cX4_put 20 = .ok (.invokespecial 42, 3) := by decide +kernel
theorem dX4_put_23 : decode cX4_put 23 = .ok (.athrow, 1) := by decide +kernel
theorem dX4_put_24 : decode cX4_put 24 = .ok (.aload_n 0, 1) := by decide +kernel
theorem dX4_put_25 : decode cX4_put 25 = .ok (.iload_n 1, 1) := by decide +kernel
theorem dX4_put_26 : decode cX4_put 26 = .ok (.invokevirtual 65, 3) := by decide +kernel
theorem dX4_put_29 : decode cX4_put 29 = .ok (.aload_n 0, 1) := by decide +kernel
theorem dX4_put_30 : decode cX4_put 30 = .ok (.invokevirtual 54, 3) := by decide +kernel
theorem dX4_put_33 : decode cX4_put 33 = .ok (.aload_n 0, 1) := by decide +kernel
theorem dX4_put_34 : decode cX4_put 34 = .ok (.getfield 10, 3) := by decide +kernel
theorem dX4_put_37 : decode cX4_put 37 = .ok (.getfield 81, 3) := by decide +kernel
theorem dX4_put_40 : decode cX4_put 40 = .ok (.iload_n 1, 1) := by decide +kernel
theorem dX4_put_41 : decode cX4_put 41 = .ok (.iaload, 1) := by decide +kernel
theorem dX4_put_42 : decode cX4_put 42 = .ok (.istore_n 3, 1) := by decide +kernel
theorem dX4_put_43 : decode cX4_put 43 = .ok (.aload_n 0, 1) := by decide +kernel
theorem dX4_put_44 : decode cX4_put 44 = .ok (.getfield 10, 3) := by decide +kernel
theorem dX4_put_47 : decode cX4_put 47 = .ok (.getfield 81, 3) := by decide +kernel
theorem dX4_put_50 : decode cX4_put 50 = .ok (.iload_n 1, 1) := by decide +kernel
theorem dX4_put_51 : decode cX4_put 51 = .ok (.iload_n 2, 1) := by decide +kernel
theorem dX4_put_52 : decode cX4_put 52 = .ok (.iastore, 1) := by decide +kernel
theorem dX4_put_53 : decode cX4_put 53 = .ok (.iload_n 3, 1) := by decide +kernel
theorem dX4_put_54 : decode cX4_put 54 = .ok (.ireturn, 1) := by decide +kernel
theorem dX4_lend_0 : decode cX4_lend 0 = .ok (.aload_n 0, 1) := by decide +kernel
theorem dX4_lend_1 : decode cX4_lend 1 = .ok (.iload_n 1, 1) := by decide +kernel
theorem dX4_lend_2 : decode cX4_lend 2 = .ok (.invokevirtual 61, 3) := by decide +kernel
theorem dX4_lend_5 : decode cX4_lend 5 = .ok (.iload_n 2, 1) := by decide +kernel
theorem dX4_lend_6 : decode cX4_lend 6 = .ok (.iconst 1, 1) := by decide +kernel
theorem dX4_lend_7 : decode cX4_lend 7 = .ok (.bipush 99, 2) := by decide +kernel
theorem dX4_lend_9 : decode cX4_lend 9 = .ok (.invokestatic 34, 3) := by decide +kernel
theorem dX4_lend_12 : decode cX4_lend 12 = .ok (.ifCond .ne 13, 3) := by decide +kernel
theorem dX4_lend_15 : decode cX4_lend 15 = .ok (.new 38, 3) := by decide +kernel
theorem dX4_lend_18 : decode cX4_lend 18 = .ok (.dup, 1) := by decide +kernel
theorem dX4_lend_19 : decode cX4_lend 19 = .ok (.ldc 84, 2) := by decide +kernel
theorem dX4_lend_21 : decode cX4_lend 21 = .ok (.invokespecial 42, 3) := by decide +kernel
theorem dX4_lend_24 : decode cX4_lend 24 = .ok (.athrow, 1) := by decide +kernel
theorem dX4_lend_25 : decode cX4_lend 25 = .ok (.aload_n 0, 1) := by decide +kernel
theorem dX4_lend_26 : decode cX4_lend 26 = .ok (.getfield 10, 3) := by decide +kernel
theorem dX4_lend_29 : decode cX4_lend 29 = .ok (.iload_n 1, 1) := by decide +kernel
theorem dX4_lend_30 : decode cX4_lend 30 = .ok (.invokevirtual 86, 3) := by decide +kernel
theorem dX4_lend_33 : decode cX4_lend 33 = .ok (.ifCond .ne 13, 3) := by decide +kernel
theorem dX4_lend_36 : decode cX4_lend 36 = .ok (.new 49, 3) := by decide +kernel
theorem dX4_lend_39 : decode cX4_lend 39 = .ok (.dup, 1) := by decide +kernel
theorem dX4_lend_40 : decode cX4_lend 40 = .ok (.ldc 90, 2) := by decide +kernel
theorem dX4_lend_42 : decode cX4_lend 42 = .ok (.invokespecial 53, 3) := by decide +kernel
theorem dX4_lend_45 : decode cX4_lend 45 = .ok (.athrow, 1) := by decide +kernel
theorem dX4_lend_46 : decode cX4_lend 46 = .ok (.aload_n 0, 1) := by decide +kernel
theorem dX4_lend_47 : decode cX4_lend 47 = .ok (.invokevirtual 54, 3) := by decide +kernel
theorem dX4_lend_50 : decode cX4_lend 50 = .ok (.aload_n 0, 1) := by decide +kernel
theorem dX4_lend_51 : decode cX4_lend 51 = .ok (.getfield 10, 3) := by decide +kernel
theorem dX4_lend_54 : decode cX4_lend 54 = .ok (.iload_n 1, 1) := by decide +kernel
theorem dX4_lend_55 : decode cX4_lend 55 = .ok (.iload_n 2, 1) := by decide +kernel
theorem dX4_lend_56 : decode cX4_lend 56 = .ok (.invokevirtual 92, 3) := by decide +kernel
theorem dX4_lend_59 : decode cX4_lend 59 = .ok (.ireturn, 1) := by decide +kernel
theorem dX4_test_0 : decode cX4_test 0 = .ok (.aload_n 0, 1) := by decide +kernel
theorem dX4_test_1 : decode cX4_test 1 = .ok (.iload_n 1, 1) := by decide +kernel
theorem dX4_test_2 : decode cX4_test 2 = .ok (.invokevirtual 61, 3) := by decide +kernel
theorem dX4_test_5 : decode cX4_test 5 = .ok (.iload_n 2, 1) := by decide +kernel
theorem dX4_test_6 : decode cX4_test 6 = .ok (.invokestatic 96, 3) := by decide +kernel
theorem dX4_test_9 : decode cX4_test 9 = .ok (.aload_n 0, 1) := by decide +kernel
theorem dX4_test_10 : decode cX4_test 10 = .ok (.iload_n 1, 1) := by decide +kernel
theorem dX4_test_11 : decode cX4_test 11 = .ok (.invokevirtual 65, 3) := by decide +kernel
theorem dX4_test_14 : decode cX4_test 14 = .ok (.aload_n 0, 1) := by decide +kernel
theorem dX4_test_15 : decode cX4_test 15 = .ok (.invokevirtual 54, 3) := by decide +kernel
theorem dX4_test_18 : decode cX4_test 18 = .ok (.aload_n 0, 1) := by decide +kernel
theorem dX4_test_19 : decode cX4_test 19 = .ok (.getfield 10, 3) := by decide +kernel
theorem dX4_test_22 : decode cX4_test 22 = .ok (.iload_n 1, 1) := by decide +kernel
theorem dX4_test_23 : decode cX4_test 23 = .ok (.iload_n 2, 1) := by decide +kernel
theorem dX4_test_24 : decode cX4_test 24 = .ok (.invokevirtual 99, 3) := by decide +kernel
theorem dX4_test_27 : decode cX4_test 27 = .ok (.ireturn, 1) := by decide +kernel
theorem dX4_want_0 : decode cX4_want 0 = .ok (.iload_n 1, 1) := by decide +kernel
theorem dX4_want_1 : decode cX4_want 1 = .ok (.invokestatic 102, 3) := by decide +kernel
theorem dX4_want_4 : decode cX4_want 4 = .ok (.iload_n 2, 1) := by decide +kernel
theorem dX4_want_5 : decode cX4_want 5 = .ok (.iconst 0, 1) := by decide +kernel
theorem dX4_want_6 : decode cX4_want 6 = .ok (.sipush 200, 3) := by decide +kernel
theorem dX4_want_9 : decode cX4_want 9 = .ok (.invokestatic 34, 3) := by decide +kernel
theorem dX4_want_12 : decode cX4_want 12 = .ok (.ifCond .ne 13, 3) := by decide +kernel
theorem dX4_want_15 : decode cX4_want 15 = .ok (.new 38, 3) := by decide +kernel
theorem dX4_want_18 : decode cX4_want 18 = .ok (.dup, 1) := by decide +kernel
theorem dX4_want_19 : decode cX4_want 19 = .ok (.ldc 105, 2) := by decide +kernel
theorem dX4_want_21 : decode cX4_want 21 = .ok (.invokespecial 42, 3) := by decide +kernel
theorem dX4_want_24 : decode cX4_want 24 = .ok (.athrow, 1) := by decide +kernel
theorem dX4_want_25 : decode cX4_want 25 = .ok (.aload_n 0, 1) := by decide +kernel
theorem dX4_want_26 : decode cX4_want 26 = .ok (.invokevirtual 54, 3) := by decide +kernel
theorem dX4_want_29 : decode cX4_want 29 = .ok (.aload_n 0, 1) := by decide +kernel
theorem dX4_want_30 : decode cX4_want 30 = .ok (.getfield 10, 3) := by decide +kernel
theorem dX4_want_33 : decode cX4_want 33 = .ok (.getfield 107, 3) := by decide +kernel
theorem dX4_want_36 : decode cX4_want 36 = .ok (.iload_n 1, 1) := by decide +kernel
theorem dX4_want_37 : decode cX4_want 37 = .ok (.iaload, 1) := by decide +kernel
theorem dX4_want_38 : decode cX4_want 38 = .ok (.istore_n 3, 1) := by decide +kernel
theorem dX4_want_39 : decode cX4_want 39 = .ok (.aload_n 0, 1) := by decide +kernel
theorem dX4_want_40 : decode cX4_want 40 = .ok (.getfield 10, 3) := by decide +kernel
theorem dX4_want_43 : decode cX4_want 43 = .ok (.getfield 107, 3) := by decide +kernel
theorem dX4_want_46 : decode cX4_want 46 = .ok (.iload_n 1, 1) := by decide +kernel
theorem dX4_want_47 : decode cX4_want 47 = .ok (.iload_n 2, 1) := by decide +kernel
theorem dX4_want_48 : decode cX4_want 48 = .ok (.iastore, 1) := by decide +kernel
theorem dX4_want_49 : decode cX4_want 49 = .ok (.iload_n 3, 1) := by decide +kernel
theorem dX4_want_50 : decode cX4_want 50 = .ok (.ireturn, 1) := by decide +kernel
theorem dX4_set_0 : decode cX4_set 0 = .ok (.iload_n 1, 1) := by decide +kernel
theorem dX4_set_1 : decode cX4_set 1 = .ok (.invokestatic 110, 3) := by decide +kernel
theorem dX4_set_4 : decode cX4_set 4 = .ok (.iload_n 2, 1) := by decide +kernel
theorem dX4_set_5 : decode cX4_set 5 = .ok (.iload_n 1, 1) := by decide +kernel
theorem dX4_set_6 : decode cX4_set 6 = .ok (.invokestatic 113, 3) := by decide +kernel
theorem dX4_set_9 : decode cX4_set 9 = .ok (.iload_n 1, 1) := by decide +kernel
theorem dX4_set_10 : decode cX4_set 10 = .ok (.invokestatic 116, 3) := by decide +kernel
theorem dX4_set_13 : decode cX4_set 13 = .ok (.invokestatic 34, 3) := by decide +kernel
theorem dX4_set_16 : decode cX4_set 16 = .ok (.ifCond .ne 13, 3) := by decide +kernel
theorem dX4_set_19 : decode cX4_set 19 = .ok (.new 38, 3) := by decide +kernel
theorem dX4_set_22 : decode cX4_set 22 = .ok (.dup, 1) := by decide +kernel
theorem dX4_set_23 : decode cX4_set 23 = .ok (.ldc 119, 2) := by decide +kernel
theorem dX4_set_25 : decode cX4_set 25 = .ok (.invokespecial 42, 3) := by decide +kernel
theorem dX4_set_28 : decode cX4_set 28 = .ok (.athrow, 1) := by decide +kernel
theorem dX4_set_29 : decode cX4_set 29 = .ok (.aload_n 0, 1) := by decide +kernel
theorem dX4_set_30 : decode cX4_set 30 = .ok (.invokevirtual 54, 3) := by decide +kernel
theorem dX4_set_33 : decode cX4_set 33 = .ok (.aload_n 0, 1) := by decide +kernel
theorem dX4_set_34 : decode cX4_set 34 = .ok (.getfield 10, 3) := by decide +kernel
theorem dX4_set_37 : decode cX4_set 37 = .ok (.getfield 121, 3) := by decide +kernel
theorem dX4_set_40 : decode cX4_set 40 = .ok (.iload_n 1, 1) := by decide +kernel
theorem dX4_set_41 : decode cX4_set 41 = .ok (.iaload, 1) := by decide +kernel
theorem dX4_set_42 : decode cX4_set 42 = .ok (.istore_n 3, 1) := by decide +kernel
theorem dX4_set_43 : decode cX4_set 43 = .ok (.aload_n 0, 1) := by decide +kernel
theorem dX4_set_44 : decode cX4_set 44 = .ok (.getfield 10, 3) := by decide +kernel
theorem dX4_set_47 : decode cX4_set 47 = .ok (.getfield 121, 3) := by decide +kernel
theorem dX4_set_50 : decode cX4_set 50 = .ok (.iload_n 1, 1) := by decide +kernel
theorem dX4_set_51 : decode cX4_set 51 = .ok (.iload_n 2, 1) := by decide +kernel
theorem dX4_set_52 : decode cX4_set 52 = .ok (.iastore, 1) := by decide +kernel
theorem dX4_set_53 : decode cX4_set 53 = .ok (.iload_n 3, 1) := by decide +kernel
theorem dX4_set_54 : decode cX4_set 54 = .ok (.ireturn, 1) := by decide +kernel
theorem dX4_pass_0 : decode cX4_pass 0 = .ok (.iload_n 1, 1) := by decide +kernel
theorem dX4_pass_1 : decode cX4_pass 1 = .ok (.iconst 1, 1) := by decide +kernel
theorem dX4_pass_2 : decode cX4_pass 2 = .ok (.bipush 100, 2) := by decide +kernel
theorem dX4_pass_4 : decode cX4_pass 4 = .ok (.invokestatic 34, 3) := by decide +kernel
theorem dX4_pass_7 : decode cX4_pass 7 = .ok (.ifCond .ne 13, 3) := by decide +kernel
theorem dX4_pass_10 : decode cX4_pass 10 = .ok (.new 38, 3) := by decide +kernel
theorem dX4_pass_13 : decode cX4_pass 13 = .ok (.dup, 1) := by decide +kernel
theorem dX4_pass_14 : decode cX4_pass 14 = .ok (.ldc 84, 2) := by decide +kernel
theorem dX4_pass_16 : decode cX4_pass 16 = .ok (.invokespecial 42, 3) := by decide +kernel
theorem dX4_pass_19 : decode cX4_pass 19 = .ok (.athrow, 1) := by decide +kernel
theorem dX4_pass_20 : decode cX4_pass 20 = .ok (.aload_n 0, 1) := by decide +kernel
theorem dX4_pass_21 : decode cX4_pass 21 = .ok (.invokevirtual 54, 3) := by decide +kernel
theorem dX4_pass_24 : decode cX4_pass 24 = .ok (.iconst 0, 1) := by decide +kernel
theorem dX4_pass_25 : decode cX4_pass 25 = .ok (.istore_n 2, 1) := by decide +kernel
theorem dX4_pass_26 : decode cX4_pass 26 = .ok (.iload_n 2, 1) := by decide +kernel
theorem dX4_pass_27 : decode cX4_pass 27 = .ok (.iload_n 1, 1) := by decide +kernel
theorem dX4_pass_28 : decode cX4_pass 28 = .ok (.if_icmp .ge 16, 3) := by decide +kernel
theorem dX4_pass_31 : decode cX4_pass 31 = .ok (.aload_n 0, 1) := by decide +kernel
theorem dX4_pass_32 : decode cX4_pass 32 = .ok (.getfield 10, 3) := by decide +kernel
theorem dX4_pass_35 : decode cX4_pass 35 = .ok (.invokevirtual 124, 3) := by decide +kernel
theorem dX4_pass_38 : decode cX4_pass 38 = .ok (.iinc 2 1, 3) := by decide +kernel
theorem dX4_pass_41 : decode cX4_pass 41 = .ok (.goto (-15), 3) := by decide +kernel
theorem dX4_pass_44 : decode cX4_pass 44 = .ok (.aload_n 0, 1) := by decide +kernel
theorem dX4_pass_45 : decode cX4_pass 45 = .ok (.getfield 10, 3) := by decide +kernel
theorem dX4_pass_48 : decode cX4_pass 48 = .ok (.getfield 127, 3) := by decide +kernel
theorem dX4_pass_51 : decode cX4_pass 51 = .ok (.ireturn, 1) := by decide +kernel
theorem dX4_append_0 : decode cX4_append 0 = .ok (.iload_n 1, 1) := by decide +kernel
theorem dX4_append_1 : decode cX4_append 1 = .ok (.bipush 33, 2) := by decide +kernel
theorem dX4_append_3 : decode cX4_append 3 = .ok (.bipush 126, 2) := by decide +kernel
theorem dX4_append_5 : decode cX4_append 5 = .ok (.invokestatic 34, 3) := by decide +kernel
theorem dX4_append_8 : decode cX4_append 8 = .ok (.ifCond .ne 13, 3) := by decide +kernel
theorem dX4_append_11 : decode cX4_append 11 = .ok (.new 38, 3) := by decide +kernel
theorem dX4_append_14 : decode cX4_append 14 = .ok (.dup, 1) := by decide +kernel
theorem dX4_append_15 : decode cX4_append 15 = .ok (.ldc 130, 2) := by decide +kernel
theorem dX4_append_17 : decode cX4_append 17 = .ok (.invokespecial 42, 3) := by decide +kernel
theorem dX4_append_20 : decode cX4_append 20 = .ok (.athrow, 1) := by decide +kernel
theorem dX4_append_21 : decode cX4_append 21 = .ok (.aload_n 0, 1) := by decide +kernel
theorem dX4_append_22 : decode cX4_append 22 = .ok (.getfield 30, 3) := by decide +kernel
theorem dX4_append_25 : decode cX4_append 25 = .ok (.invokevirtual 132, 3) := by decide +kernel
theorem dX4_append_28 : decode cX4_append 28 = .ok (.ifCond .eq 13, 3) := by decide +kernel
theorem dX4_append_31 : decode cX4_append 31 = .ok (.new 49, 3) := by decide +kernel
theorem dX4_append_34 : decode cX4_append 34 = .ok (.dup, 1) := by decide +kernel
theorem dX4_append_35 : decode cX4_append 35 = .ok (.ldc 136, 2) := by decide +kernel
theorem dX4_append_37 : decode cX4_append 37 = .ok (.invokespecial 53, 3) := by decide +kernel
theorem dX4_append_40 : decode cX4_append 40 = .ok (.athrow, 1) := by decide +kernel
theorem dX4_append_41 : decode cX4_append 41 = .ok (.aload_n 0, 1) := by decide +kernel
theorem dX4_append_42 : decode cX4_append 42 = .ok (.getfield 30, 3) := by decide +kernel
theorem dX4_append_45 : decode cX4_append 45 = .ok (.iload_n 1, 1) := by decide +kernel
theorem dX4_append_46 : decode cX4_append 46 = .ok (.invokevirtual 138, 3) := by decide +kernel
theorem dX4_append_49 : decode cX4_append 49 = .ok (.aload_n 0, 1) := by decide +kernel
theorem dX4_append_50 : decode cX4_append 50 = .ok (.getfield 30, 3) := by decide +kernel
theorem dX4_append_53 : decode cX4_append 53 = .ok (.getfield 141, 3) := by decide +kernel
theorem dX4_append_56 : decode cX4_append 56 = .ok (.ireturn, 1) := by decide +kernel
theorem dX4_clearBuffer_0 : decode cX4_clearBuffer 0 = .ok (.aload_n 0, 1) := by decide +kernel
theorem dX4_clearBuffer_1 : decode cX4_clearBuffer 1 = .ok (.getfield 30, 3) := by decide +kernel
theorem dX4_clearBuffer_4 : decode cX4_clearBuffer 4 = .ok (.getfield 141, 3) := by decide +kernel
theorem dX4_clearBuffer_7 : decode cX4_clearBuffer 7 = .ok (.istore_n 1, 1) := by decide +kernel
theorem dX4_clearBuffer_8 : decode cX4_clearBuffer 8 = .ok (.aload_n 0, 1) := by decide +kernel
theorem dX4_clearBuffer_9 : decode cX4_clearBuffer 9 = .ok (.getfield 30, 3) := by decide +kernel
theorem dX4_clearBuffer_12 : decode cX4_clearBuffer 12 = .ok (.iconst 0, 1) := by decide +kernel
theorem dX4_clearBuffer_13 : decode cX4_clearBuffer 13 = .ok (.putfield 141, 3) := by decide +kernel
theorem dX4_clearBuffer_16 : decode cX4_clearBuffer 16 = .ok (.iload_n 1, 1) := by decide +kernel
theorem dX4_clearBuffer_17 : decode cX4_clearBuffer 17 = .ok (.ireturn, 1) := by decide +kernel
theorem dX4_firstError_0 : decode cX4_firstError 0 = .ok (.aload_n 0, 1) := by decide +kernel
theorem dX4_firstError_1 : decode cX4_firstError 1 = .ok (.getfield 30, 3) := by decide +kernel
theorem dX4_firstError_4 : decode cX4_firstError 4 = .ok (.invokevirtual 144, 3) := by decide +kernel
theorem dX4_firstError_7 : decode cX4_firstError 7 = .ok (.ireturn, 1) := by decide +kernel
theorem dX4_buyAll_0 : decode cX4_buyAll 0 = .ok (.aload_n 0, 1) := by decide +kernel
theorem dX4_buyAll_1 : decode cX4_buyAll 1 = .ok (.getfield 30, 3) := by decide +kernel
theorem dX4_buyAll_4 : decode cX4_buyAll 4 = .ok (.invokevirtual 148, 3) := by decide +kernel
theorem dX4_buyAll_7 : decode cX4_buyAll 7 = .ok (.ifCond .ne 13, 3) := by decide +kernel
theorem dX4_buyAll_10 : decode cX4_buyAll 10 = .ok (.new 38, 3) := by decide +kernel
theorem dX4_buyAll_13 : decode cX4_buyAll 13 = .ok (.dup, 1) := by decide +kernel
theorem dX4_buyAll_14 : decode cX4_buyAll 14 = .ok (.ldc 151, 2) := by decide +kernel
theorem dX4_buyAll_16 : decode cX4_buyAll 16 = .ok (.invokespecial 42, 3) := by decide +kernel
theorem dX4_buyAll_19 : decode cX4_buyAll 19 = .ok (.athrow, 1) := by decide +kernel
theorem dX4_buyAll_20 : decode cX4_buyAll 20 = .ok (.aload_n 0, 1) := by decide +kernel
theorem dX4_buyAll_21 : decode cX4_buyAll 21 = .ok (.invokevirtual 54, 3) := by decide +kernel
theorem dX4_buyAll_24 : decode cX4_buyAll 24 = .ok (.aload_n 0, 1) := by decide +kernel
theorem dX4_buyAll_25 : decode cX4_buyAll 25 = .ok (.invokevirtual 153, 3) := by decide +kernel
theorem dX4_buyAll_28 : decode cX4_buyAll 28 = .ok (.istore_n 1, 1) := by decide +kernel
theorem dX4_buyAll_29 : decode cX4_buyAll 29 = .ok (.aload_n 0, 1) := by decide +kernel
theorem dX4_buyAll_30 : decode cX4_buyAll 30 = .ok (.getfield 30, 3) := by decide +kernel
theorem dX4_buyAll_33 : decode cX4_buyAll 33 = .ok (.iconst 0, 1) := by decide +kernel
theorem dX4_buyAll_34 : decode cX4_buyAll 34 = .ok (.putfield 141, 3) := by decide +kernel
theorem dX4_buyAll_37 : decode cX4_buyAll 37 = .ok (.iload_n 1, 1) := by decide +kernel
theorem dX4_buyAll_38 : decode cX4_buyAll 38 = .ok (.ireturn, 1) := by decide +kernel
theorem dX4_undo_0 : decode cX4_undo 0 = .ok (.aload_n 0, 1) := by decide +kernel
theorem dX4_undo_1 : decode cX4_undo 1 = .ok (.getfield 24, 3) := by decide +kernel
theorem dX4_undo_4 : decode cX4_undo 4 = .ok (.ifCond .ne 13, 3) := by decide +kernel
theorem dX4_undo_7 : decode cX4_undo 7 = .ok (.new 49, 3) := by decide +kernel
theorem dX4_undo_10 : decode cX4_undo 10 = .ok (.dup, 1) := by decide +kernel
theorem dX4_undo_11 : decode cX4_undo 11 = .ok (.ldc 156, 2) := by decide +kernel
theorem dX4_undo_13 : decode cX4_undo 13 = .ok (.invokespecial 53, 3) := by decide +kernel
theorem dX4_undo_16 : decode cX4_undo 16 = .ok (.athrow, 1) := by decide +kernel
theorem dX4_undo_17 : decode cX4_undo 17 = .ok (.aload_n 0, 1) := by decide +kernel
theorem dX4_undo_18 : decode cX4_undo 18 = .ok (.getfield 16, 3) := by decide +kernel
theorem dX4_undo_21 : decode cX4_undo 21 = .ok (.aload_n 0, 1) := by decide +kernel
theorem dX4_undo_22 : decode cX4_undo 22 = .ok (.getfield 20, 3) := by decide +kernel
theorem dX4_undo_25 : decode cX4_undo 25 = .ok (.aaload, 1) := by decide +kernel
theorem dX4_undo_26 : decode cX4_undo 26 = .ok (.astore_n 1, 1) := by decide +kernel
theorem dX4_undo_27 : decode cX4_undo 27 = .ok (.aload_n 1, 1) := by decide +kernel
theorem dX4_undo_28 : decode cX4_undo 28 = .ok (.ifnull 11, 3) := by decide +kernel
theorem dX4_undo_31 : decode cX4_undo 31 = .ok (.aload_n 0, 1) := by decide +kernel
theorem dX4_undo_32 : decode cX4_undo 32 = .ok (.getfield 10, 3) := by decide +kernel
theorem dX4_undo_35 : decode cX4_undo 35 = .ok (.aload_n 1, 1) := by decide +kernel
theorem dX4_undo_36 : decode cX4_undo 36 = .ok (.invokevirtual 158, 3) := by decide +kernel
theorem dX4_undo_39 : decode cX4_undo 39 = .ok (.aload_n 0, 1) := by decide +kernel
theorem dX4_undo_40 : decode cX4_undo 40 = .ok (.aload_n 0, 1) := by decide +kernel
theorem dX4_undo_41 : decode cX4_undo 41 = .ok (.getfield 20, 3) := by decide +kernel
theorem dX4_undo_44 : decode cX4_undo 44 = .ok (.ifCond .ne 7, 3) := by decide +kernel
theorem dX4_undo_47 : decode cX4_undo 47 = .ok (.iconst 5, 1) := by decide +kernel
theorem dX4_undo_48 : decode cX4_undo 48 = .ok (.goto 9, 3) := by decide +kernel
theorem dX4_undo_51 : decode cX4_undo 51 = .ok (.aload_n 0, 1) := by decide +kernel
theorem dX4_undo_52 : decode cX4_undo 52 = .ok (.getfield 20, 3) := by decide +kernel
theorem dX4_undo_55 : decode cX4_undo 55 = .ok (.iconst 1, 1) := by decide +kernel
theorem dX4_undo_56 : decode cX4_undo 56 = .ok (.isub, 1) := by decide +kernel
theorem dX4_undo_57 : decode cX4_undo 57 = .ok (.putfield 20, 3) := by decide +kernel
theorem dX4_undo_60 : decode cX4_undo 60 = .ok (.aload_n 0, 1) := by decide +kernel
theorem dX4_undo_61 : decode cX4_undo 61 = .ok (.dup, 1) := by decide +kernel
theorem dX4_undo_62 : decode cX4_undo 62 = .ok (.getfield 24, 3) := by decide +kernel
theorem dX4_undo_65 : decode cX4_undo 65 = .ok (.iconst 1, 1) := by decide +kernel
theorem dX4_undo_66 : decode cX4_undo 66 = .ok (.isub, 1) := by decide +kernel
theorem dX4_undo_67 : decode cX4_undo 67 = .ok (.putfield 24, 3) := by decide +kernel
theorem dX4_undo_70 : decode cX4_undo 70 = .ok (.aload_n 0, 1) := by decide +kernel
theorem dX4_undo_71 : decode cX4_undo 71 = .ok (.getfield 24, 3) := by decide +kernel
theorem dX4_undo_74 : decode cX4_undo 74 = .ok (.ireturn, 1) := by decide +kernel
theorem dX4_hose_0 : decode cX4_hose 0 = .ok (.aload_n 0, 1) := by decide +kernel
theorem dX4_hose_1 : decode cX4_hose 1 = .ok (.iload_n 1, 1) := by decide +kernel
theorem dX4_hose_2 : decode cX4_hose 2 = .ok (.invokevirtual 61, 3) := by decide +kernel
theorem dX4_hose_5 : decode cX4_hose 5 = .ok (.iload_n 2, 1) := by decide +kernel
theorem dX4_hose_6 : decode cX4_hose 6 = .ok (.iconst 0, 1) := by decide +kernel
theorem dX4_hose_7 : decode cX4_hose 7 = .ok (.bipush 9, 2) := by decide +kernel
theorem dX4_hose_9 : decode cX4_hose 9 = .ok (.invokestatic 34, 3) := by decide +kernel
theorem dX4_hose_12 : decode cX4_hose 12 = .ok (.ifCond .ne 13, 3) := by decide +kernel
theorem dX4_hose_15 : decode cX4_hose 15 = .ok (.new 38, 3) := by decide +kernel
theorem dX4_hose_18 : decode cX4_hose 18 = .ok (.dup, 1) := by decide +kernel
theorem dX4_hose_19 : decode cX4_hose 19 = .ok (.ldc 162, 2) := by decide +kernel
theorem dX4_hose_21 : decode cX4_hose 21 = .ok (.invokespecial 42, 3) := by decide +kernel
theorem dX4_hose_24 : decode cX4_hose 24 = .ok (.athrow, 1) := by decide +kernel
theorem dX4_hose_25 : decode cX4_hose 25 = .ok (.iload_n 2, 1) := by decide +kernel
theorem dX4_hose_26 : decode cX4_hose 26 = .ok (.tableswitch 148 0 8 #[50, 60, 70, 80, 90, 100, 118, 128, 138], 50) := by decide +kernel
theorem dX4_hose_76 : decode cX4_hose 76 = .ok (.aload_n 0, 1) := by decide +kernel
theorem dX4_hose_77 : decode cX4_hose 77 = .ok (.getfield 10, 3) := by decide +kernel
theorem dX4_hose_80 : decode cX4_hose 80 = .ok (.getfield 68, 3) := by decide +kernel
theorem dX4_hose_83 : decode cX4_hose 83 = .ok (.iload_n 1, 1) := by decide +kernel
theorem dX4_hose_84 : decode cX4_hose 84 = .ok (.iaload, 1) := by decide +kernel
theorem dX4_hose_85 : decode cX4_hose 85 = .ok (.ireturn, 1) := by decide +kernel
theorem dX4_hose_86 : decode cX4_hose 86 = .ok (.aload_n 0, 1) := by decide +kernel
theorem dX4_hose_87 : decode cX4_hose 87 = .ok (.getfield 10, 3) := by decide +kernel
theorem dX4_hose_90 : decode cX4_hose 90 = .ok (.getfield 72, 3) := by decide +kernel
theorem dX4_hose_93 : decode cX4_hose 93 = .ok (.iload_n 1, 1) := by decide +kernel
theorem dX4_hose_94 : decode cX4_hose 94 = .ok (.iaload, 1) := by decide +kernel
theorem dX4_hose_95 : decode cX4_hose 95 = .ok (.ireturn, 1) := by decide +kernel
theorem dX4_hose_96 : decode cX4_hose 96 = .ok (.aload_n 0, 1) := by decide +kernel
theorem dX4_hose_97 : decode cX4_hose 97 = .ok (.getfield 10, 3) := by decide +kernel
theorem dX4_hose_100 : decode cX4_hose 100 = .ok (.getfield 164, 3) := by decide +kernel
theorem dX4_hose_103 : decode cX4_hose 103 = .ok (.iload_n 1, 1) := by decide +kernel
theorem dX4_hose_104 : decode cX4_hose 104 = .ok (.iaload, 1) := by decide +kernel
theorem dX4_hose_105 : decode cX4_hose 105 = .ok (.ireturn, 1) := by decide +kernel
theorem dX4_hose_106 : decode cX4_hose 106 = .ok (.aload_n 0, 1) := by decide +kernel
theorem dX4_hose_107 : decode cX4_hose 107 = .ok (.getfield 10, 3) := by decide +kernel
theorem dX4_hose_110 : decode cX4_hose 110 = .ok (.getfield 167, 3) := by decide +kernel
theorem dX4_hose_113 : decode cX4_hose 113 = .ok (.iload_n 1, 1) := by decide +kernel
theorem dX4_hose_114 : decode cX4_hose 114 = .ok (.iaload, 1) := by decide +kernel
theorem dX4_hose_115 : decode cX4_hose 115 = .ok (.ireturn, 1) := by decide +kernel
theorem dX4_hose_116 : decode cX4_hose 116 = .ok (.aload_n 0, 1) := by decide +kernel
theorem dX4_hose_117 : decode cX4_hose 117 = .ok (.getfield 10, 3) := by decide +kernel
theorem dX4_hose_120 : decode cX4_hose 120 = .ok (.getfield 170, 3) := by decide +kernel
theorem dX4_hose_123 : decode cX4_hose 123 = .ok (.iload_n 1, 1) := by decide +kernel
theorem dX4_hose_124 : decode cX4_hose 124 = .ok (.iaload, 1) := by decide +kernel
theorem dX4_hose_125 : decode cX4_hose 125 = .ok (.ireturn, 1) := by decide +kernel
theorem dX4_hose_126 : decode cX4_hose 126 = .ok (.aload_n 0, 1) := by decide +kernel
theorem dX4_hose_127 : decode cX4_hose 127 = .ok (.getfield 10, 3) := by decide +kernel
theorem dX4_hose_130 : decode cX4_hose 130 = .ok (.iload_n 1, 1) := by decide +kernel
theorem dX4_hose_131 : decode cX4_hose 131 = .ok (.aload_n 0, 1) := by decide +kernel
theorem dX4_hose_132 : decode cX4_hose 132 = .ok (.getfield 10, 3) := by decide +kernel
theorem dX4_hose_135 : decode cX4_hose 135 = .ok (.getfield 170, 3) := by decide +kernel
theorem dX4_hose_138 : decode cX4_hose 138 = .ok (.iload_n 1, 1) := by decide +kernel
theorem dX4_hose_139 : decode cX4_hose 139 = .ok (.iaload, 1) := by decide +kernel
theorem dX4_hose_140 : decode cX4_hose 140 = .ok (.invokevirtual 173, 3) := by decide +kernel
theorem dX4_hose_143 : decode cX4_hose 143 = .ok (.ireturn, 1) := by decide +kernel
theorem dX4_hose_144 : decode cX4_hose 144 = .ok (.aload_n 0, 1) := by decide +kernel
theorem dX4_hose_145 : decode cX4_hose 145 = .ok (.getfield 10, 3) := by decide +kernel
theorem dX4_hose_148 : decode cX4_hose 148 = .ok (.getfield 176, 3) := by decide +kernel
theorem dX4_hose_151 : decode cX4_hose 151 = .ok (.iload_n 1, 1) := by decide +kernel
theorem dX4_hose_152 : decode cX4_hose 152 = .ok (.iaload, 1) := by decide +kernel
theorem dX4_hose_153 : decode cX4_hose 153 = .ok (.ireturn, 1) := by decide +kernel
theorem dX4_hose_154 : decode cX4_hose 154 = .ok (.aload_n 0, 1) := by decide +kernel
theorem dX4_hose_155 : decode cX4_hose 155 = .ok (.getfield 10, 3) := by decide +kernel
theorem dX4_hose_158 : decode cX4_hose 158 = .ok (.getfield 81, 3) := by decide +kernel
theorem dX4_hose_161 : decode cX4_hose 161 = .ok (.iload_n 1, 1) := by decide +kernel
theorem dX4_hose_162 : decode cX4_hose 162 = .ok (.iaload, 1) := by decide +kernel
theorem dX4_hose_163 : decode cX4_hose 163 = .ok (.ireturn, 1) := by decide +kernel
theorem dX4_hose_164 : decode cX4_hose 164 = .ok (.aload_n 0, 1) := by decide +kernel
theorem dX4_hose_165 : decode cX4_hose 165 = .ok (.getfield 10, 3) := by decide +kernel
theorem dX4_hose_168 : decode cX4_hose 168 = .ok (.getfield 179, 3) := by decide +kernel
theorem dX4_hose_171 : decode cX4_hose 171 = .ok (.iload_n 1, 1) := by decide +kernel
theorem dX4_hose_172 : decode cX4_hose 172 = .ok (.iaload, 1) := by decide +kernel
theorem dX4_hose_173 : decode cX4_hose 173 = .ok (.ireturn, 1) := by decide +kernel
theorem dX4_hose_174 : decode cX4_hose 174 = .ok (.aload_n 0, 1) := by decide +kernel
theorem dX4_hose_175 : decode cX4_hose 175 = .ok (.getfield 10, 3) := by decide +kernel
theorem dX4_hose_178 : decode cX4_hose 178 = .ok (.iload_n 1, 1) := by decide +kernel
theorem dX4_hose_179 : decode cX4_hose 179 = .ok (.invokevirtual 182, 3) := by decide +kernel
theorem dX4_hose_182 : decode cX4_hose 182 = .ok (.ireturn, 1) := by decide +kernel
theorem dX4_truck_0 : decode cX4_truck 0 = .ok (.iload_n 1, 1) := by decide +kernel
theorem dX4_truck_1 : decode cX4_truck 1 = .ok (.invokestatic 102, 3) := by decide +kernel
theorem dX4_truck_4 : decode cX4_truck 4 = .ok (.iload_n 2, 1) := by decide +kernel
theorem dX4_truck_5 : decode cX4_truck 5 = .ok (.iconst 0, 1) := by decide +kernel
theorem dX4_truck_6 : decode cX4_truck 6 = .ok (.bipush 6, 2) := by decide +kernel
theorem dX4_truck_8 : decode cX4_truck 8 = .ok (.invokestatic 34, 3) := by decide +kernel
theorem dX4_truck_11 : decode cX4_truck 11 = .ok (.ifCond .ne 13, 3) := by decide +kernel
theorem dX4_truck_14 : decode cX4_truck 14 = .ok (.new 38, 3) := by decide +kernel
theorem dX4_truck_17 : decode cX4_truck 17 = .ok (.dup, 1) := by decide +kernel
theorem dX4_truck_18 : decode cX4_truck 18 = .ok (.ldc 185, 2) := by decide +kernel
theorem dX4_truck_20 : decode cX4_truck 20 = .ok (.invokespecial 42, 3) := by decide +kernel
theorem dX4_truck_23 : decode cX4_truck 23 = .ok (.athrow, 1) := by decide +kernel
theorem dX4_truck_24 : decode cX4_truck 24 = .ok (.aload_n 0, 1) := by decide +kernel
theorem dX4_truck_25 : decode cX4_truck 25 = .ok (.getfield 10, 3) := by decide +kernel
theorem dX4_truck_28 : decode cX4_truck 28 = .ok (.iload_n 1, 1) := by decide +kernel
theorem dX4_truck_29 : decode cX4_truck 29 = .ok (.iconst (-1), 1) := by decide +kernel
theorem dX4_truck_30 : decode cX4_truck 30 = .ok (.invokevirtual 187, 3) := by decide +kernel
theorem dX4_truck_33 : decode cX4_truck 33 = .ok (.istore_n 3, 1) := by decide +kernel
theorem dX4_truck_34 : decode cX4_truck 34 = .ok (.iload_n 2, 1) := by decide +kernel
theorem dX4_truck_35 : decode cX4_truck 35 = .ok (.tableswitch 98 0 5 #[37, 47, 58, 67, 76, 87], 37) := by decide +kernel
theorem dX4_truck_72 : decode cX4_truck 72 = .ok (.aload_n 0, 1) := by decide +kernel
theorem dX4_truck_73 : decode cX4_truck 73 = .ok (.getfield 10, 3) := by decide +kernel
theorem dX4_truck_76 : decode cX4_truck 76 = .ok (.getfield 107, 3) := by decide +kernel
theorem dX4_truck_79 : decode cX4_truck 79 = .ok (.iload_n 1, 1) := by decide +kernel
theorem dX4_truck_80 : decode cX4_truck 80 = .ok (.iaload, 1) := by decide +kernel
theorem dX4_truck_81 : decode cX4_truck 81 = .ok (.ireturn, 1) := by decide +kernel
theorem dX4_truck_82 : decode cX4_truck 82 = .ok (.aload_n 0, 1) := by decide +kernel
theorem dX4_truck_83 : decode cX4_truck 83 = .ok (.getfield 10, 3) := by decide +kernel
theorem dX4_truck_86 : decode cX4_truck 86 = .ok (.getfield 190, 3) := by decide +kernel
theorem dX4_truck_89 : decode cX4_truck 89 = .ok (.getfield 194, 3) := by decide +kernel
theorem dX4_truck_92 : decode cX4_truck 92 = .ok (.ireturn, 1) := by decide +kernel
theorem dX4_truck_93 : decode cX4_truck 93 = .ok (.aload_n 0, 1) := by decide +kernel
theorem dX4_truck_94 : decode cX4_truck 94 = .ok (.getfield 10, 3) := by decide +kernel
theorem dX4_truck_97 : decode cX4_truck 97 = .ok (.iload_n 1, 1) := by decide +kernel
theorem dX4_truck_98 : decode cX4_truck 98 = .ok (.invokevirtual 199, 3) := by decide +kernel
theorem dX4_truck_101 : decode cX4_truck 101 = .ok (.ireturn, 1) := by decide +kernel
theorem dX4_truck_102 : decode cX4_truck 102 = .ok (.aload_n 0, 1) := by decide +kernel
theorem dX4_truck_103 : decode cX4_truck 103 = .ok (.getfield 10, 3) := by decide +kernel
theorem dX4_truck_106 : decode cX4_truck 106 = .ok (.iload_n 1, 1) := by decide +kernel
theorem dX4_truck_107 : decode cX4_truck 107 = .ok (.invokevirtual 202, 3) := by decide +kernel
theorem dX4_truck_110 : decode cX4_truck 110 = .ok (.ireturn, 1) := by decide +kernel
theorem dX4_truck_111 : decode cX4_truck 111 = .ok (.aload_n 0, 1) := by decide +kernel
theorem dX4_truck_112 : decode cX4_truck 112 = .ok (.getfield 10, 3) := by decide +kernel
theorem dX4_truck_115 : decode cX4_truck 115 = .ok (.getfield 190, 3) := by decide +kernel
theorem dX4_truck_118 : decode cX4_truck 118 = .ok (.getfield 205, 3) := by decide +kernel
theorem dX4_truck_121 : decode cX4_truck 121 = .ok (.ireturn, 1) := by decide +kernel
theorem dX4_truck_122 : decode cX4_truck 122 = .ok (.aload_n 0, 1) := by decide +kernel
theorem dX4_truck_123 : decode cX4_truck 123 = .ok (.getfield 10, 3) := by decide +kernel
theorem dX4_truck_126 : decode cX4_truck 126 = .ok (.getfield 190, 3) := by decide +kernel
theorem dX4_truck_129 : decode cX4_truck 129 = .ok (.getfield 208, 3) := by decide +kernel
theorem dX4_truck_132 : decode cX4_truck 132 = .ok (.ireturn, 1) := by decide +kernel
theorem dX4_truck_133 : decode cX4_truck 133 = .ok (.iload_n 3, 1) := by decide +kernel
theorem dX4_truck_134 : decode cX4_truck 134 = .ok (.ifCond .eq 7, 3) := by decide +kernel
theorem dX4_truck_137 : decode cX4_truck 137 = .ok (.iconst 1, 1) := by decide +kernel
theorem dX4_truck_138 : decode cX4_truck 138 = .ok (.goto 4, 3) := by decide +kernel
theorem dX4_truck_141 : decode cX4_truck 141 = .ok (.iconst 0, 1) := by decide +kernel
theorem dX4_truck_142 : decode cX4_truck 142 = .ok (.ireturn, 1) := by decide +kernel
theorem dX4_count_0 : decode cX4_count 0 = .ok (.iload_n 1, 1) := by decide +kernel
theorem dX4_count_1 : decode cX4_count 1 = .ok (.iconst 0, 1) := by decide +kernel
theorem dX4_count_2 : decode cX4_count 2 = .ok (.bipush 10, 2) := by decide +kernel
theorem dX4_count_4 : decode cX4_count 4 = .ok (.invokestatic 34, 3) := by decide +kernel
theorem dX4_count_7 : decode cX4_count 7 = .ok (.ifCond .ne 13, 3) := by decide +kernel
theorem dX4_count_10 : decode cX4_count 10 = .ok (.new 38, 3) := by decide +kernel
theorem dX4_count_13 : decode cX4_count 13 = .ok (.dup, 1) := by decide +kernel
theorem dX4_count_14 : decode cX4_count 14 = .ok (.ldc 211, 2) := by decide +kernel
theorem dX4_count_16 : decode cX4_count 16 = .ok (.invokespecial 42, 3) := by decide +kernel
theorem dX4_count_19 : decode cX4_count 19 = .ok (.athrow, 1) := by decide +kernel
theorem dX4_count_20 : decode cX4_count 20 = .ok (.iload_n 1, 1) := by decide +kernel
theorem dX4_count_21 : decode cX4_count 21 = .ok (.tableswitch 137 0 9 #[55, 63, 71, 79, 88, 96, 105, 113, 121, 129], 55) := by decide +kernel
theorem dX4_count_76 : decode cX4_count 76 = .ok (.aload_n 0, 1) := by decide +kernel
theorem dX4_count_77 : decode cX4_count 77 = .ok (.getfield 10, 3) := by decide +kernel
theorem dX4_count_80 : decode cX4_count 80 = .ok (.getfield 127, 3) := by decide +kernel
theorem dX4_count_83 : decode cX4_count 83 = .ok (.ireturn, 1) := by decide +kernel
theorem dX4_count_84 : decode cX4_count 84 = .ok (.aload_n 0, 1) := by decide +kernel
theorem dX4_count_85 : decode cX4_count 85 = .ok (.getfield 10, 3) := by decide +kernel
theorem dX4_count_88 : decode cX4_count 88 = .ok (.getfield 213, 3) := by decide +kernel
theorem dX4_count_91 : decode cX4_count 91 = .ok (.ireturn, 1) := by decide +kernel
theorem dX4_count_92 : decode cX4_count 92 = .ok (.aload_n 0, 1) := by decide +kernel
theorem dX4_count_93 : decode cX4_count 93 = .ok (.getfield 10, 3) := by decide +kernel
theorem dX4_count_96 : decode cX4_count 96 = .ok (.getfield 216, 3) := by decide +kernel
theorem dX4_count_99 : decode cX4_count 99 = .ok (.ireturn, 1) := by decide +kernel
theorem dX4_count_100 : decode cX4_count 100 = .ok (.aload_n 0, 1) := by decide +kernel
theorem dX4_count_101 : decode cX4_count 101 = .ok (.getfield 10, 3) := by decide +kernel
theorem dX4_count_104 : decode cX4_count 104 = .ok (.iconst (-1), 1) := by decide +kernel
theorem dX4_count_105 : decode cX4_count 105 = .ok (.invokevirtual 199, 3) := by decide +kernel
theorem dX4_count_108 : decode cX4_count 108 = .ok (.ireturn, 1) := by decide +kernel
theorem dX4_count_109 : decode cX4_count 109 = .ok (.aload_n 0, 1) := by decide +kernel
theorem dX4_count_110 : decode cX4_count 110 = .ok (.getfield 10, 3) := by decide +kernel
theorem dX4_count_113 : decode cX4_count 113 = .ok (.invokevirtual 219, 3) := by decide +kernel
theorem dX4_count_116 : decode cX4_count 116 = .ok (.ireturn, 1) := by decide +kernel
theorem dX4_count_117 : decode cX4_count 117 = .ok (.aload_n 0, 1) := by decide +kernel
theorem dX4_count_118 : decode cX4_count 118 = .ok (.getfield 10, 3) := by decide +kernel
theorem dX4_count_121 : decode cX4_count 121 = .ok (.iconst 4, 1) := by decide +kernel
theorem dX4_count_122 : decode cX4_count 122 = .ok (.invokevirtual 199, 3) := by decide +kernel
theorem dX4_count_125 : decode cX4_count 125 = .ok (.ireturn, 1) := by decide +kernel
theorem dX4_count_126 : decode cX4_count 126 = .ok (.aload_n 0, 1) := by decide +kernel
theorem dX4_count_127 : decode cX4_count 127 = .ok (.getfield 10, 3) := by decide +kernel
theorem dX4_count_130 : decode cX4_count 130 = .ok (.invokevirtual 222, 3) := by decide +kernel
theorem dX4_count_133 : decode cX4_count 133 = .ok (.ireturn, 1) := by decide +kernel
theorem dX4_count_134 : decode cX4_count 134 = .ok (.aload_n 0, 1) := by decide +kernel
theorem dX4_count_135 : decode cX4_count 135 = .ok (.getfield 10, 3) := by decide +kernel
theorem dX4_count_138 : decode cX4_count 138 = .ok (.getfield 225, 3) := by decide +kernel
theorem dX4_count_141 : decode cX4_count 141 = .ok (.ireturn, 1) := by decide +kernel
theorem dX4_count_142 : decode cX4_count 142 = .ok (.aload_n 0, 1) := by decide +kernel
theorem dX4_count_143 : decode cX4_count 143 = .ok (.getfield 10, 3) := by decide +kernel
theorem dX4_count_146 : decode cX4_count 146 = .ok (.getfield 228, 3) := by decide +kernel
theorem dX4_count_149 : decode cX4_count 149 = .ok (.ireturn, 1) := by decide +kernel
theorem dX4_count_150 : decode cX4_count 150 = .ok (.aload_n 0, 1) := by decide +kernel
theorem dX4_count_151 : decode cX4_count 151 = .ok (.getfield 10, 3) := by decide +kernel
theorem dX4_count_154 : decode cX4_count 154 = .ok (.getfield 231, 3) := by decide +kernel
theorem dX4_count_157 : decode cX4_count 157 = .ok (.ireturn, 1) := by decide +kernel
theorem dX4_count_158 : decode cX4_count 158 = .ok (.aload_n 0, 1) := by decide +kernel
theorem dX4_count_159 : decode cX4_count 159 = .ok (.getfield 24, 3) := by decide +kernel
theorem dX4_count_162 : decode cX4_count 162 = .ok (.ireturn, 1) := by decide +kernel
theorem dX4_setting_0 : decode cX4_setting 0 = .ok (.iload_n 1, 1) := by decide +kernel
theorem dX4_setting_1 : decode cX4_setting 1 = .ok (.invokestatic 110, 3) := by decide +kernel
theorem dX4_setting_4 : decode cX4_setting 4 = .ok (.aload_n 0, 1) := by decide +kernel
theorem dX4_setting_5 : decode cX4_setting 5 = .ok (.getfield 10, 3) := by decide +kernel
theorem dX4_setting_8 : decode cX4_setting 8 = .ok (.getfield 121, 3) := by decide +kernel
theorem dX4_setting_11 : decode cX4_setting 11 = .ok (.iload_n 1, 1) := by decide +kernel
theorem dX4_setting_12 : decode cX4_setting 12 = .ok (.iaload, 1) := by decide +kernel
theorem dX4_setting_13 : decode cX4_setting 13 = .ok (.ireturn, 1) := by decide +kernel
theorem dX4_ifTested_0 : decode cX4_ifTested 0 = .ok (.aload_n 0, 1) := by decide +kernel
theorem dX4_ifTested_1 : decode cX4_ifTested 1 = .ok (.iload_n 1, 1) := by decide +kernel
theorem dX4_ifTested_2 : decode cX4_ifTested 2 = .ok (.invokevirtual 61, 3) := by decide +kernel
theorem dX4_ifTested_5 : decode cX4_ifTested 5 = .ok (.iload_n 2, 1) := by decide +kernel
theorem dX4_ifTested_6 : decode cX4_ifTested 6 = .ok (.invokestatic 96, 3) := by decide +kernel
theorem dX4_ifTested_9 : decode cX4_ifTested 9 = .ok (.aload_n 0, 1) := by decide +kernel
theorem dX4_ifTested_10 : decode cX4_ifTested 10 = .ok (.getfield 10, 3) := by decide +kernel
theorem dX4_ifTested_13 : decode cX4_ifTested 13 = .ok (.iload_n 1, 1) := by decide +kernel
theorem dX4_ifTested_14 : decode cX4_ifTested 14 = .ok (.invokevirtual 234, 3) := by decide +kernel
theorem dX4_ifTested_17 : decode cX4_ifTested 17 = .ok (.ifCond .eq 7, 3) := by decide +kernel
theorem dX4_ifTested_20 : decode cX4_ifTested 20 = .ok (.iconst (-1), 1) := by decide +kernel
theorem dX4_ifTested_21 : decode cX4_ifTested 21 = .ok (.goto 12, 3) := by decide +kernel
theorem dX4_ifTested_24 : decode cX4_ifTested 24 = .ok (.aload_n 0, 1) := by decide +kernel
theorem dX4_ifTested_25 : decode cX4_ifTested 25 = .ok (.getfield 10, 3) := by decide +kernel
theorem dX4_ifTested_28 : decode cX4_ifTested 28 = .ok (.iload_n 1, 1) := by decide +kernel
theorem dX4_ifTested_29 : decode cX4_ifTested 29 = .ok (.iload_n 2, 1) := by decide +kernel
theorem dX4_ifTested_30 : decode cX4_ifTested 30 = .ok (.invokevirtual 237, 3) := by decide +kernel
theorem dX4_ifTested_33 : decode cX4_ifTested 33 = .ok (.ireturn, 1) := by decide +kernel
theorem dX4_safe_0 : decode cX4_safe 0 = .ok (.aload_n 0, 1) := by decide +kernel
theorem dX4_safe_1 : decode cX4_safe 1 = .ok (.iload_n 1, 1) := by decide +kernel
theorem dX4_safe_2 : decode cX4_safe 2 = .ok (.invokevirtual 61, 3) := by decide +kernel
theorem dX4_safe_5 : decode cX4_safe 5 = .ok (.aload_n 0, 1) := by decide +kernel
theorem dX4_safe_6 : decode cX4_safe 6 = .ok (.getfield 10, 3) := by decide +kernel
theorem dX4_safe_9 : decode cX4_safe 9 = .ok (.iload_n 1, 1) := by decide +kernel
theorem dX4_safe_10 : decode cX4_safe 10 = .ok (.invokevirtual 234, 3) := by decide +kernel
theorem dX4_safe_13 : decode cX4_safe 13 = .ok (.ifCond .eq 7, 3) := by decide +kernel
theorem dX4_safe_16 : decode cX4_safe 16 = .ok (.iconst (-1), 1) := by decide +kernel
theorem dX4_safe_17 : decode cX4_safe 17 = .ok (.goto 11, 3) := by decide +kernel
theorem dX4_safe_20 : decode cX4_safe 20 = .ok (.aload_n 0, 1) := by decide +kernel
theorem dX4_safe_21 : decode cX4_safe 21 = .ok (.getfield 10, 3) := by decide +kernel
theorem dX4_safe_24 : decode cX4_safe 24 = .ok (.iload_n 1, 1) := by decide +kernel
theorem dX4_safe_25 : decode cX4_safe 25 = .ok (.invokevirtual 240, 3) := by decide +kernel
theorem dX4_safe_28 : decode cX4_safe 28 = .ok (.ireturn, 1) := by decide +kernel
theorem dX4_nextLapse_0 : decode cX4_nextLapse 0 = .ok (.aload_n 0, 1) := by decide +kernel
theorem dX4_nextLapse_1 : decode cX4_nextLapse 1 = .ok (.getfield 10, 3) := by decide +kernel
theorem dX4_nextLapse_4 : decode cX4_nextLapse 4 = .ok (.invokevirtual 243, 3) := by decide +kernel
theorem dX4_nextLapse_7 : decode cX4_nextLapse 7 = .ok (.ireturn, 1) := by decide +kernel
theorem dX4_helps_0 : decode cX4_helps 0 = .ok (.iload_n 1, 1) := by decide +kernel
theorem dX4_helps_1 : decode cX4_helps 1 = .ok (.invokestatic 102, 3) := by decide +kernel
theorem dX4_helps_4 : decode cX4_helps 4 = .ok (.aload_n 0, 1) := by decide +kernel
theorem dX4_helps_5 : decode cX4_helps 5 = .ok (.getfield 10, 3) := by decide +kernel
theorem dX4_helps_8 : decode cX4_helps 8 = .ok (.iload_n 1, 1) := by decide +kernel
theorem dX4_helps_9 : decode cX4_helps 9 = .ok (.invokevirtual 246, 3) := by decide +kernel
theorem dX4_helps_12 : decode cX4_helps 12 = .ok (.ireturn, 1) := by decide +kernel
theorem dX4_readyShare_0 : decode cX4_readyShare 0 = .ok (.aload_n 0, 1) := by decide +kernel
theorem dX4_readyShare_1 : decode cX4_readyShare 1 = .ok (.getfield 10, 3) := by decide +kernel
theorem dX4_readyShare_4 : decode cX4_readyShare 4 = .ok (.getfield 216, 3) := by decide +kernel
theorem dX4_readyShare_7 : decode cX4_readyShare 7 = .ok (.aload_n 0, 1) := by decide +kernel
theorem dX4_readyShare_8 : decode cX4_readyShare 8 = .ok (.getfield 10, 3) := by decide +kernel
theorem dX4_readyShare_11 : decode cX4_readyShare 11 = .ok (.iconst (-1), 1) := by decide +kernel
theorem dX4_readyShare_12 : decode cX4_readyShare 12 = .ok (.invokevirtual 199, 3) := by decide +kernel
theorem dX4_readyShare_15 : decode cX4_readyShare 15 = .ok (.isub, 1) := by decide +kernel
theorem dX4_readyShare_16 : decode cX4_readyShare 16 = .ok (.istore_n 1, 1) := by decide +kernel
theorem dX4_readyShare_17 : decode cX4_readyShare 17 = .ok (.iload_n 1, 1) := by decide +kernel
theorem dX4_readyShare_18 : decode cX4_readyShare 18 = .ok (.ifCond .gt 5, 3) := by decide +kernel
theorem dX4_readyShare_21 : decode cX4_readyShare 21 = .ok (.dconst 1, 1) := by decide +kernel
theorem dX4_readyShare_22 : decode cX4_readyShare 22 = .ok (.dreturn, 1) := by decide +kernel
theorem dX4_readyShare_23 : decode cX4_readyShare 23 = .ok (.aload_n 0, 1) := by decide +kernel
theorem dX4_readyShare_24 : decode cX4_readyShare 24 = .ok (.getfield 10, 3) := by decide +kernel
theorem dX4_readyShare_27 : decode cX4_readyShare 27 = .ok (.invokevirtual 219, 3) := by decide +kernel
theorem dX4_readyShare_30 : decode cX4_readyShare 30 = .ok (.i2d, 1) := by decide +kernel
theorem dX4_readyShare_31 : decode cX4_readyShare 31 = .ok (.iload_n 1, 1) := by decide +kernel
theorem dX4_readyShare_32 : decode cX4_readyShare 32 = .ok (.i2d, 1) := by decide +kernel
theorem dX4_readyShare_33 : decode cX4_readyShare 33 = .ok (.ddiv, 1) := by decide +kernel
theorem dX4_readyShare_34 : decode cX4_readyShare 34 = .ok (.dreturn, 1) := by decide +kernel
theorem dX4_digest_0 : decode cX4_digest 0 = .ok (.ldc2_w 249, 3) := by decide +kernel
theorem dX4_digest_3 : decode cX4_digest 3 = .ok (.lstore_n 1, 1) := by decide +kernel
theorem dX4_digest_4 : decode cX4_digest 4 = .ok (.iconst 0, 1) := by decide +kernel
theorem dX4_digest_5 : decode cX4_digest 5 = .ok (.istore_n 3, 1) := by decide +kernel
theorem dX4_digest_6 : decode cX4_digest 6 = .ok (.iload_n 3, 1) := by decide +kernel
theorem dX4_digest_7 : decode cX4_digest 7 = .ok (.bipush 11, 2) := by decide +kernel
theorem dX4_digest_9 : decode cX4_digest 9 = .ok (.if_icmp .ge 20, 3) := by decide +kernel
theorem dX4_digest_12 : decode cX4_digest 12 = .ok (.lload_n 1, 1) := by decide +kernel
theorem dX4_digest_13 : decode cX4_digest 13 = .ok (.aload_n 0, 1) := by decide +kernel
theorem dX4_digest_14 : decode cX4_digest 14 = .ok (.iload_n 3, 1) := by decide +kernel
theorem dX4_digest_15 : decode cX4_digest 15 = .ok (.invokevirtual 251, 3) := by decide +kernel
theorem dX4_digest_18 : decode cX4_digest 18 = .ok (.i2l, 1) := by decide +kernel
theorem dX4_digest_19 : decode cX4_digest 19 = .ok (.invokestatic 254, 3) := by decide +kernel
theorem dX4_digest_22 : decode cX4_digest 22 = .ok (.lstore_n 1, 1) := by decide +kernel
theorem dX4_digest_23 : decode cX4_digest 23 = .ok (.iinc 3 1, 3) := by decide +kernel
theorem dX4_digest_26 : decode cX4_digest 26 = .ok (.goto (-20), 3) := by decide +kernel
theorem dX4_digest_29 : decode cX4_digest 29 = .ok (.iconst 0, 1) := by decide +kernel
theorem dX4_digest_30 : decode cX4_digest 30 = .ok (.istore_n 3, 1) := by decide +kernel
theorem dX4_digest_31 : decode cX4_digest 31 = .ok (.iload_n 3, 1) := by decide +kernel
theorem dX4_digest_32 : decode cX4_digest 32 = .ok (.iconst 3, 1) := by decide +kernel
theorem dX4_digest_33 : decode cX4_digest 33 = .ok (.if_icmp .ge 24, 3) := by decide +kernel
theorem dX4_digest_36 : decode cX4_digest 36 = .ok (.lload_n 1, 1) := by decide +kernel
theorem dX4_digest_37 : decode cX4_digest 37 = .ok (.aload_n 0, 1) := by decide +kernel
theorem dX4_digest_38 : decode cX4_digest 38 = .ok (.getfield 10, 3) := by decide +kernel
theorem dX4_digest_41 : decode cX4_digest 41 = .ok (.getfield 121, 3) := by decide +kernel
theorem dX4_digest_44 : decode cX4_digest 44 = .ok (.iload_n 3, 1) := by decide +kernel
theorem dX4_digest_45 : decode cX4_digest 45 = .ok (.iaload, 1) := by decide +kernel
theorem dX4_digest_46 : decode cX4_digest 46 = .ok (.i2l, 1) := by decide +kernel
theorem dX4_digest_47 : decode cX4_digest 47 = .ok (.invokestatic 254, 3) := by decide +kernel
theorem dX4_digest_50 : decode cX4_digest 50 = .ok (.lstore_n 1, 1) := by decide +kernel
theorem dX4_digest_51 : decode cX4_digest 51 = .ok (.iinc 3 1, 3) := by decide +kernel
theorem dX4_digest_54 : decode cX4_digest 54 = .ok (.goto (-23), 3) := by decide +kernel
theorem dX4_digest_57 : decode cX4_digest 57 = .ok (.iconst 0, 1) := by decide +kernel
theorem dX4_digest_58 : decode cX4_digest 58 = .ok (.istore_n 3, 1) := by decide +kernel
theorem dX4_digest_59 : decode cX4_digest 59 = .ok (.iload_n 3, 1) := by decide +kernel
theorem dX4_digest_60 : decode cX4_digest 60 = .ok (.aload_n 0, 1) := by decide +kernel
theorem dX4_digest_61 : decode cX4_digest 61 = .ok (.getfield 10, 3) := by decide +kernel
theorem dX4_digest_64 : decode cX4_digest 64 = .ok (.getfield 216, 3) := by decide +kernel
theorem dX4_digest_67 : decode cX4_digest 67 = .ok (.if_icmp .ge 62, 3) := by decide +kernel
theorem dX4_digest_70 : decode cX4_digest 70 = .ok (.iconst 0, 1) := by decide +kernel
theorem dX4_digest_71 : decode cX4_digest 71 = .ok (.istore 4, 2) := by decide +kernel
theorem dX4_digest_73 : decode cX4_digest 73 = .ok (.iload 4, 2) := by decide +kernel
theorem dX4_digest_75 : decode cX4_digest 75 = .ok (.bipush 10, 2) := by decide +kernel
theorem dX4_digest_77 : decode cX4_digest 77 = .ok (.if_icmp .ge 22, 3) := by decide +kernel
theorem dX4_digest_80 : decode cX4_digest 80 = .ok (.lload_n 1, 1) := by decide +kernel
theorem dX4_digest_81 : decode cX4_digest 81 = .ok (.aload_n 0, 1) := by decide +kernel
theorem dX4_digest_82 : decode cX4_digest 82 = .ok (.iload_n 3, 1) := by decide +kernel
theorem dX4_digest_83 : decode cX4_digest 83 = .ok (.iload 4, 2) := by decide +kernel
theorem dX4_digest_85 : decode cX4_digest 85 = .ok (.invokevirtual 258, 3) := by decide +kernel
theorem dX4_digest_88 : decode cX4_digest 88 = .ok (.i2l, 1) := by decide +kernel
theorem dX4_digest_89 : decode cX4_digest 89 = .ok (.invokestatic 254, 3) := by decide +kernel
theorem dX4_digest_92 : decode cX4_digest 92 = .ok (.lstore_n 1, 1) := by decide +kernel
theorem dX4_digest_93 : decode cX4_digest 93 = .ok (.iinc 4 1, 3) := by decide +kernel
theorem dX4_digest_96 : decode cX4_digest 96 = .ok (.goto (-23), 3) := by decide +kernel
theorem dX4_digest_99 : decode cX4_digest 99 = .ok (.lload_n 1, 1) := by decide +kernel
theorem dX4_digest_100 : decode cX4_digest 100 = .ok (.aload_n 0, 1) := by decide +kernel
theorem dX4_digest_101 : decode cX4_digest 101 = .ok (.iload_n 3, 1) := by decide +kernel
theorem dX4_digest_102 : decode cX4_digest 102 = .ok (.bipush 12, 2) := by decide +kernel
theorem dX4_digest_104 : decode cX4_digest 104 = .ok (.invokevirtual 261, 3) := by decide +kernel
theorem dX4_digest_107 : decode cX4_digest 107 = .ok (.i2l, 1) := by decide +kernel
theorem dX4_digest_108 : decode cX4_digest 108 = .ok (.invokestatic 254, 3) := by decide +kernel
theorem dX4_digest_111 : decode cX4_digest 111 = .ok (.lstore_n 1, 1) := by decide +kernel
theorem dX4_digest_112 : decode cX4_digest 112 = .ok (.lload_n 1, 1) := by decide +kernel
theorem dX4_digest_113 : decode cX4_digest 113 = .ok (.aload_n 0, 1) := by decide +kernel
theorem dX4_digest_114 : decode cX4_digest 114 = .ok (.iload_n 3, 1) := by decide +kernel
theorem dX4_digest_115 : decode cX4_digest 115 = .ok (.invokevirtual 264, 3) := by decide +kernel
theorem dX4_digest_118 : decode cX4_digest 118 = .ok (.i2l, 1) := by decide +kernel
theorem dX4_digest_119 : decode cX4_digest 119 = .ok (.invokestatic 254, 3) := by decide +kernel
theorem dX4_digest_122 : decode cX4_digest 122 = .ok (.lstore_n 1, 1) := by decide +kernel
theorem dX4_digest_123 : decode cX4_digest 123 = .ok (.iinc 3 1, 3) := by decide +kernel
theorem dX4_digest_126 : decode cX4_digest 126 = .ok (.goto (-67), 3) := by decide +kernel
theorem dX4_digest_129 : decode cX4_digest 129 = .ok (.iconst 0, 1) := by decide +kernel
theorem dX4_digest_130 : decode cX4_digest 130 = .ok (.istore_n 3, 1) := by decide +kernel
theorem dX4_digest_131 : decode cX4_digest 131 = .ok (.iload_n 3, 1) := by decide +kernel
theorem dX4_digest_132 : decode cX4_digest 132 = .ok (.iconst 3, 1) := by decide +kernel
theorem dX4_digest_133 : decode cX4_digest 133 = .ok (.if_icmp .ge 49, 3) := by decide +kernel
theorem dX4_digest_136 : decode cX4_digest 136 = .ok (.iconst 0, 1) := by decide +kernel
theorem dX4_digest_137 : decode cX4_digest 137 = .ok (.istore 4, 2) := by decide +kernel
theorem dX4_digest_139 : decode cX4_digest 139 = .ok (.iload 4, 2) := by decide +kernel
theorem dX4_digest_141 : decode cX4_digest 141 = .ok (.bipush 7, 2) := by decide +kernel
theorem dX4_digest_143 : decode cX4_digest 143 = .ok (.if_icmp .ge 22, 3) := by decide +kernel
theorem dX4_digest_146 : decode cX4_digest 146 = .ok (.lload_n 1, 1) := by decide +kernel
theorem dX4_digest_147 : decode cX4_digest 147 = .ok (.aload_n 0, 1) := by decide +kernel
theorem dX4_digest_148 : decode cX4_digest 148 = .ok (.iload_n 3, 1) := by decide +kernel
theorem dX4_digest_149 : decode cX4_digest 149 = .ok (.iload 4, 2) := by decide +kernel
theorem dX4_digest_151 : decode cX4_digest 151 = .ok (.invokevirtual 267, 3) := by decide +kernel
theorem dX4_digest_154 : decode cX4_digest 154 = .ok (.i2l, 1) := by decide +kernel
theorem dX4_digest_155 : decode cX4_digest 155 = .ok (.invokestatic 254, 3) := by decide +kernel
theorem dX4_digest_158 : decode cX4_digest 158 = .ok (.lstore_n 1, 1) := by decide +kernel
theorem dX4_digest_159 : decode cX4_digest 159 = .ok (.iinc 4 1, 3) := by decide +kernel
theorem dX4_digest_162 : decode cX4_digest 162 = .ok (.goto (-23), 3) := by decide +kernel
theorem dX4_digest_165 : decode cX4_digest 165 = .ok (.lload_n 1, 1) := by decide +kernel
theorem dX4_digest_166 : decode cX4_digest 166 = .ok (.aload_n 0, 1) := by decide +kernel
theorem dX4_digest_167 : decode cX4_digest 167 = .ok (.iload_n 3, 1) := by decide +kernel
theorem dX4_digest_168 : decode cX4_digest 168 = .ok (.invokevirtual 270, 3) := by decide +kernel
theorem dX4_digest_171 : decode cX4_digest 171 = .ok (.i2l, 1) := by decide +kernel
theorem dX4_digest_172 : decode cX4_digest 172 = .ok (.invokestatic 254, 3) := by decide +kernel
theorem dX4_digest_175 : decode cX4_digest 175 = .ok (.lstore_n 1, 1) := by decide +kernel
theorem dX4_digest_176 : decode cX4_digest 176 = .ok (.iinc 3 1, 3) := by decide +kernel
theorem dX4_digest_179 : decode cX4_digest 179 = .ok (.goto (-48), 3) := by decide +kernel
theorem dX4_digest_182 : decode cX4_digest 182 = .ok (.lload_n 1, 1) := by decide +kernel
theorem dX4_digest_183 : decode cX4_digest 183 = .ok (.aload_n 0, 1) := by decide +kernel
theorem dX4_digest_184 : decode cX4_digest 184 = .ok (.invokevirtual 273, 3) := by decide +kernel
theorem dX4_digest_187 : decode cX4_digest 187 = .ok (.i2l, 1) := by decide +kernel
theorem dX4_digest_188 : decode cX4_digest 188 = .ok (.invokestatic 254, 3) := by decide +kernel
theorem dX4_digest_191 : decode cX4_digest 191 = .ok (.lstore_n 1, 1) := by decide +kernel
theorem dX4_digest_192 : decode cX4_digest 192 = .ok (.lload_n 1, 1) := by decide +kernel
theorem dX4_digest_193 : decode cX4_digest 193 = .ok (.aload_n 0, 1) := by decide +kernel
theorem dX4_digest_194 : decode cX4_digest 194 = .ok (.invokevirtual 276, 3) := by decide +kernel
theorem dX4_digest_197 : decode cX4_digest 197 = .ok (.invokestatic 280, 3) := by decide +kernel
theorem dX4_digest_200 : decode cX4_digest 200 = .ok (.invokestatic 254, 3) := by decide +kernel
theorem dX4_digest_203 : decode cX4_digest 203 = .ok (.lstore_n 1, 1) := by decide +kernel
theorem dX4_digest_204 : decode cX4_digest 204 = .ok (.lload_n 1, 1) := by decide +kernel
theorem dX4_digest_205 : decode cX4_digest 205 = .ok (.aload_n 0, 1) := by decide +kernel
theorem dX4_digest_206 : decode cX4_digest 206 = .ok (.getfield 30, 3) := by decide +kernel
theorem dX4_digest_209 : decode cX4_digest 209 = .ok (.getfield 141, 3) := by decide +kernel
theorem dX4_digest_212 : decode cX4_digest 212 = .ok (.i2l, 1) := by decide +kernel
theorem dX4_digest_213 : decode cX4_digest 213 = .ok (.invokestatic 254, 3) := by decide +kernel
theorem dX4_digest_216 : decode cX4_digest 216 = .ok (.lstore_n 1, 1) := by decide +kernel
theorem dX4_digest_217 : decode cX4_digest 217 = .ok (.iconst 0, 1) := by decide +kernel
theorem dX4_digest_218 : decode cX4_digest 218 = .ok (.istore_n 3, 1) := by decide +kernel
theorem dX4_digest_219 : decode cX4_digest 219 = .ok (.iload_n 3, 1) := by decide +kernel
theorem dX4_digest_220 : decode cX4_digest 220 = .ok (.aload_n 0, 1) := by decide +kernel
theorem dX4_digest_221 : decode cX4_digest 221 = .ok (.getfield 30, 3) := by decide +kernel
theorem dX4_digest_224 : decode cX4_digest 224 = .ok (.getfield 141, 3) := by decide +kernel
theorem dX4_digest_227 : decode cX4_digest 227 = .ok (.if_icmp .ge 24, 3) := by decide +kernel
theorem dX4_digest_230 : decode cX4_digest 230 = .ok (.lload_n 1, 1) := by decide +kernel
theorem dX4_digest_231 : decode cX4_digest 231 = .ok (.aload_n 0, 1) := by decide +kernel
theorem dX4_digest_232 : decode cX4_digest 232 = .ok (.getfield 30, 3) := by decide +kernel
theorem dX4_digest_235 : decode cX4_digest 235 = .ok (.getfield 284, 3) := by decide +kernel
theorem dX4_digest_238 : decode cX4_digest 238 = .ok (.iload_n 3, 1) := by decide +kernel
theorem dX4_digest_239 : decode cX4_digest 239 = .ok (.iaload, 1) := by decide +kernel
theorem dX4_digest_240 : decode cX4_digest 240 = .ok (.i2l, 1) := by decide +kernel
theorem dX4_digest_241 : decode cX4_digest 241 = .ok (.invokestatic 254, 3) := by decide +kernel
theorem dX4_digest_244 : decode cX4_digest 244 = .ok (.lstore_n 1, 1) := by decide +kernel
theorem dX4_digest_245 : decode cX4_digest 245 = .ok (.iinc 3 1, 3) := by decide +kernel
theorem dX4_digest_248 : decode cX4_digest 248 = .ok (.goto (-29), 3) := by decide +kernel
theorem dX4_digest_251 : decode cX4_digest 251 = .ok (.lload_n 1, 1) := by decide +kernel
theorem dX4_digest_252 : decode cX4_digest 252 = .ok (.lreturn, 1) := by decide +kernel
theorem dX4_isWithin_0 : decode cX4_isWithin 0 = .ok (.iload_n 0, 1) := by decide +kernel
theorem dX4_isWithin_1 : decode cX4_isWithin 1 = .ok (.iload_n 1, 1) := by decide +kernel
theorem dX4_isWithin_2 : decode cX4_isWithin 2 = .ok (.if_icmp .lt 12, 3) := by decide +kernel
theorem dX4_isWithin_5 : decode cX4_isWithin 5 = .ok (.iload_n 0, 1) := by decide +kernel
theorem dX4_isWithin_6 : decode cX4_isWithin 6 = .ok (.iload_n 2, 1) := by decide +kernel
theorem dX4_isWithin_7 : decode cX4_isWithin 7 = .ok (.if_icmp .gt 7, 3) := by decide +kernel
theorem dX4_isWithin_10 : decode cX4_isWithin 10 = .ok (.iconst 1, 1) := by decide +kernel
theorem dX4_isWithin_11 : decode cX4_isWithin 11 = .ok (.goto 4, 3) := by decide +kernel
theorem dX4_isWithin_14 : decode cX4_isWithin 14 = .ok (.iconst 0, 1) := by decide +kernel
theorem dX4_isWithin_15 : decode cX4_isWithin 15 = .ok (.ireturn, 1) := by decide +kernel
theorem dX4_requireHose_0 : decode cX4_requireHose 0 = .ok (.iload_n 1, 1) := by decide +kernel
theorem dX4_requireHose_1 : decode cX4_requireHose 1 = .ok (.iconst 0, 1) := by decide +kernel
theorem dX4_requireHose_2 : decode cX4_requireHose 2 = .ok (.aload_n 0, 1) := by decide +kernel
theorem dX4_requireHose_3 : decode cX4_requireHose 3 = .ok (.getfield 10, 3) := by decide +kernel
theorem dX4_requireHose_6 : decode cX4_requireHose 6 = .ok (.getfield 216, 3) := by decide +kernel
theorem dX4_requireHose_9 : decode cX4_requireHose 9 = .ok (.iconst 1, 1) := by decide +kernel
theorem dX4_requireHose_10 : decode cX4_requireHose 10 = .ok (.isub, 1) := by decide +kernel
theorem dX4_requireHose_11 : decode cX4_requireHose 11 = .ok (.invokestatic 34, 3) := by decide +kernel
theorem dX4_requireHose_14 : decode cX4_requireHose 14 = .ok (.ifCond .ne 14, 3) := by decide +kernel
theorem dX4_requireHose_17 : decode cX4_requireHose 17 = .ok (.new 287, 3) := by decide +kernel
theorem dX4_requireHose_20 : decode cX4_requireHose 20 = .ok (.dup, 1) := by decide +kernel
theorem dX4_requireHose_21 : decode cX4_requireHose 21 = .ok (.ldc_w 289, 3) := by decide +kernel
theorem dX4_requireHose_24 : decode cX4_requireHose 24 = .ok (.invokespecial 291, 3) := by decide +kernel
theorem dX4_requireHose_27 : decode cX4_requireHose 27 = .ok (.athrow, 1) := by decide +kernel
theorem dX4_requireHose_28 : decode cX4_requireHose 28 = .ok (.return_, 1) := by decide +kernel
theorem dX4_requireAtHand_0 : decode cX4_requireAtHand 0 = .ok (.aload_n 0, 1) := by decide +kernel
theorem dX4_requireAtHand_1 : decode cX4_requireAtHand 1 = .ok (.getfield 10, 3) := by decide +kernel
theorem dX4_requireAtHand_4 : decode cX4_requireAtHand 4 = .ok (.iload_n 1, 1) := by decide +kernel
theorem dX4_requireAtHand_5 : decode cX4_requireAtHand 5 = .ok (.invokevirtual 234, 3) := by decide +kernel
theorem dX4_requireAtHand_8 : decode cX4_requireAtHand 8 = .ok (.ifCond .ne 14, 3) := by decide +kernel
theorem dX4_requireAtHand_11 : decode cX4_requireAtHand 11 = .ok (.aload_n 0, 1) := by decide +kernel
theorem dX4_requireAtHand_12 : decode cX4_requireAtHand 12 = .ok (.getfield 10, 3) := by decide +kernel
theorem dX4_requireAtHand_15 : decode cX4_requireAtHand 15 = .ok (.iload_n 1, 1) := by decide +kernel
theorem dX4_requireAtHand_16 : decode cX4_requireAtHand 16 = .ok (.invokevirtual 292, 3) := by decide +kernel
theorem dX4_requireAtHand_19 : decode cX4_requireAtHand 19 = .ok (.ifCond .eq 14, 3) := by decide +kernel
theorem dX4_requireAtHand_22 : decode cX4_requireAtHand 22 = .ok (.new 49, 3) := by decide +kernel
theorem dX4_requireAtHand_25 : decode cX4_requireAtHand 25 = .ok (.dup, 1) := by decide +kernel
theorem dX4_requireAtHand_26 : decode cX4_requireAtHand 26 = .ok (.ldc_w 295, 3) := by decide +kernel
theorem dX4_requireAtHand_29 : decode cX4_requireAtHand 29 = .ok (.invokespecial 53, 3) := by decide +kernel
theorem dX4_requireAtHand_32 : decode cX4_requireAtHand 32 = .ok (.athrow, 1) := by decide +kernel
theorem dX4_requireAtHand_33 : decode cX4_requireAtHand 33 = .ok (.return_, 1) := by decide +kernel
theorem dX4_requireTruck_0 : decode cX4_requireTruck 0 = .ok (.iload_n 0, 1) := by decide +kernel
theorem dX4_requireTruck_1 : decode cX4_requireTruck 1 = .ok (.iconst 0, 1) := by decide +kernel
theorem dX4_requireTruck_2 : decode cX4_requireTruck 2 = .ok (.iconst 2, 1) := by decide +kernel
theorem dX4_requireTruck_3 : decode cX4_requireTruck 3 = .ok (.invokestatic 34, 3) := by decide +kernel
theorem dX4_requireTruck_6 : decode cX4_requireTruck 6 = .ok (.ifCond .ne 14, 3) := by decide +kernel
theorem dX4_requireTruck_9 : decode cX4_requireTruck 9 = .ok (.new 287, 3) := by decide +kernel
theorem dX4_requireTruck_12 : decode cX4_requireTruck 12 = .ok (.dup, 1) := by decide +kernel
theorem dX4_requireTruck_13 : decode cX4_requireTruck 13 = .ok (.ldc_w 297, 3) := by decide +kernel
theorem dX4_requireTruck_16 : decode cX4_requireTruck 16 = .ok (.invokespecial 291, 3) := by decide +kernel
theorem dX4_requireTruck_19 : decode cX4_requireTruck 19 = .ok (.athrow, 1) := by decide +kernel
theorem dX4_requireTruck_20 : decode cX4_requireTruck 20 = .ok (.return_, 1) := by decide +kernel
theorem dX4_requireSetting_0 : decode cX4_requireSetting 0 = .ok (.iload_n 0, 1) := by decide +kernel
theorem dX4_requireSetting_1 : decode cX4_requireSetting 1 = .ok (.iconst 0, 1) := by decide +kernel
theorem dX4_requireSetting_2 : decode cX4_requireSetting 2 = .ok (.iconst 2, 1) := by decide +kernel
theorem dX4_requireSetting_3 : decode cX4_requireSetting 3 = .ok (.invokestatic 34, 3) := by decide +kernel
theorem dX4_requireSetting_6 : decode cX4_requireSetting 6 = .ok (.ifCond .ne 14, 3) := by decide +kernel
theorem dX4_requireSetting_9 : decode cX4_requireSetting 9 = .ok (.new 287, 3) := by decide +kernel
theorem dX4_requireSetting_12 : decode cX4_requireSetting 12 = .ok (.dup, 1) := by decide +kernel
theorem dX4_requireSetting_13 : decode cX4_requireSetting 13 = .ok (.ldc_w 299, 3) := by decide +kernel
theorem dX4_requireSetting_16 : decode cX4_requireSetting 16 = .ok (.invokespecial 291, 3) := by decide +kernel
theorem dX4_requireSetting_19 : decode cX4_requireSetting 19 = .ok (.athrow, 1) := by decide +kernel
theorem dX4_requireSetting_20 : decode cX4_requireSetting 20 = .ok (.return_, 1) := by decide +kernel
theorem dX4_requirePressure_0 : decode cX4_requirePressure 0 = .ok (.iload_n 0, 1) := by decide +kernel
theorem dX4_requirePressure_1 : decode cX4_requirePressure 1 = .ok (.iconst 4, 1) := by decide +kernel
theorem dX4_requirePressure_2 : decode cX4_requirePressure 2 = .ok (.bipush 24, 2) := by decide +kernel
theorem dX4_requirePressure_4 : decode cX4_requirePressure 4 = .ok (.invokestatic 34, 3) := by decide +kernel
theorem dX4_requirePressure_7 : decode cX4_requirePressure 7 = .ok (.ifCond .ne 14, 3) := by decide +kernel
theorem dX4_requirePressure_10 : decode cX4_requirePressure 10 = .ok (.new 38, 3) := by decide +kernel
theorem dX4_requirePressure_13 : decode cX4_requirePressure 13 = .ok (.dup, 1) := by decide +kernel
theorem dX4_requirePressure_14 : decode cX4_requirePressure 14 = .ok (.ldc_w 301, 3) := by decide +kernel
theorem dX4_requirePressure_17 : decode cX4_requirePressure 17 = .ok (.invokespecial 42, 3) := by decide +kernel
theorem dX4_requirePressure_20 : decode cX4_requirePressure 20 = .ok (.athrow, 1) := by decide +kernel
theorem dX4_requirePressure_21 : decode cX4_requirePressure 21 = .ok (.return_, 1) := by decide +kernel
theorem dX4_leastOfSetting_0 : decode cX4_leastOfSetting 0 = .ok (.iload_n 0, 1) := by decide +kernel
theorem dX4_leastOfSetting_1 : decode cX4_leastOfSetting 1 = .ok (.ifCond .ne 7, 3) := by decide +kernel
theorem dX4_leastOfSetting_4 : decode cX4_leastOfSetting 4 = .ok (.iconst 4, 1) := by decide +kernel
theorem dX4_leastOfSetting_5 : decode cX4_leastOfSetting 5 = .ok (.goto 4, 3) := by decide +kernel
theorem dX4_leastOfSetting_8 : decode cX4_leastOfSetting 8 = .ok (.iconst 0, 1) := by decide +kernel
theorem dX4_leastOfSetting_9 : decode cX4_leastOfSetting 9 = .ok (.ireturn, 1) := by decide +kernel
theorem dX4_greatestOfSetting_0 : decode cX4_greatestOfSetting 0 = .ok (.iload_n 0, 1) := by decide +kernel
theorem dX4_greatestOfSetting_1 : decode cX4_greatestOfSetting 1 = .ok (.lookupswitch 32 #[(0, 27), (1, 30)], 27) := by decide +kernel
theorem dX4_greatestOfSetting_28 : decode cX4_greatestOfSetting 28 = .ok (.bipush 24, 2) := by decide +kernel
theorem dX4_greatestOfSetting_30 : decode cX4_greatestOfSetting 30 = .ok (.ireturn, 1) := by decide +kernel
theorem dX4_greatestOfSetting_31 : decode cX4_greatestOfSetting 31 = .ok (.iconst 5, 1) := by decide +kernel
theorem dX4_greatestOfSetting_32 : decode cX4_greatestOfSetting 32 = .ok (.ireturn, 1) := by decide +kernel
theorem dX4_greatestOfSetting_33 : decode cX4_greatestOfSetting 33 = .ok (.sipush 200, 3) := by decide +kernel
theorem dX4_greatestOfSetting_36 : decode cX4_greatestOfSetting 36 = .ok (.ireturn, 1) := by decide +kernel
theorem dX4_saveState_0 : decode cX4_saveState 0 = .ok (.aload_n 0, 1) := by decide +kernel
theorem dX4_saveState_1 : decode cX4_saveState 1 = .ok (.aload_n 0, 1) := by decide +kernel
theorem dX4_saveState_2 : decode cX4_saveState 2 = .ok (.getfield 20, 3) := by decide +kernel
theorem dX4_saveState_5 : decode cX4_saveState 5 = .ok (.iconst 5, 1) := by decide +kernel
theorem dX4_saveState_6 : decode cX4_saveState 6 = .ok (.if_icmp .lt 7, 3) := by decide +kernel
theorem dX4_saveState_9 : decode cX4_saveState 9 = .ok (.iconst 0, 1) := by decide +kernel
theorem dX4_saveState_10 : decode cX4_saveState 10 = .ok (.goto 9, 3) := by decide +kernel
theorem dX4_saveState_13 : decode cX4_saveState 13 = .ok (.aload_n 0, 1) := by decide +kernel
theorem dX4_saveState_14 : decode cX4_saveState 14 = .ok (.getfield 20, 3) := by decide +kernel
theorem dX4_saveState_17 : decode cX4_saveState 17 = .ok (.iconst 1, 1) := by decide +kernel
theorem dX4_saveState_18 : decode cX4_saveState 18 = .ok (.iadd, 1) := by decide +kernel
theorem dX4_saveState_19 : decode cX4_saveState 19 = .ok (.putfield 20, 3) := by decide +kernel
theorem dX4_saveState_22 : decode cX4_saveState 22 = .ok (.aload_n 0, 1) := by decide +kernel
theorem dX4_saveState_23 : decode cX4_saveState 23 = .ok (.getfield 16, 3) := by decide +kernel
theorem dX4_saveState_26 : decode cX4_saveState 26 = .ok (.aload_n 0, 1) := by decide +kernel
theorem dX4_saveState_27 : decode cX4_saveState 27 = .ok (.getfield 20, 3) := by decide +kernel
theorem dX4_saveState_30 : decode cX4_saveState 30 = .ok (.aaload, 1) := by decide +kernel
theorem dX4_saveState_31 : decode cX4_saveState 31 = .ok (.astore_n 1, 1) := by decide +kernel
theorem dX4_saveState_32 : decode cX4_saveState 32 = .ok (.aload_n 1, 1) := by decide +kernel
theorem dX4_saveState_33 : decode cX4_saveState 33 = .ok (.ifnull 11, 3) := by decide +kernel
theorem dX4_saveState_36 : decode cX4_saveState 36 = .ok (.aload_n 1, 1) := by decide +kernel
theorem dX4_saveState_37 : decode cX4_saveState 37 = .ok (.aload_n 0, 1) := by decide +kernel
theorem dX4_saveState_38 : decode cX4_saveState 38 = .ok (.getfield 10, 3) := by decide +kernel
theorem dX4_saveState_41 : decode cX4_saveState 41 = .ok (.invokevirtual 158, 3) := by decide +kernel
theorem dX4_saveState_44 : decode cX4_saveState 44 = .ok (.aload_n 0, 1) := by decide +kernel
theorem dX4_saveState_45 : decode cX4_saveState 45 = .ok (.getfield 24, 3) := by decide +kernel
theorem dX4_saveState_48 : decode cX4_saveState 48 = .ok (.bipush 6, 2) := by decide +kernel
theorem dX4_saveState_50 : decode cX4_saveState 50 = .ok (.if_icmp .ge 13, 3) := by decide +kernel
theorem dX4_saveState_53 : decode cX4_saveState 53 = .ok (.aload_n 0, 1) := by decide +kernel
theorem dX4_saveState_54 : decode cX4_saveState 54 = .ok (.dup, 1) := by decide +kernel
theorem dX4_saveState_55 : decode cX4_saveState 55 = .ok (.getfield 24, 3) := by decide +kernel
theorem dX4_saveState_58 : decode cX4_saveState 58 = .ok (.iconst 1, 1) := by decide +kernel
theorem dX4_saveState_59 : decode cX4_saveState 59 = .ok (.iadd, 1) := by decide +kernel
theorem dX4_saveState_60 : decode cX4_saveState 60 = .ok (.putfield 24, 3) := by decide +kernel
theorem dX4_saveState_63 : decode cX4_saveState 63 = .ok (.return_, 1) := by decide +kernel
theorem dX4_buyParts_0 : decode cX4_buyParts 0 = .ok (.iconst 0, 1) := by decide +kernel
theorem dX4_buyParts_1 : decode cX4_buyParts 1 = .ok (.istore_n 1, 1) := by decide +kernel
theorem dX4_buyParts_2 : decode cX4_buyParts 2 = .ok (.iconst 0, 1) := by decide +kernel
theorem dX4_buyParts_3 : decode cX4_buyParts 3 = .ok (.istore_n 2, 1) := by decide +kernel
theorem dX4_buyParts_4 : decode cX4_buyParts 4 = .ok (.iconst 0, 1) := by decide +kernel
theorem dX4_buyParts_5 : decode cX4_buyParts 5 = .ok (.istore_n 3, 1) := by decide +kernel
theorem dX4_buyParts_6 : decode cX4_buyParts 6 = .ok (.iconst 0, 1) := by decide +kernel
theorem dX4_buyParts_7 : decode cX4_buyParts 7 = .ok (.istore 4, 2) := by decide +kernel
theorem dX4_buyParts_9 : decode cX4_buyParts 9 = .ok (.iload 4, 2) := by decide +kernel
theorem dX4_buyParts_11 : decode cX4_buyParts 11 = .ok (.aload_n 0, 1) := by decide +kernel
theorem dX4_buyParts_12 : decode cX4_buyParts 12 = .ok (.getfield 30, 3) := by decide +kernel
theorem dX4_buyParts_15 : decode cX4_buyParts 15 = .ok (.getfield 141, 3) := by decide +kernel
theorem dX4_buyParts_18 : decode cX4_buyParts 18 = .ok (.if_icmp .ge 105, 3) := by decide +kernel
theorem dX4_buyParts_21 : decode cX4_buyParts 21 = .ok (.aload_n 0, 1) := by decide +kernel
theorem dX4_buyParts_22 : decode cX4_buyParts 22 = .ok (.getfield 30, 3) := by decide +kernel
theorem dX4_buyParts_25 : decode cX4_buyParts 25 = .ok (.getfield 284, 3) := by decide +kernel
theorem dX4_buyParts_28 : decode cX4_buyParts 28 = .ok (.iload 4, 2) := by decide +kernel
theorem dX4_buyParts_30 : decode cX4_buyParts 30 = .ok (.iaload, 1) := by decide +kernel
theorem dX4_buyParts_31 : decode cX4_buyParts 31 = .ok (.istore 5, 2) := by decide +kernel
theorem dX4_buyParts_33 : decode cX4_buyParts 33 = .ok (.iload 5, 2) := by decide +kernel
theorem dX4_buyParts_35 : decode cX4_buyParts 35 = .ok (.invokestatic 303, 3) := by decide +kernel
theorem dX4_buyParts_38 : decode cX4_buyParts 38 = .ok (.iconst (-1), 1) := by decide +kernel
theorem dX4_buyParts_39 : decode cX4_buyParts 39 = .ok (.if_icmp .eq 14, 3) := by decide +kernel
theorem dX4_buyParts_42 : decode cX4_buyParts 42 = .ok (.iload 5, 2) := by decide +kernel
theorem dX4_buyParts_44 : decode cX4_buyParts 44 = .ok (.invokestatic 303, 3) := by decide +kernel
theorem dX4_buyParts_47 : decode cX4_buyParts 47 = .ok (.istore_n 2, 1) := by decide +kernel
theorem dX4_buyParts_48 : decode cX4_buyParts 48 = .ok (.iconst 0, 1) := by decide +kernel
theorem dX4_buyParts_49 : decode cX4_buyParts 49 = .ok (.istore_n 3, 1) := by decide +kernel
theorem dX4_buyParts_50 : decode cX4_buyParts 50 = .ok (.goto 67, 3) := by decide +kernel
theorem dX4_buyParts_53 : decode cX4_buyParts 53 = .ok (.iload 5, 2) := by decide +kernel
theorem dX4_buyParts_55 : decode cX4_buyParts 55 = .ok (.invokestatic 306, 3) := by decide +kernel
theorem dX4_buyParts_58 : decode cX4_buyParts 58 = .ok (.ifCond .eq 17, 3) := by decide +kernel
theorem dX4_buyParts_61 : decode cX4_buyParts 61 = .ok (.bipush 10, 2) := by decide +kernel
theorem dX4_buyParts_63 : decode cX4_buyParts 63 = .ok (.iload_n 3, 1) := by decide +kernel
theorem dX4_buyParts_64 : decode cX4_buyParts 64 = .ok (.imul, 1) := by decide +kernel
theorem dX4_buyParts_65 : decode cX4_buyParts 65 = .ok (.iload 5, 2) := by decide +kernel
theorem dX4_buyParts_67 : decode cX4_buyParts 67 = .ok (.iadd, 1) := by decide +kernel
theorem dX4_buyParts_68 : decode cX4_buyParts 68 = .ok (.bipush 48, 2) := by decide +kernel
theorem dX4_buyParts_70 : decode cX4_buyParts 70 = .ok (.isub, 1) := by decide +kernel
theorem dX4_buyParts_71 : decode cX4_buyParts 71 = .ok (.istore_n 3, 1) := by decide +kernel
theorem dX4_buyParts_72 : decode cX4_buyParts 72 = .ok (.goto 45, 3) := by decide +kernel
theorem dX4_buyParts_75 : decode cX4_buyParts 75 = .ok (.iload 5, 2) := by decide +kernel
theorem dX4_buyParts_77 : decode cX4_buyParts 77 = .ok (.invokestatic 309, 3) := by decide +kernel
theorem dX4_buyParts_80 : decode cX4_buyParts 80 = .ok (.iconst (-1), 1) := by decide +kernel
theorem dX4_buyParts_81 : decode cX4_buyParts 81 = .ok (.if_icmp .eq 36, 3) := by decide +kernel
theorem dX4_buyParts_84 : decode cX4_buyParts 84 = .ok (.aload_n 0, 1) := by decide +kernel
theorem dX4_buyParts_85 : decode cX4_buyParts 85 = .ok (.getfield 10, 3) := by decide +kernel
theorem dX4_buyParts_88 : decode cX4_buyParts 88 = .ok (.iload_n 2, 1) := by decide +kernel
theorem dX4_buyParts_89 : decode cX4_buyParts 89 = .ok (.iload_n 3, 1) := by decide +kernel
theorem dX4_buyParts_90 : decode cX4_buyParts 90 = .ok (.invokevirtual 45, 3) := by decide +kernel
theorem dX4_buyParts_93 : decode cX4_buyParts 93 = .ok (.ifCond .ne 5, 3) := by decide +kernel
theorem dX4_buyParts_96 : decode cX4_buyParts 96 = .ok (.iload_n 1, 1) := by decide +kernel
theorem dX4_buyParts_97 : decode cX4_buyParts 97 = .ok (.ireturn, 1) := by decide +kernel
theorem dX4_buyParts_98 : decode cX4_buyParts 98 = .ok (.aload_n 0, 1) := by decide +kernel
theorem dX4_buyParts_99 : decode cX4_buyParts 99 = .ok (.getfield 10, 3) := by decide +kernel
theorem dX4_buyParts_102 : decode cX4_buyParts 102 = .ok (.iload_n 2, 1) := by decide +kernel
theorem dX4_buyParts_103 : decode cX4_buyParts 103 = .ok (.iload_n 3, 1) := by decide +kernel
theorem dX4_buyParts_104 : decode cX4_buyParts 104 = .ok (.iload 5, 2) := by decide +kernel
theorem dX4_buyParts_106 : decode cX4_buyParts 106 = .ok (.invokestatic 309, 3) := by decide +kernel
theorem dX4_buyParts_109 : decode cX4_buyParts 109 = .ok (.iconst 3, 1) := by decide +kernel
theorem dX4_buyParts_110 : decode cX4_buyParts 110 = .ok (.invokevirtual 57, 3) := by decide +kernel
theorem dX4_buyParts_113 : decode cX4_buyParts 113 = .ok (.pop, 1) := by decide +kernel
theorem dX4_buyParts_114 : decode cX4_buyParts 114 = .ok (.iinc 1 1, 3) := by decide +kernel
theorem dX4_buyParts_117 : decode cX4_buyParts 117 = .ok (.iinc 4 1, 3) := by decide +kernel
theorem dX4_buyParts_120 : decode cX4_buyParts 120 = .ok (.goto (-111), 3) := by decide +kernel
theorem dX4_buyParts_123 : decode cX4_buyParts 123 = .ok (.iload_n 1, 1) := by decide +kernel
theorem dX4_buyParts_124 : decode cX4_buyParts 124 = .ok (.ireturn, 1) := by decide +kernel
theorem dX4_mixed_0 : decode cX4_mixed 0 = .ok (.ldc2_w 312, 3) := by decide +kernel
theorem dX4_mixed_3 : decode cX4_mixed 3 = .ok (.lload_n 0, 1) := by decide +kernel
theorem dX4_mixed_4 : decode cX4_mixed 4 = .ok (.lmul, 1) := by decide +kernel
theorem dX4_mixed_5 : decode cX4_mixed 5 = .ok (.lload_n 2, 1) := by decide +kernel
theorem dX4_mixed_6 : decode cX4_mixed 6 = .ok (.ladd, 1) := by decide +kernel
theorem dX4_mixed_7 : decode cX4_mixed 7 = .ok (.lreturn, 1) := by decide +kernel
theorem dX4_bitsOfShare_0 : decode cX4_bitsOfShare 0 = .ok (.dload_n 0, 1) := by decide +kernel
theorem dX4_bitsOfShare_1 : decode cX4_bitsOfShare 1 = .ok (.dconst 0, 1) := by decide +kernel
theorem dX4_bitsOfShare_2 : decode cX4_bitsOfShare 2 = .ok (.dcmp .g, 1) := by decide +kernel
theorem dX4_bitsOfShare_3 : decode cX4_bitsOfShare 3 = .ok (.ifCond .gt 5, 3) := by decide +kernel
theorem dX4_bitsOfShare_6 : decode cX4_bitsOfShare 6 = .ok (.lconst 0, 1) := by decide +kernel
theorem dX4_bitsOfShare_7 : decode cX4_bitsOfShare 7 = .ok (.lreturn, 1) := by decide +kernel
theorem dX4_bitsOfShare_8 : decode cX4_bitsOfShare 8 = .ok (.dload_n 0, 1) := by decide +kernel
theorem dX4_bitsOfShare_9 : decode cX4_bitsOfShare 9 = .ok (.dstore_n 2, 1) := by decide +kernel
theorem dX4_bitsOfShare_10 : decode cX4_bitsOfShare 10 = .ok (.ldc2_w 314, 3) := by decide +kernel
theorem dX4_bitsOfShare_13 : decode cX4_bitsOfShare 13 = .ok (.lstore 4, 2) := by decide +kernel
theorem dX4_bitsOfShare_15 : decode cX4_bitsOfShare 15 = .ok (.iconst 0, 1) := by decide +kernel
theorem dX4_bitsOfShare_16 : decode cX4_bitsOfShare 16 = .ok (.istore 6, 2) := by decide +kernel
theorem dX4_bitsOfShare_18 : decode cX4_bitsOfShare 18 = .ok (.iload 6, 2) := by decide +kernel
theorem dX4_bitsOfShare_20 : decode cX4_bitsOfShare 20 = .ok (.sipush 1022, 3) := by decide +kernel
theorem dX4_bitsOfShare_23 : decode cX4_bitsOfShare 23 = .ok (.if_icmp .ge 27, 3) := by decide +kernel
theorem dX4_bitsOfShare_26 : decode cX4_bitsOfShare 26 = .ok (.dload_n 2, 1) := by decide +kernel
theorem dX4_bitsOfShare_27 : decode cX4_bitsOfShare 27 = .ok (.dconst 1, 1) := by decide +kernel
theorem dX4_bitsOfShare_28 : decode cX4_bitsOfShare 28 = .ok (.dcmp .g, 1) := by decide +kernel
theorem dX4_bitsOfShare_29 : decode cX4_bitsOfShare 29 = .ok (.ifCond .ge 21, 3) := by decide +kernel
theorem dX4_bitsOfShare_32 : decode cX4_bitsOfShare 32 = .ok (.dload_n 2, 1) := by decide +kernel
theorem dX4_bitsOfShare_33 : decode cX4_bitsOfShare 33 = .ok (.ldc2_w 316, 3) := by decide +kernel
theorem dX4_bitsOfShare_36 : decode cX4_bitsOfShare 36 = .ok (.dmul, 1) := by decide +kernel
theorem dX4_bitsOfShare_37 : decode cX4_bitsOfShare 37 = .ok (.dstore_n 2, 1) := by decide +kernel
theorem dX4_bitsOfShare_38 : decode cX4_bitsOfShare 38 = .ok (.lload 4, 2) := by decide +kernel
theorem dX4_bitsOfShare_40 : decode cX4_bitsOfShare 40 = .ok (.lconst 1, 1) := by decide +kernel
theorem dX4_bitsOfShare_41 : decode cX4_bitsOfShare 41 = .ok (.lsub, 1) := by decide +kernel
theorem dX4_bitsOfShare_42 : decode cX4_bitsOfShare 42 = .ok (.lstore 4, 2) := by decide +kernel
theorem dX4_bitsOfShare_44 : decode cX4_bitsOfShare 44 = .ok (.iinc 6 1, 3) := by decide +kernel
theorem dX4_bitsOfShare_47 : decode cX4_bitsOfShare 47 = .ok (.goto (-29), 3) := by decide +kernel
theorem dX4_bitsOfShare_50 : decode cX4_bitsOfShare 50 = .ok (.dload_n 2, 1) := by decide +kernel
theorem dX4_bitsOfShare_51 : decode cX4_bitsOfShare 51 = .ok (.dconst 1, 1) := by decide +kernel
theorem dX4_bitsOfShare_52 : decode cX4_bitsOfShare 52 = .ok (.dsub, 1) := by decide +kernel
theorem dX4_bitsOfShare_53 : decode cX4_bitsOfShare 53 = .ok (.ldc2_w 318, 3) := by decide +kernel
theorem dX4_bitsOfShare_56 : decode cX4_bitsOfShare 56 = .ok (.dmul, 1) := by decide +kernel
theorem dX4_bitsOfShare_57 : decode cX4_bitsOfShare 57 = .ok (.d2l, 1) := by decide +kernel
theorem dX4_bitsOfShare_58 : decode cX4_bitsOfShare 58 = .ok (.lstore 6, 2) := by decide +kernel
theorem dX4_bitsOfShare_60 : decode cX4_bitsOfShare 60 = .ok (.lload 4, 2) := by decide +kernel
theorem dX4_bitsOfShare_62 : decode cX4_bitsOfShare 62 = .ok (.bipush 52, 2) := by decide +kernel
theorem dX4_bitsOfShare_64 : decode cX4_bitsOfShare 64 = .ok (.lshl, 1) := by decide +kernel
theorem dX4_bitsOfShare_65 : decode cX4_bitsOfShare 65 = .ok (.lload 6, 2) := by decide +kernel
theorem dX4_bitsOfShare_67 : decode cX4_bitsOfShare 67 = .ok (.ladd, 1) := by decide +kernel
theorem dX4_bitsOfShare_68 : decode cX4_bitsOfShare 68 = .ok (.lreturn, 1) := by decide +kernel
theorem dX5_init_0 : decode cX5_init 0 = .ok (.aload_n 0, 1) := by decide +kernel
theorem dX5_init_1 : decode cX5_init 1 = .ok (.invokespecial 1, 3) := by decide +kernel
theorem dX5_init_4 : decode cX5_init 4 = .ok (.aload_n 0, 1) := by decide +kernel
theorem dX5_init_5 : decode cX5_init 5 = .ok (.bipush 124, 2) := by decide +kernel
theorem dX5_init_7 : decode cX5_init 7 = .ok (.newarray .int, 2) := by decide +kernel
theorem dX5_init_9 : decode cX5_init 9 = .ok (.putfield 7, 3) := by decide +kernel
theorem dX5_init_12 : decode cX5_init 12 = .ok (.aload_n 0, 1) := by decide +kernel
theorem dX5_init_13 : decode cX5_init 13 = .ok (.sipush 744, 3) := by decide +kernel
theorem dX5_init_16 : decode cX5_init 16 = .ok (.newarray .int, 2) := by decide +kernel
theorem dX5_init_18 : decode cX5_init 18 = .ok (.putfield 13, 3) := by decide +kernel
theorem dX5_init_21 : decode cX5_init 21 = .ok (.aload_n 0, 1) := by decide +kernel
theorem dX5_init_22 : decode cX5_init 22 = .ok (.bipush 60, 2) := by decide +kernel
theorem dX5_init_24 : decode cX5_init 24 = .ok (.newarray .int, 2) := by decide +kernel
theorem dX5_init_26 : decode cX5_init 26 = .ok (.putfield 16, 3) := by decide +kernel
theorem dX5_init_29 : decode cX5_init 29 = .ok (.aload_n 0, 1) := by decide +kernel
theorem dX5_init_30 : decode cX5_init 30 = .ok (.bipush 48, 2) := by decide +kernel
theorem dX5_init_32 : decode cX5_init 32 = .ok (.newarray .int, 2) := by decide +kernel
theorem dX5_init_34 : decode cX5_init 34 = .ok (.putfield 19, 3) := by decide +kernel
theorem dX5_init_37 : decode cX5_init 37 = .ok (.aload_n 0, 1) := by decide +kernel
theorem dX5_init_38 : decode cX5_init 38 = .ok (.getfield 7, 3) := by decide +kernel
theorem dX5_init_41 : decode cX5_init 41 = .ok (.iconst 0, 1) := by decide +kernel
theorem dX5_init_42 : decode cX5_init 42 = .ok (.bipush 12, 2) := by decide +kernel
theorem dX5_init_44 : decode cX5_init 44 = .ok (.iastore, 1) := by decide +kernel
theorem dX5_init_45 : decode cX5_init 45 = .ok (.aload_n 0, 1) := by decide +kernel
theorem dX5_init_46 : decode cX5_init 46 = .ok (.getfield 7, 3) := by decide +kernel
theorem dX5_init_49 : decode cX5_init 49 = .ok (.iconst 1, 1) := by decide +kernel
theorem dX5_init_50 : decode cX5_init 50 = .ok (.iconst 1, 1) := by decide +kernel
theorem dX5_init_51 : decode cX5_init 51 = .ok (.iastore, 1) := by decide +kernel
theorem dX5_init_52 : decode cX5_init 52 = .ok (.aload_n 0, 1) := by decide +kernel
theorem dX5_init_53 : decode cX5_init 53 = .ok (.getfield 7, 3) := by decide +kernel
theorem dX5_init_56 : decode cX5_init 56 = .ok (.iconst 2, 1) := by decide +kernel
theorem dX5_init_57 : decode cX5_init 57 = .ok (.bipush 50, 2) := by decide +kernel
theorem dX5_init_59 : decode cX5_init 59 = .ok (.iastore, 1) := by decide +kernel
theorem dX5_init_60 : decode cX5_init 60 = .ok (.aload_n 0, 1) := by decide +kernel
theorem dX5_init_61 : decode cX5_init 61 = .ok (.getfield 7, 3) := by decide +kernel
theorem dX5_init_64 : decode cX5_init 64 = .ok (.iconst 4, 1) := by decide +kernel
theorem dX5_init_65 : decode cX5_init 65 = .ok (.sipush 200, 3) := by decide +kernel
theorem dX5_init_68 : decode cX5_init 68 = .ok (.iastore, 1) := by decide +kernel
theorem dX5_init_69 : decode cX5_init 69 = .ok (.iconst 0, 1) := by decide +kernel
theorem dX5_init_70 : decode cX5_init 70 = .ok (.istore_n 1, 1) := by decide +kernel
theorem dX5_init_71 : decode cX5_init 71 = .ok (.iload_n 1, 1) := by decide +kernel
theorem dX5_init_72 : decode cX5_init 72 = .ok (.iconst 3, 1) := by decide +kernel
theorem dX5_init_73 : decode cX5_init 73 = .ok (.if_icmp .ge 20, 3) := by decide +kernel
theorem dX5_init_76 : decode cX5_init 76 = .ok (.aload_n 0, 1) := by decide +kernel
theorem dX5_init_77 : decode cX5_init 77 = .ok (.getfield 7, 3) := by decide +kernel
theorem dX5_init_80 : decode cX5_init 80 = .ok (.bipush 9, 2) := by decide +kernel
theorem dX5_init_82 : decode cX5_init 82 = .ok (.iload_n 1, 1) := by decide +kernel
theorem dX5_init_83 : decode cX5_init 83 = .ok (.iadd, 1) := by decide +kernel
theorem dX5_init_84 : decode cX5_init 84 = .ok (.bipush 60, 2) := by decide +kernel
theorem dX5_init_86 : decode cX5_init 86 = .ok (.iastore, 1) := by decide +kernel
theorem dX5_init_87 : decode cX5_init 87 = .ok (.iinc 1 1, 3) := by decide +kernel
theorem dX5_init_90 : decode cX5_init 90 = .ok (.goto (-19), 3) := by decide +kernel
theorem dX5_init_93 : decode cX5_init 93 = .ok (.return_, 1) := by decide +kernel
theorem dX5_thrown_0 : decode cX5_thrown 0 = .ok (.aload_n 0, 1) := by decide +kernel
theorem dX5_thrown_1 : decode cX5_thrown 1 = .ok (.getfield 22, 3) := by decide +kernel
theorem dX5_thrown_4 : decode cX5_thrown 4 = .ok (.ireturn, 1) := by decide +kernel
theorem dX5_fails_0 : decode cX5_fails 0 = .ok (.aload_n 0, 1) := by decide +kernel
theorem dX5_fails_1 : decode cX5_fails 1 = .ok (.iload_n 1, 1) := by decide +kernel
theorem dX5_fails_2 : decode cX5_fails 2 = .ok (.putfield 22, 3) := by decide +kernel
theorem dX5_fails_5 : decode cX5_fails 5 = .ok (.iconst 0, 1) := by decide +kernel
theorem dX5_fails_6 : decode cX5_fails 6 = .ok (.ireturn, 1) := by decide +kernel
theorem dX5_in_0 : decode cX5_in 0 = .ok (.iload_n 0, 1) := by decide +kernel
theorem dX5_in_1 : decode cX5_in 1 = .ok (.iload_n 1, 1) := by decide +kernel
theorem dX5_in_2 : decode cX5_in 2 = .ok (.if_icmp .lt 12, 3) := by decide +kernel
theorem dX5_in_5 : decode cX5_in 5 = .ok (.iload_n 0, 1) := by decide +kernel
theorem dX5_in_6 : decode cX5_in 6 = .ok (.iload_n 2, 1) := by decide +kernel
theorem dX5_in_7 : decode cX5_in 7 = .ok (.if_icmp .gt 7, 3) := by decide +kernel
theorem dX5_in_10 : decode cX5_in 10 = .ok (.iconst 1, 1) := by decide +kernel
theorem dX5_in_11 : decode cX5_in 11 = .ok (.goto 4, 3) := by decide +kernel
theorem dX5_in_14 : decode cX5_in 14 = .ok (.iconst 0, 1) := by decide +kernel
theorem dX5_in_15 : decode cX5_in 15 = .ok (.ireturn, 1) := by decide +kernel
theorem dX5_isHose_0 : decode cX5_isHose 0 = .ok (.iload_n 1, 1) := by decide +kernel
theorem dX5_isHose_1 : decode cX5_isHose 1 = .ok (.iconst 0, 1) := by decide +kernel
theorem dX5_isHose_2 : decode cX5_isHose 2 = .ok (.aload_n 0, 1) := by decide +kernel
theorem dX5_isHose_3 : decode cX5_isHose 3 = .ok (.getfield 7, 3) := by decide +kernel
theorem dX5_isHose_6 : decode cX5_isHose 6 = .ok (.iconst 5, 1) := by decide +kernel
theorem dX5_isHose_7 : decode cX5_isHose 7 = .ok (.iaload, 1) := by decide +kernel
theorem dX5_isHose_8 : decode cX5_isHose 8 = .ok (.iconst 1, 1) := by decide +kernel
theorem dX5_isHose_9 : decode cX5_isHose 9 = .ok (.isub, 1) := by decide +kernel
theorem dX5_isHose_10 : decode cX5_isHose 10 = .ok (.invokestatic 26, 3) := by decide +kernel
theorem dX5_isHose_13 : decode cX5_isHose 13 = .ok (.ireturn, 1) := by decide +kernel
theorem dX5_isTruck_0 : decode cX5_isTruck 0 = .ok (.iload_n 0, 1) := by decide +kernel
theorem dX5_isTruck_1 : decode cX5_isTruck 1 = .ok (.iconst 0, 1) := by decide +kernel
theorem dX5_isTruck_2 : decode cX5_isTruck 2 = .ok (.iconst 2, 1) := by decide +kernel
theorem dX5_isTruck_3 : decode cX5_isTruck 3 = .ok (.invokestatic 26, 3) := by decide +kernel
theorem dX5_isTruck_6 : decode cX5_isTruck 6 = .ok (.ireturn, 1) := by decide +kernel
theorem dX5_of_0 : decode cX5_of 0 = .ok (.aload_n 0, 1) := by decide +kernel
theorem dX5_of_1 : decode cX5_of 1 = .ok (.getfield 7, 3) := by decide +kernel
theorem dX5_of_4 : decode cX5_of 4 = .ok (.bipush 12, 2) := by decide +kernel
theorem dX5_of_6 : decode cX5_of 6 = .ok (.bipush 8, 2) := by decide +kernel
theorem dX5_of_8 : decode cX5_of 8 = .ok (.iload_n 1, 1) := by decide +kernel
theorem dX5_of_9 : decode cX5_of 9 = .ok (.imul, 1) := by decide +kernel
theorem dX5_of_10 : decode cX5_of 10 = .ok (.iadd, 1) := by decide +kernel
theorem dX5_of_11 : decode cX5_of 11 = .ok (.iload_n 2, 1) := by decide +kernel
theorem dX5_of_12 : decode cX5_of 12 = .ok (.iadd, 1) := by decide +kernel
theorem dX5_of_13 : decode cX5_of 13 = .ok (.iaload, 1) := by decide +kernel
theorem dX5_of_14 : decode cX5_of 14 = .ok (.ireturn, 1) := by decide +kernel
theorem dX5_saves_0 : decode cX5_saves 0 = .ok (.aload_n 0, 1) := by decide +kernel
theorem dX5_saves_1 : decode cX5_saves 1 = .ok (.getfield 30, 3) := by decide +kernel
theorem dX5_saves_4 : decode cX5_saves 4 = .ok (.bipush 6, 2) := by decide +kernel
theorem dX5_saves_6 : decode cX5_saves 6 = .ok (.if_icmp .ne 43, 3) := by decide +kernel
theorem dX5_saves_9 : decode cX5_saves 9 = .ok (.iconst 0, 1) := by decide +kernel
theorem dX5_saves_10 : decode cX5_saves 10 = .ok (.istore_n 1, 1) := by decide +kernel
theorem dX5_saves_11 : decode cX5_saves 11 = .ok (.iload_n 1, 1) := by decide +kernel
theorem dX5_saves_12 : decode cX5_saves 12 = .ok (.sipush 620, 3) := by decide +kernel
theorem dX5_saves_15 : decode cX5_saves 15 = .ok (.if_icmp .ge 24, 3) := by decide +kernel
theorem dX5_saves_18 : decode cX5_saves 18 = .ok (.aload_n 0, 1) := by decide +kernel
theorem dX5_saves_19 : decode cX5_saves 19 = .ok (.getfield 13, 3) := by decide +kernel
theorem dX5_saves_22 : decode cX5_saves 22 = .ok (.iload_n 1, 1) := by decide +kernel
theorem dX5_saves_23 : decode cX5_saves 23 = .ok (.aload_n 0, 1) := by decide +kernel
theorem dX5_saves_24 : decode cX5_saves 24 = .ok (.getfield 13, 3) := by decide +kernel
theorem dX5_saves_27 : decode cX5_saves 27 = .ok (.iload_n 1, 1) := by decide +kernel
theorem dX5_saves_28 : decode cX5_saves 28 = .ok (.bipush 124, 2) := by decide +kernel
theorem dX5_saves_30 : decode cX5_saves 30 = .ok (.iadd, 1) := by decide +kernel
theorem dX5_saves_31 : decode cX5_saves 31 = .ok (.iaload, 1) := by decide +kernel
theorem dX5_saves_32 : decode cX5_saves 32 = .ok (.iastore, 1) := by decide +kernel
theorem dX5_saves_33 : decode cX5_saves 33 = .ok (.iinc 1 1, 3) := by decide +kernel
theorem dX5_saves_36 : decode cX5_saves 36 = .ok (.goto (-25), 3) := by decide +kernel
theorem dX5_saves_39 : decode cX5_saves 39 = .ok (.aload_n 0, 1) := by decide +kernel
theorem dX5_saves_40 : decode cX5_saves 40 = .ok (.dup, 1) := by decide +kernel
theorem dX5_saves_41 : decode cX5_saves 41 = .ok (.getfield 30, 3) := by decide +kernel
theorem dX5_saves_44 : decode cX5_saves 44 = .ok (.iconst 1, 1) := by decide +kernel
theorem dX5_saves_45 : decode cX5_saves 45 = .ok (.isub, 1) := by decide +kernel
theorem dX5_saves_46 : decode cX5_saves 46 = .ok (.putfield 30, 3) := by decide +kernel
theorem dX5_saves_49 : decode cX5_saves 49 = .ok (.iconst 0, 1) := by decide +kernel
theorem dX5_saves_50 : decode cX5_saves 50 = .ok (.istore_n 1, 1) := by decide +kernel
theorem dX5_saves_51 : decode cX5_saves 51 = .ok (.iload_n 1, 1) := by decide +kernel
theorem dX5_saves_52 : decode cX5_saves 52 = .ok (.bipush 124, 2) := by decide +kernel
theorem dX5_saves_54 : decode cX5_saves 54 = .ok (.if_icmp .ge 29, 3) := by decide +kernel
theorem dX5_saves_57 : decode cX5_saves 57 = .ok (.aload_n 0, 1) := by decide +kernel
theorem dX5_saves_58 : decode cX5_saves 58 = .ok (.getfield 13, 3) := by decide +kernel
theorem dX5_saves_61 : decode cX5_saves 61 = .ok (.bipush 124, 2) := by decide +kernel
theorem dX5_saves_63 : decode cX5_saves 63 = .ok (.aload_n 0, 1) := by decide +kernel
theorem dX5_saves_64 : decode cX5_saves 64 = .ok (.getfield 30, 3) := by decide +kernel
theorem dX5_saves_67 : decode cX5_saves 67 = .ok (.imul, 1) := by decide +kernel
theorem dX5_saves_68 : decode cX5_saves 68 = .ok (.iload_n 1, 1) := by decide +kernel
theorem dX5_saves_69 : decode cX5_saves 69 = .ok (.iadd, 1) := by decide +kernel
theorem dX5_saves_70 : decode cX5_saves 70 = .ok (.aload_n 0, 1) := by decide +kernel
theorem dX5_saves_71 : decode cX5_saves 71 = .ok (.getfield 7, 3) := by decide +kernel
theorem dX5_saves_74 : decode cX5_saves 74 = .ok (.iload_n 1, 1) := by decide +kernel
theorem dX5_saves_75 : decode cX5_saves 75 = .ok (.iaload, 1) := by decide +kernel
theorem dX5_saves_76 : decode cX5_saves 76 = .ok (.iastore, 1) := by decide +kernel
theorem dX5_saves_77 : decode cX5_saves 77 = .ok (.iinc 1 1, 3) := by decide +kernel
theorem dX5_saves_80 : decode cX5_saves 80 = .ok (.goto (-29), 3) := by decide +kernel
theorem dX5_saves_83 : decode cX5_saves 83 = .ok (.aload_n 0, 1) := by decide +kernel
theorem dX5_saves_84 : decode cX5_saves 84 = .ok (.dup, 1) := by decide +kernel
theorem dX5_saves_85 : decode cX5_saves 85 = .ok (.getfield 30, 3) := by decide +kernel
theorem dX5_saves_88 : decode cX5_saves 88 = .ok (.iconst 1, 1) := by decide +kernel
theorem dX5_saves_89 : decode cX5_saves 89 = .ok (.iadd, 1) := by decide +kernel
theorem dX5_saves_90 : decode cX5_saves 90 = .ok (.putfield 30, 3) := by decide +kernel
theorem dX5_saves_93 : decode cX5_saves 93 = .ok (.return_, 1) := by decide +kernel
theorem dX5_undo_0 : decode cX5_undo 0 = .ok (.aload_n 0, 1) := by decide +kernel
theorem dX5_undo_1 : decode cX5_undo 1 = .ok (.iconst 0, 1) := by decide +kernel
theorem dX5_undo_2 : decode cX5_undo 2 = .ok (.putfield 22, 3) := by decide +kernel
theorem dX5_undo_5 : decode cX5_undo 5 = .ok (.aload_n 0, 1) := by decide +kernel
theorem dX5_undo_6 : decode cX5_undo 6 = .ok (.getfield 30, 3) := by decide +kernel
theorem dX5_undo_9 : decode cX5_undo 9 = .ok (.ifCond .ne 9, 3) := by decide +kernel
theorem dX5_undo_12 : decode cX5_undo 12 = .ok (.aload_n 0, 1) := by decide +kernel
theorem dX5_undo_13 : decode cX5_undo 13 = .ok (.iconst 1, 1) := by decide +kernel
theorem dX5_undo_14 : decode cX5_undo 14 = .ok (.invokevirtual 33, 3) := by decide +kernel
theorem dX5_undo_17 : decode cX5_undo 17 = .ok (.ireturn, 1) := by decide +kernel
theorem dX5_undo_18 : decode cX5_undo 18 = .ok (.aload_n 0, 1) := by decide +kernel
theorem dX5_undo_19 : decode cX5_undo 19 = .ok (.dup, 1) := by decide +kernel
theorem dX5_undo_20 : decode cX5_undo 20 = .ok (.getfield 30, 3) := by decide +kernel
theorem dX5_undo_23 : decode cX5_undo 23 = .ok (.iconst 1, 1) := by decide +kernel
theorem dX5_undo_24 : decode cX5_undo 24 = .ok (.isub, 1) := by decide +kernel
theorem dX5_undo_25 : decode cX5_undo 25 = .ok (.putfield 30, 3) := by decide +kernel
theorem dX5_undo_28 : decode cX5_undo 28 = .ok (.iconst 0, 1) := by decide +kernel
theorem dX5_undo_29 : decode cX5_undo 29 = .ok (.istore_n 1, 1) := by decide +kernel
theorem dX5_undo_30 : decode cX5_undo 30 = .ok (.iload_n 1, 1) := by decide +kernel
theorem dX5_undo_31 : decode cX5_undo 31 = .ok (.bipush 124, 2) := by decide +kernel
theorem dX5_undo_33 : decode cX5_undo 33 = .ok (.if_icmp .ge 29, 3) := by decide +kernel
theorem dX5_undo_36 : decode cX5_undo 36 = .ok (.aload_n 0, 1) := by decide +kernel
theorem dX5_undo_37 : decode cX5_undo 37 = .ok (.getfield 7, 3) := by decide +kernel
theorem dX5_undo_40 : decode cX5_undo 40 = .ok (.iload_n 1, 1) := by decide +kernel
theorem dX5_undo_41 : decode cX5_undo 41 = .ok (.aload_n 0, 1) := by decide +kernel
theorem dX5_undo_42 : decode cX5_undo 42 = .ok (.getfield 13, 3) := by decide +kernel
theorem dX5_undo_45 : decode cX5_undo 45 = .ok (.bipush 124, 2) := by decide +kernel
theorem dX5_undo_47 : decode cX5_undo 47 = .ok (.aload_n 0, 1) := by decide +kernel
theorem dX5_undo_48 : decode cX5_undo 48 = .ok (.getfield 30, 3) := by decide +kernel
theorem dX5_undo_51 : decode cX5_undo 51 = .ok (.imul, 1) := by decide +kernel
theorem dX5_undo_52 : decode cX5_undo 52 = .ok (.iload_n 1, 1) := by decide +kernel
theorem dX5_undo_53 : decode cX5_undo 53 = .ok (.iadd, 1) := by decide +kernel
theorem dX5_undo_54 : decode cX5_undo 54 = .ok (.iaload, 1) := by decide +kernel
theorem dX5_undo_55 : decode cX5_undo 55 = .ok (.iastore, 1) := by decide +kernel
theorem dX5_undo_56 : decode cX5_undo 56 = .ok (.iinc 1 1, 3) := by decide +kernel
theorem dX5_undo_59 : decode cX5_undo 59 = .ok (.goto (-29), 3) := by decide +kernel
theorem dX5_undo_62 : decode cX5_undo 62 = .ok (.aload_n 0, 1) := by decide +kernel
theorem dX5_undo_63 : decode cX5_undo 63 = .ok (.getfield 30, 3) := by decide +kernel
theorem dX5_undo_66 : decode cX5_undo 66 = .ok (.ireturn, 1) := by decide +kernel
theorem dX5_life_0 : decode cX5_life 0 = .ok (.iload_n 0, 1) := by decide +kernel
theorem dX5_life_1 : decode cX5_life 1 = .ok (.ifCond .ne 9, 3) := by decide +kernel
theorem dX5_life_4 : decode cX5_life 4 = .ok (.sipush 900, 3) := by decide +kernel
theorem dX5_life_7 : decode cX5_life 7 = .ok (.goto 17, 3) := by decide +kernel
theorem dX5_life_10 : decode cX5_life 10 = .ok (.iload_n 0, 1) := by decide +kernel
theorem dX5_life_11 : decode cX5_life 11 = .ok (.iconst 1, 1) := by decide +kernel
theorem dX5_life_12 : decode cX5_life 12 = .ok (.if_icmp .ne 9, 3) := by decide +kernel
theorem dX5_life_15 : decode cX5_life 15 = .ok (.sipush 1500, 3) := by decide +kernel
theorem dX5_life_18 : decode cX5_life 18 = .ok (.goto 6, 3) := by decide +kernel
theorem dX5_life_21 : decode cX5_life 21 = .ok (.sipush 1200, 3) := by decide +kernel
theorem dX5_life_24 : decode cX5_life 24 = .ok (.ireturn, 1) := by decide +kernel
theorem dX5_force_0 : decode cX5_force 0 = .ok (.iload_n 0, 1) := by decide +kernel
theorem dX5_force_1 : decode cX5_force 1 = .ok (.ifCond .ne 8, 3) := by decide +kernel
theorem dX5_force_4 : decode cX5_force 4 = .ok (.bipush 100, 2) := by decide +kernel
theorem dX5_force_6 : decode cX5_force 6 = .ok (.goto 17, 3) := by decide +kernel
theorem dX5_force_9 : decode cX5_force 9 = .ok (.iload_n 0, 1) := by decide +kernel
theorem dX5_force_10 : decode cX5_force 10 = .ok (.iconst 1, 1) := by decide +kernel
theorem dX5_force_11 : decode cX5_force 11 = .ok (.if_icmp .ne 9, 3) := by decide +kernel
theorem dX5_force_14 : decode cX5_force 14 = .ok (.sipush 150, 3) := by decide +kernel
theorem dX5_force_17 : decode cX5_force 17 = .ok (.goto 6, 3) := by decide +kernel
theorem dX5_force_20 : decode cX5_force 20 = .ok (.sipush 200, 3) := by decide +kernel
theorem dX5_force_23 : decode cX5_force 23 = .ok (.ireturn, 1) := by decide +kernel
theorem dX5_cost_0 : decode cX5_cost 0 = .ok (.iload_n 0, 1) := by decide +kernel
theorem dX5_cost_1 : decode cX5_cost 1 = .ok (.iconst 2, 1) := by decide +kernel
theorem dX5_cost_2 : decode cX5_cost 2 = .ok (.if_icmp .ne 12, 3) := by decide +kernel
theorem dX5_cost_5 : decode cX5_cost 5 = .ok (.iconst 4, 1) := by decide +kernel
theorem dX5_cost_6 : decode cX5_cost 6 = .ok (.iload_n 1, 1) := by decide +kernel
theorem dX5_cost_7 : decode cX5_cost 7 = .ok (.imul, 1) := by decide +kernel
theorem dX5_cost_8 : decode cX5_cost 8 = .ok (.bipush 10, 2) := by decide +kernel
theorem dX5_cost_10 : decode cX5_cost 10 = .ok (.iadd, 1) := by decide +kernel
theorem dX5_cost_11 : decode cX5_cost 11 = .ok (.goto 8, 3) := by decide +kernel
theorem dX5_cost_14 : decode cX5_cost 14 = .ok (.iload_n 0, 1) := by decide +kernel
theorem dX5_cost_15 : decode cX5_cost 15 = .ok (.iconst 2, 1) := by decide +kernel
theorem dX5_cost_16 : decode cX5_cost 16 = .ok (.iadd, 1) := by decide +kernel
theorem dX5_cost_17 : decode cX5_cost 17 = .ok (.iload_n 1, 1) := by decide +kernel
theorem dX5_cost_18 : decode cX5_cost 18 = .ok (.imul, 1) := by decide +kernel
theorem dX5_cost_19 : decode cX5_cost 19 = .ok (.ireturn, 1) := by decide +kernel
theorem dX5_strength_0 : decode cX5_strength 0 = .ok (.aload_n 0, 1) := by decide +kernel
theorem dX5_strength_1 : decode cX5_strength 1 = .ok (.iload_n 1, 1) := by decide +kernel
theorem dX5_strength_2 : decode cX5_strength 2 = .ok (.iconst 0, 1) := by decide +kernel
theorem dX5_strength_3 : decode cX5_strength 3 = .ok (.invokevirtual 37, 3) := by decide +kernel
theorem dX5_strength_6 : decode cX5_strength 6 = .ok (.istore_n 3, 1) := by decide +kernel
theorem dX5_strength_7 : decode cX5_strength 7 = .ok (.aload_n 0, 1) := by decide +kernel
theorem dX5_strength_8 : decode cX5_strength 8 = .ok (.getfield 7, 3) := by decide +kernel
theorem dX5_strength_11 : decode cX5_strength 11 = .ok (.iconst 3, 1) := by decide +kernel
theorem dX5_strength_12 : decode cX5_strength 12 = .ok (.iaload, 1) := by decide +kernel
theorem dX5_strength_13 : decode cX5_strength 13 = .ok (.aload_n 0, 1) := by decide +kernel
theorem dX5_strength_14 : decode cX5_strength 14 = .ok (.iload_n 1, 1) := by decide +kernel
theorem dX5_strength_15 : decode cX5_strength 15 = .ok (.iconst 3, 1) := by decide +kernel
theorem dX5_strength_16 : decode cX5_strength 16 = .ok (.invokevirtual 37, 3) := by decide +kernel
theorem dX5_strength_19 : decode cX5_strength 19 = .ok (.isub, 1) := by decide +kernel
theorem dX5_strength_20 : decode cX5_strength 20 = .ok (.bipush 100, 2) := by decide +kernel
theorem dX5_strength_22 : decode cX5_strength 22 = .ok (.idiv, 1) := by decide +kernel
theorem dX5_strength_23 : decode cX5_strength 23 = .ok (.istore 4, 2) := by decide +kernel
theorem dX5_strength_25 : decode cX5_strength 25 = .ok (.iload_n 3, 1) := by decide +kernel
theorem dX5_strength_26 : decode cX5_strength 26 = .ok (.ifCond .ne 16, 3) := by decide +kernel
theorem dX5_strength_29 : decode cX5_strength 29 = .ok (.bipush 16, 2) := by decide +kernel
theorem dX5_strength_31 : decode cX5_strength 31 = .ok (.iload_n 2, 1) := by decide +kernel
theorem dX5_strength_32 : decode cX5_strength 32 = .ok (.bipush 10, 2) := by decide +kernel
theorem dX5_strength_34 : decode cX5_strength 34 = .ok (.idiv, 1) := by decide +kernel
theorem dX5_strength_35 : decode cX5_strength 35 = .ok (.isub, 1) := by decide +kernel
theorem dX5_strength_36 : decode cX5_strength 36 = .ok (.iload 4, 2) := by decide +kernel
theorem dX5_strength_38 : decode cX5_strength 38 = .ok (.isub, 1) := by decide +kernel
theorem dX5_strength_39 : decode cX5_strength 39 = .ok (.goto 29, 3) := by decide +kernel
theorem dX5_strength_42 : decode cX5_strength 42 = .ok (.iload_n 3, 1) := by decide +kernel
theorem dX5_strength_43 : decode cX5_strength 43 = .ok (.iconst 1, 1) := by decide +kernel
theorem dX5_strength_44 : decode cX5_strength 44 = .ok (.if_icmp .ne 18, 3) := by decide +kernel
theorem dX5_strength_47 : decode cX5_strength 47 = .ok (.bipush 20, 2) := by decide +kernel
theorem dX5_strength_49 : decode cX5_strength 49 = .ok (.iload_n 2, 1) := by decide +kernel
theorem dX5_strength_50 : decode cX5_strength 50 = .ok (.bipush 8, 2) := by decide +kernel
theorem dX5_strength_52 : decode cX5_strength 52 = .ok (.idiv, 1) := by decide +kernel
theorem dX5_strength_53 : decode cX5_strength 53 = .ok (.isub, 1) := by decide +kernel
theorem dX5_strength_54 : decode cX5_strength 54 = .ok (.iload 4, 2) := by decide +kernel
theorem dX5_strength_56 : decode cX5_strength 56 = .ok (.iconst 2, 1) := by decide +kernel
theorem dX5_strength_57 : decode cX5_strength 57 = .ok (.idiv, 1) := by decide +kernel
theorem dX5_strength_58 : decode cX5_strength 58 = .ok (.isub, 1) := by decide +kernel
theorem dX5_strength_59 : decode cX5_strength 59 = .ok (.goto 9, 3) := by decide +kernel
theorem dX5_strength_62 : decode cX5_strength 62 = .ok (.bipush 24, 2) := by decide +kernel
theorem dX5_strength_64 : decode cX5_strength 64 = .ok (.iload_n 2, 1) := by decide +kernel
theorem dX5_strength_65 : decode cX5_strength 65 = .ok (.iconst 5, 1) := by decide +kernel
theorem dX5_strength_66 : decode cX5_strength 66 = .ok (.idiv, 1) := by decide +kernel
theorem dX5_strength_67 : decode cX5_strength 67 = .ok (.isub, 1) := by decide +kernel
theorem dX5_strength_68 : decode cX5_strength 68 = .ok (.istore 5, 2) := by decide +kernel
theorem dX5_strength_70 : decode cX5_strength 70 = .ok (.iload 5, 2) := by decide +kernel
theorem dX5_strength_72 : decode cX5_strength 72 = .ok (.ifCond .ge 7, 3) := by decide +kernel
theorem dX5_strength_75 : decode cX5_strength 75 = .ok (.iconst 0, 1) := by decide +kernel
theorem dX5_strength_76 : decode cX5_strength 76 = .ok (.goto 5, 3) := by decide +kernel
theorem dX5_strength_79 : decode cX5_strength 79 = .ok (.iload 5, 2) := by decide +kernel
theorem dX5_strength_81 : decode cX5_strength 81 = .ok (.ireturn, 1) := by decide +kernel
theorem dX5_reason_0 : decode cX5_reason 0 = .ok (.aload_n 0, 1) := by decide +kernel
theorem dX5_reason_1 : decode cX5_reason 1 = .ok (.iload_n 1, 1) := by decide +kernel
theorem dX5_reason_2 : decode cX5_reason 2 = .ok (.bipush 6, 2) := by decide +kernel
theorem dX5_reason_4 : decode cX5_reason 4 = .ok (.invokevirtual 37, 3) := by decide +kernel
theorem dX5_reason_7 : decode cX5_reason 7 = .ok (.istore_n 2, 1) := by decide +kernel
theorem dX5_reason_8 : decode cX5_reason 8 = .ok (.iload_n 2, 1) := by decide +kernel
theorem dX5_reason_9 : decode cX5_reason 9 = .ok (.iconst (-1), 1) := by decide +kernel
theorem dX5_reason_10 : decode cX5_reason 10 = .ok (.if_icmp .eq 8, 3) := by decide +kernel
theorem dX5_reason_13 : decode cX5_reason 13 = .ok (.iload_n 2, 1) := by decide +kernel
theorem dX5_reason_14 : decode cX5_reason 14 = .ok (.iconst 4, 1) := by decide +kernel
theorem dX5_reason_15 : decode cX5_reason 15 = .ok (.if_icmp .ne 14, 3) := by decide +kernel
theorem dX5_reason_18 : decode cX5_reason 18 = .ok (.iload_n 2, 1) := by decide +kernel
theorem dX5_reason_19 : decode cX5_reason 19 = .ok (.iconst (-1), 1) := by decide +kernel
theorem dX5_reason_20 : decode cX5_reason 20 = .ok (.if_icmp .ne 7, 3) := by decide +kernel
theorem dX5_reason_23 : decode cX5_reason 23 = .ok (.iconst 1, 1) := by decide +kernel
theorem dX5_reason_24 : decode cX5_reason 24 = .ok (.goto 4, 3) := by decide +kernel
theorem dX5_reason_27 : decode cX5_reason 27 = .ok (.iconst 2, 1) := by decide +kernel
theorem dX5_reason_28 : decode cX5_reason 28 = .ok (.ireturn, 1) := by decide +kernel
theorem dX5_reason_29 : decode cX5_reason 29 = .ok (.aload_n 0, 1) := by decide +kernel
theorem dX5_reason_30 : decode cX5_reason 30 = .ok (.getfield 7, 3) := by decide +kernel
theorem dX5_reason_33 : decode cX5_reason 33 = .ok (.iconst 3, 1) := by decide +kernel
theorem dX5_reason_34 : decode cX5_reason 34 = .ok (.iaload, 1) := by decide +kernel
theorem dX5_reason_35 : decode cX5_reason 35 = .ok (.aload_n 0, 1) := by decide +kernel
theorem dX5_reason_36 : decode cX5_reason 36 = .ok (.iload_n 1, 1) := by decide +kernel
theorem dX5_reason_37 : decode cX5_reason 37 = .ok (.iconst 3, 1) := by decide +kernel
theorem dX5_reason_38 : decode cX5_reason 38 = .ok (.invokevirtual 37, 3) := by decide +kernel
theorem dX5_reason_41 : decode cX5_reason 41 = .ok (.isub, 1) := by decide +kernel
theorem dX5_reason_42 : decode cX5_reason 42 = .ok (.aload_n 0, 1) := by decide +kernel
theorem dX5_reason_43 : decode cX5_reason 43 = .ok (.iload_n 1, 1) := by decide +kernel
theorem dX5_reason_44 : decode cX5_reason 44 = .ok (.iconst 0, 1) := by decide +kernel
theorem dX5_reason_45 : decode cX5_reason 45 = .ok (.invokevirtual 37, 3) := by decide +kernel
theorem dX5_reason_48 : decode cX5_reason 48 = .ok (.invokestatic 41, 3) := by decide +kernel
theorem dX5_reason_51 : decode cX5_reason 51 = .ok (.if_icmp .le 7, 3) := by decide +kernel
theorem dX5_reason_54 : decode cX5_reason 54 = .ok (.iconst 3, 1) := by decide +kernel
theorem dX5_reason_55 : decode cX5_reason 55 = .ok (.goto 23, 3) := by decide +kernel
theorem dX5_reason_58 : decode cX5_reason 58 = .ok (.aload_n 0, 1) := by decide +kernel
theorem dX5_reason_59 : decode cX5_reason 59 = .ok (.iload_n 1, 1) := by decide +kernel
theorem dX5_reason_60 : decode cX5_reason 60 = .ok (.iconst 5, 1) := by decide +kernel
theorem dX5_reason_61 : decode cX5_reason 61 = .ok (.invokevirtual 37, 3) := by decide +kernel
theorem dX5_reason_64 : decode cX5_reason 64 = .ok (.aload_n 0, 1) := by decide +kernel
theorem dX5_reason_65 : decode cX5_reason 65 = .ok (.getfield 7, 3) := by decide +kernel
theorem dX5_reason_68 : decode cX5_reason 68 = .ok (.iconst 3, 1) := by decide +kernel
theorem dX5_reason_69 : decode cX5_reason 69 = .ok (.iaload, 1) := by decide +kernel
theorem dX5_reason_70 : decode cX5_reason 70 = .ok (.if_icmp .ge 7, 3) := by decide +kernel
theorem dX5_reason_73 : decode cX5_reason 73 = .ok (.iconst 4, 1) := by decide +kernel
theorem dX5_reason_74 : decode cX5_reason 74 = .ok (.goto 4, 3) := by decide +kernel
theorem dX5_reason_77 : decode cX5_reason 77 = .ok (.iconst 0, 1) := by decide +kernel
theorem dX5_reason_78 : decode cX5_reason 78 = .ok (.ireturn, 1) := by decide +kernel
theorem dX5_isReady_0 : decode cX5_isReady 0 = .ok (.aload_n 0, 1) := by decide +kernel
theorem dX5_isReady_1 : decode cX5_isReady 1 = .ok (.iload_n 1, 1) := by decide +kernel
theorem dX5_isReady_2 : decode cX5_isReady 2 = .ok (.invokevirtual 44, 3) := by decide +kernel
theorem dX5_isReady_5 : decode cX5_isReady 5 = .ok (.ifCond .ne 7, 3) := by decide +kernel
theorem dX5_isReady_8 : decode cX5_isReady 8 = .ok (.iconst 1, 1) := by decide +kernel
theorem dX5_isReady_9 : decode cX5_isReady 9 = .ok (.goto 4, 3) := by decide +kernel
theorem dX5_isReady_12 : decode cX5_isReady 12 = .ok (.iconst 0, 1) := by decide +kernel
theorem dX5_isReady_13 : decode cX5_isReady 13 = .ok (.ireturn, 1) := by decide +kernel
theorem dX5_tries_0 : decode cX5_tries 0 = .ok (.aload_n 0, 1) := by decide +kernel
theorem dX5_tries_1 : decode cX5_tries 1 = .ok (.aload_n 0, 1) := by decide +kernel
theorem dX5_tries_2 : decode cX5_tries 2 = .ok (.iload_n 1, 1) := by decide +kernel
theorem dX5_tries_3 : decode cX5_tries 3 = .ok (.iconst 4, 1) := by decide +kernel
theorem dX5_tries_4 : decode cX5_tries 4 = .ok (.invokevirtual 37, 3) := by decide +kernel
theorem dX5_tries_7 : decode cX5_tries 7 = .ok (.putfield 47, 3) := by decide +kernel
theorem dX5_tries_10 : decode cX5_tries 10 = .ok (.iconst 0, 1) := by decide +kernel
theorem dX5_tries_11 : decode cX5_tries 11 = .ok (.istore_n 3, 1) := by decide +kernel
theorem dX5_tries_12 : decode cX5_tries 12 = .ok (.iconst 0, 1) := by decide +kernel
theorem dX5_tries_13 : decode cX5_tries 13 = .ok (.istore 4, 2) := by decide +kernel
theorem dX5_tries_15 : decode cX5_tries 15 = .ok (.iload 4, 2) := by decide +kernel
theorem dX5_tries_17 : decode cX5_tries 17 = .ok (.iload_n 2, 1) := by decide +kernel
theorem dX5_tries_18 : decode cX5_tries 18 = .ok (.if_icmp .ge 70, 3) := by decide +kernel
theorem dX5_tries_21 : decode cX5_tries 21 = .ok (.iload 4, 2) := by decide +kernel
theorem dX5_tries_23 : decode cX5_tries 23 = .ok (.iconst 4, 1) := by decide +kernel
theorem dX5_tries_24 : decode cX5_tries 24 = .ok (.iadd, 1) := by decide +kernel
theorem dX5_tries_25 : decode cX5_tries 25 = .ok (.iload_n 2, 1) := by decide +kernel
theorem dX5_tries_26 : decode cX5_tries 26 = .ok (.if_icmp .le 7, 3) := by decide +kernel
theorem dX5_tries_29 : decode cX5_tries 29 = .ok (.iload_n 2, 1) := by decide +kernel
theorem dX5_tries_30 : decode cX5_tries 30 = .ok (.goto 7, 3) := by decide +kernel
theorem dX5_tries_33 : decode cX5_tries 33 = .ok (.iload 4, 2) := by decide +kernel
theorem dX5_tries_35 : decode cX5_tries 35 = .ok (.iconst 4, 1) := by decide +kernel
theorem dX5_tries_36 : decode cX5_tries 36 = .ok (.iadd, 1) := by decide +kernel
theorem dX5_tries_37 : decode cX5_tries 37 = .ok (.istore 4, 2) := by decide +kernel
theorem dX5_tries_39 : decode cX5_tries 39 = .ok (.aload_n 0, 1) := by decide +kernel
theorem dX5_tries_40 : decode cX5_tries 40 = .ok (.iload_n 1, 1) := by decide +kernel
theorem dX5_tries_41 : decode cX5_tries 41 = .ok (.aload_n 0, 1) := by decide +kernel
theorem dX5_tries_42 : decode cX5_tries 42 = .ok (.getfield 47, 3) := by decide +kernel
theorem dX5_tries_45 : decode cX5_tries 45 = .ok (.invokevirtual 50, 3) := by decide +kernel
theorem dX5_tries_48 : decode cX5_tries 48 = .ok (.iload 4, 2) := by decide +kernel
theorem dX5_tries_50 : decode cX5_tries 50 = .ok (.if_icmp .ge 8, 3) := by decide +kernel
theorem dX5_tries_53 : decode cX5_tries 53 = .ok (.iload_n 3, 1) := by decide +kernel
theorem dX5_tries_54 : decode cX5_tries 54 = .ok (.bipush 100, 2) := by decide +kernel
theorem dX5_tries_56 : decode cX5_tries 56 = .ok (.iadd, 1) := by decide +kernel
theorem dX5_tries_57 : decode cX5_tries 57 = .ok (.ireturn, 1) := by decide +kernel
theorem dX5_tries_58 : decode cX5_tries 58 = .ok (.iinc 3 1, 3) := by decide +kernel
theorem dX5_tries_61 : decode cX5_tries 61 = .ok (.aload_n 0, 1) := by decide +kernel
theorem dX5_tries_62 : decode cX5_tries 62 = .ok (.aload_n 0, 1) := by decide +kernel
theorem dX5_tries_63 : decode cX5_tries 63 = .ok (.getfield 47, 3) := by decide +kernel
theorem dX5_tries_66 : decode cX5_tries 66 = .ok (.bipush 99, 2) := by decide +kernel
theorem dX5_tries_68 : decode cX5_tries 68 = .ok (.if_icmp .ge 12, 3) := by decide +kernel
theorem dX5_tries_71 : decode cX5_tries 71 = .ok (.aload_n 0, 1) := by decide +kernel
theorem dX5_tries_72 : decode cX5_tries 72 = .ok (.getfield 47, 3) := by decide +kernel
theorem dX5_tries_75 : decode cX5_tries 75 = .ok (.iconst 1, 1) := by decide +kernel
theorem dX5_tries_76 : decode cX5_tries 76 = .ok (.iadd, 1) := by decide +kernel
theorem dX5_tries_77 : decode cX5_tries 77 = .ok (.goto 5, 3) := by decide +kernel
theorem dX5_tries_80 : decode cX5_tries 80 = .ok (.bipush 99, 2) := by decide +kernel
theorem dX5_tries_82 : decode cX5_tries 82 = .ok (.putfield 47, 3) := by decide +kernel
theorem dX5_tries_85 : decode cX5_tries 85 = .ok (.goto (-70), 3) := by decide +kernel
theorem dX5_tries_88 : decode cX5_tries 88 = .ok (.iload_n 3, 1) := by decide +kernel
theorem dX5_tries_89 : decode cX5_tries 89 = .ok (.ireturn, 1) := by decide +kernel
theorem dX5_lays_0 : decode cX5_lays 0 = .ok (.aload_n 0, 1) := by decide +kernel
theorem dX5_lays_1 : decode cX5_lays 1 = .ok (.iconst 0, 1) := by decide +kernel
theorem dX5_lays_2 : decode cX5_lays 2 = .ok (.putfield 53, 3) := by decide +kernel
theorem dX5_lays_5 : decode cX5_lays 5 = .ok (.aload_n 0, 1) := by decide +kernel
theorem dX5_lays_6 : decode cX5_lays 6 = .ok (.iconst 0, 1) := by decide +kernel
theorem dX5_lays_7 : decode cX5_lays 7 = .ok (.putfield 56, 3) := by decide +kernel
theorem dX5_lays_10 : decode cX5_lays 10 = .ok (.aload_n 0, 1) := by decide +kernel
theorem dX5_lays_11 : decode cX5_lays 11 = .ok (.iconst 0, 1) := by decide +kernel
theorem dX5_lays_12 : decode cX5_lays 12 = .ok (.putfield 59, 3) := by decide +kernel
theorem dX5_lays_15 : decode cX5_lays 15 = .ok (.iconst (-1), 1) := by decide +kernel
theorem dX5_lays_16 : decode cX5_lays 16 = .ok (.istore_n 3, 1) := by decide +kernel
theorem dX5_lays_17 : decode cX5_lays 17 = .ok (.iconst 0, 1) := by decide +kernel
theorem dX5_lays_18 : decode cX5_lays 18 = .ok (.istore 4, 2) := by decide +kernel
theorem dX5_lays_20 : decode cX5_lays 20 = .ok (.iload 4, 2) := by decide +kernel
theorem dX5_lays_22 : decode cX5_lays 22 = .ok (.aload_n 0, 1) := by decide +kernel
theorem dX5_lays_23 : decode cX5_lays 23 = .ok (.getfield 7, 3) := by decide +kernel
theorem dX5_lays_26 : decode cX5_lays 26 = .ok (.iconst 5, 1) := by decide +kernel
theorem dX5_lays_27 : decode cX5_lays 27 = .ok (.iaload, 1) := by decide +kernel
theorem dX5_lays_28 : decode cX5_lays 28 = .ok (.if_icmp .ge 145, 3) := by decide +kernel
theorem dX5_lays_31 : decode cX5_lays 31 = .ok (.aload_n 0, 1) := by decide +kernel
theorem dX5_lays_32 : decode cX5_lays 32 = .ok (.iload 4, 2) := by decide +kernel
theorem dX5_lays_34 : decode cX5_lays 34 = .ok (.bipush 6, 2) := by decide +kernel
theorem dX5_lays_36 : decode cX5_lays 36 = .ok (.invokevirtual 37, 3) := by decide +kernel
theorem dX5_lays_39 : decode cX5_lays 39 = .ok (.iload_n 1, 1) := by decide +kernel
theorem dX5_lays_40 : decode cX5_lays 40 = .ok (.if_icmp .eq 9, 3) := by decide +kernel
theorem dX5_lays_43 : decode cX5_lays 43 = .ok (.iload 4, 2) := by decide +kernel
theorem dX5_lays_45 : decode cX5_lays 45 = .ok (.iload_n 2, 1) := by decide +kernel
theorem dX5_lays_46 : decode cX5_lays 46 = .ok (.if_icmp .ne 16, 3) := by decide +kernel
theorem dX5_lays_49 : decode cX5_lays 49 = .ok (.aload_n 0, 1) := by decide +kernel
theorem dX5_lays_50 : decode cX5_lays 50 = .ok (.iload 4, 2) := by decide +kernel
theorem dX5_lays_52 : decode cX5_lays 52 = .ok (.invokevirtual 62, 3) := by decide +kernel
theorem dX5_lays_55 : decode cX5_lays 55 = .ok (.ifCond .eq 7, 3) := by decide +kernel
theorem dX5_lays_58 : decode cX5_lays 58 = .ok (.iconst 1, 1) := by decide +kernel
theorem dX5_lays_59 : decode cX5_lays 59 = .ok (.goto 4, 3) := by decide +kernel
theorem dX5_lays_62 : decode cX5_lays 62 = .ok (.iconst 0, 1) := by decide +kernel
theorem dX5_lays_63 : decode cX5_lays 63 = .ok (.istore 5, 2) := by decide +kernel
theorem dX5_lays_65 : decode cX5_lays 65 = .ok (.iload_n 3, 1) := by decide +kernel
theorem dX5_lays_66 : decode cX5_lays 66 = .ok (.iconst (-1), 1) := by decide +kernel
theorem dX5_lays_67 : decode cX5_lays 67 = .ok (.if_icmp .eq 14, 3) := by decide +kernel
theorem dX5_lays_70 : decode cX5_lays 70 = .ok (.aload_n 0, 1) := by decide +kernel
theorem dX5_lays_71 : decode cX5_lays 71 = .ok (.iload 4, 2) := by decide +kernel
theorem dX5_lays_73 : decode cX5_lays 73 = .ok (.iconst 2, 1) := by decide +kernel
theorem dX5_lays_74 : decode cX5_lays 74 = .ok (.invokevirtual 37, 3) := by decide +kernel
theorem dX5_lays_77 : decode cX5_lays 77 = .ok (.iload_n 3, 1) := by decide +kernel
theorem dX5_lays_78 : decode cX5_lays 78 = .ok (.if_icmp .ne 7, 3) := by decide +kernel
theorem dX5_lays_81 : decode cX5_lays 81 = .ok (.iconst 1, 1) := by decide +kernel
theorem dX5_lays_82 : decode cX5_lays 82 = .ok (.goto 4, 3) := by decide +kernel
theorem dX5_lays_85 : decode cX5_lays 85 = .ok (.iconst 0, 1) := by decide +kernel
theorem dX5_lays_86 : decode cX5_lays 86 = .ok (.istore 6, 2) := by decide +kernel
theorem dX5_lays_88 : decode cX5_lays 88 = .ok (.iload 5, 2) := by decide +kernel
theorem dX5_lays_90 : decode cX5_lays 90 = .ok (.ifCond .eq 77, 3) := by decide +kernel
theorem dX5_lays_93 : decode cX5_lays 93 = .ok (.iload 6, 2) := by decide +kernel
theorem dX5_lays_95 : decode cX5_lays 95 = .ok (.ifCond .ne 16, 3) := by decide +kernel
theorem dX5_lays_98 : decode cX5_lays 98 = .ok (.aload_n 0, 1) := by decide +kernel
theorem dX5_lays_99 : decode cX5_lays 99 = .ok (.getfield 56, 3) := by decide +kernel
theorem dX5_lays_102 : decode cX5_lays 102 = .ok (.aload_n 0, 1) := by decide +kernel
theorem dX5_lays_103 : decode cX5_lays 103 = .ok (.getfield 7, 3) := by decide +kernel
theorem dX5_lays_106 : decode cX5_lays 106 = .ok (.iconst 1, 1) := by decide +kernel
theorem dX5_lays_107 : decode cX5_lays 107 = .ok (.iaload, 1) := by decide +kernel
theorem dX5_lays_108 : decode cX5_lays 108 = .ok (.if_icmp .ge 59, 3) := by decide +kernel
theorem dX5_lays_111 : decode cX5_lays 111 = .ok (.aload_n 0, 1) := by decide +kernel
theorem dX5_lays_112 : decode cX5_lays 112 = .ok (.dup, 1) := by decide +kernel
theorem dX5_lays_113 : decode cX5_lays 113 = .ok (.getfield 56, 3) := by decide +kernel
theorem dX5_lays_116 : decode cX5_lays 116 = .ok (.iload 6, 2) := by decide +kernel
theorem dX5_lays_118 : decode cX5_lays 118 = .ok (.ifCond .eq 7, 3) := by decide +kernel
theorem dX5_lays_121 : decode cX5_lays 121 = .ok (.iconst 0, 1) := by decide +kernel
theorem dX5_lays_122 : decode cX5_lays 122 = .ok (.goto 4, 3) := by decide +kernel
theorem dX5_lays_125 : decode cX5_lays 125 = .ok (.iconst 1, 1) := by decide +kernel
theorem dX5_lays_126 : decode cX5_lays 126 = .ok (.iadd, 1) := by decide +kernel
theorem dX5_lays_127 : decode cX5_lays 127 = .ok (.putfield 56, 3) := by decide +kernel
theorem dX5_lays_130 : decode cX5_lays 130 = .ok (.aload_n 0, 1) := by decide +kernel
theorem dX5_lays_131 : decode cX5_lays 131 = .ok (.iload 4, 2) := by decide +kernel
theorem dX5_lays_133 : decode cX5_lays 133 = .ok (.iconst 2, 1) := by decide +kernel
theorem dX5_lays_134 : decode cX5_lays 134 = .ok (.invokevirtual 37, 3) := by decide +kernel
theorem dX5_lays_137 : decode cX5_lays 137 = .ok (.istore_n 3, 1) := by decide +kernel
theorem dX5_lays_138 : decode cX5_lays 138 = .ok (.aload_n 0, 1) := by decide +kernel
theorem dX5_lays_139 : decode cX5_lays 139 = .ok (.dup, 1) := by decide +kernel
theorem dX5_lays_140 : decode cX5_lays 140 = .ok (.getfield 53, 3) := by decide +kernel
theorem dX5_lays_143 : decode cX5_lays 143 = .ok (.aload_n 0, 1) := by decide +kernel
theorem dX5_lays_144 : decode cX5_lays 144 = .ok (.iload 4, 2) := by decide +kernel
theorem dX5_lays_146 : decode cX5_lays 146 = .ok (.iconst 1, 1) := by decide +kernel
theorem dX5_lays_147 : decode cX5_lays 147 = .ok (.invokevirtual 37, 3) := by decide +kernel
theorem dX5_lays_150 : decode cX5_lays 150 = .ok (.iadd, 1) := by decide +kernel
theorem dX5_lays_151 : decode cX5_lays 151 = .ok (.putfield 53, 3) := by decide +kernel
theorem dX5_lays_154 : decode cX5_lays 154 = .ok (.aload_n 0, 1) := by decide +kernel
theorem dX5_lays_155 : decode cX5_lays 155 = .ok (.dup, 1) := by decide +kernel
theorem dX5_lays_156 : decode cX5_lays 156 = .ok (.getfield 59, 3) := by decide +kernel
theorem dX5_lays_159 : decode cX5_lays 159 = .ok (.iconst 1, 1) := by decide +kernel
theorem dX5_lays_160 : decode cX5_lays 160 = .ok (.iload 4, 2) := by decide +kernel
theorem dX5_lays_162 : decode cX5_lays 162 = .ok (.ishl, 1) := by decide +kernel
theorem dX5_lays_163 : decode cX5_lays 163 = .ok (.ior, 1) := by decide +kernel
theorem dX5_lays_164 : decode cX5_lays 164 = .ok (.putfield 59, 3) := by decide +kernel
theorem dX5_lays_167 : decode cX5_lays 167 = .ok (.iinc 4 1, 3) := by decide +kernel
theorem dX5_lays_170 : decode cX5_lays 170 = .ok (.goto (-150), 3) := by decide +kernel
theorem dX5_lays_173 : decode cX5_lays 173 = .ok (.return_, 1) := by decide +kernel
theorem dX5_isWhole_0 : decode cX5_isWhole 0 = .ok (.aload_n 0, 1) := by decide +kernel
theorem dX5_isWhole_1 : decode cX5_isWhole 1 = .ok (.iload_n 1, 1) := by decide +kernel
theorem dX5_isWhole_2 : decode cX5_isWhole 2 = .ok (.iload_n 2, 1) := by decide +kernel
theorem dX5_isWhole_3 : decode cX5_isWhole 3 = .ok (.invokevirtual 66, 3) := by decide +kernel
theorem dX5_isWhole_6 : decode cX5_isWhole 6 = .ok (.aload_n 0, 1) := by decide +kernel
theorem dX5_isWhole_7 : decode cX5_isWhole 7 = .ok (.getfield 53, 3) := by decide +kernel
theorem dX5_isWhole_10 : decode cX5_isWhole 10 = .ok (.aload_n 0, 1) := by decide +kernel
theorem dX5_isWhole_11 : decode cX5_isWhole 11 = .ok (.getfield 7, 3) := by decide +kernel
theorem dX5_isWhole_14 : decode cX5_isWhole 14 = .ok (.bipush 9, 2) := by decide +kernel
theorem dX5_isWhole_16 : decode cX5_isWhole 16 = .ok (.iload_n 1, 1) := by decide +kernel
theorem dX5_isWhole_17 : decode cX5_isWhole 17 = .ok (.iadd, 1) := by decide +kernel
theorem dX5_isWhole_18 : decode cX5_isWhole 18 = .ok (.iaload, 1) := by decide +kernel
theorem dX5_isWhole_19 : decode cX5_isWhole 19 = .ok (.if_icmp .lt 7, 3) := by decide +kernel
theorem dX5_isWhole_22 : decode cX5_isWhole 22 = .ok (.iconst 1, 1) := by decide +kernel
theorem dX5_isWhole_23 : decode cX5_isWhole 23 = .ok (.goto 4, 3) := by decide +kernel
theorem dX5_isWhole_26 : decode cX5_isWhole 26 = .ok (.iconst 0, 1) := by decide +kernel
theorem dX5_isWhole_27 : decode cX5_isWhole 27 = .ok (.ireturn, 1) := by decide +kernel
theorem dX5_mayBuy_0 : decode cX5_mayBuy 0 = .ok (.aload_n 0, 1) := by decide +kernel
theorem dX5_mayBuy_1 : decode cX5_mayBuy 1 = .ok (.getfield 7, 3) := by decide +kernel
theorem dX5_mayBuy_4 : decode cX5_mayBuy 4 = .ok (.iconst 5, 1) := by decide +kernel
theorem dX5_mayBuy_5 : decode cX5_mayBuy 5 = .ok (.iaload, 1) := by decide +kernel
theorem dX5_mayBuy_6 : decode cX5_mayBuy 6 = .ok (.bipush 14, 2) := by decide +kernel
theorem dX5_mayBuy_8 : decode cX5_mayBuy 8 = .ok (.if_icmp .ge 21, 3) := by decide +kernel
theorem dX5_mayBuy_11 : decode cX5_mayBuy 11 = .ok (.aload_n 0, 1) := by decide +kernel
theorem dX5_mayBuy_12 : decode cX5_mayBuy 12 = .ok (.getfield 7, 3) := by decide +kernel
theorem dX5_mayBuy_15 : decode cX5_mayBuy 15 = .ok (.iconst 4, 1) := by decide +kernel
theorem dX5_mayBuy_16 : decode cX5_mayBuy 16 = .ok (.iaload, 1) := by decide +kernel
theorem dX5_mayBuy_17 : decode cX5_mayBuy 17 = .ok (.iload_n 1, 1) := by decide +kernel
theorem dX5_mayBuy_18 : decode cX5_mayBuy 18 = .ok (.iload_n 2, 1) := by decide +kernel
theorem dX5_mayBuy_19 : decode cX5_mayBuy 19 = .ok (.invokestatic 70, 3) := by decide +kernel
theorem dX5_mayBuy_22 : decode cX5_mayBuy 22 = .ok (.if_icmp .lt 7, 3) := by decide +kernel
theorem dX5_mayBuy_25 : decode cX5_mayBuy 25 = .ok (.iconst 1, 1) := by decide +kernel
theorem dX5_mayBuy_26 : decode cX5_mayBuy 26 = .ok (.goto 4, 3) := by decide +kernel
theorem dX5_mayBuy_29 : decode cX5_mayBuy 29 = .ok (.iconst 0, 1) := by decide +kernel
theorem dX5_mayBuy_30 : decode cX5_mayBuy 30 = .ok (.ireturn, 1) := by decide +kernel
theorem dX5_buys_0 : decode cX5_buys 0 = .ok (.bipush 12, 2) := by decide +kernel
theorem dX5_buys_2 : decode cX5_buys 2 = .ok (.bipush 8, 2) := by decide +kernel
theorem dX5_buys_4 : decode cX5_buys 4 = .ok (.aload_n 0, 1) := by decide +kernel
theorem dX5_buys_5 : decode cX5_buys 5 = .ok (.getfield 7, 3) := by decide +kernel
theorem dX5_buys_8 : decode cX5_buys 8 = .ok (.iconst 5, 1) := by decide +kernel
theorem dX5_buys_9 : decode cX5_buys 9 = .ok (.iaload, 1) := by decide +kernel
theorem dX5_buys_10 : decode cX5_buys 10 = .ok (.imul, 1) := by decide +kernel
theorem dX5_buys_11 : decode cX5_buys 11 = .ok (.iadd, 1) := by decide +kernel
theorem dX5_buys_12 : decode cX5_buys 12 = .ok (.istore 5, 2) := by decide +kernel
theorem dX5_buys_14 : decode cX5_buys 14 = .ok (.aload_n 0, 1) := by decide +kernel
theorem dX5_buys_15 : decode cX5_buys 15 = .ok (.getfield 7, 3) := by decide +kernel
theorem dX5_buys_18 : decode cX5_buys 18 = .ok (.iload 5, 2) := by decide +kernel
theorem dX5_buys_20 : decode cX5_buys 20 = .ok (.iload_n 1, 1) := by decide +kernel
theorem dX5_buys_21 : decode cX5_buys 21 = .ok (.iastore, 1) := by decide +kernel
theorem dX5_buys_22 : decode cX5_buys 22 = .ok (.aload_n 0, 1) := by decide +kernel
theorem dX5_buys_23 : decode cX5_buys 23 = .ok (.getfield 7, 3) := by decide +kernel
theorem dX5_buys_26 : decode cX5_buys 26 = .ok (.iload 5, 2) := by decide +kernel
theorem dX5_buys_28 : decode cX5_buys 28 = .ok (.iconst 1, 1) := by decide +kernel
theorem dX5_buys_29 : decode cX5_buys 29 = .ok (.iadd, 1) := by decide +kernel
theorem dX5_buys_30 : decode cX5_buys 30 = .ok (.iload_n 2, 1) := by decide +kernel
theorem dX5_buys_31 : decode cX5_buys 31 = .ok (.iastore, 1) := by decide +kernel
theorem dX5_buys_32 : decode cX5_buys 32 = .ok (.aload_n 0, 1) := by decide +kernel
theorem dX5_buys_33 : decode cX5_buys 33 = .ok (.getfield 7, 3) := by decide +kernel
theorem dX5_buys_36 : decode cX5_buys 36 = .ok (.iload 5, 2) := by decide +kernel
theorem dX5_buys_38 : decode cX5_buys 38 = .ok (.iconst 2, 1) := by decide +kernel
theorem dX5_buys_39 : decode cX5_buys 39 = .ok (.iadd, 1) := by decide +kernel
theorem dX5_buys_40 : decode cX5_buys 40 = .ok (.iload_n 3, 1) := by decide +kernel
theorem dX5_buys_41 : decode cX5_buys 41 = .ok (.iastore, 1) := by decide +kernel
theorem dX5_buys_42 : decode cX5_buys 42 = .ok (.aload_n 0, 1) := by decide +kernel
theorem dX5_buys_43 : decode cX5_buys 43 = .ok (.getfield 7, 3) := by decide +kernel
theorem dX5_buys_46 : decode cX5_buys 46 = .ok (.iload 5, 2) := by decide +kernel
theorem dX5_buys_48 : decode cX5_buys 48 = .ok (.iconst 3, 1) := by decide +kernel
theorem dX5_buys_49 : decode cX5_buys 49 = .ok (.iadd, 1) := by decide +kernel
theorem dX5_buys_50 : decode cX5_buys 50 = .ok (.aload_n 0, 1) := by decide +kernel
theorem dX5_buys_51 : decode cX5_buys 51 = .ok (.getfield 7, 3) := by decide +kernel
theorem dX5_buys_54 : decode cX5_buys 54 = .ok (.iconst 3, 1) := by decide +kernel
theorem dX5_buys_55 : decode cX5_buys 55 = .ok (.iaload, 1) := by decide +kernel
theorem dX5_buys_56 : decode cX5_buys 56 = .ok (.iastore, 1) := by decide +kernel
theorem dX5_buys_57 : decode cX5_buys 57 = .ok (.aload_n 0, 1) := by decide +kernel
theorem dX5_buys_58 : decode cX5_buys 58 = .ok (.getfield 7, 3) := by decide +kernel
theorem dX5_buys_61 : decode cX5_buys 61 = .ok (.iload 5, 2) := by decide +kernel
theorem dX5_buys_63 : decode cX5_buys 63 = .ok (.iconst 4, 1) := by decide +kernel
theorem dX5_buys_64 : decode cX5_buys 64 = .ok (.iadd, 1) := by decide +kernel
theorem dX5_buys_65 : decode cX5_buys 65 = .ok (.iconst 0, 1) := by decide +kernel
theorem dX5_buys_66 : decode cX5_buys 66 = .ok (.iastore, 1) := by decide +kernel
theorem dX5_buys_67 : decode cX5_buys 67 = .ok (.aload_n 0, 1) := by decide +kernel
theorem dX5_buys_68 : decode cX5_buys 68 = .ok (.getfield 7, 3) := by decide +kernel
theorem dX5_buys_71 : decode cX5_buys 71 = .ok (.iload 5, 2) := by decide +kernel
theorem dX5_buys_73 : decode cX5_buys 73 = .ok (.iconst 5, 1) := by decide +kernel
theorem dX5_buys_74 : decode cX5_buys 74 = .ok (.iadd, 1) := by decide +kernel
theorem dX5_buys_75 : decode cX5_buys 75 = .ok (.iconst (-1), 1) := by decide +kernel
theorem dX5_buys_76 : decode cX5_buys 76 = .ok (.iastore, 1) := by decide +kernel
theorem dX5_buys_77 : decode cX5_buys 77 = .ok (.aload_n 0, 1) := by decide +kernel
theorem dX5_buys_78 : decode cX5_buys 78 = .ok (.getfield 7, 3) := by decide +kernel
theorem dX5_buys_81 : decode cX5_buys 81 = .ok (.iload 5, 2) := by decide +kernel
theorem dX5_buys_83 : decode cX5_buys 83 = .ok (.bipush 6, 2) := by decide +kernel
theorem dX5_buys_85 : decode cX5_buys 85 = .ok (.iadd, 1) := by decide +kernel
theorem dX5_buys_86 : decode cX5_buys 86 = .ok (.iload 4, 2) := by decide +kernel
theorem dX5_buys_88 : decode cX5_buys 88 = .ok (.iastore, 1) := by decide +kernel
theorem dX5_buys_89 : decode cX5_buys 89 = .ok (.aload_n 0, 1) := by decide +kernel
theorem dX5_buys_90 : decode cX5_buys 90 = .ok (.getfield 7, 3) := by decide +kernel
theorem dX5_buys_93 : decode cX5_buys 93 = .ok (.iload 5, 2) := by decide +kernel
theorem dX5_buys_95 : decode cX5_buys 95 = .ok (.bipush 7, 2) := by decide +kernel
theorem dX5_buys_97 : decode cX5_buys 97 = .ok (.iadd, 1) := by decide +kernel
theorem dX5_buys_98 : decode cX5_buys 98 = .ok (.iconst (-1), 1) := by decide +kernel
theorem dX5_buys_99 : decode cX5_buys 99 = .ok (.iastore, 1) := by decide +kernel
theorem dX5_buys_100 : decode cX5_buys 100 = .ok (.aload_n 0, 1) := by decide +kernel
theorem dX5_buys_101 : decode cX5_buys 101 = .ok (.getfield 7, 3) := by decide +kernel
theorem dX5_buys_104 : decode cX5_buys 104 = .ok (.iconst 4, 1) := by decide +kernel
theorem dX5_buys_105 : decode cX5_buys 105 = .ok (.dup2, 1) := by decide +kernel
theorem dX5_buys_106 : decode cX5_buys 106 = .ok (.iaload, 1) := by decide +kernel
theorem dX5_buys_107 : decode cX5_buys 107 = .ok (.iload_n 1, 1) := by decide +kernel
theorem dX5_buys_108 : decode cX5_buys 108 = .ok (.iload_n 2, 1) := by decide +kernel
theorem dX5_buys_109 : decode cX5_buys 109 = .ok (.invokestatic 70, 3) := by decide +kernel
theorem dX5_buys_112 : decode cX5_buys 112 = .ok (.isub, 1) := by decide +kernel
theorem dX5_buys_113 : decode cX5_buys 113 = .ok (.iastore, 1) := by decide +kernel
theorem dX5_buys_114 : decode cX5_buys 114 = .ok (.aload_n 0, 1) := by decide +kernel
theorem dX5_buys_115 : decode cX5_buys 115 = .ok (.getfield 7, 3) := by decide +kernel
theorem dX5_buys_118 : decode cX5_buys 118 = .ok (.bipush 8, 2) := by decide +kernel
theorem dX5_buys_120 : decode cX5_buys 120 = .ok (.dup2, 1) := by decide +kernel
theorem dX5_buys_121 : decode cX5_buys 121 = .ok (.iaload, 1) := by decide +kernel
theorem dX5_buys_122 : decode cX5_buys 122 = .ok (.iload_n 1, 1) := by decide +kernel
theorem dX5_buys_123 : decode cX5_buys 123 = .ok (.iload_n 2, 1) := by decide +kernel
theorem dX5_buys_124 : decode cX5_buys 124 = .ok (.invokestatic 70, 3) := by decide +kernel
theorem dX5_buys_127 : decode cX5_buys 127 = .ok (.iadd, 1) := by decide +kernel
theorem dX5_buys_128 : decode cX5_buys 128 = .ok (.iastore, 1) := by decide +kernel
theorem dX5_buys_129 : decode cX5_buys 129 = .ok (.aload_n 0, 1) := by decide +kernel
theorem dX5_buys_130 : decode cX5_buys 130 = .ok (.getfield 7, 3) := by decide +kernel
theorem dX5_buys_133 : decode cX5_buys 133 = .ok (.iconst 5, 1) := by decide +kernel
theorem dX5_buys_134 : decode cX5_buys 134 = .ok (.dup2, 1) := by decide +kernel
theorem dX5_buys_135 : decode cX5_buys 135 = .ok (.iaload, 1) := by decide +kernel
theorem dX5_buys_136 : decode cX5_buys 136 = .ok (.iconst 1, 1) := by decide +kernel
theorem dX5_buys_137 : decode cX5_buys 137 = .ok (.iadd, 1) := by decide +kernel
theorem dX5_buys_138 : decode cX5_buys 138 = .ok (.iastore, 1) := by decide +kernel
theorem dX5_buys_139 : decode cX5_buys 139 = .ok (.aload_n 0, 1) := by decide +kernel
theorem dX5_buys_140 : decode cX5_buys 140 = .ok (.getfield 7, 3) := by decide +kernel
theorem dX5_buys_143 : decode cX5_buys 143 = .ok (.iconst 5, 1) := by decide +kernel
theorem dX5_buys_144 : decode cX5_buys 144 = .ok (.iaload, 1) := by decide +kernel
theorem dX5_buys_145 : decode cX5_buys 145 = .ok (.iconst 1, 1) := by decide +kernel
theorem dX5_buys_146 : decode cX5_buys 146 = .ok (.isub, 1) := by decide +kernel
theorem dX5_buys_147 : decode cX5_buys 147 = .ok (.ireturn, 1) := by decide +kernel
theorem dX5_buy_0 : decode cX5_buy 0 = .ok (.aload_n 0, 1) := by decide +kernel
theorem dX5_buy_1 : decode cX5_buy 1 = .ok (.iconst 0, 1) := by decide +kernel
theorem dX5_buy_2 : decode cX5_buy 2 = .ok (.putfield 22, 3) := by decide +kernel
theorem dX5_buy_5 : decode cX5_buy 5 = .ok (.iload_n 1, 1) := by decide +kernel
theorem dX5_buy_6 : decode cX5_buy 6 = .ok (.iconst 0, 1) := by decide +kernel
theorem dX5_buy_7 : decode cX5_buy 7 = .ok (.iconst 2, 1) := by decide +kernel
theorem dX5_buy_8 : decode cX5_buy 8 = .ok (.invokestatic 26, 3) := by decide +kernel
theorem dX5_buy_11 : decode cX5_buy 11 = .ok (.ifCond .eq 22, 3) := by decide +kernel
theorem dX5_buy_14 : decode cX5_buy 14 = .ok (.iload_n 2, 1) := by decide +kernel
theorem dX5_buy_15 : decode cX5_buy 15 = .ok (.iconst 5, 1) := by decide +kernel
theorem dX5_buy_16 : decode cX5_buy 16 = .ok (.bipush 50, 2) := by decide +kernel
theorem dX5_buy_18 : decode cX5_buy 18 = .ok (.invokestatic 26, 3) := by decide +kernel
theorem dX5_buy_21 : decode cX5_buy 21 = .ok (.ifCond .eq 12, 3) := by decide +kernel
theorem dX5_buy_24 : decode cX5_buy 24 = .ok (.iload_n 3, 1) := by decide +kernel
theorem dX5_buy_25 : decode cX5_buy 25 = .ok (.iconst 0, 1) := by decide +kernel
theorem dX5_buy_26 : decode cX5_buy 26 = .ok (.iconst 2, 1) := by decide +kernel
theorem dX5_buy_27 : decode cX5_buy 27 = .ok (.invokestatic 26, 3) := by decide +kernel
theorem dX5_buy_30 : decode cX5_buy 30 = .ok (.ifCond .ne 9, 3) := by decide +kernel
theorem dX5_buy_33 : decode cX5_buy 33 = .ok (.aload_n 0, 1) := by decide +kernel
theorem dX5_buy_34 : decode cX5_buy 34 = .ok (.iconst 1, 1) := by decide +kernel
theorem dX5_buy_35 : decode cX5_buy 35 = .ok (.invokevirtual 33, 3) := by decide +kernel
theorem dX5_buy_38 : decode cX5_buy 38 = .ok (.ireturn, 1) := by decide +kernel
theorem dX5_buy_39 : decode cX5_buy 39 = .ok (.aload_n 0, 1) := by decide +kernel
theorem dX5_buy_40 : decode cX5_buy 40 = .ok (.iload_n 1, 1) := by decide +kernel
theorem dX5_buy_41 : decode cX5_buy 41 = .ok (.iload_n 2, 1) := by decide +kernel
theorem dX5_buy_42 : decode cX5_buy 42 = .ok (.invokevirtual 73, 3) := by decide +kernel
theorem dX5_buy_45 : decode cX5_buy 45 = .ok (.ifCond .ne 9, 3) := by decide +kernel
theorem dX5_buy_48 : decode cX5_buy 48 = .ok (.aload_n 0, 1) := by decide +kernel
theorem dX5_buy_49 : decode cX5_buy 49 = .ok (.iconst 2, 1) := by decide +kernel
theorem dX5_buy_50 : decode cX5_buy 50 = .ok (.invokevirtual 33, 3) := by decide +kernel
theorem dX5_buy_53 : decode cX5_buy 53 = .ok (.ireturn, 1) := by decide +kernel
theorem dX5_buy_54 : decode cX5_buy 54 = .ok (.aload_n 0, 1) := by decide +kernel
theorem dX5_buy_55 : decode cX5_buy 55 = .ok (.invokevirtual 77, 3) := by decide +kernel
theorem dX5_buy_58 : decode cX5_buy 58 = .ok (.aload_n 0, 1) := by decide +kernel
theorem dX5_buy_59 : decode cX5_buy 59 = .ok (.iload_n 1, 1) := by decide +kernel
theorem dX5_buy_60 : decode cX5_buy 60 = .ok (.iload_n 2, 1) := by decide +kernel
theorem dX5_buy_61 : decode cX5_buy 61 = .ok (.iload_n 3, 1) := by decide +kernel
theorem dX5_buy_62 : decode cX5_buy 62 = .ok (.iconst 3, 1) := by decide +kernel
theorem dX5_buy_63 : decode cX5_buy 63 = .ok (.invokevirtual 80, 3) := by decide +kernel
theorem dX5_buy_66 : decode cX5_buy 66 = .ok (.ireturn, 1) := by decide +kernel
theorem dX5_isHere_0 : decode cX5_isHere 0 = .ok (.aload_n 0, 1) := by decide +kernel
theorem dX5_isHere_1 : decode cX5_isHere 1 = .ok (.iload_n 1, 1) := by decide +kernel
theorem dX5_isHere_2 : decode cX5_isHere 2 = .ok (.bipush 6, 2) := by decide +kernel
theorem dX5_isHere_4 : decode cX5_isHere 4 = .ok (.invokevirtual 37, 3) := by decide +kernel
theorem dX5_isHere_7 : decode cX5_isHere 7 = .ok (.iconst 0, 1) := by decide +kernel
theorem dX5_isHere_8 : decode cX5_isHere 8 = .ok (.iconst 3, 1) := by decide +kernel
theorem dX5_isHere_9 : decode cX5_isHere 9 = .ok (.invokestatic 26, 3) := by decide +kernel
theorem dX5_isHere_12 : decode cX5_isHere 12 = .ok (.ireturn, 1) := by decide +kernel
theorem dX5_changes_0 : decode cX5_changes 0 = .ok (.aload_n 0, 1) := by decide +kernel
theorem dX5_changes_1 : decode cX5_changes 1 = .ok (.getfield 7, 3) := by decide +kernel
theorem dX5_changes_4 : decode cX5_changes 4 = .ok (.iload_n 1, 1) := by decide +kernel
theorem dX5_changes_5 : decode cX5_changes 5 = .ok (.iaload, 1) := by decide +kernel
theorem dX5_changes_6 : decode cX5_changes 6 = .ok (.istore_n 3, 1) := by decide +kernel
theorem dX5_changes_7 : decode cX5_changes 7 = .ok (.aload_n 0, 1) := by decide +kernel
theorem dX5_changes_8 : decode cX5_changes 8 = .ok (.getfield 7, 3) := by decide +kernel
theorem dX5_changes_11 : decode cX5_changes 11 = .ok (.iload_n 1, 1) := by decide +kernel
theorem dX5_changes_12 : decode cX5_changes 12 = .ok (.iload_n 2, 1) := by decide +kernel
theorem dX5_changes_13 : decode cX5_changes 13 = .ok (.iastore, 1) := by decide +kernel
theorem dX5_changes_14 : decode cX5_changes 14 = .ok (.iload_n 3, 1) := by decide +kernel
theorem dX5_changes_15 : decode cX5_changes 15 = .ok (.ireturn, 1) := by decide +kernel
theorem dX5_renew_0 : decode cX5_renew 0 = .ok (.aload_n 0, 1) := by decide +kernel
theorem dX5_renew_1 : decode cX5_renew 1 = .ok (.iconst 0, 1) := by decide +kernel
theorem dX5_renew_2 : decode cX5_renew 2 = .ok (.putfield 22, 3) := by decide +kernel
theorem dX5_renew_5 : decode cX5_renew 5 = .ok (.aload_n 0, 1) := by decide +kernel
theorem dX5_renew_6 : decode cX5_renew 6 = .ok (.iload_n 1, 1) := by decide +kernel
theorem dX5_renew_7 : decode cX5_renew 7 = .ok (.invokevirtual 84, 3) := by decide +kernel
theorem dX5_renew_10 : decode cX5_renew 10 = .ok (.ifCond .ne 9, 3) := by decide +kernel
theorem dX5_renew_13 : decode cX5_renew 13 = .ok (.aload_n 0, 1) := by decide +kernel
theorem dX5_renew_14 : decode cX5_renew 14 = .ok (.iconst 1, 1) := by decide +kernel
theorem dX5_renew_15 : decode cX5_renew 15 = .ok (.invokevirtual 33, 3) := by decide +kernel
theorem dX5_renew_18 : decode cX5_renew 18 = .ok (.ireturn, 1) := by decide +kernel
theorem dX5_renew_19 : decode cX5_renew 19 = .ok (.aload_n 0, 1) := by decide +kernel
theorem dX5_renew_20 : decode cX5_renew 20 = .ok (.iload_n 1, 1) := by decide +kernel
theorem dX5_renew_21 : decode cX5_renew 21 = .ok (.invokevirtual 87, 3) := by decide +kernel
theorem dX5_renew_24 : decode cX5_renew 24 = .ok (.ifCond .eq 22, 3) := by decide +kernel
theorem dX5_renew_27 : decode cX5_renew 27 = .ok (.aload_n 0, 1) := by decide +kernel
theorem dX5_renew_28 : decode cX5_renew 28 = .ok (.aload_n 0, 1) := by decide +kernel
theorem dX5_renew_29 : decode cX5_renew 29 = .ok (.iload_n 1, 1) := by decide +kernel
theorem dX5_renew_30 : decode cX5_renew 30 = .ok (.iconst 0, 1) := by decide +kernel
theorem dX5_renew_31 : decode cX5_renew 31 = .ok (.invokevirtual 37, 3) := by decide +kernel
theorem dX5_renew_34 : decode cX5_renew 34 = .ok (.aload_n 0, 1) := by decide +kernel
theorem dX5_renew_35 : decode cX5_renew 35 = .ok (.iload_n 1, 1) := by decide +kernel
theorem dX5_renew_36 : decode cX5_renew 36 = .ok (.iconst 1, 1) := by decide +kernel
theorem dX5_renew_37 : decode cX5_renew 37 = .ok (.invokevirtual 37, 3) := by decide +kernel
theorem dX5_renew_40 : decode cX5_renew 40 = .ok (.invokevirtual 73, 3) := by decide +kernel
theorem dX5_renew_43 : decode cX5_renew 43 = .ok (.ifCond .ne 9, 3) := by decide +kernel
theorem dX5_renew_46 : decode cX5_renew 46 = .ok (.aload_n 0, 1) := by decide +kernel
theorem dX5_renew_47 : decode cX5_renew 47 = .ok (.iconst 2, 1) := by decide +kernel
theorem dX5_renew_48 : decode cX5_renew 48 = .ok (.invokevirtual 33, 3) := by decide +kernel
theorem dX5_renew_51 : decode cX5_renew 51 = .ok (.ireturn, 1) := by decide +kernel
theorem dX5_renew_52 : decode cX5_renew 52 = .ok (.aload_n 0, 1) := by decide +kernel
theorem dX5_renew_53 : decode cX5_renew 53 = .ok (.invokevirtual 77, 3) := by decide +kernel
theorem dX5_renew_56 : decode cX5_renew 56 = .ok (.aload_n 0, 1) := by decide +kernel
theorem dX5_renew_57 : decode cX5_renew 57 = .ok (.bipush 12, 2) := by decide +kernel
theorem dX5_renew_59 : decode cX5_renew 59 = .ok (.bipush 8, 2) := by decide +kernel
theorem dX5_renew_61 : decode cX5_renew 61 = .ok (.iload_n 1, 1) := by decide +kernel
theorem dX5_renew_62 : decode cX5_renew 62 = .ok (.imul, 1) := by decide +kernel
theorem dX5_renew_63 : decode cX5_renew 63 = .ok (.iadd, 1) := by decide +kernel
theorem dX5_renew_64 : decode cX5_renew 64 = .ok (.bipush 6, 2) := by decide +kernel
theorem dX5_renew_66 : decode cX5_renew 66 = .ok (.iadd, 1) := by decide +kernel
theorem dX5_renew_67 : decode cX5_renew 67 = .ok (.iconst (-1), 1) := by decide +kernel
theorem dX5_renew_68 : decode cX5_renew 68 = .ok (.invokevirtual 90, 3) := by decide +kernel
theorem dX5_renew_71 : decode cX5_renew 71 = .ok (.istore_n 2, 1) := by decide +kernel
theorem dX5_renew_72 : decode cX5_renew 72 = .ok (.aload_n 0, 1) := by decide +kernel
theorem dX5_renew_73 : decode cX5_renew 73 = .ok (.aload_n 0, 1) := by decide +kernel
theorem dX5_renew_74 : decode cX5_renew 74 = .ok (.iload_n 1, 1) := by decide +kernel
theorem dX5_renew_75 : decode cX5_renew 75 = .ok (.iconst 0, 1) := by decide +kernel
theorem dX5_renew_76 : decode cX5_renew 76 = .ok (.invokevirtual 37, 3) := by decide +kernel
theorem dX5_renew_79 : decode cX5_renew 79 = .ok (.aload_n 0, 1) := by decide +kernel
theorem dX5_renew_80 : decode cX5_renew 80 = .ok (.iload_n 1, 1) := by decide +kernel
theorem dX5_renew_81 : decode cX5_renew 81 = .ok (.iconst 1, 1) := by decide +kernel
theorem dX5_renew_82 : decode cX5_renew 82 = .ok (.invokevirtual 37, 3) := by decide +kernel
theorem dX5_renew_85 : decode cX5_renew 85 = .ok (.aload_n 0, 1) := by decide +kernel
theorem dX5_renew_86 : decode cX5_renew 86 = .ok (.iload_n 1, 1) := by decide +kernel
theorem dX5_renew_87 : decode cX5_renew 87 = .ok (.iconst 2, 1) := by decide +kernel
theorem dX5_renew_88 : decode cX5_renew 88 = .ok (.invokevirtual 37, 3) := by decide +kernel
theorem dX5_renew_91 : decode cX5_renew 91 = .ok (.iload_n 2, 1) := by decide +kernel
theorem dX5_renew_92 : decode cX5_renew 92 = .ok (.invokevirtual 80, 3) := by decide +kernel
theorem dX5_renew_95 : decode cX5_renew 95 = .ok (.ireturn, 1) := by decide +kernel
theorem dX5_put_0 : decode cX5_put 0 = .ok (.aload_n 0, 1) := by decide +kernel
theorem dX5_put_1 : decode cX5_put 1 = .ok (.iconst 0, 1) := by decide +kernel
theorem dX5_put_2 : decode cX5_put 2 = .ok (.putfield 22, 3) := by decide +kernel
theorem dX5_put_5 : decode cX5_put 5 = .ok (.aload_n 0, 1) := by decide +kernel
theorem dX5_put_6 : decode cX5_put 6 = .ok (.iload_n 1, 1) := by decide +kernel
theorem dX5_put_7 : decode cX5_put 7 = .ok (.invokevirtual 84, 3) := by decide +kernel
theorem dX5_put_10 : decode cX5_put 10 = .ok (.ifCond .ne 9, 3) := by decide +kernel
theorem dX5_put_13 : decode cX5_put 13 = .ok (.aload_n 0, 1) := by decide +kernel
theorem dX5_put_14 : decode cX5_put 14 = .ok (.iconst 1, 1) := by decide +kernel
theorem dX5_put_15 : decode cX5_put 15 = .ok (.invokevirtual 33, 3) := by decide +kernel
theorem dX5_put_18 : decode cX5_put 18 = .ok (.ireturn, 1) := by decide +kernel
theorem dX5_put_19 : decode cX5_put 19 = .ok (.iload_n 2, 1) := by decide +kernel
theorem dX5_put_20 : decode cX5_put 20 = .ok (.iconst 0, 1) := by decide +kernel
theorem dX5_put_21 : decode cX5_put 21 = .ok (.iconst 3, 1) := by decide +kernel
theorem dX5_put_22 : decode cX5_put 22 = .ok (.invokestatic 26, 3) := by decide +kernel
theorem dX5_put_25 : decode cX5_put 25 = .ok (.ifCond .ne 9, 3) := by decide +kernel
theorem dX5_put_28 : decode cX5_put 28 = .ok (.aload_n 0, 1) := by decide +kernel
theorem dX5_put_29 : decode cX5_put 29 = .ok (.iconst 2, 1) := by decide +kernel
theorem dX5_put_30 : decode cX5_put 30 = .ok (.invokevirtual 33, 3) := by decide +kernel
theorem dX5_put_33 : decode cX5_put 33 = .ok (.ireturn, 1) := by decide +kernel
theorem dX5_put_34 : decode cX5_put 34 = .ok (.aload_n 0, 1) := by decide +kernel
theorem dX5_put_35 : decode cX5_put 35 = .ok (.iload_n 1, 1) := by decide +kernel
theorem dX5_put_36 : decode cX5_put 36 = .ok (.invokevirtual 87, 3) := by decide +kernel
theorem dX5_put_39 : decode cX5_put 39 = .ok (.ifCond .ne 9, 3) := by decide +kernel
theorem dX5_put_42 : decode cX5_put 42 = .ok (.aload_n 0, 1) := by decide +kernel
theorem dX5_put_43 : decode cX5_put 43 = .ok (.iconst 3, 1) := by decide +kernel
theorem dX5_put_44 : decode cX5_put 44 = .ok (.invokevirtual 33, 3) := by decide +kernel
theorem dX5_put_47 : decode cX5_put 47 = .ok (.ireturn, 1) := by decide +kernel
theorem dX5_put_48 : decode cX5_put 48 = .ok (.aload_n 0, 1) := by decide +kernel
theorem dX5_put_49 : decode cX5_put 49 = .ok (.invokevirtual 77, 3) := by decide +kernel
theorem dX5_put_52 : decode cX5_put 52 = .ok (.aload_n 0, 1) := by decide +kernel
theorem dX5_put_53 : decode cX5_put 53 = .ok (.bipush 12, 2) := by decide +kernel
theorem dX5_put_55 : decode cX5_put 55 = .ok (.bipush 8, 2) := by decide +kernel
theorem dX5_put_57 : decode cX5_put 57 = .ok (.iload_n 1, 1) := by decide +kernel
theorem dX5_put_58 : decode cX5_put 58 = .ok (.imul, 1) := by decide +kernel
theorem dX5_put_59 : decode cX5_put 59 = .ok (.iadd, 1) := by decide +kernel
theorem dX5_put_60 : decode cX5_put 60 = .ok (.bipush 6, 2) := by decide +kernel
theorem dX5_put_62 : decode cX5_put 62 = .ok (.iadd, 1) := by decide +kernel
theorem dX5_put_63 : decode cX5_put 63 = .ok (.iload_n 2, 1) := by decide +kernel
theorem dX5_put_64 : decode cX5_put 64 = .ok (.invokevirtual 90, 3) := by decide +kernel
theorem dX5_put_67 : decode cX5_put 67 = .ok (.ireturn, 1) := by decide +kernel
theorem dX5_lend_0 : decode cX5_lend 0 = .ok (.aload_n 0, 1) := by decide +kernel
theorem dX5_lend_1 : decode cX5_lend 1 = .ok (.iconst 0, 1) := by decide +kernel
theorem dX5_lend_2 : decode cX5_lend 2 = .ok (.putfield 22, 3) := by decide +kernel
theorem dX5_lend_5 : decode cX5_lend 5 = .ok (.aload_n 0, 1) := by decide +kernel
theorem dX5_lend_6 : decode cX5_lend 6 = .ok (.iload_n 1, 1) := by decide +kernel
theorem dX5_lend_7 : decode cX5_lend 7 = .ok (.invokevirtual 84, 3) := by decide +kernel
theorem dX5_lend_10 : decode cX5_lend 10 = .ok (.ifCond .ne 9, 3) := by decide +kernel
theorem dX5_lend_13 : decode cX5_lend 13 = .ok (.aload_n 0, 1) := by decide +kernel
theorem dX5_lend_14 : decode cX5_lend 14 = .ok (.iconst 1, 1) := by decide +kernel
theorem dX5_lend_15 : decode cX5_lend 15 = .ok (.invokevirtual 33, 3) := by decide +kernel
theorem dX5_lend_18 : decode cX5_lend 18 = .ok (.ireturn, 1) := by decide +kernel
theorem dX5_lend_19 : decode cX5_lend 19 = .ok (.iload_n 2, 1) := by decide +kernel
theorem dX5_lend_20 : decode cX5_lend 20 = .ok (.iconst 1, 1) := by decide +kernel
theorem dX5_lend_21 : decode cX5_lend 21 = .ok (.bipush 99, 2) := by decide +kernel
theorem dX5_lend_23 : decode cX5_lend 23 = .ok (.invokestatic 26, 3) := by decide +kernel
theorem dX5_lend_26 : decode cX5_lend 26 = .ok (.ifCond .ne 9, 3) := by decide +kernel
theorem dX5_lend_29 : decode cX5_lend 29 = .ok (.aload_n 0, 1) := by decide +kernel
theorem dX5_lend_30 : decode cX5_lend 30 = .ok (.iconst 2, 1) := by decide +kernel
theorem dX5_lend_31 : decode cX5_lend 31 = .ok (.invokevirtual 33, 3) := by decide +kernel
theorem dX5_lend_34 : decode cX5_lend 34 = .ok (.ireturn, 1) := by decide +kernel
theorem dX5_lend_35 : decode cX5_lend 35 = .ok (.aload_n 0, 1) := by decide +kernel
theorem dX5_lend_36 : decode cX5_lend 36 = .ok (.iload_n 1, 1) := by decide +kernel
theorem dX5_lend_37 : decode cX5_lend 37 = .ok (.invokevirtual 62, 3) := by decide +kernel
theorem dX5_lend_40 : decode cX5_lend 40 = .ok (.ifCond .ne 9, 3) := by decide +kernel
theorem dX5_lend_43 : decode cX5_lend 43 = .ok (.aload_n 0, 1) := by decide +kernel
theorem dX5_lend_44 : decode cX5_lend 44 = .ok (.iconst 3, 1) := by decide +kernel
theorem dX5_lend_45 : decode cX5_lend 45 = .ok (.invokevirtual 33, 3) := by decide +kernel
theorem dX5_lend_48 : decode cX5_lend 48 = .ok (.ireturn, 1) := by decide +kernel
theorem dX5_lend_49 : decode cX5_lend 49 = .ok (.aload_n 0, 1) := by decide +kernel
theorem dX5_lend_50 : decode cX5_lend 50 = .ok (.invokevirtual 77, 3) := by decide +kernel
theorem dX5_lend_53 : decode cX5_lend 53 = .ok (.aload_n 0, 1) := by decide +kernel
theorem dX5_lend_54 : decode cX5_lend 54 = .ok (.getfield 7, 3) := by decide +kernel
theorem dX5_lend_57 : decode cX5_lend 57 = .ok (.bipush 12, 2) := by decide +kernel
theorem dX5_lend_59 : decode cX5_lend 59 = .ok (.bipush 8, 2) := by decide +kernel
theorem dX5_lend_61 : decode cX5_lend 61 = .ok (.iload_n 1, 1) := by decide +kernel
theorem dX5_lend_62 : decode cX5_lend 62 = .ok (.imul, 1) := by decide +kernel
theorem dX5_lend_63 : decode cX5_lend 63 = .ok (.iadd, 1) := by decide +kernel
theorem dX5_lend_64 : decode cX5_lend 64 = .ok (.bipush 6, 2) := by decide +kernel
theorem dX5_lend_66 : decode cX5_lend 66 = .ok (.iadd, 1) := by decide +kernel
theorem dX5_lend_67 : decode cX5_lend 67 = .ok (.iconst 4, 1) := by decide +kernel
theorem dX5_lend_68 : decode cX5_lend 68 = .ok (.iastore, 1) := by decide +kernel
theorem dX5_lend_69 : decode cX5_lend 69 = .ok (.aload_n 0, 1) := by decide +kernel
theorem dX5_lend_70 : decode cX5_lend 70 = .ok (.getfield 7, 3) := by decide +kernel
theorem dX5_lend_73 : decode cX5_lend 73 = .ok (.bipush 12, 2) := by decide +kernel
theorem dX5_lend_75 : decode cX5_lend 75 = .ok (.bipush 8, 2) := by decide +kernel
theorem dX5_lend_77 : decode cX5_lend 77 = .ok (.iload_n 1, 1) := by decide +kernel
theorem dX5_lend_78 : decode cX5_lend 78 = .ok (.imul, 1) := by decide +kernel
theorem dX5_lend_79 : decode cX5_lend 79 = .ok (.iadd, 1) := by decide +kernel
theorem dX5_lend_80 : decode cX5_lend 80 = .ok (.bipush 7, 2) := by decide +kernel
theorem dX5_lend_82 : decode cX5_lend 82 = .ok (.iadd, 1) := by decide +kernel
theorem dX5_lend_83 : decode cX5_lend 83 = .ok (.aload_n 0, 1) := by decide +kernel
theorem dX5_lend_84 : decode cX5_lend 84 = .ok (.getfield 7, 3) := by decide +kernel
theorem dX5_lend_87 : decode cX5_lend 87 = .ok (.iconst 3, 1) := by decide +kernel
theorem dX5_lend_88 : decode cX5_lend 88 = .ok (.iaload, 1) := by decide +kernel
theorem dX5_lend_89 : decode cX5_lend 89 = .ok (.iload_n 2, 1) := by decide +kernel
theorem dX5_lend_90 : decode cX5_lend 90 = .ok (.iadd, 1) := by decide +kernel
theorem dX5_lend_91 : decode cX5_lend 91 = .ok (.iastore, 1) := by decide +kernel
theorem dX5_lend_92 : decode cX5_lend 92 = .ok (.aload_n 0, 1) := by decide +kernel
theorem dX5_lend_93 : decode cX5_lend 93 = .ok (.getfield 7, 3) := by decide +kernel
theorem dX5_lend_96 : decode cX5_lend 96 = .ok (.iconst 3, 1) := by decide +kernel
theorem dX5_lend_97 : decode cX5_lend 97 = .ok (.iaload, 1) := by decide +kernel
theorem dX5_lend_98 : decode cX5_lend 98 = .ok (.iload_n 2, 1) := by decide +kernel
theorem dX5_lend_99 : decode cX5_lend 99 = .ok (.iadd, 1) := by decide +kernel
theorem dX5_lend_100 : decode cX5_lend 100 = .ok (.ireturn, 1) := by decide +kernel
theorem dX5_test_0 : decode cX5_test 0 = .ok (.aload_n 0, 1) := by decide +kernel
theorem dX5_test_1 : decode cX5_test 1 = .ok (.iconst 0, 1) := by decide +kernel
theorem dX5_test_2 : decode cX5_test 2 = .ok (.putfield 22, 3) := by decide +kernel
theorem dX5_test_5 : decode cX5_test 5 = .ok (.aload_n 0, 1) := by decide +kernel
theorem dX5_test_6 : decode cX5_test 6 = .ok (.iload_n 1, 1) := by decide +kernel
theorem dX5_test_7 : decode cX5_test 7 = .ok (.invokevirtual 84, 3) := by decide +kernel
theorem dX5_test_10 : decode cX5_test 10 = .ok (.ifCond .ne 9, 3) := by decide +kernel
theorem dX5_test_13 : decode cX5_test 13 = .ok (.aload_n 0, 1) := by decide +kernel
theorem dX5_test_14 : decode cX5_test 14 = .ok (.iconst 1, 1) := by decide +kernel
theorem dX5_test_15 : decode cX5_test 15 = .ok (.invokevirtual 33, 3) := by decide +kernel
theorem dX5_test_18 : decode cX5_test 18 = .ok (.ireturn, 1) := by decide +kernel
theorem dX5_test_19 : decode cX5_test 19 = .ok (.iload_n 2, 1) := by decide +kernel
theorem dX5_test_20 : decode cX5_test 20 = .ok (.iconst 4, 1) := by decide +kernel
theorem dX5_test_21 : decode cX5_test 21 = .ok (.bipush 24, 2) := by decide +kernel
theorem dX5_test_23 : decode cX5_test 23 = .ok (.invokestatic 26, 3) := by decide +kernel
theorem dX5_test_26 : decode cX5_test 26 = .ok (.ifCond .ne 9, 3) := by decide +kernel
theorem dX5_test_29 : decode cX5_test 29 = .ok (.aload_n 0, 1) := by decide +kernel
theorem dX5_test_30 : decode cX5_test 30 = .ok (.iconst 2, 1) := by decide +kernel
theorem dX5_test_31 : decode cX5_test 31 = .ok (.invokevirtual 33, 3) := by decide +kernel
theorem dX5_test_34 : decode cX5_test 34 = .ok (.ireturn, 1) := by decide +kernel
theorem dX5_test_35 : decode cX5_test 35 = .ok (.aload_n 0, 1) := by decide +kernel
theorem dX5_test_36 : decode cX5_test 36 = .ok (.iload_n 1, 1) := by decide +kernel
theorem dX5_test_37 : decode cX5_test 37 = .ok (.invokevirtual 87, 3) := by decide +kernel
theorem dX5_test_40 : decode cX5_test 40 = .ok (.ifCond .ne 9, 3) := by decide +kernel
theorem dX5_test_43 : decode cX5_test 43 = .ok (.aload_n 0, 1) := by decide +kernel
theorem dX5_test_44 : decode cX5_test 44 = .ok (.iconst 3, 1) := by decide +kernel
theorem dX5_test_45 : decode cX5_test 45 = .ok (.invokevirtual 33, 3) := by decide +kernel
theorem dX5_test_48 : decode cX5_test 48 = .ok (.ireturn, 1) := by decide +kernel
theorem dX5_test_49 : decode cX5_test 49 = .ok (.aload_n 0, 1) := by decide +kernel
theorem dX5_test_50 : decode cX5_test 50 = .ok (.invokevirtual 77, 3) := by decide +kernel
theorem dX5_test_53 : decode cX5_test 53 = .ok (.aload_n 0, 1) := by decide +kernel
theorem dX5_test_54 : decode cX5_test 54 = .ok (.iload_n 1, 1) := by decide +kernel
theorem dX5_test_55 : decode cX5_test 55 = .ok (.iload_n 2, 1) := by decide +kernel
theorem dX5_test_56 : decode cX5_test 56 = .ok (.invokevirtual 93, 3) := by decide +kernel
theorem dX5_test_59 : decode cX5_test 59 = .ok (.istore_n 3, 1) := by decide +kernel
theorem dX5_test_60 : decode cX5_test 60 = .ok (.bipush 12, 2) := by decide +kernel
theorem dX5_test_62 : decode cX5_test 62 = .ok (.bipush 8, 2) := by decide +kernel
theorem dX5_test_64 : decode cX5_test 64 = .ok (.iload_n 1, 1) := by decide +kernel
theorem dX5_test_65 : decode cX5_test 65 = .ok (.imul, 1) := by decide +kernel
theorem dX5_test_66 : decode cX5_test 66 = .ok (.iadd, 1) := by decide +kernel
theorem dX5_test_67 : decode cX5_test 67 = .ok (.istore 4, 2) := by decide +kernel
theorem dX5_test_69 : decode cX5_test 69 = .ok (.aload_n 0, 1) := by decide +kernel
theorem dX5_test_70 : decode cX5_test 70 = .ok (.getfield 7, 3) := by decide +kernel
theorem dX5_test_73 : decode cX5_test 73 = .ok (.iload 4, 2) := by decide +kernel
theorem dX5_test_75 : decode cX5_test 75 = .ok (.iconst 4, 1) := by decide +kernel
theorem dX5_test_76 : decode cX5_test 76 = .ok (.iadd, 1) := by decide +kernel
theorem dX5_test_77 : decode cX5_test 77 = .ok (.aload_n 0, 1) := by decide +kernel
theorem dX5_test_78 : decode cX5_test 78 = .ok (.getfield 47, 3) := by decide +kernel
theorem dX5_test_81 : decode cX5_test 81 = .ok (.iastore, 1) := by decide +kernel
theorem dX5_test_82 : decode cX5_test 82 = .ok (.aload_n 0, 1) := by decide +kernel
theorem dX5_test_83 : decode cX5_test 83 = .ok (.getfield 7, 3) := by decide +kernel
theorem dX5_test_86 : decode cX5_test 86 = .ok (.bipush 6, 2) := by decide +kernel
theorem dX5_test_88 : decode cX5_test 88 = .ok (.dup2, 1) := by decide +kernel
theorem dX5_test_89 : decode cX5_test 89 = .ok (.iaload, 1) := by decide +kernel
theorem dX5_test_90 : decode cX5_test 90 = .ok (.iconst 1, 1) := by decide +kernel
theorem dX5_test_91 : decode cX5_test 91 = .ok (.iadd, 1) := by decide +kernel
theorem dX5_test_92 : decode cX5_test 92 = .ok (.iastore, 1) := by decide +kernel
theorem dX5_test_93 : decode cX5_test 93 = .ok (.iload_n 3, 1) := by decide +kernel
theorem dX5_test_94 : decode cX5_test 94 = .ok (.bipush 100, 2) := by decide +kernel
theorem dX5_test_96 : decode cX5_test 96 = .ok (.if_icmp .lt 28, 3) := by decide +kernel
theorem dX5_test_99 : decode cX5_test 99 = .ok (.aload_n 0, 1) := by decide +kernel
theorem dX5_test_100 : decode cX5_test 100 = .ok (.getfield 7, 3) := by decide +kernel
theorem dX5_test_103 : decode cX5_test 103 = .ok (.iload 4, 2) := by decide +kernel
theorem dX5_test_105 : decode cX5_test 105 = .ok (.bipush 6, 2) := by decide +kernel
theorem dX5_test_107 : decode cX5_test 107 = .ok (.iadd, 1) := by decide +kernel
theorem dX5_test_108 : decode cX5_test 108 = .ok (.iconst (-1), 1) := by decide +kernel
theorem dX5_test_109 : decode cX5_test 109 = .ok (.iastore, 1) := by decide +kernel
theorem dX5_test_110 : decode cX5_test 110 = .ok (.aload_n 0, 1) := by decide +kernel
theorem dX5_test_111 : decode cX5_test 111 = .ok (.getfield 7, 3) := by decide +kernel
theorem dX5_test_114 : decode cX5_test 114 = .ok (.bipush 7, 2) := by decide +kernel
theorem dX5_test_116 : decode cX5_test 116 = .ok (.dup2, 1) := by decide +kernel
theorem dX5_test_117 : decode cX5_test 117 = .ok (.iaload, 1) := by decide +kernel
theorem dX5_test_118 : decode cX5_test 118 = .ok (.iconst 1, 1) := by decide +kernel
theorem dX5_test_119 : decode cX5_test 119 = .ok (.iadd, 1) := by decide +kernel
theorem dX5_test_120 : decode cX5_test 120 = .ok (.iastore, 1) := by decide +kernel
theorem dX5_test_121 : decode cX5_test 121 = .ok (.goto 39, 3) := by decide +kernel
theorem dX5_test_124 : decode cX5_test 124 = .ok (.iload_n 2, 1) := by decide +kernel
theorem dX5_test_125 : decode cX5_test 125 = .ok (.aload_n 0, 1) := by decide +kernel
theorem dX5_test_126 : decode cX5_test 126 = .ok (.getfield 7, 3) := by decide +kernel
theorem dX5_test_129 : decode cX5_test 129 = .ok (.iconst 0, 1) := by decide +kernel
theorem dX5_test_130 : decode cX5_test 130 = .ok (.iaload, 1) := by decide +kernel
theorem dX5_test_131 : decode cX5_test 131 = .ok (.if_icmp .lt 29, 3) := by decide +kernel
theorem dX5_test_134 : decode cX5_test 134 = .ok (.aload_n 0, 1) := by decide +kernel
theorem dX5_test_135 : decode cX5_test 135 = .ok (.getfield 7, 3) := by decide +kernel
theorem dX5_test_138 : decode cX5_test 138 = .ok (.iload 4, 2) := by decide +kernel
theorem dX5_test_140 : decode cX5_test 140 = .ok (.iconst 5, 1) := by decide +kernel
theorem dX5_test_141 : decode cX5_test 141 = .ok (.iadd, 1) := by decide +kernel
theorem dX5_test_142 : decode cX5_test 142 = .ok (.aload_n 0, 1) := by decide +kernel
theorem dX5_test_143 : decode cX5_test 143 = .ok (.getfield 7, 3) := by decide +kernel
theorem dX5_test_146 : decode cX5_test 146 = .ok (.iconst 3, 1) := by decide +kernel
theorem dX5_test_147 : decode cX5_test 147 = .ok (.iaload, 1) := by decide +kernel
theorem dX5_test_148 : decode cX5_test 148 = .ok (.aload_n 0, 1) := by decide +kernel
theorem dX5_test_149 : decode cX5_test 149 = .ok (.getfield 7, 3) := by decide +kernel
theorem dX5_test_152 : decode cX5_test 152 = .ok (.iload 4, 2) := by decide +kernel
theorem dX5_test_154 : decode cX5_test 154 = .ok (.iaload, 1) := by decide +kernel
theorem dX5_test_155 : decode cX5_test 155 = .ok (.invokestatic 96, 3) := by decide +kernel
theorem dX5_test_158 : decode cX5_test 158 = .ok (.iadd, 1) := by decide +kernel
theorem dX5_test_159 : decode cX5_test 159 = .ok (.iastore, 1) := by decide +kernel
theorem dX5_test_160 : decode cX5_test 160 = .ok (.iload_n 3, 1) := by decide +kernel
theorem dX5_test_161 : decode cX5_test 161 = .ok (.ireturn, 1) := by decide +kernel
theorem dX5_want_0 : decode cX5_want 0 = .ok (.aload_n 0, 1) := by decide +kernel
theorem dX5_want_1 : decode cX5_want 1 = .ok (.iconst 0, 1) := by decide +kernel
theorem dX5_want_2 : decode cX5_want 2 = .ok (.putfield 22, 3) := by decide +kernel
theorem dX5_want_5 : decode cX5_want 5 = .ok (.iload_n 1, 1) := by decide +kernel
theorem dX5_want_6 : decode cX5_want 6 = .ok (.invokestatic 99, 3) := by decide +kernel
theorem dX5_want_9 : decode cX5_want 9 = .ok (.ifCond .ne 9, 3) := by decide +kernel
theorem dX5_want_12 : decode cX5_want 12 = .ok (.aload_n 0, 1) := by decide +kernel
theorem dX5_want_13 : decode cX5_want 13 = .ok (.iconst 1, 1) := by decide +kernel
theorem dX5_want_14 : decode cX5_want 14 = .ok (.invokevirtual 33, 3) := by decide +kernel
theorem dX5_want_17 : decode cX5_want 17 = .ok (.ireturn, 1) := by decide +kernel
theorem dX5_want_18 : decode cX5_want 18 = .ok (.iload_n 2, 1) := by decide +kernel
theorem dX5_want_19 : decode cX5_want 19 = .ok (.iconst 0, 1) := by decide +kernel
theorem dX5_want_20 : decode cX5_want 20 = .ok (.sipush 200, 3) := by decide +kernel
theorem dX5_want_23 : decode cX5_want 23 = .ok (.invokestatic 26, 3) := by decide +kernel
theorem dX5_want_26 : decode cX5_want 26 = .ok (.ifCond .ne 9, 3) := by decide +kernel
theorem dX5_want_29 : decode cX5_want 29 = .ok (.aload_n 0, 1) := by decide +kernel
theorem dX5_want_30 : decode cX5_want 30 = .ok (.iconst 2, 1) := by decide +kernel
theorem dX5_want_31 : decode cX5_want 31 = .ok (.invokevirtual 33, 3) := by decide +kernel
theorem dX5_want_34 : decode cX5_want 34 = .ok (.ireturn, 1) := by decide +kernel
theorem dX5_want_35 : decode cX5_want 35 = .ok (.aload_n 0, 1) := by decide +kernel
theorem dX5_want_36 : decode cX5_want 36 = .ok (.invokevirtual 77, 3) := by decide +kernel
theorem dX5_want_39 : decode cX5_want 39 = .ok (.aload_n 0, 1) := by decide +kernel
theorem dX5_want_40 : decode cX5_want 40 = .ok (.bipush 9, 2) := by decide +kernel
theorem dX5_want_42 : decode cX5_want 42 = .ok (.iload_n 1, 1) := by decide +kernel
theorem dX5_want_43 : decode cX5_want 43 = .ok (.iadd, 1) := by decide +kernel
theorem dX5_want_44 : decode cX5_want 44 = .ok (.iload_n 2, 1) := by decide +kernel
theorem dX5_want_45 : decode cX5_want 45 = .ok (.invokevirtual 90, 3) := by decide +kernel
theorem dX5_want_48 : decode cX5_want 48 = .ok (.ireturn, 1) := by decide +kernel
theorem dX5_set_0 : decode cX5_set 0 = .ok (.aload_n 0, 1) := by decide +kernel
theorem dX5_set_1 : decode cX5_set 1 = .ok (.iconst 0, 1) := by decide +kernel
theorem dX5_set_2 : decode cX5_set 2 = .ok (.putfield 22, 3) := by decide +kernel
theorem dX5_set_5 : decode cX5_set 5 = .ok (.iload_n 1, 1) := by decide +kernel
theorem dX5_set_6 : decode cX5_set 6 = .ok (.iconst 0, 1) := by decide +kernel
theorem dX5_set_7 : decode cX5_set 7 = .ok (.iconst 2, 1) := by decide +kernel
theorem dX5_set_8 : decode cX5_set 8 = .ok (.invokestatic 26, 3) := by decide +kernel
theorem dX5_set_11 : decode cX5_set 11 = .ok (.ifCond .ne 9, 3) := by decide +kernel
theorem dX5_set_14 : decode cX5_set 14 = .ok (.aload_n 0, 1) := by decide +kernel
theorem dX5_set_15 : decode cX5_set 15 = .ok (.iconst 1, 1) := by decide +kernel
theorem dX5_set_16 : decode cX5_set 16 = .ok (.invokevirtual 33, 3) := by decide +kernel
theorem dX5_set_19 : decode cX5_set 19 = .ok (.ireturn, 1) := by decide +kernel
theorem dX5_set_20 : decode cX5_set 20 = .ok (.iload_n 2, 1) := by decide +kernel
theorem dX5_set_21 : decode cX5_set 21 = .ok (.iload_n 1, 1) := by decide +kernel
theorem dX5_set_22 : decode cX5_set 22 = .ok (.ifCond .ne 7, 3) := by decide +kernel
theorem dX5_set_25 : decode cX5_set 25 = .ok (.iconst 4, 1) := by decide +kernel
theorem dX5_set_26 : decode cX5_set 26 = .ok (.goto 4, 3) := by decide +kernel
theorem dX5_set_29 : decode cX5_set 29 = .ok (.iconst 0, 1) := by decide +kernel
theorem dX5_set_30 : decode cX5_set 30 = .ok (.iload_n 1, 1) := by decide +kernel
theorem dX5_set_31 : decode cX5_set 31 = .ok (.ifCond .ne 8, 3) := by decide +kernel
theorem dX5_set_34 : decode cX5_set 34 = .ok (.bipush 24, 2) := by decide +kernel
theorem dX5_set_36 : decode cX5_set 36 = .ok (.goto 15, 3) := by decide +kernel
theorem dX5_set_39 : decode cX5_set 39 = .ok (.iload_n 1, 1) := by decide +kernel
theorem dX5_set_40 : decode cX5_set 40 = .ok (.iconst 1, 1) := by decide +kernel
theorem dX5_set_41 : decode cX5_set 41 = .ok (.if_icmp .ne 7, 3) := by decide +kernel
theorem dX5_set_44 : decode cX5_set 44 = .ok (.iconst 5, 1) := by decide +kernel
theorem dX5_set_45 : decode cX5_set 45 = .ok (.goto 6, 3) := by decide +kernel
theorem dX5_set_48 : decode cX5_set 48 = .ok (.sipush 200, 3) := by decide +kernel
theorem dX5_set_51 : decode cX5_set 51 = .ok (.invokestatic 26, 3) := by decide +kernel
theorem dX5_set_54 : decode cX5_set 54 = .ok (.ifCond .ne 9, 3) := by decide +kernel
theorem dX5_set_57 : decode cX5_set 57 = .ok (.aload_n 0, 1) := by decide +kernel
theorem dX5_set_58 : decode cX5_set 58 = .ok (.iconst 2, 1) := by decide +kernel
theorem dX5_set_59 : decode cX5_set 59 = .ok (.invokevirtual 33, 3) := by decide +kernel
theorem dX5_set_62 : decode cX5_set 62 = .ok (.ireturn, 1) := by decide +kernel
theorem dX5_set_63 : decode cX5_set 63 = .ok (.aload_n 0, 1) := by decide +kernel
theorem dX5_set_64 : decode cX5_set 64 = .ok (.invokevirtual 77, 3) := by decide +kernel
theorem dX5_set_67 : decode cX5_set 67 = .ok (.aload_n 0, 1) := by decide +kernel
theorem dX5_set_68 : decode cX5_set 68 = .ok (.iload_n 1, 1) := by decide +kernel
theorem dX5_set_69 : decode cX5_set 69 = .ok (.iload_n 2, 1) := by decide +kernel
theorem dX5_set_70 : decode cX5_set 70 = .ok (.invokevirtual 90, 3) := by decide +kernel
theorem dX5_set_73 : decode cX5_set 73 = .ok (.ireturn, 1) := by decide +kernel
theorem dX5_day_0 : decode cX5_day 0 = .ok (.aload_n 0, 1) := by decide +kernel
theorem dX5_day_1 : decode cX5_day 1 = .ok (.getfield 7, 3) := by decide +kernel
theorem dX5_day_4 : decode cX5_day 4 = .ok (.iconst 3, 1) := by decide +kernel
theorem dX5_day_5 : decode cX5_day 5 = .ok (.dup2, 1) := by decide +kernel
theorem dX5_day_6 : decode cX5_day 6 = .ok (.iaload, 1) := by decide +kernel
theorem dX5_day_7 : decode cX5_day 7 = .ok (.iconst 1, 1) := by decide +kernel
theorem dX5_day_8 : decode cX5_day 8 = .ok (.iadd, 1) := by decide +kernel
theorem dX5_day_9 : decode cX5_day 9 = .ok (.iastore, 1) := by decide +kernel
theorem dX5_day_10 : decode cX5_day 10 = .ok (.iconst 0, 1) := by decide +kernel
theorem dX5_day_11 : decode cX5_day 11 = .ok (.istore_n 1, 1) := by decide +kernel
theorem dX5_day_12 : decode cX5_day 12 = .ok (.iload_n 1, 1) := by decide +kernel
theorem dX5_day_13 : decode cX5_day 13 = .ok (.aload_n 0, 1) := by decide +kernel
theorem dX5_day_14 : decode cX5_day 14 = .ok (.getfield 7, 3) := by decide +kernel
theorem dX5_day_17 : decode cX5_day 17 = .ok (.iconst 5, 1) := by decide +kernel
theorem dX5_day_18 : decode cX5_day 18 = .ok (.iaload, 1) := by decide +kernel
theorem dX5_day_19 : decode cX5_day 19 = .ok (.if_icmp .ge 68, 3) := by decide +kernel
theorem dX5_day_22 : decode cX5_day 22 = .ok (.bipush 12, 2) := by decide +kernel
theorem dX5_day_24 : decode cX5_day 24 = .ok (.bipush 8, 2) := by decide +kernel
theorem dX5_day_26 : decode cX5_day 26 = .ok (.iload_n 1, 1) := by decide +kernel
theorem dX5_day_27 : decode cX5_day 27 = .ok (.imul, 1) := by decide +kernel
theorem dX5_day_28 : decode cX5_day 28 = .ok (.iadd, 1) := by decide +kernel
theorem dX5_day_29 : decode cX5_day 29 = .ok (.istore_n 2, 1) := by decide +kernel
theorem dX5_day_30 : decode cX5_day 30 = .ok (.aload_n 0, 1) := by decide +kernel
theorem dX5_day_31 : decode cX5_day 31 = .ok (.getfield 7, 3) := by decide +kernel
theorem dX5_day_34 : decode cX5_day 34 = .ok (.iload_n 2, 1) := by decide +kernel
theorem dX5_day_35 : decode cX5_day 35 = .ok (.bipush 6, 2) := by decide +kernel
theorem dX5_day_37 : decode cX5_day 37 = .ok (.iadd, 1) := by decide +kernel
theorem dX5_day_38 : decode cX5_day 38 = .ok (.iaload, 1) := by decide +kernel
theorem dX5_day_39 : decode cX5_day 39 = .ok (.iconst 4, 1) := by decide +kernel
theorem dX5_day_40 : decode cX5_day 40 = .ok (.if_icmp .ne 41, 3) := by decide +kernel
theorem dX5_day_43 : decode cX5_day 43 = .ok (.aload_n 0, 1) := by decide +kernel
theorem dX5_day_44 : decode cX5_day 44 = .ok (.getfield 7, 3) := by decide +kernel
theorem dX5_day_47 : decode cX5_day 47 = .ok (.iload_n 2, 1) := by decide +kernel
theorem dX5_day_48 : decode cX5_day 48 = .ok (.bipush 7, 2) := by decide +kernel
theorem dX5_day_50 : decode cX5_day 50 = .ok (.iadd, 1) := by decide +kernel
theorem dX5_day_51 : decode cX5_day 51 = .ok (.iaload, 1) := by decide +kernel
theorem dX5_day_52 : decode cX5_day 52 = .ok (.aload_n 0, 1) := by decide +kernel
theorem dX5_day_53 : decode cX5_day 53 = .ok (.getfield 7, 3) := by decide +kernel
theorem dX5_day_56 : decode cX5_day 56 = .ok (.iconst 3, 1) := by decide +kernel
theorem dX5_day_57 : decode cX5_day 57 = .ok (.iaload, 1) := by decide +kernel
theorem dX5_day_58 : decode cX5_day 58 = .ok (.if_icmp .ne 23, 3) := by decide +kernel
theorem dX5_day_61 : decode cX5_day 61 = .ok (.aload_n 0, 1) := by decide +kernel
theorem dX5_day_62 : decode cX5_day 62 = .ok (.getfield 7, 3) := by decide +kernel
theorem dX5_day_65 : decode cX5_day 65 = .ok (.iload_n 2, 1) := by decide +kernel
theorem dX5_day_66 : decode cX5_day 66 = .ok (.bipush 6, 2) := by decide +kernel
theorem dX5_day_68 : decode cX5_day 68 = .ok (.iadd, 1) := by decide +kernel
theorem dX5_day_69 : decode cX5_day 69 = .ok (.iconst 3, 1) := by decide +kernel
theorem dX5_day_70 : decode cX5_day 70 = .ok (.iastore, 1) := by decide +kernel
theorem dX5_day_71 : decode cX5_day 71 = .ok (.aload_n 0, 1) := by decide +kernel
theorem dX5_day_72 : decode cX5_day 72 = .ok (.getfield 7, 3) := by decide +kernel
theorem dX5_day_75 : decode cX5_day 75 = .ok (.iload_n 2, 1) := by decide +kernel
theorem dX5_day_76 : decode cX5_day 76 = .ok (.bipush 7, 2) := by decide +kernel
theorem dX5_day_78 : decode cX5_day 78 = .ok (.iadd, 1) := by decide +kernel
theorem dX5_day_79 : decode cX5_day 79 = .ok (.iconst (-1), 1) := by decide +kernel
theorem dX5_day_80 : decode cX5_day 80 = .ok (.iastore, 1) := by decide +kernel
theorem dX5_day_81 : decode cX5_day 81 = .ok (.iinc 1 1, 3) := by decide +kernel
theorem dX5_day_84 : decode cX5_day 84 = .ok (.goto (-72), 3) := by decide +kernel
theorem dX5_day_87 : decode cX5_day 87 = .ok (.iconst 0, 1) := by decide +kernel
theorem dX5_day_88 : decode cX5_day 88 = .ok (.istore_n 1, 1) := by decide +kernel
theorem dX5_day_89 : decode cX5_day 89 = .ok (.iload_n 1, 1) := by decide +kernel
theorem dX5_day_90 : decode cX5_day 90 = .ok (.aload_n 0, 1) := by decide +kernel
theorem dX5_day_91 : decode cX5_day 91 = .ok (.getfield 7, 3) := by decide +kernel
theorem dX5_day_94 : decode cX5_day 94 = .ok (.iconst 5, 1) := by decide +kernel
theorem dX5_day_95 : decode cX5_day 95 = .ok (.iaload, 1) := by decide +kernel
theorem dX5_day_96 : decode cX5_day 96 = .ok (.if_icmp .ge 85, 3) := by decide +kernel
theorem dX5_day_99 : decode cX5_day 99 = .ok (.aload_n 0, 1) := by decide +kernel
theorem dX5_day_100 : decode cX5_day 100 = .ok (.getfield 7, 3) := by decide +kernel
theorem dX5_day_103 : decode cX5_day 103 = .ok (.iconst 3, 1) := by decide +kernel
theorem dX5_day_104 : decode cX5_day 104 = .ok (.iaload, 1) := by decide +kernel
theorem dX5_day_105 : decode cX5_day 105 = .ok (.bipush 10, 2) := by decide +kernel
theorem dX5_day_107 : decode cX5_day 107 = .ok (.irem, 1) := by decide +kernel
theorem dX5_day_108 : decode cX5_day 108 = .ok (.ifCond .ne 73, 3) := by decide +kernel
theorem dX5_day_111 : decode cX5_day 111 = .ok (.aload_n 0, 1) := by decide +kernel
theorem dX5_day_112 : decode cX5_day 112 = .ok (.iload_n 1, 1) := by decide +kernel
theorem dX5_day_113 : decode cX5_day 113 = .ok (.bipush 6, 2) := by decide +kernel
theorem dX5_day_115 : decode cX5_day 115 = .ok (.invokevirtual 37, 3) := by decide +kernel
theorem dX5_day_118 : decode cX5_day 118 = .ok (.invokestatic 99, 3) := by decide +kernel
theorem dX5_day_121 : decode cX5_day 121 = .ok (.ifCond .eq 26, 3) := by decide +kernel
theorem dX5_day_124 : decode cX5_day 124 = .ok (.aload_n 0, 1) := by decide +kernel
theorem dX5_day_125 : decode cX5_day 125 = .ok (.iload_n 1, 1) := by decide +kernel
theorem dX5_day_126 : decode cX5_day 126 = .ok (.invokevirtual 62, 3) := by decide +kernel
theorem dX5_day_129 : decode cX5_day 129 = .ok (.ifCond .eq 18, 3) := by decide +kernel
theorem dX5_day_132 : decode cX5_day 132 = .ok (.aload_n 0, 1) := by decide +kernel
theorem dX5_day_133 : decode cX5_day 133 = .ok (.iload_n 1, 1) := by decide +kernel
theorem dX5_day_134 : decode cX5_day 134 = .ok (.iconst 4, 1) := by decide +kernel
theorem dX5_day_135 : decode cX5_day 135 = .ok (.invokevirtual 37, 3) := by decide +kernel
theorem dX5_day_138 : decode cX5_day 138 = .ok (.bipush 99, 2) := by decide +kernel
theorem dX5_day_140 : decode cX5_day 140 = .ok (.if_icmp .ge 7, 3) := by decide +kernel
theorem dX5_day_143 : decode cX5_day 143 = .ok (.iconst 1, 1) := by decide +kernel
theorem dX5_day_144 : decode cX5_day 144 = .ok (.goto 4, 3) := by decide +kernel
theorem dX5_day_147 : decode cX5_day 147 = .ok (.iconst 0, 1) := by decide +kernel
theorem dX5_day_148 : decode cX5_day 148 = .ok (.istore_n 2, 1) := by decide +kernel
theorem dX5_day_149 : decode cX5_day 149 = .ok (.aload_n 0, 1) := by decide +kernel
theorem dX5_day_150 : decode cX5_day 150 = .ok (.getfield 7, 3) := by decide +kernel
theorem dX5_day_153 : decode cX5_day 153 = .ok (.bipush 12, 2) := by decide +kernel
theorem dX5_day_155 : decode cX5_day 155 = .ok (.bipush 8, 2) := by decide +kernel
theorem dX5_day_157 : decode cX5_day 157 = .ok (.iload_n 1, 1) := by decide +kernel
theorem dX5_day_158 : decode cX5_day 158 = .ok (.imul, 1) := by decide +kernel
theorem dX5_day_159 : decode cX5_day 159 = .ok (.iadd, 1) := by decide +kernel
theorem dX5_day_160 : decode cX5_day 160 = .ok (.iconst 4, 1) := by decide +kernel
theorem dX5_day_161 : decode cX5_day 161 = .ok (.iadd, 1) := by decide +kernel
theorem dX5_day_162 : decode cX5_day 162 = .ok (.dup2, 1) := by decide +kernel
theorem dX5_day_163 : decode cX5_day 163 = .ok (.iaload, 1) := by decide +kernel
theorem dX5_day_164 : decode cX5_day 164 = .ok (.iload_n 2, 1) := by decide +kernel
theorem dX5_day_165 : decode cX5_day 165 = .ok (.ifCond .eq 7, 3) := by decide +kernel
theorem dX5_day_168 : decode cX5_day 168 = .ok (.iconst 1, 1) := by decide +kernel
theorem dX5_day_169 : decode cX5_day 169 = .ok (.goto 4, 3) := by decide +kernel
theorem dX5_day_172 : decode cX5_day 172 = .ok (.iconst 0, 1) := by decide +kernel
theorem dX5_day_173 : decode cX5_day 173 = .ok (.iadd, 1) := by decide +kernel
theorem dX5_day_174 : decode cX5_day 174 = .ok (.iastore, 1) := by decide +kernel
theorem dX5_day_175 : decode cX5_day 175 = .ok (.iinc 1 1, 3) := by decide +kernel
theorem dX5_day_178 : decode cX5_day 178 = .ok (.goto (-89), 3) := by decide +kernel
theorem dX5_day_181 : decode cX5_day 181 = .ok (.aload_n 0, 1) := by decide +kernel
theorem dX5_day_182 : decode cX5_day 182 = .ok (.getfield 7, 3) := by decide +kernel
theorem dX5_day_185 : decode cX5_day 185 = .ok (.iconst 3, 1) := by decide +kernel
theorem dX5_day_186 : decode cX5_day 186 = .ok (.iaload, 1) := by decide +kernel
theorem dX5_day_187 : decode cX5_day 187 = .ok (.bipush 30, 2) := by decide +kernel
theorem dX5_day_189 : decode cX5_day 189 = .ok (.irem, 1) := by decide +kernel
theorem dX5_day_190 : decode cX5_day 190 = .ok (.ifCond .ne 37, 3) := by decide +kernel
theorem dX5_day_193 : decode cX5_day 193 = .ok (.aload_n 0, 1) := by decide +kernel
theorem dX5_day_194 : decode cX5_day 194 = .ok (.getfield 7, 3) := by decide +kernel
theorem dX5_day_197 : decode cX5_day 197 = .ok (.iconst 4, 1) := by decide +kernel
theorem dX5_day_198 : decode cX5_day 198 = .ok (.iaload, 1) := by decide +kernel
theorem dX5_day_199 : decode cX5_day 199 = .ok (.aload_n 0, 1) := by decide +kernel
theorem dX5_day_200 : decode cX5_day 200 = .ok (.getfield 7, 3) := by decide +kernel
theorem dX5_day_203 : decode cX5_day 203 = .ok (.iconst 2, 1) := by decide +kernel
theorem dX5_day_204 : decode cX5_day 204 = .ok (.iaload, 1) := by decide +kernel
theorem dX5_day_205 : decode cX5_day 205 = .ok (.iadd, 1) := by decide +kernel
theorem dX5_day_206 : decode cX5_day 206 = .ok (.istore_n 1, 1) := by decide +kernel
theorem dX5_day_207 : decode cX5_day 207 = .ok (.aload_n 0, 1) := by decide +kernel
theorem dX5_day_208 : decode cX5_day 208 = .ok (.getfield 7, 3) := by decide +kernel
theorem dX5_day_211 : decode cX5_day 211 = .ok (.iconst 4, 1) := by decide +kernel
theorem dX5_day_212 : decode cX5_day 212 = .ok (.iload_n 1, 1) := by decide +kernel
theorem dX5_day_213 : decode cX5_day 213 = .ok (.sipush 9999, 3) := by decide +kernel
theorem dX5_day_216 : decode cX5_day 216 = .ok (.if_icmp .le 9, 3) := by decide +kernel
theorem dX5_day_219 : decode cX5_day 219 = .ok (.sipush 9999, 3) := by decide +kernel
theorem dX5_day_222 : decode cX5_day 222 = .ok (.goto 4, 3) := by decide +kernel
theorem dX5_day_225 : decode cX5_day 225 = .ok (.iload_n 1, 1) := by decide +kernel
theorem dX5_day_226 : decode cX5_day 226 = .ok (.iastore, 1) := by decide +kernel
theorem dX5_day_227 : decode cX5_day 227 = .ok (.return_, 1) := by decide +kernel
theorem dX5_pass_0 : decode cX5_pass 0 = .ok (.aload_n 0, 1) := by decide +kernel
theorem dX5_pass_1 : decode cX5_pass 1 = .ok (.iconst 0, 1) := by decide +kernel
theorem dX5_pass_2 : decode cX5_pass 2 = .ok (.putfield 22, 3) := by decide +kernel
theorem dX5_pass_5 : decode cX5_pass 5 = .ok (.iload_n 1, 1) := by decide +kernel
theorem dX5_pass_6 : decode cX5_pass 6 = .ok (.iconst 1, 1) := by decide +kernel
theorem dX5_pass_7 : decode cX5_pass 7 = .ok (.bipush 100, 2) := by decide +kernel
theorem dX5_pass_9 : decode cX5_pass 9 = .ok (.invokestatic 26, 3) := by decide +kernel
theorem dX5_pass_12 : decode cX5_pass 12 = .ok (.ifCond .ne 9, 3) := by decide +kernel
theorem dX5_pass_15 : decode cX5_pass 15 = .ok (.aload_n 0, 1) := by decide +kernel
theorem dX5_pass_16 : decode cX5_pass 16 = .ok (.iconst 1, 1) := by decide +kernel
theorem dX5_pass_17 : decode cX5_pass 17 = .ok (.invokevirtual 33, 3) := by decide +kernel
theorem dX5_pass_20 : decode cX5_pass 20 = .ok (.ireturn, 1) := by decide +kernel
theorem dX5_pass_21 : decode cX5_pass 21 = .ok (.aload_n 0, 1) := by decide +kernel
theorem dX5_pass_22 : decode cX5_pass 22 = .ok (.invokevirtual 77, 3) := by decide +kernel
theorem dX5_pass_25 : decode cX5_pass 25 = .ok (.iconst 0, 1) := by decide +kernel
theorem dX5_pass_26 : decode cX5_pass 26 = .ok (.istore_n 2, 1) := by decide +kernel
theorem dX5_pass_27 : decode cX5_pass 27 = .ok (.iload_n 2, 1) := by decide +kernel
theorem dX5_pass_28 : decode cX5_pass 28 = .ok (.iload_n 1, 1) := by decide +kernel
theorem dX5_pass_29 : decode cX5_pass 29 = .ok (.if_icmp .ge 13, 3) := by decide +kernel
theorem dX5_pass_32 : decode cX5_pass 32 = .ok (.aload_n 0, 1) := by decide +kernel
theorem dX5_pass_33 : decode cX5_pass 33 = .ok (.invokevirtual 102, 3) := by decide +kernel
theorem dX5_pass_36 : decode cX5_pass 36 = .ok (.iinc 2 1, 3) := by decide +kernel
theorem dX5_pass_39 : decode cX5_pass 39 = .ok (.goto (-12), 3) := by decide +kernel
theorem dX5_pass_42 : decode cX5_pass 42 = .ok (.aload_n 0, 1) := by decide +kernel
theorem dX5_pass_43 : decode cX5_pass 43 = .ok (.getfield 7, 3) := by decide +kernel
theorem dX5_pass_46 : decode cX5_pass 46 = .ok (.iconst 3, 1) := by decide +kernel
theorem dX5_pass_47 : decode cX5_pass 47 = .ok (.iaload, 1) := by decide +kernel
theorem dX5_pass_48 : decode cX5_pass 48 = .ok (.ireturn, 1) := by decide +kernel
theorem dX5_append_0 : decode cX5_append 0 = .ok (.aload_n 0, 1) := by decide +kernel
theorem dX5_append_1 : decode cX5_append 1 = .ok (.iconst 0, 1) := by decide +kernel
theorem dX5_append_2 : decode cX5_append 2 = .ok (.putfield 22, 3) := by decide +kernel
theorem dX5_append_5 : decode cX5_append 5 = .ok (.iload_n 1, 1) := by decide +kernel
theorem dX5_append_6 : decode cX5_append 6 = .ok (.bipush 33, 2) := by decide +kernel
theorem dX5_append_8 : decode cX5_append 8 = .ok (.bipush 126, 2) := by decide +kernel
theorem dX5_append_10 : decode cX5_append 10 = .ok (.invokestatic 26, 3) := by decide +kernel
theorem dX5_append_13 : decode cX5_append 13 = .ok (.ifCond .ne 9, 3) := by decide +kernel
theorem dX5_append_16 : decode cX5_append 16 = .ok (.aload_n 0, 1) := by decide +kernel
theorem dX5_append_17 : decode cX5_append 17 = .ok (.iconst 1, 1) := by decide +kernel
theorem dX5_append_18 : decode cX5_append 18 = .ok (.invokevirtual 33, 3) := by decide +kernel
theorem dX5_append_21 : decode cX5_append 21 = .ok (.ireturn, 1) := by decide +kernel
theorem dX5_append_22 : decode cX5_append 22 = .ok (.aload_n 0, 1) := by decide +kernel
theorem dX5_append_23 : decode cX5_append 23 = .ok (.getfield 105, 3) := by decide +kernel
theorem dX5_append_26 : decode cX5_append 26 = .ok (.bipush 60, 2) := by decide +kernel
theorem dX5_append_28 : decode cX5_append 28 = .ok (.if_icmp .ne 9, 3) := by decide +kernel
theorem dX5_append_31 : decode cX5_append 31 = .ok (.aload_n 0, 1) := by decide +kernel
theorem dX5_append_32 : decode cX5_append 32 = .ok (.iconst 2, 1) := by decide +kernel
theorem dX5_append_33 : decode cX5_append 33 = .ok (.invokevirtual 33, 3) := by decide +kernel
theorem dX5_append_36 : decode cX5_append 36 = .ok (.ireturn, 1) := by decide +kernel
theorem dX5_append_37 : decode cX5_append 37 = .ok (.aload_n 0, 1) := by decide +kernel
theorem dX5_append_38 : decode cX5_append 38 = .ok (.getfield 16, 3) := by decide +kernel
theorem dX5_append_41 : decode cX5_append 41 = .ok (.aload_n 0, 1) := by decide +kernel
theorem dX5_append_42 : decode cX5_append 42 = .ok (.getfield 105, 3) := by decide +kernel
theorem dX5_append_45 : decode cX5_append 45 = .ok (.iload_n 1, 1) := by decide +kernel
theorem dX5_append_46 : decode cX5_append 46 = .ok (.iastore, 1) := by decide +kernel
theorem dX5_append_47 : decode cX5_append 47 = .ok (.aload_n 0, 1) := by decide +kernel
theorem dX5_append_48 : decode cX5_append 48 = .ok (.dup, 1) := by decide +kernel
theorem dX5_append_49 : decode cX5_append 49 = .ok (.getfield 105, 3) := by decide +kernel
theorem dX5_append_52 : decode cX5_append 52 = .ok (.iconst 1, 1) := by decide +kernel
theorem dX5_append_53 : decode cX5_append 53 = .ok (.iadd, 1) := by decide +kernel
theorem dX5_append_54 : decode cX5_append 54 = .ok (.putfield 105, 3) := by decide +kernel
theorem dX5_append_57 : decode cX5_append 57 = .ok (.aload_n 0, 1) := by decide +kernel
theorem dX5_append_58 : decode cX5_append 58 = .ok (.getfield 105, 3) := by decide +kernel
theorem dX5_append_61 : decode cX5_append 61 = .ok (.ireturn, 1) := by decide +kernel
theorem dX5_clearBuffer_0 : decode cX5_clearBuffer 0 = .ok (.aload_n 0, 1) := by decide +kernel
theorem dX5_clearBuffer_1 : decode cX5_clearBuffer 1 = .ok (.iconst 0, 1) := by decide +kernel
theorem dX5_clearBuffer_2 : decode cX5_clearBuffer 2 = .ok (.putfield 22, 3) := by decide +kernel
theorem dX5_clearBuffer_5 : decode cX5_clearBuffer 5 = .ok (.aload_n 0, 1) := by decide +kernel
theorem dX5_clearBuffer_6 : decode cX5_clearBuffer 6 = .ok (.getfield 105, 3) := by decide +kernel
theorem dX5_clearBuffer_9 : decode cX5_clearBuffer 9 = .ok (.istore_n 1, 1) := by decide +kernel
theorem dX5_clearBuffer_10 : decode cX5_clearBuffer 10 = .ok (.aload_n 0, 1) := by decide +kernel
theorem dX5_clearBuffer_11 : decode cX5_clearBuffer 11 = .ok (.iconst 0, 1) := by decide +kernel
theorem dX5_clearBuffer_12 : decode cX5_clearBuffer 12 = .ok (.putfield 105, 3) := by decide +kernel
theorem dX5_clearBuffer_15 : decode cX5_clearBuffer 15 = .ok (.iload_n 1, 1) := by decide +kernel
theorem dX5_clearBuffer_16 : decode cX5_clearBuffer 16 = .ok (.ireturn, 1) := by decide +kernel
theorem dX5_isAt_0 : decode cX5_isAt 0 = .ok (.aload_n 0, 1) := by decide +kernel
theorem dX5_isAt_1 : decode cX5_isAt 1 = .ok (.getfield 108, 3) := by decide +kernel
theorem dX5_isAt_4 : decode cX5_isAt 4 = .ok (.aload_n 0, 1) := by decide +kernel
theorem dX5_isAt_5 : decode cX5_isAt 5 = .ok (.getfield 105, 3) := by decide +kernel
theorem dX5_isAt_8 : decode cX5_isAt 8 = .ok (.if_icmp .ge 24, 3) := by decide +kernel
theorem dX5_isAt_11 : decode cX5_isAt 11 = .ok (.aload_n 0, 1) := by decide +kernel
theorem dX5_isAt_12 : decode cX5_isAt 12 = .ok (.getfield 16, 3) := by decide +kernel
theorem dX5_isAt_15 : decode cX5_isAt 15 = .ok (.aload_n 0, 1) := by decide +kernel
theorem dX5_isAt_16 : decode cX5_isAt 16 = .ok (.getfield 108, 3) := by decide +kernel
theorem dX5_isAt_19 : decode cX5_isAt 19 = .ok (.iaload, 1) := by decide +kernel
theorem dX5_isAt_20 : decode cX5_isAt 20 = .ok (.iload_n 1, 1) := by decide +kernel
theorem dX5_isAt_21 : decode cX5_isAt 21 = .ok (.iload_n 2, 1) := by decide +kernel
theorem dX5_isAt_22 : decode cX5_isAt 22 = .ok (.invokestatic 26, 3) := by decide +kernel
theorem dX5_isAt_25 : decode cX5_isAt 25 = .ok (.ifCond .eq 7, 3) := by decide +kernel
theorem dX5_isAt_28 : decode cX5_isAt 28 = .ok (.iconst 1, 1) := by decide +kernel
theorem dX5_isAt_29 : decode cX5_isAt 29 = .ok (.goto 4, 3) := by decide +kernel
theorem dX5_isAt_32 : decode cX5_isAt 32 = .ok (.iconst 0, 1) := by decide +kernel
theorem dX5_isAt_33 : decode cX5_isAt 33 = .ok (.ireturn, 1) := by decide +kernel
theorem dX5_stops_0 : decode cX5_stops 0 = .ok (.aload_n 0, 1) := by decide +kernel
theorem dX5_stops_1 : decode cX5_stops 1 = .ok (.aload_n 0, 1) := by decide +kernel
theorem dX5_stops_2 : decode cX5_stops 2 = .ok (.getfield 108, 3) := by decide +kernel
theorem dX5_stops_5 : decode cX5_stops 5 = .ok (.aload_n 0, 1) := by decide +kernel
theorem dX5_stops_6 : decode cX5_stops 6 = .ok (.getfield 105, 3) := by decide +kernel
theorem dX5_stops_9 : decode cX5_stops 9 = .ok (.if_icmp .ge 7, 3) := by decide +kernel
theorem dX5_stops_12 : decode cX5_stops 12 = .ok (.iconst 1, 1) := by decide +kernel
theorem dX5_stops_13 : decode cX5_stops 13 = .ok (.goto 4, 3) := by decide +kernel
theorem dX5_stops_16 : decode cX5_stops 16 = .ok (.iconst 0, 1) := by decide +kernel
theorem dX5_stops_17 : decode cX5_stops 17 = .ok (.putfield 111, 3) := by decide +kernel
theorem dX5_stops_20 : decode cX5_stops 20 = .ok (.iconst 0, 1) := by decide +kernel
theorem dX5_stops_21 : decode cX5_stops 21 = .ok (.ireturn, 1) := by decide +kernel
theorem dX5_isLength_0 : decode cX5_isLength 0 = .ok (.aload_n 0, 1) := by decide +kernel
theorem dX5_isLength_1 : decode cX5_isLength 1 = .ok (.bipush 49, 2) := by decide +kernel
theorem dX5_isLength_3 : decode cX5_isLength 3 = .ok (.bipush 57, 2) := by decide +kernel
theorem dX5_isLength_5 : decode cX5_isLength 5 = .ok (.invokevirtual 115, 3) := by decide +kernel
theorem dX5_isLength_8 : decode cX5_isLength 8 = .ok (.ifCond .ne 8, 3) := by decide +kernel
theorem dX5_isLength_11 : decode cX5_isLength 11 = .ok (.aload_n 0, 1) := by decide +kernel
theorem dX5_isLength_12 : decode cX5_isLength 12 = .ok (.invokevirtual 118, 3) := by decide +kernel
theorem dX5_isLength_15 : decode cX5_isLength 15 = .ok (.ireturn, 1) := by decide +kernel
theorem dX5_isLength_16 : decode cX5_isLength 16 = .ok (.aload_n 0, 1) := by decide +kernel
theorem dX5_isLength_17 : decode cX5_isLength 17 = .ok (.getfield 16, 3) := by decide +kernel
theorem dX5_isLength_20 : decode cX5_isLength 20 = .ok (.aload_n 0, 1) := by decide +kernel
theorem dX5_isLength_21 : decode cX5_isLength 21 = .ok (.getfield 108, 3) := by decide +kernel
theorem dX5_isLength_24 : decode cX5_isLength 24 = .ok (.iaload, 1) := by decide +kernel
theorem dX5_isLength_25 : decode cX5_isLength 25 = .ok (.bipush 48, 2) := by decide +kernel
theorem dX5_isLength_27 : decode cX5_isLength 27 = .ok (.isub, 1) := by decide +kernel
theorem dX5_isLength_28 : decode cX5_isLength 28 = .ok (.istore_n 1, 1) := by decide +kernel
theorem dX5_isLength_29 : decode cX5_isLength 29 = .ok (.aload_n 0, 1) := by decide +kernel
theorem dX5_isLength_30 : decode cX5_isLength 30 = .ok (.dup, 1) := by decide +kernel
theorem dX5_isLength_31 : decode cX5_isLength 31 = .ok (.getfield 108, 3) := by decide +kernel
theorem dX5_isLength_34 : decode cX5_isLength 34 = .ok (.iconst 1, 1) := by decide +kernel
theorem dX5_isLength_35 : decode cX5_isLength 35 = .ok (.iadd, 1) := by decide +kernel
theorem dX5_isLength_36 : decode cX5_isLength 36 = .ok (.putfield 108, 3) := by decide +kernel
theorem dX5_isLength_39 : decode cX5_isLength 39 = .ok (.iload_n 1, 1) := by decide +kernel
theorem dX5_isLength_40 : decode cX5_isLength 40 = .ok (.iconst 5, 1) := by decide +kernel
theorem dX5_isLength_41 : decode cX5_isLength 41 = .ok (.if_icmp .ge 19, 3) := by decide +kernel
theorem dX5_isLength_44 : decode cX5_isLength 44 = .ok (.aload_n 0, 1) := by decide +kernel
theorem dX5_isLength_45 : decode cX5_isLength 45 = .ok (.bipush 48, 2) := by decide +kernel
theorem dX5_isLength_47 : decode cX5_isLength 47 = .ok (.bipush 57, 2) := by decide +kernel
theorem dX5_isLength_49 : decode cX5_isLength 49 = .ok (.invokevirtual 115, 3) := by decide +kernel
theorem dX5_isLength_52 : decode cX5_isLength 52 = .ok (.ifCond .ne 8, 3) := by decide +kernel
theorem dX5_isLength_55 : decode cX5_isLength 55 = .ok (.aload_n 0, 1) := by decide +kernel
theorem dX5_isLength_56 : decode cX5_isLength 56 = .ok (.invokevirtual 118, 3) := by decide +kernel
theorem dX5_isLength_59 : decode cX5_isLength 59 = .ok (.ireturn, 1) := by decide +kernel
theorem dX5_isLength_60 : decode cX5_isLength 60 = .ok (.iload_n 1, 1) := by decide +kernel
theorem dX5_isLength_61 : decode cX5_isLength 61 = .ok (.iconst 5, 1) := by decide +kernel
theorem dX5_isLength_62 : decode cX5_isLength 62 = .ok (.if_icmp .lt 19, 3) := by decide +kernel
theorem dX5_isLength_65 : decode cX5_isLength 65 = .ok (.iload_n 1, 1) := by decide +kernel
theorem dX5_isLength_66 : decode cX5_isLength 66 = .ok (.iconst 5, 1) := by decide +kernel
theorem dX5_isLength_67 : decode cX5_isLength 67 = .ok (.if_icmp .ne 42, 3) := by decide +kernel
theorem dX5_isLength_70 : decode cX5_isLength 70 = .ok (.aload_n 0, 1) := by decide +kernel
theorem dX5_isLength_71 : decode cX5_isLength 71 = .ok (.bipush 48, 2) := by decide +kernel
theorem dX5_isLength_73 : decode cX5_isLength 73 = .ok (.bipush 48, 2) := by decide +kernel
theorem dX5_isLength_75 : decode cX5_isLength 75 = .ok (.invokevirtual 115, 3) := by decide +kernel
theorem dX5_isLength_78 : decode cX5_isLength 78 = .ok (.ifCond .eq 31, 3) := by decide +kernel
theorem dX5_isLength_81 : decode cX5_isLength 81 = .ok (.bipush 10, 2) := by decide +kernel
theorem dX5_isLength_83 : decode cX5_isLength 83 = .ok (.iload_n 1, 1) := by decide +kernel
theorem dX5_isLength_84 : decode cX5_isLength 84 = .ok (.imul, 1) := by decide +kernel
theorem dX5_isLength_85 : decode cX5_isLength 85 = .ok (.aload_n 0, 1) := by decide +kernel
theorem dX5_isLength_86 : decode cX5_isLength 86 = .ok (.getfield 16, 3) := by decide +kernel
theorem dX5_isLength_89 : decode cX5_isLength 89 = .ok (.aload_n 0, 1) := by decide +kernel
theorem dX5_isLength_90 : decode cX5_isLength 90 = .ok (.getfield 108, 3) := by decide +kernel
theorem dX5_isLength_93 : decode cX5_isLength 93 = .ok (.iaload, 1) := by decide +kernel
theorem dX5_isLength_94 : decode cX5_isLength 94 = .ok (.iadd, 1) := by decide +kernel
theorem dX5_isLength_95 : decode cX5_isLength 95 = .ok (.bipush 48, 2) := by decide +kernel
theorem dX5_isLength_97 : decode cX5_isLength 97 = .ok (.isub, 1) := by decide +kernel
theorem dX5_isLength_98 : decode cX5_isLength 98 = .ok (.istore_n 1, 1) := by decide +kernel
theorem dX5_isLength_99 : decode cX5_isLength 99 = .ok (.aload_n 0, 1) := by decide +kernel
theorem dX5_isLength_100 : decode cX5_isLength 100 = .ok (.dup, 1) := by decide +kernel
theorem dX5_isLength_101 : decode cX5_isLength 101 = .ok (.getfield 108, 3) := by decide +kernel
theorem dX5_isLength_104 : decode cX5_isLength 104 = .ok (.iconst 1, 1) := by decide +kernel
theorem dX5_isLength_105 : decode cX5_isLength 105 = .ok (.iadd, 1) := by decide +kernel
theorem dX5_isLength_106 : decode cX5_isLength 106 = .ok (.putfield 108, 3) := by decide +kernel
theorem dX5_isLength_109 : decode cX5_isLength 109 = .ok (.aload_n 0, 1) := by decide +kernel
theorem dX5_isLength_110 : decode cX5_isLength 110 = .ok (.getfield 19, 3) := by decide +kernel
theorem dX5_isLength_113 : decode cX5_isLength 113 = .ok (.iconst 3, 1) := by decide +kernel
theorem dX5_isLength_114 : decode cX5_isLength 114 = .ok (.aload_n 0, 1) := by decide +kernel
theorem dX5_isLength_115 : decode cX5_isLength 115 = .ok (.getfield 122, 3) := by decide +kernel
theorem dX5_isLength_118 : decode cX5_isLength 118 = .ok (.imul, 1) := by decide +kernel
theorem dX5_isLength_119 : decode cX5_isLength 119 = .ok (.iconst 1, 1) := by decide +kernel
theorem dX5_isLength_120 : decode cX5_isLength 120 = .ok (.iadd, 1) := by decide +kernel
theorem dX5_isLength_121 : decode cX5_isLength 121 = .ok (.iload_n 1, 1) := by decide +kernel
theorem dX5_isLength_122 : decode cX5_isLength 122 = .ok (.iastore, 1) := by decide +kernel
theorem dX5_isLength_123 : decode cX5_isLength 123 = .ok (.iconst 1, 1) := by decide +kernel
theorem dX5_isLength_124 : decode cX5_isLength 124 = .ok (.ireturn, 1) := by decide +kernel
theorem dX5_isPart_0 : decode cX5_isPart 0 = .ok (.aload_n 0, 1) := by decide +kernel
theorem dX5_isPart_1 : decode cX5_isPart 1 = .ok (.getfield 108, 3) := by decide +kernel
theorem dX5_isPart_4 : decode cX5_isPart 4 = .ok (.aload_n 0, 1) := by decide +kernel
theorem dX5_isPart_5 : decode cX5_isPart 5 = .ok (.getfield 105, 3) := by decide +kernel
theorem dX5_isPart_8 : decode cX5_isPart 8 = .ok (.if_icmp .ge 15, 3) := by decide +kernel
theorem dX5_isPart_11 : decode cX5_isPart 11 = .ok (.aload_n 0, 1) := by decide +kernel
theorem dX5_isPart_12 : decode cX5_isPart 12 = .ok (.getfield 16, 3) := by decide +kernel
theorem dX5_isPart_15 : decode cX5_isPart 15 = .ok (.aload_n 0, 1) := by decide +kernel
theorem dX5_isPart_16 : decode cX5_isPart 16 = .ok (.getfield 108, 3) := by decide +kernel
theorem dX5_isPart_19 : decode cX5_isPart 19 = .ok (.iaload, 1) := by decide +kernel
theorem dX5_isPart_20 : decode cX5_isPart 20 = .ok (.goto 4, 3) := by decide +kernel
theorem dX5_isPart_23 : decode cX5_isPart 23 = .ok (.iconst 0, 1) := by decide +kernel
theorem dX5_isPart_24 : decode cX5_isPart 24 = .ok (.istore_n 1, 1) := by decide +kernel
theorem dX5_isPart_25 : decode cX5_isPart 25 = .ok (.aload_n 0, 1) := by decide +kernel
theorem dX5_isPart_26 : decode cX5_isPart 26 = .ok (.getfield 19, 3) := by decide +kernel
theorem dX5_isPart_29 : decode cX5_isPart 29 = .ok (.iconst 3, 1) := by decide +kernel
theorem dX5_isPart_30 : decode cX5_isPart 30 = .ok (.aload_n 0, 1) := by decide +kernel
theorem dX5_isPart_31 : decode cX5_isPart 31 = .ok (.getfield 122, 3) := by decide +kernel
theorem dX5_isPart_34 : decode cX5_isPart 34 = .ok (.imul, 1) := by decide +kernel
theorem dX5_isPart_35 : decode cX5_isPart 35 = .ok (.iload_n 1, 1) := by decide +kernel
theorem dX5_isPart_36 : decode cX5_isPart 36 = .ok (.bipush 110, 2) := by decide +kernel
theorem dX5_isPart_38 : decode cX5_isPart 38 = .ok (.if_icmp .ne 7, 3) := by decide +kernel
theorem dX5_isPart_41 : decode cX5_isPart 41 = .ok (.iconst 0, 1) := by decide +kernel
theorem dX5_isPart_42 : decode cX5_isPart 42 = .ok (.goto 14, 3) := by decide +kernel
theorem dX5_isPart_45 : decode cX5_isPart 45 = .ok (.iload_n 1, 1) := by decide +kernel
theorem dX5_isPart_46 : decode cX5_isPart 46 = .ok (.bipush 114, 2) := by decide +kernel
theorem dX5_isPart_48 : decode cX5_isPart 48 = .ok (.if_icmp .ne 7, 3) := by decide +kernel
theorem dX5_isPart_51 : decode cX5_isPart 51 = .ok (.iconst 1, 1) := by decide +kernel
theorem dX5_isPart_52 : decode cX5_isPart 52 = .ok (.goto 4, 3) := by decide +kernel
theorem dX5_isPart_55 : decode cX5_isPart 55 = .ok (.iconst 2, 1) := by decide +kernel
theorem dX5_isPart_56 : decode cX5_isPart 56 = .ok (.iastore, 1) := by decide +kernel
theorem dX5_isPart_57 : decode cX5_isPart 57 = .ok (.iload_n 1, 1) := by decide +kernel
theorem dX5_isPart_58 : decode cX5_isPart 58 = .ok (.bipush 110, 2) := by decide +kernel
theorem dX5_isPart_60 : decode cX5_isPart 60 = .ok (.if_icmp .eq 20, 3) := by decide +kernel
theorem dX5_isPart_63 : decode cX5_isPart 63 = .ok (.iload_n 1, 1) := by decide +kernel
theorem dX5_isPart_64 : decode cX5_isPart 64 = .ok (.bipush 114, 2) := by decide +kernel
theorem dX5_isPart_66 : decode cX5_isPart 66 = .ok (.if_icmp .eq 14, 3) := by decide +kernel
theorem dX5_isPart_69 : decode cX5_isPart 69 = .ok (.iload_n 1, 1) := by decide +kernel
theorem dX5_isPart_70 : decode cX5_isPart 70 = .ok (.bipush 108, 2) := by decide +kernel
theorem dX5_isPart_72 : decode cX5_isPart 72 = .ok (.if_icmp .eq 8, 3) := by decide +kernel
theorem dX5_isPart_75 : decode cX5_isPart 75 = .ok (.aload_n 0, 1) := by decide +kernel
theorem dX5_isPart_76 : decode cX5_isPart 76 = .ok (.invokevirtual 118, 3) := by decide +kernel
theorem dX5_isPart_79 : decode cX5_isPart 79 = .ok (.ireturn, 1) := by decide +kernel
theorem dX5_isPart_80 : decode cX5_isPart 80 = .ok (.aload_n 0, 1) := by decide +kernel
theorem dX5_isPart_81 : decode cX5_isPart 81 = .ok (.dup, 1) := by decide +kernel
theorem dX5_isPart_82 : decode cX5_isPart 82 = .ok (.getfield 108, 3) := by decide +kernel
theorem dX5_isPart_85 : decode cX5_isPart 85 = .ok (.iconst 1, 1) := by decide +kernel
theorem dX5_isPart_86 : decode cX5_isPart 86 = .ok (.iadd, 1) := by decide +kernel
theorem dX5_isPart_87 : decode cX5_isPart 87 = .ok (.putfield 108, 3) := by decide +kernel
theorem dX5_isPart_90 : decode cX5_isPart 90 = .ok (.aload_n 0, 1) := by decide +kernel
theorem dX5_isPart_91 : decode cX5_isPart 91 = .ok (.invokevirtual 125, 3) := by decide +kernel
theorem dX5_isPart_94 : decode cX5_isPart 94 = .ok (.ifCond .ne 5, 3) := by decide +kernel
theorem dX5_isPart_97 : decode cX5_isPart 97 = .ok (.iconst 0, 1) := by decide +kernel
theorem dX5_isPart_98 : decode cX5_isPart 98 = .ok (.ireturn, 1) := by decide +kernel
theorem dX5_isPart_99 : decode cX5_isPart 99 = .ok (.aload_n 0, 1) := by decide +kernel
theorem dX5_isPart_100 : decode cX5_isPart 100 = .ok (.bipush 97, 2) := by decide +kernel
theorem dX5_isPart_102 : decode cX5_isPart 102 = .ok (.bipush 99, 2) := by decide +kernel
theorem dX5_isPart_104 : decode cX5_isPart 104 = .ok (.invokevirtual 115, 3) := by decide +kernel
theorem dX5_isPart_107 : decode cX5_isPart 107 = .ok (.ifCond .ne 8, 3) := by decide +kernel
theorem dX5_isPart_110 : decode cX5_isPart 110 = .ok (.aload_n 0, 1) := by decide +kernel
theorem dX5_isPart_111 : decode cX5_isPart 111 = .ok (.invokevirtual 118, 3) := by decide +kernel
theorem dX5_isPart_114 : decode cX5_isPart 114 = .ok (.ireturn, 1) := by decide +kernel
theorem dX5_isPart_115 : decode cX5_isPart 115 = .ok (.aload_n 0, 1) := by decide +kernel
theorem dX5_isPart_116 : decode cX5_isPart 116 = .ok (.getfield 19, 3) := by decide +kernel
theorem dX5_isPart_119 : decode cX5_isPart 119 = .ok (.iconst 3, 1) := by decide +kernel
theorem dX5_isPart_120 : decode cX5_isPart 120 = .ok (.aload_n 0, 1) := by decide +kernel
theorem dX5_isPart_121 : decode cX5_isPart 121 = .ok (.getfield 122, 3) := by decide +kernel
theorem dX5_isPart_124 : decode cX5_isPart 124 = .ok (.imul, 1) := by decide +kernel
theorem dX5_isPart_125 : decode cX5_isPart 125 = .ok (.iconst 2, 1) := by decide +kernel
theorem dX5_isPart_126 : decode cX5_isPart 126 = .ok (.iadd, 1) := by decide +kernel
theorem dX5_isPart_127 : decode cX5_isPart 127 = .ok (.aload_n 0, 1) := by decide +kernel
theorem dX5_isPart_128 : decode cX5_isPart 128 = .ok (.getfield 16, 3) := by decide +kernel
theorem dX5_isPart_131 : decode cX5_isPart 131 = .ok (.aload_n 0, 1) := by decide +kernel
theorem dX5_isPart_132 : decode cX5_isPart 132 = .ok (.getfield 108, 3) := by decide +kernel
theorem dX5_isPart_135 : decode cX5_isPart 135 = .ok (.iaload, 1) := by decide +kernel
theorem dX5_isPart_136 : decode cX5_isPart 136 = .ok (.bipush 97, 2) := by decide +kernel
theorem dX5_isPart_138 : decode cX5_isPart 138 = .ok (.isub, 1) := by decide +kernel
theorem dX5_isPart_139 : decode cX5_isPart 139 = .ok (.iastore, 1) := by decide +kernel
theorem dX5_isPart_140 : decode cX5_isPart 140 = .ok (.aload_n 0, 1) := by decide +kernel
theorem dX5_isPart_141 : decode cX5_isPart 141 = .ok (.dup, 1) := by decide +kernel
theorem dX5_isPart_142 : decode cX5_isPart 142 = .ok (.getfield 108, 3) := by decide +kernel
theorem dX5_isPart_145 : decode cX5_isPart 145 = .ok (.iconst 1, 1) := by decide +kernel
theorem dX5_isPart_146 : decode cX5_isPart 146 = .ok (.iadd, 1) := by decide +kernel
theorem dX5_isPart_147 : decode cX5_isPart 147 = .ok (.putfield 108, 3) := by decide +kernel
theorem dX5_isPart_150 : decode cX5_isPart 150 = .ok (.iconst 1, 1) := by decide +kernel
theorem dX5_isPart_151 : decode cX5_isPart 151 = .ok (.ireturn, 1) := by decide +kernel
theorem dX5_isText_0 : decode cX5_isText 0 = .ok (.aload_n 0, 1) := by decide +kernel
theorem dX5_isText_1 : decode cX5_isText 1 = .ok (.iconst 0, 1) := by decide +kernel
theorem dX5_isText_2 : decode cX5_isText 2 = .ok (.putfield 108, 3) := by decide +kernel
theorem dX5_isText_5 : decode cX5_isText 5 = .ok (.aload_n 0, 1) := by decide +kernel
theorem dX5_isText_6 : decode cX5_isText 6 = .ok (.iconst 0, 1) := by decide +kernel
theorem dX5_isText_7 : decode cX5_isText 7 = .ok (.putfield 122, 3) := by decide +kernel
theorem dX5_isText_10 : decode cX5_isText 10 = .ok (.aload_n 0, 1) := by decide +kernel
theorem dX5_isText_11 : decode cX5_isText 11 = .ok (.iconst 0, 1) := by decide +kernel
theorem dX5_isText_12 : decode cX5_isText 12 = .ok (.putfield 111, 3) := by decide +kernel
theorem dX5_isText_15 : decode cX5_isText 15 = .ok (.iconst 1, 1) := by decide +kernel
theorem dX5_isText_16 : decode cX5_isText 16 = .ok (.istore_n 1, 1) := by decide +kernel
theorem dX5_isText_17 : decode cX5_isText 17 = .ok (.iload_n 1, 1) := by decide +kernel
theorem dX5_isText_18 : decode cX5_isText 18 = .ok (.ifCond .eq 52, 3) := by decide +kernel
theorem dX5_isText_21 : decode cX5_isText 21 = .ok (.aload_n 0, 1) := by decide +kernel
theorem dX5_isText_22 : decode cX5_isText 22 = .ok (.invokevirtual 128, 3) := by decide +kernel
theorem dX5_isText_25 : decode cX5_isText 25 = .ok (.ifCond .ne 5, 3) := by decide +kernel
theorem dX5_isText_28 : decode cX5_isText 28 = .ok (.iconst 0, 1) := by decide +kernel
theorem dX5_isText_29 : decode cX5_isText 29 = .ok (.ireturn, 1) := by decide +kernel
theorem dX5_isText_30 : decode cX5_isText 30 = .ok (.aload_n 0, 1) := by decide +kernel
theorem dX5_isText_31 : decode cX5_isText 31 = .ok (.dup, 1) := by decide +kernel
theorem dX5_isText_32 : decode cX5_isText 32 = .ok (.getfield 122, 3) := by decide +kernel
theorem dX5_isText_35 : decode cX5_isText 35 = .ok (.iconst 1, 1) := by decide +kernel
theorem dX5_isText_36 : decode cX5_isText 36 = .ok (.iadd, 1) := by decide +kernel
theorem dX5_isText_37 : decode cX5_isText 37 = .ok (.putfield 122, 3) := by decide +kernel
theorem dX5_isText_40 : decode cX5_isText 40 = .ok (.aload_n 0, 1) := by decide +kernel
theorem dX5_isText_41 : decode cX5_isText 41 = .ok (.bipush 44, 2) := by decide +kernel
theorem dX5_isText_43 : decode cX5_isText 43 = .ok (.bipush 44, 2) := by decide +kernel
theorem dX5_isText_45 : decode cX5_isText 45 = .ok (.invokevirtual 115, 3) := by decide +kernel
theorem dX5_isText_48 : decode cX5_isText 48 = .ok (.istore_n 1, 1) := by decide +kernel
theorem dX5_isText_49 : decode cX5_isText 49 = .ok (.aload_n 0, 1) := by decide +kernel
theorem dX5_isText_50 : decode cX5_isText 50 = .ok (.dup, 1) := by decide +kernel
theorem dX5_isText_51 : decode cX5_isText 51 = .ok (.getfield 108, 3) := by decide +kernel
theorem dX5_isText_54 : decode cX5_isText 54 = .ok (.iload_n 1, 1) := by decide +kernel
theorem dX5_isText_55 : decode cX5_isText 55 = .ok (.ifCond .eq 7, 3) := by decide +kernel
theorem dX5_isText_58 : decode cX5_isText 58 = .ok (.iconst 1, 1) := by decide +kernel
theorem dX5_isText_59 : decode cX5_isText 59 = .ok (.goto 4, 3) := by decide +kernel
theorem dX5_isText_62 : decode cX5_isText 62 = .ok (.iconst 0, 1) := by decide +kernel
theorem dX5_isText_63 : decode cX5_isText 63 = .ok (.iadd, 1) := by decide +kernel
theorem dX5_isText_64 : decode cX5_isText 64 = .ok (.putfield 108, 3) := by decide +kernel
theorem dX5_isText_67 : decode cX5_isText 67 = .ok (.goto (-50), 3) := by decide +kernel
theorem dX5_isText_70 : decode cX5_isText 70 = .ok (.aload_n 0, 1) := by decide +kernel
theorem dX5_isText_71 : decode cX5_isText 71 = .ok (.aload_n 0, 1) := by decide +kernel
theorem dX5_isText_72 : decode cX5_isText 72 = .ok (.getfield 108, 3) := by decide +kernel
theorem dX5_isText_75 : decode cX5_isText 75 = .ok (.aload_n 0, 1) := by decide +kernel
theorem dX5_isText_76 : decode cX5_isText 76 = .ok (.getfield 105, 3) := by decide +kernel
theorem dX5_isText_79 : decode cX5_isText 79 = .ok (.if_icmp .ge 7, 3) := by decide +kernel
theorem dX5_isText_82 : decode cX5_isText 82 = .ok (.iconst 1, 1) := by decide +kernel
theorem dX5_isText_83 : decode cX5_isText 83 = .ok (.goto 4, 3) := by decide +kernel
theorem dX5_isText_86 : decode cX5_isText 86 = .ok (.iconst 0, 1) := by decide +kernel
theorem dX5_isText_87 : decode cX5_isText 87 = .ok (.putfield 111, 3) := by decide +kernel
theorem dX5_isText_90 : decode cX5_isText 90 = .ok (.aload_n 0, 1) := by decide +kernel
theorem dX5_isText_91 : decode cX5_isText 91 = .ok (.getfield 108, 3) := by decide +kernel
theorem dX5_isText_94 : decode cX5_isText 94 = .ok (.aload_n 0, 1) := by decide +kernel
theorem dX5_isText_95 : decode cX5_isText 95 = .ok (.getfield 105, 3) := by decide +kernel
theorem dX5_isText_98 : decode cX5_isText 98 = .ok (.if_icmp .ne 7, 3) := by decide +kernel
theorem dX5_isText_101 : decode cX5_isText 101 = .ok (.iconst 1, 1) := by decide +kernel
theorem dX5_isText_102 : decode cX5_isText 102 = .ok (.goto 4, 3) := by decide +kernel
theorem dX5_isText_105 : decode cX5_isText 105 = .ok (.iconst 0, 1) := by decide +kernel
theorem dX5_isText_106 : decode cX5_isText 106 = .ok (.ireturn, 1) := by decide +kernel
theorem dX5_firstError_0 : decode cX5_firstError 0 = .ok (.aload_n 0, 1) := by decide +kernel
theorem dX5_firstError_1 : decode cX5_firstError 1 = .ok (.iconst 0, 1) := by decide +kernel
theorem dX5_firstError_2 : decode cX5_firstError 2 = .ok (.putfield 22, 3) := by decide +kernel
theorem dX5_firstError_5 : decode cX5_firstError 5 = .ok (.aload_n 0, 1) := by decide +kernel
theorem dX5_firstError_6 : decode cX5_firstError 6 = .ok (.invokevirtual 131, 3) := by decide +kernel
theorem dX5_firstError_9 : decode cX5_firstError 9 = .ok (.istore_n 1, 1) := by decide +kernel
theorem dX5_firstError_10 : decode cX5_firstError 10 = .ok (.iload_n 1, 1) := by decide +kernel
theorem dX5_firstError_11 : decode cX5_firstError 11 = .ok (.ifCond .ne 17, 3) := by decide +kernel
theorem dX5_firstError_14 : decode cX5_firstError 14 = .ok (.aload_n 0, 1) := by decide +kernel
theorem dX5_firstError_15 : decode cX5_firstError 15 = .ok (.getfield 111, 3) := by decide +kernel
theorem dX5_firstError_18 : decode cX5_firstError 18 = .ok (.ifCond .eq 10, 3) := by decide +kernel
theorem dX5_firstError_21 : decode cX5_firstError 21 = .ok (.aload_n 0, 1) := by decide +kernel
theorem dX5_firstError_22 : decode cX5_firstError 22 = .ok (.getfield 108, 3) := by decide +kernel
theorem dX5_firstError_25 : decode cX5_firstError 25 = .ok (.goto 7, 3) := by decide +kernel
theorem dX5_firstError_28 : decode cX5_firstError 28 = .ok (.aload_n 0, 1) := by decide +kernel
theorem dX5_firstError_29 : decode cX5_firstError 29 = .ok (.getfield 105, 3) := by decide +kernel
theorem dX5_firstError_32 : decode cX5_firstError 32 = .ok (.ireturn, 1) := by decide +kernel
theorem dX5_buyAll_0 : decode cX5_buyAll 0 = .ok (.aload_n 0, 1) := by decide +kernel
theorem dX5_buyAll_1 : decode cX5_buyAll 1 = .ok (.iconst 0, 1) := by decide +kernel
theorem dX5_buyAll_2 : decode cX5_buyAll 2 = .ok (.putfield 22, 3) := by decide +kernel
theorem dX5_buyAll_5 : decode cX5_buyAll 5 = .ok (.aload_n 0, 1) := by decide +kernel
theorem dX5_buyAll_6 : decode cX5_buyAll 6 = .ok (.invokevirtual 131, 3) := by decide +kernel
theorem dX5_buyAll_9 : decode cX5_buyAll 9 = .ok (.ifCond .ne 9, 3) := by decide +kernel
theorem dX5_buyAll_12 : decode cX5_buyAll 12 = .ok (.aload_n 0, 1) := by decide +kernel
theorem dX5_buyAll_13 : decode cX5_buyAll 13 = .ok (.iconst 1, 1) := by decide +kernel
theorem dX5_buyAll_14 : decode cX5_buyAll 14 = .ok (.invokevirtual 33, 3) := by decide +kernel
theorem dX5_buyAll_17 : decode cX5_buyAll 17 = .ok (.ireturn, 1) := by decide +kernel
theorem dX5_buyAll_18 : decode cX5_buyAll 18 = .ok (.aload_n 0, 1) := by decide +kernel
theorem dX5_buyAll_19 : decode cX5_buyAll 19 = .ok (.invokevirtual 77, 3) := by decide +kernel
theorem dX5_buyAll_22 : decode cX5_buyAll 22 = .ok (.aload_n 0, 1) := by decide +kernel
theorem dX5_buyAll_23 : decode cX5_buyAll 23 = .ok (.iconst 0, 1) := by decide +kernel
theorem dX5_buyAll_24 : decode cX5_buyAll 24 = .ok (.putfield 105, 3) := by decide +kernel
theorem dX5_buyAll_27 : decode cX5_buyAll 27 = .ok (.iconst 0, 1) := by decide +kernel
theorem dX5_buyAll_28 : decode cX5_buyAll 28 = .ok (.istore_n 1, 1) := by decide +kernel
theorem dX5_buyAll_29 : decode cX5_buyAll 29 = .ok (.iload_n 1, 1) := by decide +kernel
theorem dX5_buyAll_30 : decode cX5_buyAll 30 = .ok (.aload_n 0, 1) := by decide +kernel
theorem dX5_buyAll_31 : decode cX5_buyAll 31 = .ok (.getfield 122, 3) := by decide +kernel
theorem dX5_buyAll_34 : decode cX5_buyAll 34 = .ok (.if_icmp .ge 68, 3) := by decide +kernel
theorem dX5_buyAll_37 : decode cX5_buyAll 37 = .ok (.aload_n 0, 1) := by decide +kernel
theorem dX5_buyAll_38 : decode cX5_buyAll 38 = .ok (.aload_n 0, 1) := by decide +kernel
theorem dX5_buyAll_39 : decode cX5_buyAll 39 = .ok (.getfield 19, 3) := by decide +kernel
theorem dX5_buyAll_42 : decode cX5_buyAll 42 = .ok (.iconst 3, 1) := by decide +kernel
theorem dX5_buyAll_43 : decode cX5_buyAll 43 = .ok (.iload_n 1, 1) := by decide +kernel
theorem dX5_buyAll_44 : decode cX5_buyAll 44 = .ok (.imul, 1) := by decide +kernel
theorem dX5_buyAll_45 : decode cX5_buyAll 45 = .ok (.iaload, 1) := by decide +kernel
theorem dX5_buyAll_46 : decode cX5_buyAll 46 = .ok (.aload_n 0, 1) := by decide +kernel
theorem dX5_buyAll_47 : decode cX5_buyAll 47 = .ok (.getfield 19, 3) := by decide +kernel
theorem dX5_buyAll_50 : decode cX5_buyAll 50 = .ok (.iconst 3, 1) := by decide +kernel
theorem dX5_buyAll_51 : decode cX5_buyAll 51 = .ok (.iload_n 1, 1) := by decide +kernel
theorem dX5_buyAll_52 : decode cX5_buyAll 52 = .ok (.imul, 1) := by decide +kernel
theorem dX5_buyAll_53 : decode cX5_buyAll 53 = .ok (.iconst 1, 1) := by decide +kernel
theorem dX5_buyAll_54 : decode cX5_buyAll 54 = .ok (.iadd, 1) := by decide +kernel
theorem dX5_buyAll_55 : decode cX5_buyAll 55 = .ok (.iaload, 1) := by decide +kernel
theorem dX5_buyAll_56 : decode cX5_buyAll 56 = .ok (.invokevirtual 73, 3) := by decide +kernel
theorem dX5_buyAll_59 : decode cX5_buyAll 59 = .ok (.ifCond .eq 43, 3) := by decide +kernel
theorem dX5_buyAll_62 : decode cX5_buyAll 62 = .ok (.aload_n 0, 1) := by decide +kernel
theorem dX5_buyAll_63 : decode cX5_buyAll 63 = .ok (.aload_n 0, 1) := by decide +kernel
theorem dX5_buyAll_64 : decode cX5_buyAll 64 = .ok (.getfield 19, 3) := by decide +kernel
theorem dX5_buyAll_67 : decode cX5_buyAll 67 = .ok (.iconst 3, 1) := by decide +kernel
theorem dX5_buyAll_68 : decode cX5_buyAll 68 = .ok (.iload_n 1, 1) := by decide +kernel
theorem dX5_buyAll_69 : decode cX5_buyAll 69 = .ok (.imul, 1) := by decide +kernel
theorem dX5_buyAll_70 : decode cX5_buyAll 70 = .ok (.iaload, 1) := by decide +kernel
theorem dX5_buyAll_71 : decode cX5_buyAll 71 = .ok (.aload_n 0, 1) := by decide +kernel
theorem dX5_buyAll_72 : decode cX5_buyAll 72 = .ok (.getfield 19, 3) := by decide +kernel
theorem dX5_buyAll_75 : decode cX5_buyAll 75 = .ok (.iconst 3, 1) := by decide +kernel
theorem dX5_buyAll_76 : decode cX5_buyAll 76 = .ok (.iload_n 1, 1) := by decide +kernel
theorem dX5_buyAll_77 : decode cX5_buyAll 77 = .ok (.imul, 1) := by decide +kernel
theorem dX5_buyAll_78 : decode cX5_buyAll 78 = .ok (.iconst 1, 1) := by decide +kernel
theorem dX5_buyAll_79 : decode cX5_buyAll 79 = .ok (.iadd, 1) := by decide +kernel
theorem dX5_buyAll_80 : decode cX5_buyAll 80 = .ok (.iaload, 1) := by decide +kernel
theorem dX5_buyAll_81 : decode cX5_buyAll 81 = .ok (.aload_n 0, 1) := by decide +kernel
theorem dX5_buyAll_82 : decode cX5_buyAll 82 = .ok (.getfield 19, 3) := by decide +kernel
theorem dX5_buyAll_85 : decode cX5_buyAll 85 = .ok (.iconst 3, 1) := by decide +kernel
theorem dX5_buyAll_86 : decode cX5_buyAll 86 = .ok (.iload_n 1, 1) := by decide +kernel
theorem dX5_buyAll_87 : decode cX5_buyAll 87 = .ok (.imul, 1) := by decide +kernel
theorem dX5_buyAll_88 : decode cX5_buyAll 88 = .ok (.iconst 2, 1) := by decide +kernel
theorem dX5_buyAll_89 : decode cX5_buyAll 89 = .ok (.iadd, 1) := by decide +kernel
theorem dX5_buyAll_90 : decode cX5_buyAll 90 = .ok (.iaload, 1) := by decide +kernel
theorem dX5_buyAll_91 : decode cX5_buyAll 91 = .ok (.iconst 3, 1) := by decide +kernel
theorem dX5_buyAll_92 : decode cX5_buyAll 92 = .ok (.invokevirtual 80, 3) := by decide +kernel
theorem dX5_buyAll_95 : decode cX5_buyAll 95 = .ok (.pop, 1) := by decide +kernel
theorem dX5_buyAll_96 : decode cX5_buyAll 96 = .ok (.iinc 1 1, 3) := by decide +kernel
theorem dX5_buyAll_99 : decode cX5_buyAll 99 = .ok (.goto (-70), 3) := by decide +kernel
theorem dX5_buyAll_102 : decode cX5_buyAll 102 = .ok (.iload_n 1, 1) := by decide +kernel
theorem dX5_buyAll_103 : decode cX5_buyAll 103 = .ok (.ireturn, 1) := by decide +kernel
theorem dX5_ofHose_0 : decode cX5_ofHose 0 = .ok (.iload_n 2, 1) := by decide +kernel
theorem dX5_ofHose_1 : decode cX5_ofHose 1 = .ok (.tableswitch 91 5 9 #[35, 47, 54, 62, 85], 35) := by decide +kernel
theorem dX5_ofHose_36 : decode cX5_ofHose 36 = .ok (.aload_n 0, 1) := by decide +kernel
theorem dX5_ofHose_37 : decode cX5_ofHose 37 = .ok (.iload_n 1, 1) := by decide +kernel
theorem dX5_ofHose_38 : decode cX5_ofHose 38 = .ok (.aload_n 0, 1) := by decide +kernel
theorem dX5_ofHose_39 : decode cX5_ofHose 39 = .ok (.iload_n 1, 1) := by decide +kernel
theorem dX5_ofHose_40 : decode cX5_ofHose 40 = .ok (.iconst 4, 1) := by decide +kernel
theorem dX5_ofHose_41 : decode cX5_ofHose 41 = .ok (.invokevirtual 37, 3) := by decide +kernel
theorem dX5_ofHose_44 : decode cX5_ofHose 44 = .ok (.invokevirtual 50, 3) := by decide +kernel
theorem dX5_ofHose_47 : decode cX5_ofHose 47 = .ok (.ireturn, 1) := by decide +kernel
theorem dX5_ofHose_48 : decode cX5_ofHose 48 = .ok (.aload_n 0, 1) := by decide +kernel
theorem dX5_ofHose_49 : decode cX5_ofHose 49 = .ok (.iload_n 1, 1) := by decide +kernel
theorem dX5_ofHose_50 : decode cX5_ofHose 50 = .ok (.iconst 5, 1) := by decide +kernel
theorem dX5_ofHose_51 : decode cX5_ofHose 51 = .ok (.invokevirtual 37, 3) := by decide +kernel
theorem dX5_ofHose_54 : decode cX5_ofHose 54 = .ok (.ireturn, 1) := by decide +kernel
theorem dX5_ofHose_55 : decode cX5_ofHose 55 = .ok (.aload_n 0, 1) := by decide +kernel
theorem dX5_ofHose_56 : decode cX5_ofHose 56 = .ok (.iload_n 1, 1) := by decide +kernel
theorem dX5_ofHose_57 : decode cX5_ofHose 57 = .ok (.bipush 6, 2) := by decide +kernel
theorem dX5_ofHose_59 : decode cX5_ofHose 59 = .ok (.invokevirtual 37, 3) := by decide +kernel
theorem dX5_ofHose_62 : decode cX5_ofHose 62 = .ok (.ireturn, 1) := by decide +kernel
theorem dX5_ofHose_63 : decode cX5_ofHose 63 = .ok (.aload_n 0, 1) := by decide +kernel
theorem dX5_ofHose_64 : decode cX5_ofHose 64 = .ok (.iload_n 1, 1) := by decide +kernel
theorem dX5_ofHose_65 : decode cX5_ofHose 65 = .ok (.bipush 6, 2) := by decide +kernel
theorem dX5_ofHose_67 : decode cX5_ofHose 67 = .ok (.invokevirtual 37, 3) := by decide +kernel
theorem dX5_ofHose_70 : decode cX5_ofHose 70 = .ok (.iconst 4, 1) := by decide +kernel
theorem dX5_ofHose_71 : decode cX5_ofHose 71 = .ok (.if_icmp .ne 13, 3) := by decide +kernel
theorem dX5_ofHose_74 : decode cX5_ofHose 74 = .ok (.aload_n 0, 1) := by decide +kernel
theorem dX5_ofHose_75 : decode cX5_ofHose 75 = .ok (.iload_n 1, 1) := by decide +kernel
theorem dX5_ofHose_76 : decode cX5_ofHose 76 = .ok (.bipush 7, 2) := by decide +kernel
theorem dX5_ofHose_78 : decode cX5_ofHose 78 = .ok (.invokevirtual 37, 3) := by decide +kernel
theorem dX5_ofHose_81 : decode cX5_ofHose 81 = .ok (.goto 4, 3) := by decide +kernel
theorem dX5_ofHose_84 : decode cX5_ofHose 84 = .ok (.iconst (-1), 1) := by decide +kernel
theorem dX5_ofHose_85 : decode cX5_ofHose 85 = .ok (.ireturn, 1) := by decide +kernel
theorem dX5_ofHose_86 : decode cX5_ofHose 86 = .ok (.aload_n 0, 1) := by decide +kernel
theorem dX5_ofHose_87 : decode cX5_ofHose 87 = .ok (.iload_n 1, 1) := by decide +kernel
theorem dX5_ofHose_88 : decode cX5_ofHose 88 = .ok (.invokevirtual 44, 3) := by decide +kernel
theorem dX5_ofHose_91 : decode cX5_ofHose 91 = .ok (.ireturn, 1) := by decide +kernel
theorem dX5_ofHose_92 : decode cX5_ofHose 92 = .ok (.aload_n 0, 1) := by decide +kernel
theorem dX5_ofHose_93 : decode cX5_ofHose 93 = .ok (.iload_n 1, 1) := by decide +kernel
theorem dX5_ofHose_94 : decode cX5_ofHose 94 = .ok (.iload_n 2, 1) := by decide +kernel
theorem dX5_ofHose_95 : decode cX5_ofHose 95 = .ok (.invokevirtual 37, 3) := by decide +kernel
theorem dX5_ofHose_98 : decode cX5_ofHose 98 = .ok (.ireturn, 1) := by decide +kernel
theorem dX5_hose_0 : decode cX5_hose 0 = .ok (.aload_n 0, 1) := by decide +kernel
theorem dX5_hose_1 : decode cX5_hose 1 = .ok (.iconst 0, 1) := by decide +kernel
theorem dX5_hose_2 : decode cX5_hose 2 = .ok (.putfield 22, 3) := by decide +kernel
theorem dX5_hose_5 : decode cX5_hose 5 = .ok (.aload_n 0, 1) := by decide +kernel
theorem dX5_hose_6 : decode cX5_hose 6 = .ok (.iload_n 1, 1) := by decide +kernel
theorem dX5_hose_7 : decode cX5_hose 7 = .ok (.invokevirtual 84, 3) := by decide +kernel
theorem dX5_hose_10 : decode cX5_hose 10 = .ok (.ifCond .ne 9, 3) := by decide +kernel
theorem dX5_hose_13 : decode cX5_hose 13 = .ok (.aload_n 0, 1) := by decide +kernel
theorem dX5_hose_14 : decode cX5_hose 14 = .ok (.iconst 1, 1) := by decide +kernel
theorem dX5_hose_15 : decode cX5_hose 15 = .ok (.invokevirtual 33, 3) := by decide +kernel
theorem dX5_hose_18 : decode cX5_hose 18 = .ok (.ireturn, 1) := by decide +kernel
theorem dX5_hose_19 : decode cX5_hose 19 = .ok (.iload_n 2, 1) := by decide +kernel
theorem dX5_hose_20 : decode cX5_hose 20 = .ok (.iconst 0, 1) := by decide +kernel
theorem dX5_hose_21 : decode cX5_hose 21 = .ok (.bipush 9, 2) := by decide +kernel
theorem dX5_hose_23 : decode cX5_hose 23 = .ok (.invokestatic 26, 3) := by decide +kernel
theorem dX5_hose_26 : decode cX5_hose 26 = .ok (.ifCond .eq 12, 3) := by decide +kernel
theorem dX5_hose_29 : decode cX5_hose 29 = .ok (.aload_n 0, 1) := by decide +kernel
theorem dX5_hose_30 : decode cX5_hose 30 = .ok (.iload_n 1, 1) := by decide +kernel
theorem dX5_hose_31 : decode cX5_hose 31 = .ok (.iload_n 2, 1) := by decide +kernel
theorem dX5_hose_32 : decode cX5_hose 32 = .ok (.invokevirtual 134, 3) := by decide +kernel
theorem dX5_hose_35 : decode cX5_hose 35 = .ok (.goto 8, 3) := by decide +kernel
theorem dX5_hose_38 : decode cX5_hose 38 = .ok (.aload_n 0, 1) := by decide +kernel
theorem dX5_hose_39 : decode cX5_hose 39 = .ok (.iconst 2, 1) := by decide +kernel
theorem dX5_hose_40 : decode cX5_hose 40 = .ok (.invokevirtual 33, 3) := by decide +kernel
theorem dX5_hose_43 : decode cX5_hose 43 = .ok (.ireturn, 1) := by decide +kernel
theorem dX5_on_0 : decode cX5_on 0 = .ok (.iconst 0, 1) := by decide +kernel
theorem dX5_on_1 : decode cX5_on 1 = .ok (.istore_n 3, 1) := by decide +kernel
theorem dX5_on_2 : decode cX5_on 2 = .ok (.iconst 0, 1) := by decide +kernel
theorem dX5_on_3 : decode cX5_on 3 = .ok (.istore 4, 2) := by decide +kernel
theorem dX5_on_5 : decode cX5_on 5 = .ok (.iload 4, 2) := by decide +kernel
theorem dX5_on_7 : decode cX5_on 7 = .ok (.aload_n 0, 1) := by decide +kernel
theorem dX5_on_8 : decode cX5_on 8 = .ok (.getfield 7, 3) := by decide +kernel
theorem dX5_on_11 : decode cX5_on 11 = .ok (.iconst 5, 1) := by decide +kernel
theorem dX5_on_12 : decode cX5_on 12 = .ok (.iaload, 1) := by decide +kernel
theorem dX5_on_13 : decode cX5_on 13 = .ok (.if_icmp .ge 42, 3) := by decide +kernel
theorem dX5_on_16 : decode cX5_on 16 = .ok (.iload_n 3, 1) := by decide +kernel
theorem dX5_on_17 : decode cX5_on 17 = .ok (.aload_n 0, 1) := by decide +kernel
theorem dX5_on_18 : decode cX5_on 18 = .ok (.iload 4, 2) := by decide +kernel
theorem dX5_on_20 : decode cX5_on 20 = .ok (.bipush 6, 2) := by decide +kernel
theorem dX5_on_22 : decode cX5_on 22 = .ok (.invokevirtual 37, 3) := by decide +kernel
theorem dX5_on_25 : decode cX5_on 25 = .ok (.iload_n 1, 1) := by decide +kernel
theorem dX5_on_26 : decode cX5_on 26 = .ok (.if_icmp .ne 20, 3) := by decide +kernel
theorem dX5_on_29 : decode cX5_on 29 = .ok (.iload_n 2, 1) := by decide +kernel
theorem dX5_on_30 : decode cX5_on 30 = .ok (.ifCond .eq 12, 3) := by decide +kernel
theorem dX5_on_33 : decode cX5_on 33 = .ok (.aload_n 0, 1) := by decide +kernel
theorem dX5_on_34 : decode cX5_on 34 = .ok (.iload 4, 2) := by decide +kernel
theorem dX5_on_36 : decode cX5_on 36 = .ok (.invokevirtual 62, 3) := by decide +kernel
theorem dX5_on_39 : decode cX5_on 39 = .ok (.ifCond .eq 7, 3) := by decide +kernel
theorem dX5_on_42 : decode cX5_on 42 = .ok (.iconst 1, 1) := by decide +kernel
theorem dX5_on_43 : decode cX5_on 43 = .ok (.goto 4, 3) := by decide +kernel
theorem dX5_on_46 : decode cX5_on 46 = .ok (.iconst 0, 1) := by decide +kernel
theorem dX5_on_47 : decode cX5_on 47 = .ok (.iadd, 1) := by decide +kernel
theorem dX5_on_48 : decode cX5_on 48 = .ok (.istore_n 3, 1) := by decide +kernel
theorem dX5_on_49 : decode cX5_on 49 = .ok (.iinc 4 1, 3) := by decide +kernel
theorem dX5_on_52 : decode cX5_on 52 = .ok (.goto (-47), 3) := by decide +kernel
theorem dX5_on_55 : decode cX5_on 55 = .ok (.iload_n 3, 1) := by decide +kernel
theorem dX5_on_56 : decode cX5_on 56 = .ok (.ireturn, 1) := by decide +kernel
theorem dX5_ofTruck_0 : decode cX5_ofTruck 0 = .ok (.aload_n 0, 1) := by decide +kernel
theorem dX5_ofTruck_1 : decode cX5_ofTruck 1 = .ok (.iload_n 1, 1) := by decide +kernel
theorem dX5_ofTruck_2 : decode cX5_ofTruck 2 = .ok (.iconst (-1), 1) := by decide +kernel
theorem dX5_ofTruck_3 : decode cX5_ofTruck 3 = .ok (.invokevirtual 137, 3) := by decide +kernel
theorem dX5_ofTruck_6 : decode cX5_ofTruck 6 = .ok (.istore_n 3, 1) := by decide +kernel
theorem dX5_ofTruck_7 : decode cX5_ofTruck 7 = .ok (.iload_n 2, 1) := by decide +kernel
theorem dX5_ofTruck_8 : decode cX5_ofTruck 8 = .ok (.tableswitch 81 0 5 #[40, 50, 55, 55, 71, 76], 40) := by decide +kernel
theorem dX5_ofTruck_48 : decode cX5_ofTruck 48 = .ok (.aload_n 0, 1) := by decide +kernel
theorem dX5_ofTruck_49 : decode cX5_ofTruck 49 = .ok (.getfield 7, 3) := by decide +kernel
theorem dX5_ofTruck_52 : decode cX5_ofTruck 52 = .ok (.bipush 9, 2) := by decide +kernel
theorem dX5_ofTruck_54 : decode cX5_ofTruck 54 = .ok (.iload_n 1, 1) := by decide +kernel
theorem dX5_ofTruck_55 : decode cX5_ofTruck 55 = .ok (.iadd, 1) := by decide +kernel
theorem dX5_ofTruck_56 : decode cX5_ofTruck 56 = .ok (.iaload, 1) := by decide +kernel
theorem dX5_ofTruck_57 : decode cX5_ofTruck 57 = .ok (.ireturn, 1) := by decide +kernel
theorem dX5_ofTruck_58 : decode cX5_ofTruck 58 = .ok (.aload_n 0, 1) := by decide +kernel
theorem dX5_ofTruck_59 : decode cX5_ofTruck 59 = .ok (.getfield 53, 3) := by decide +kernel
theorem dX5_ofTruck_62 : decode cX5_ofTruck 62 = .ok (.ireturn, 1) := by decide +kernel
theorem dX5_ofTruck_63 : decode cX5_ofTruck 63 = .ok (.aload_n 0, 1) := by decide +kernel
theorem dX5_ofTruck_64 : decode cX5_ofTruck 64 = .ok (.iload_n 1, 1) := by decide +kernel
theorem dX5_ofTruck_65 : decode cX5_ofTruck 65 = .ok (.iload_n 2, 1) := by decide +kernel
theorem dX5_ofTruck_66 : decode cX5_ofTruck 66 = .ok (.iconst 3, 1) := by decide +kernel
theorem dX5_ofTruck_67 : decode cX5_ofTruck 67 = .ok (.if_icmp .ne 7, 3) := by decide +kernel
theorem dX5_ofTruck_70 : decode cX5_ofTruck 70 = .ok (.iconst 1, 1) := by decide +kernel
theorem dX5_ofTruck_71 : decode cX5_ofTruck 71 = .ok (.goto 4, 3) := by decide +kernel
theorem dX5_ofTruck_74 : decode cX5_ofTruck 74 = .ok (.iconst 0, 1) := by decide +kernel
theorem dX5_ofTruck_75 : decode cX5_ofTruck 75 = .ok (.invokevirtual 140, 3) := by decide +kernel
theorem dX5_ofTruck_78 : decode cX5_ofTruck 78 = .ok (.ireturn, 1) := by decide +kernel
theorem dX5_ofTruck_79 : decode cX5_ofTruck 79 = .ok (.aload_n 0, 1) := by decide +kernel
theorem dX5_ofTruck_80 : decode cX5_ofTruck 80 = .ok (.getfield 56, 3) := by decide +kernel
theorem dX5_ofTruck_83 : decode cX5_ofTruck 83 = .ok (.ireturn, 1) := by decide +kernel
theorem dX5_ofTruck_84 : decode cX5_ofTruck 84 = .ok (.aload_n 0, 1) := by decide +kernel
theorem dX5_ofTruck_85 : decode cX5_ofTruck 85 = .ok (.getfield 59, 3) := by decide +kernel
theorem dX5_ofTruck_88 : decode cX5_ofTruck 88 = .ok (.ireturn, 1) := by decide +kernel
theorem dX5_ofTruck_89 : decode cX5_ofTruck 89 = .ok (.iload_n 3, 1) := by decide +kernel
theorem dX5_ofTruck_90 : decode cX5_ofTruck 90 = .ok (.ifCond .eq 7, 3) := by decide +kernel
theorem dX5_ofTruck_93 : decode cX5_ofTruck 93 = .ok (.iconst 1, 1) := by decide +kernel
theorem dX5_ofTruck_94 : decode cX5_ofTruck 94 = .ok (.goto 4, 3) := by decide +kernel
theorem dX5_ofTruck_97 : decode cX5_ofTruck 97 = .ok (.iconst 0, 1) := by decide +kernel
theorem dX5_ofTruck_98 : decode cX5_ofTruck 98 = .ok (.ireturn, 1) := by decide +kernel
theorem dX5_truck_0 : decode cX5_truck 0 = .ok (.aload_n 0, 1) := by decide +kernel
theorem dX5_truck_1 : decode cX5_truck 1 = .ok (.iconst 0, 1) := by decide +kernel
theorem dX5_truck_2 : decode cX5_truck 2 = .ok (.putfield 22, 3) := by decide +kernel
theorem dX5_truck_5 : decode cX5_truck 5 = .ok (.iload_n 1, 1) := by decide +kernel
theorem dX5_truck_6 : decode cX5_truck 6 = .ok (.invokestatic 99, 3) := by decide +kernel
theorem dX5_truck_9 : decode cX5_truck 9 = .ok (.ifCond .ne 9, 3) := by decide +kernel
theorem dX5_truck_12 : decode cX5_truck 12 = .ok (.aload_n 0, 1) := by decide +kernel
theorem dX5_truck_13 : decode cX5_truck 13 = .ok (.iconst 1, 1) := by decide +kernel
theorem dX5_truck_14 : decode cX5_truck 14 = .ok (.invokevirtual 33, 3) := by decide +kernel
theorem dX5_truck_17 : decode cX5_truck 17 = .ok (.ireturn, 1) := by decide +kernel
theorem dX5_truck_18 : decode cX5_truck 18 = .ok (.iload_n 2, 1) := by decide +kernel
theorem dX5_truck_19 : decode cX5_truck 19 = .ok (.iconst 0, 1) := by decide +kernel
theorem dX5_truck_20 : decode cX5_truck 20 = .ok (.bipush 6, 2) := by decide +kernel
theorem dX5_truck_22 : decode cX5_truck 22 = .ok (.invokestatic 26, 3) := by decide +kernel
theorem dX5_truck_25 : decode cX5_truck 25 = .ok (.ifCond .eq 12, 3) := by decide +kernel
theorem dX5_truck_28 : decode cX5_truck 28 = .ok (.aload_n 0, 1) := by decide +kernel
theorem dX5_truck_29 : decode cX5_truck 29 = .ok (.iload_n 1, 1) := by decide +kernel
theorem dX5_truck_30 : decode cX5_truck 30 = .ok (.iload_n 2, 1) := by decide +kernel
theorem dX5_truck_31 : decode cX5_truck 31 = .ok (.invokevirtual 144, 3) := by decide +kernel
theorem dX5_truck_34 : decode cX5_truck 34 = .ok (.goto 8, 3) := by decide +kernel
theorem dX5_truck_37 : decode cX5_truck 37 = .ok (.aload_n 0, 1) := by decide +kernel
theorem dX5_truck_38 : decode cX5_truck 38 = .ok (.iconst 2, 1) := by decide +kernel
theorem dX5_truck_39 : decode cX5_truck 39 = .ok (.invokevirtual 33, 3) := by decide +kernel
theorem dX5_truck_42 : decode cX5_truck 42 = .ok (.ireturn, 1) := by decide +kernel
theorem dX5_having_0 : decode cX5_having 0 = .ok (.iconst 0, 1) := by decide +kernel
theorem dX5_having_1 : decode cX5_having 1 = .ok (.istore_n 2, 1) := by decide +kernel
theorem dX5_having_2 : decode cX5_having 2 = .ok (.iconst 0, 1) := by decide +kernel
theorem dX5_having_3 : decode cX5_having 3 = .ok (.istore_n 3, 1) := by decide +kernel
theorem dX5_having_4 : decode cX5_having 4 = .ok (.iload_n 3, 1) := by decide +kernel
theorem dX5_having_5 : decode cX5_having 5 = .ok (.aload_n 0, 1) := by decide +kernel
theorem dX5_having_6 : decode cX5_having 6 = .ok (.getfield 7, 3) := by decide +kernel
theorem dX5_having_9 : decode cX5_having 9 = .ok (.iconst 5, 1) := by decide +kernel
theorem dX5_having_10 : decode cX5_having 10 = .ok (.iaload, 1) := by decide +kernel
theorem dX5_having_11 : decode cX5_having 11 = .ok (.if_icmp .ge 26, 3) := by decide +kernel
theorem dX5_having_14 : decode cX5_having 14 = .ok (.iload_n 2, 1) := by decide +kernel
theorem dX5_having_15 : decode cX5_having 15 = .ok (.aload_n 0, 1) := by decide +kernel
theorem dX5_having_16 : decode cX5_having 16 = .ok (.iload_n 3, 1) := by decide +kernel
theorem dX5_having_17 : decode cX5_having 17 = .ok (.invokevirtual 44, 3) := by decide +kernel
theorem dX5_having_20 : decode cX5_having 20 = .ok (.iload_n 1, 1) := by decide +kernel
theorem dX5_having_21 : decode cX5_having 21 = .ok (.if_icmp .ne 7, 3) := by decide +kernel
theorem dX5_having_24 : decode cX5_having 24 = .ok (.iconst 1, 1) := by decide +kernel
theorem dX5_having_25 : decode cX5_having 25 = .ok (.goto 4, 3) := by decide +kernel
theorem dX5_having_28 : decode cX5_having 28 = .ok (.iconst 0, 1) := by decide +kernel
theorem dX5_having_29 : decode cX5_having 29 = .ok (.iadd, 1) := by decide +kernel
theorem dX5_having_30 : decode cX5_having 30 = .ok (.istore_n 2, 1) := by decide +kernel
theorem dX5_having_31 : decode cX5_having 31 = .ok (.iinc 3 1, 3) := by decide +kernel
theorem dX5_having_34 : decode cX5_having 34 = .ok (.goto (-30), 3) := by decide +kernel
theorem dX5_having_37 : decode cX5_having 37 = .ok (.iload_n 2, 1) := by decide +kernel
theorem dX5_having_38 : decode cX5_having 38 = .ok (.ireturn, 1) := by decide +kernel
theorem dX5_counted_0 : decode cX5_counted 0 = .ok (.iload_n 1, 1) := by decide +kernel
theorem dX5_counted_1 : decode cX5_counted 1 = .ok (.tableswitch 113 3 10 #[47, 47, 47, 71, 95, 95, 95, 108], 47) := by decide +kernel
theorem dX5_counted_48 : decode cX5_counted 48 = .ok (.aload_n 0, 1) := by decide +kernel
theorem dX5_counted_49 : decode cX5_counted 49 = .ok (.iload_n 1, 1) := by decide +kernel
theorem dX5_counted_50 : decode cX5_counted 50 = .ok (.iconst 3, 1) := by decide +kernel
theorem dX5_counted_51 : decode cX5_counted 51 = .ok (.if_icmp .ne 7, 3) := by decide +kernel
theorem dX5_counted_54 : decode cX5_counted 54 = .ok (.iconst 1, 1) := by decide +kernel
theorem dX5_counted_55 : decode cX5_counted 55 = .ok (.goto 13, 3) := by decide +kernel
theorem dX5_counted_58 : decode cX5_counted 58 = .ok (.iload_n 1, 1) := by decide +kernel
theorem dX5_counted_59 : decode cX5_counted 59 = .ok (.iconst 4, 1) := by decide +kernel
theorem dX5_counted_60 : decode cX5_counted 60 = .ok (.if_icmp .ne 7, 3) := by decide +kernel
theorem dX5_counted_63 : decode cX5_counted 63 = .ok (.iconst 0, 1) := by decide +kernel
theorem dX5_counted_64 : decode cX5_counted 64 = .ok (.goto 4, 3) := by decide +kernel
theorem dX5_counted_67 : decode cX5_counted 67 = .ok (.iconst 2, 1) := by decide +kernel
theorem dX5_counted_68 : decode cX5_counted 68 = .ok (.invokevirtual 147, 3) := by decide +kernel
theorem dX5_counted_71 : decode cX5_counted 71 = .ok (.ireturn, 1) := by decide +kernel
theorem dX5_counted_72 : decode cX5_counted 72 = .ok (.aload_n 0, 1) := by decide +kernel
theorem dX5_counted_73 : decode cX5_counted 73 = .ok (.iconst 0, 1) := by decide +kernel
theorem dX5_counted_74 : decode cX5_counted 74 = .ok (.bipush 6, 2) := by decide +kernel
theorem dX5_counted_76 : decode cX5_counted 76 = .ok (.invokevirtual 144, 3) := by decide +kernel
theorem dX5_counted_79 : decode cX5_counted 79 = .ok (.aload_n 0, 1) := by decide +kernel
theorem dX5_counted_80 : decode cX5_counted 80 = .ok (.iconst 1, 1) := by decide +kernel
theorem dX5_counted_81 : decode cX5_counted 81 = .ok (.bipush 6, 2) := by decide +kernel
theorem dX5_counted_83 : decode cX5_counted 83 = .ok (.invokevirtual 144, 3) := by decide +kernel
theorem dX5_counted_86 : decode cX5_counted 86 = .ok (.iadd, 1) := by decide +kernel
theorem dX5_counted_87 : decode cX5_counted 87 = .ok (.aload_n 0, 1) := by decide +kernel
theorem dX5_counted_88 : decode cX5_counted 88 = .ok (.iconst 2, 1) := by decide +kernel
theorem dX5_counted_89 : decode cX5_counted 89 = .ok (.bipush 6, 2) := by decide +kernel
theorem dX5_counted_91 : decode cX5_counted 91 = .ok (.invokevirtual 144, 3) := by decide +kernel
theorem dX5_counted_94 : decode cX5_counted 94 = .ok (.iadd, 1) := by decide +kernel
theorem dX5_counted_95 : decode cX5_counted 95 = .ok (.ireturn, 1) := by decide +kernel
theorem dX5_counted_96 : decode cX5_counted 96 = .ok (.aload_n 0, 1) := by decide +kernel
theorem dX5_counted_97 : decode cX5_counted 97 = .ok (.getfield 7, 3) := by decide +kernel
theorem dX5_counted_100 : decode cX5_counted 100 = .ok (.bipush 6, 2) := by decide +kernel
theorem dX5_counted_102 : decode cX5_counted 102 = .ok (.iload_n 1, 1) := by decide +kernel
theorem dX5_counted_103 : decode cX5_counted 103 = .ok (.iadd, 1) := by decide +kernel
theorem dX5_counted_104 : decode cX5_counted 104 = .ok (.bipush 7, 2) := by decide +kernel
theorem dX5_counted_106 : decode cX5_counted 106 = .ok (.isub, 1) := by decide +kernel
theorem dX5_counted_107 : decode cX5_counted 107 = .ok (.iaload, 1) := by decide +kernel
theorem dX5_counted_108 : decode cX5_counted 108 = .ok (.ireturn, 1) := by decide +kernel
theorem dX5_counted_109 : decode cX5_counted 109 = .ok (.aload_n 0, 1) := by decide +kernel
theorem dX5_counted_110 : decode cX5_counted 110 = .ok (.getfield 30, 3) := by decide +kernel
theorem dX5_counted_113 : decode cX5_counted 113 = .ok (.ireturn, 1) := by decide +kernel
theorem dX5_counted_114 : decode cX5_counted 114 = .ok (.aload_n 0, 1) := by decide +kernel
theorem dX5_counted_115 : decode cX5_counted 115 = .ok (.getfield 7, 3) := by decide +kernel
theorem dX5_counted_118 : decode cX5_counted 118 = .ok (.iconst 3, 1) := by decide +kernel
theorem dX5_counted_119 : decode cX5_counted 119 = .ok (.iload_n 1, 1) := by decide +kernel
theorem dX5_counted_120 : decode cX5_counted 120 = .ok (.iadd, 1) := by decide +kernel
theorem dX5_counted_121 : decode cX5_counted 121 = .ok (.iaload, 1) := by decide +kernel
theorem dX5_counted_122 : decode cX5_counted 122 = .ok (.ireturn, 1) := by decide +kernel
theorem dX5_count_0 : decode cX5_count 0 = .ok (.aload_n 0, 1) := by decide +kernel
theorem dX5_count_1 : decode cX5_count 1 = .ok (.iconst 0, 1) := by decide +kernel
theorem dX5_count_2 : decode cX5_count 2 = .ok (.putfield 22, 3) := by decide +kernel
theorem dX5_count_5 : decode cX5_count 5 = .ok (.iload_n 1, 1) := by decide +kernel
theorem dX5_count_6 : decode cX5_count 6 = .ok (.iconst 0, 1) := by decide +kernel
theorem dX5_count_7 : decode cX5_count 7 = .ok (.bipush 10, 2) := by decide +kernel
theorem dX5_count_9 : decode cX5_count 9 = .ok (.invokestatic 26, 3) := by decide +kernel
theorem dX5_count_12 : decode cX5_count 12 = .ok (.ifCond .eq 11, 3) := by decide +kernel
theorem dX5_count_15 : decode cX5_count 15 = .ok (.aload_n 0, 1) := by decide +kernel
theorem dX5_count_16 : decode cX5_count 16 = .ok (.iload_n 1, 1) := by decide +kernel
theorem dX5_count_17 : decode cX5_count 17 = .ok (.invokevirtual 150, 3) := by decide +kernel
theorem dX5_count_20 : decode cX5_count 20 = .ok (.goto 8, 3) := by decide +kernel
theorem dX5_count_23 : decode cX5_count 23 = .ok (.aload_n 0, 1) := by decide +kernel
theorem dX5_count_24 : decode cX5_count 24 = .ok (.iconst 1, 1) := by decide +kernel
theorem dX5_count_25 : decode cX5_count 25 = .ok (.invokevirtual 33, 3) := by decide +kernel
theorem dX5_count_28 : decode cX5_count 28 = .ok (.ireturn, 1) := by decide +kernel
theorem dX5_setting_0 : decode cX5_setting 0 = .ok (.aload_n 0, 1) := by decide +kernel
theorem dX5_setting_1 : decode cX5_setting 1 = .ok (.iconst 0, 1) := by decide +kernel
theorem dX5_setting_2 : decode cX5_setting 2 = .ok (.putfield 22, 3) := by decide +kernel
theorem dX5_setting_5 : decode cX5_setting 5 = .ok (.iload_n 1, 1) := by decide +kernel
theorem dX5_setting_6 : decode cX5_setting 6 = .ok (.iconst 0, 1) := by decide +kernel
theorem dX5_setting_7 : decode cX5_setting 7 = .ok (.iconst 2, 1) := by decide +kernel
theorem dX5_setting_8 : decode cX5_setting 8 = .ok (.invokestatic 26, 3) := by decide +kernel
theorem dX5_setting_11 : decode cX5_setting 11 = .ok (.ifCond .eq 12, 3) := by decide +kernel
theorem dX5_setting_14 : decode cX5_setting 14 = .ok (.aload_n 0, 1) := by decide +kernel
theorem dX5_setting_15 : decode cX5_setting 15 = .ok (.getfield 7, 3) := by decide +kernel
theorem dX5_setting_18 : decode cX5_setting 18 = .ok (.iload_n 1, 1) := by decide +kernel
theorem dX5_setting_19 : decode cX5_setting 19 = .ok (.iaload, 1) := by decide +kernel
theorem dX5_setting_20 : decode cX5_setting 20 = .ok (.goto 8, 3) := by decide +kernel
theorem dX5_setting_23 : decode cX5_setting 23 = .ok (.aload_n 0, 1) := by decide +kernel
theorem dX5_setting_24 : decode cX5_setting 24 = .ok (.iconst 1, 1) := by decide +kernel
theorem dX5_setting_25 : decode cX5_setting 25 = .ok (.invokevirtual 33, 3) := by decide +kernel
theorem dX5_setting_28 : decode cX5_setting 28 = .ok (.ireturn, 1) := by decide +kernel
theorem dX5_tried_0 : decode cX5_tried 0 = .ok (.aload_n 0, 1) := by decide +kernel
theorem dX5_tried_1 : decode cX5_tried 1 = .ok (.iload_n 1, 1) := by decide +kernel
theorem dX5_tried_2 : decode cX5_tried 2 = .ok (.bipush 6, 2) := by decide +kernel
theorem dX5_tried_4 : decode cX5_tried 4 = .ok (.invokevirtual 37, 3) := by decide +kernel
theorem dX5_tried_7 : decode cX5_tried 7 = .ok (.iconst (-1), 1) := by decide +kernel
theorem dX5_tried_8 : decode cX5_tried 8 = .ok (.if_icmp .ne 7, 3) := by decide +kernel
theorem dX5_tried_11 : decode cX5_tried 11 = .ok (.iconst (-1), 1) := by decide +kernel
theorem dX5_tried_12 : decode cX5_tried 12 = .ok (.goto 9, 3) := by decide +kernel
theorem dX5_tried_15 : decode cX5_tried 15 = .ok (.aload_n 0, 1) := by decide +kernel
theorem dX5_tried_16 : decode cX5_tried 16 = .ok (.iload_n 1, 1) := by decide +kernel
theorem dX5_tried_17 : decode cX5_tried 17 = .ok (.iload_n 2, 1) := by decide +kernel
theorem dX5_tried_18 : decode cX5_tried 18 = .ok (.invokevirtual 93, 3) := by decide +kernel
theorem dX5_tried_21 : decode cX5_tried 21 = .ok (.ireturn, 1) := by decide +kernel
theorem dX5_ifTested_0 : decode cX5_ifTested 0 = .ok (.aload_n 0, 1) := by decide +kernel
theorem dX5_ifTested_1 : decode cX5_ifTested 1 = .ok (.iconst 0, 1) := by decide +kernel
theorem dX5_ifTested_2 : decode cX5_ifTested 2 = .ok (.putfield 22, 3) := by decide +kernel
theorem dX5_ifTested_5 : decode cX5_ifTested 5 = .ok (.aload_n 0, 1) := by decide +kernel
theorem dX5_ifTested_6 : decode cX5_ifTested 6 = .ok (.iload_n 1, 1) := by decide +kernel
theorem dX5_ifTested_7 : decode cX5_ifTested 7 = .ok (.invokevirtual 84, 3) := by decide +kernel
theorem dX5_ifTested_10 : decode cX5_ifTested 10 = .ok (.ifCond .ne 9, 3) := by decide +kernel
theorem dX5_ifTested_13 : decode cX5_ifTested 13 = .ok (.aload_n 0, 1) := by decide +kernel
theorem dX5_ifTested_14 : decode cX5_ifTested 14 = .ok (.iconst 1, 1) := by decide +kernel
theorem dX5_ifTested_15 : decode cX5_ifTested 15 = .ok (.invokevirtual 33, 3) := by decide +kernel
theorem dX5_ifTested_18 : decode cX5_ifTested 18 = .ok (.ireturn, 1) := by decide +kernel
theorem dX5_ifTested_19 : decode cX5_ifTested 19 = .ok (.iload_n 2, 1) := by decide +kernel
theorem dX5_ifTested_20 : decode cX5_ifTested 20 = .ok (.iconst 4, 1) := by decide +kernel
theorem dX5_ifTested_21 : decode cX5_ifTested 21 = .ok (.bipush 24, 2) := by decide +kernel
theorem dX5_ifTested_23 : decode cX5_ifTested 23 = .ok (.invokestatic 26, 3) := by decide +kernel
theorem dX5_ifTested_26 : decode cX5_ifTested 26 = .ok (.ifCond .eq 12, 3) := by decide +kernel
theorem dX5_ifTested_29 : decode cX5_ifTested 29 = .ok (.aload_n 0, 1) := by decide +kernel
theorem dX5_ifTested_30 : decode cX5_ifTested 30 = .ok (.iload_n 1, 1) := by decide +kernel
theorem dX5_ifTested_31 : decode cX5_ifTested 31 = .ok (.iload_n 2, 1) := by decide +kernel
theorem dX5_ifTested_32 : decode cX5_ifTested 32 = .ok (.invokevirtual 153, 3) := by decide +kernel
theorem dX5_ifTested_35 : decode cX5_ifTested 35 = .ok (.goto 8, 3) := by decide +kernel
theorem dX5_ifTested_38 : decode cX5_ifTested 38 = .ok (.aload_n 0, 1) := by decide +kernel
theorem dX5_ifTested_39 : decode cX5_ifTested 39 = .ok (.iconst 2, 1) := by decide +kernel
theorem dX5_ifTested_40 : decode cX5_ifTested 40 = .ok (.invokevirtual 33, 3) := by decide +kernel
theorem dX5_ifTested_43 : decode cX5_ifTested 43 = .ok (.ireturn, 1) := by decide +kernel
theorem dX5_greatest_0 : decode cX5_greatest 0 = .ok (.bipush 24, 2) := by decide +kernel
theorem dX5_greatest_2 : decode cX5_greatest 2 = .ok (.istore_n 2, 1) := by decide +kernel
theorem dX5_greatest_3 : decode cX5_greatest 3 = .ok (.iload_n 2, 1) := by decide +kernel
theorem dX5_greatest_4 : decode cX5_greatest 4 = .ok (.iconst 3, 1) := by decide +kernel
theorem dX5_greatest_5 : decode cX5_greatest 5 = .ok (.if_icmp .le 26, 3) := by decide +kernel
theorem dX5_greatest_8 : decode cX5_greatest 8 = .ok (.aload_n 0, 1) := by decide +kernel
theorem dX5_greatest_9 : decode cX5_greatest 9 = .ok (.iload_n 1, 1) := by decide +kernel
theorem dX5_greatest_10 : decode cX5_greatest 10 = .ok (.iload_n 2, 1) := by decide +kernel
theorem dX5_greatest_11 : decode cX5_greatest 11 = .ok (.invokevirtual 153, 3) := by decide +kernel
theorem dX5_greatest_14 : decode cX5_greatest 14 = .ok (.iconst 0, 1) := by decide +kernel
theorem dX5_greatest_15 : decode cX5_greatest 15 = .ok (.bipush 99, 2) := by decide +kernel
theorem dX5_greatest_17 : decode cX5_greatest 17 = .ok (.invokestatic 26, 3) := by decide +kernel
theorem dX5_greatest_20 : decode cX5_greatest 20 = .ok (.ifCond .eq 5, 3) := by decide +kernel
theorem dX5_greatest_23 : decode cX5_greatest 23 = .ok (.iload_n 2, 1) := by decide +kernel
theorem dX5_greatest_24 : decode cX5_greatest 24 = .ok (.ireturn, 1) := by decide +kernel
theorem dX5_greatest_25 : decode cX5_greatest 25 = .ok (.iinc 2 (-1), 3) := by decide +kernel
theorem dX5_greatest_28 : decode cX5_greatest 28 = .ok (.goto (-25), 3) := by decide +kernel
theorem dX5_greatest_31 : decode cX5_greatest 31 = .ok (.iconst (-1), 1) := by decide +kernel
theorem dX5_greatest_32 : decode cX5_greatest 32 = .ok (.ireturn, 1) := by decide +kernel
theorem dX5_safe_0 : decode cX5_safe 0 = .ok (.aload_n 0, 1) := by decide +kernel
theorem dX5_safe_1 : decode cX5_safe 1 = .ok (.iconst 0, 1) := by decide +kernel
theorem dX5_safe_2 : decode cX5_safe 2 = .ok (.putfield 22, 3) := by decide +kernel
theorem dX5_safe_5 : decode cX5_safe 5 = .ok (.aload_n 0, 1) := by decide +kernel
theorem dX5_safe_6 : decode cX5_safe 6 = .ok (.iload_n 1, 1) := by decide +kernel
theorem dX5_safe_7 : decode cX5_safe 7 = .ok (.invokevirtual 84, 3) := by decide +kernel
theorem dX5_safe_10 : decode cX5_safe 10 = .ok (.ifCond .eq 11, 3) := by decide +kernel
theorem dX5_safe_13 : decode cX5_safe 13 = .ok (.aload_n 0, 1) := by decide +kernel
theorem dX5_safe_14 : decode cX5_safe 14 = .ok (.iload_n 1, 1) := by decide +kernel
theorem dX5_safe_15 : decode cX5_safe 15 = .ok (.invokevirtual 156, 3) := by decide +kernel
theorem dX5_safe_18 : decode cX5_safe 18 = .ok (.goto 8, 3) := by decide +kernel
theorem dX5_safe_21 : decode cX5_safe 21 = .ok (.aload_n 0, 1) := by decide +kernel
theorem dX5_safe_22 : decode cX5_safe 22 = .ok (.iconst 1, 1) := by decide +kernel
theorem dX5_safe_23 : decode cX5_safe 23 = .ok (.invokevirtual 33, 3) := by decide +kernel
theorem dX5_safe_26 : decode cX5_safe 26 = .ok (.ireturn, 1) := by decide +kernel
theorem dX5_lapses_0 : decode cX5_lapses 0 = .ok (.iconst (-1), 1) := by decide +kernel
theorem dX5_lapses_1 : decode cX5_lapses 1 = .ok (.istore_n 1, 1) := by decide +kernel
theorem dX5_lapses_2 : decode cX5_lapses 2 = .ok (.iconst 0, 1) := by decide +kernel
theorem dX5_lapses_3 : decode cX5_lapses 3 = .ok (.istore_n 2, 1) := by decide +kernel
theorem dX5_lapses_4 : decode cX5_lapses 4 = .ok (.iload_n 2, 1) := by decide +kernel
theorem dX5_lapses_5 : decode cX5_lapses 5 = .ok (.aload_n 0, 1) := by decide +kernel
theorem dX5_lapses_6 : decode cX5_lapses 6 = .ok (.getfield 7, 3) := by decide +kernel
theorem dX5_lapses_9 : decode cX5_lapses 9 = .ok (.iconst 5, 1) := by decide +kernel
theorem dX5_lapses_10 : decode cX5_lapses 10 = .ok (.iaload, 1) := by decide +kernel
theorem dX5_lapses_11 : decode cX5_lapses 11 = .ok (.if_icmp .ge 87, 3) := by decide +kernel
theorem dX5_lapses_14 : decode cX5_lapses 14 = .ok (.aload_n 0, 1) := by decide +kernel
theorem dX5_lapses_15 : decode cX5_lapses 15 = .ok (.iload_n 2, 1) := by decide +kernel
theorem dX5_lapses_16 : decode cX5_lapses 16 = .ok (.invokevirtual 62, 3) := by decide +kernel
theorem dX5_lapses_19 : decode cX5_lapses 19 = .ok (.ifCond .eq 73, 3) := by decide +kernel
theorem dX5_lapses_22 : decode cX5_lapses 22 = .ok (.aload_n 0, 1) := by decide +kernel
theorem dX5_lapses_23 : decode cX5_lapses 23 = .ok (.iload_n 2, 1) := by decide +kernel
theorem dX5_lapses_24 : decode cX5_lapses 24 = .ok (.iconst 3, 1) := by decide +kernel
theorem dX5_lapses_25 : decode cX5_lapses 25 = .ok (.invokevirtual 37, 3) := by decide +kernel
theorem dX5_lapses_28 : decode cX5_lapses 28 = .ok (.aload_n 0, 1) := by decide +kernel
theorem dX5_lapses_29 : decode cX5_lapses 29 = .ok (.iload_n 2, 1) := by decide +kernel
theorem dX5_lapses_30 : decode cX5_lapses 30 = .ok (.iconst 0, 1) := by decide +kernel
theorem dX5_lapses_31 : decode cX5_lapses 31 = .ok (.invokevirtual 37, 3) := by decide +kernel
theorem dX5_lapses_34 : decode cX5_lapses 34 = .ok (.invokestatic 41, 3) := by decide +kernel
theorem dX5_lapses_37 : decode cX5_lapses 37 = .ok (.iadd, 1) := by decide +kernel
theorem dX5_lapses_38 : decode cX5_lapses 38 = .ok (.istore_n 3, 1) := by decide +kernel
theorem dX5_lapses_39 : decode cX5_lapses 39 = .ok (.aload_n 0, 1) := by decide +kernel
theorem dX5_lapses_40 : decode cX5_lapses 40 = .ok (.iload_n 2, 1) := by decide +kernel
theorem dX5_lapses_41 : decode cX5_lapses 41 = .ok (.iconst 5, 1) := by decide +kernel
theorem dX5_lapses_42 : decode cX5_lapses 42 = .ok (.invokevirtual 37, 3) := by decide +kernel
theorem dX5_lapses_45 : decode cX5_lapses 45 = .ok (.iload_n 3, 1) := by decide +kernel
theorem dX5_lapses_46 : decode cX5_lapses 46 = .ok (.if_icmp .ge 12, 3) := by decide +kernel
theorem dX5_lapses_49 : decode cX5_lapses 49 = .ok (.aload_n 0, 1) := by decide +kernel
theorem dX5_lapses_50 : decode cX5_lapses 50 = .ok (.iload_n 2, 1) := by decide +kernel
theorem dX5_lapses_51 : decode cX5_lapses 51 = .ok (.iconst 5, 1) := by decide +kernel
theorem dX5_lapses_52 : decode cX5_lapses 52 = .ok (.invokevirtual 37, 3) := by decide +kernel
theorem dX5_lapses_55 : decode cX5_lapses 55 = .ok (.goto 4, 3) := by decide +kernel
theorem dX5_lapses_58 : decode cX5_lapses 58 = .ok (.iload_n 3, 1) := by decide +kernel
theorem dX5_lapses_59 : decode cX5_lapses 59 = .ok (.istore 4, 2) := by decide +kernel
theorem dX5_lapses_61 : decode cX5_lapses 61 = .ok (.iload 4, 2) := by decide +kernel
theorem dX5_lapses_63 : decode cX5_lapses 63 = .ok (.aload_n 0, 1) := by decide +kernel
theorem dX5_lapses_64 : decode cX5_lapses 64 = .ok (.getfield 7, 3) := by decide +kernel
theorem dX5_lapses_67 : decode cX5_lapses 67 = .ok (.iconst 3, 1) := by decide +kernel
theorem dX5_lapses_68 : decode cX5_lapses 68 = .ok (.iaload, 1) := by decide +kernel
theorem dX5_lapses_69 : decode cX5_lapses 69 = .ok (.isub, 1) := by decide +kernel
theorem dX5_lapses_70 : decode cX5_lapses 70 = .ok (.iconst 1, 1) := by decide +kernel
theorem dX5_lapses_71 : decode cX5_lapses 71 = .ok (.iadd, 1) := by decide +kernel
theorem dX5_lapses_72 : decode cX5_lapses 72 = .ok (.istore 5, 2) := by decide +kernel
theorem dX5_lapses_74 : decode cX5_lapses 74 = .ok (.iload_n 1, 1) := by decide +kernel
theorem dX5_lapses_75 : decode cX5_lapses 75 = .ok (.iconst (-1), 1) := by decide +kernel
theorem dX5_lapses_76 : decode cX5_lapses 76 = .ok (.if_icmp .eq 9, 3) := by decide +kernel
theorem dX5_lapses_79 : decode cX5_lapses 79 = .ok (.iload 5, 2) := by decide +kernel
theorem dX5_lapses_81 : decode cX5_lapses 81 = .ok (.iload_n 1, 1) := by decide +kernel
theorem dX5_lapses_82 : decode cX5_lapses 82 = .ok (.if_icmp .ge 8, 3) := by decide +kernel
theorem dX5_lapses_85 : decode cX5_lapses 85 = .ok (.iload 5, 2) := by decide +kernel
theorem dX5_lapses_87 : decode cX5_lapses 87 = .ok (.goto 4, 3) := by decide +kernel
theorem dX5_lapses_90 : decode cX5_lapses 90 = .ok (.iload_n 1, 1) := by decide +kernel
theorem dX5_lapses_91 : decode cX5_lapses 91 = .ok (.istore_n 1, 1) := by decide +kernel
theorem dX5_lapses_92 : decode cX5_lapses 92 = .ok (.iinc 2 1, 3) := by decide +kernel
theorem dX5_lapses_95 : decode cX5_lapses 95 = .ok (.goto (-91), 3) := by decide +kernel
theorem dX5_lapses_98 : decode cX5_lapses 98 = .ok (.iload_n 1, 1) := by decide +kernel
theorem dX5_lapses_99 : decode cX5_lapses 99 = .ok (.ireturn, 1) := by decide +kernel
theorem dX5_nextLapse_0 : decode cX5_nextLapse 0 = .ok (.aload_n 0, 1) := by decide +kernel
theorem dX5_nextLapse_1 : decode cX5_nextLapse 1 = .ok (.iconst 0, 1) := by decide +kernel
theorem dX5_nextLapse_2 : decode cX5_nextLapse 2 = .ok (.putfield 22, 3) := by decide +kernel
theorem dX5_nextLapse_5 : decode cX5_nextLapse 5 = .ok (.aload_n 0, 1) := by decide +kernel
theorem dX5_nextLapse_6 : decode cX5_nextLapse 6 = .ok (.invokevirtual 159, 3) := by decide +kernel
theorem dX5_nextLapse_9 : decode cX5_nextLapse 9 = .ok (.ireturn, 1) := by decide +kernel
theorem dX5_cheapest_0 : decode cX5_cheapest 0 = .ok (.iconst (-1), 1) := by decide +kernel
theorem dX5_cheapest_1 : decode cX5_cheapest 1 = .ok (.istore_n 2, 1) := by decide +kernel
theorem dX5_cheapest_2 : decode cX5_cheapest 2 = .ok (.aload_n 0, 1) := by decide +kernel
theorem dX5_cheapest_3 : decode cX5_cheapest 3 = .ok (.iload_n 1, 1) := by decide +kernel
theorem dX5_cheapest_4 : decode cX5_cheapest 4 = .ok (.iconst (-1), 1) := by decide +kernel
theorem dX5_cheapest_5 : decode cX5_cheapest 5 = .ok (.invokevirtual 137, 3) := by decide +kernel
theorem dX5_cheapest_8 : decode cX5_cheapest 8 = .ok (.istore_n 3, 1) := by decide +kernel
theorem dX5_cheapest_9 : decode cX5_cheapest 9 = .ok (.iconst 0, 1) := by decide +kernel
theorem dX5_cheapest_10 : decode cX5_cheapest 10 = .ok (.istore 4, 2) := by decide +kernel
theorem dX5_cheapest_12 : decode cX5_cheapest 12 = .ok (.iload 4, 2) := by decide +kernel
theorem dX5_cheapest_14 : decode cX5_cheapest 14 = .ok (.aload_n 0, 1) := by decide +kernel
theorem dX5_cheapest_15 : decode cX5_cheapest 15 = .ok (.getfield 7, 3) := by decide +kernel
theorem dX5_cheapest_18 : decode cX5_cheapest 18 = .ok (.iconst 5, 1) := by decide +kernel
theorem dX5_cheapest_19 : decode cX5_cheapest 19 = .ok (.iaload, 1) := by decide +kernel
theorem dX5_cheapest_20 : decode cX5_cheapest 20 = .ok (.if_icmp .ge 103, 3) := by decide +kernel
theorem dX5_cheapest_23 : decode cX5_cheapest 23 = .ok (.iload_n 3, 1) := by decide +kernel
theorem dX5_cheapest_24 : decode cX5_cheapest 24 = .ok (.ifCond .ne 99, 3) := by decide +kernel
theorem dX5_cheapest_27 : decode cX5_cheapest 27 = .ok (.aload_n 0, 1) := by decide +kernel
theorem dX5_cheapest_28 : decode cX5_cheapest 28 = .ok (.iload 4, 2) := by decide +kernel
theorem dX5_cheapest_30 : decode cX5_cheapest 30 = .ok (.bipush 6, 2) := by decide +kernel
theorem dX5_cheapest_32 : decode cX5_cheapest 32 = .ok (.invokevirtual 37, 3) := by decide +kernel
theorem dX5_cheapest_35 : decode cX5_cheapest 35 = .ok (.iconst 3, 1) := by decide +kernel
theorem dX5_cheapest_36 : decode cX5_cheapest 36 = .ok (.if_icmp .ne 26, 3) := by decide +kernel
theorem dX5_cheapest_39 : decode cX5_cheapest 39 = .ok (.aload_n 0, 1) := by decide +kernel
theorem dX5_cheapest_40 : decode cX5_cheapest 40 = .ok (.iload 4, 2) := by decide +kernel
theorem dX5_cheapest_42 : decode cX5_cheapest 42 = .ok (.invokevirtual 62, 3) := by decide +kernel
theorem dX5_cheapest_45 : decode cX5_cheapest 45 = .ok (.ifCond .eq 17, 3) := by decide +kernel
theorem dX5_cheapest_48 : decode cX5_cheapest 48 = .ok (.aload_n 0, 1) := by decide +kernel
theorem dX5_cheapest_49 : decode cX5_cheapest 49 = .ok (.iload_n 1, 1) := by decide +kernel
theorem dX5_cheapest_50 : decode cX5_cheapest 50 = .ok (.iload 4, 2) := by decide +kernel
theorem dX5_cheapest_52 : decode cX5_cheapest 52 = .ok (.invokevirtual 137, 3) := by decide +kernel
theorem dX5_cheapest_55 : decode cX5_cheapest 55 = .ok (.ifCond .eq 7, 3) := by decide +kernel
theorem dX5_cheapest_58 : decode cX5_cheapest 58 = .ok (.iconst 1, 1) := by decide +kernel
theorem dX5_cheapest_59 : decode cX5_cheapest 59 = .ok (.goto 4, 3) := by decide +kernel
theorem dX5_cheapest_62 : decode cX5_cheapest 62 = .ok (.iconst 0, 1) := by decide +kernel
theorem dX5_cheapest_63 : decode cX5_cheapest 63 = .ok (.istore 5, 2) := by decide +kernel
theorem dX5_cheapest_65 : decode cX5_cheapest 65 = .ok (.iload 5, 2) := by decide +kernel
theorem dX5_cheapest_67 : decode cX5_cheapest 67 = .ok (.ifCond .eq 48, 3) := by decide +kernel
theorem dX5_cheapest_70 : decode cX5_cheapest 70 = .ok (.iload_n 2, 1) := by decide +kernel
theorem dX5_cheapest_71 : decode cX5_cheapest 71 = .ok (.iconst (-1), 1) := by decide +kernel
theorem dX5_cheapest_72 : decode cX5_cheapest 72 = .ok (.if_icmp .eq 38, 3) := by decide +kernel
theorem dX5_cheapest_75 : decode cX5_cheapest 75 = .ok (.aload_n 0, 1) := by decide +kernel
theorem dX5_cheapest_76 : decode cX5_cheapest 76 = .ok (.iload 4, 2) := by decide +kernel
theorem dX5_cheapest_78 : decode cX5_cheapest 78 = .ok (.iconst 0, 1) := by decide +kernel
theorem dX5_cheapest_79 : decode cX5_cheapest 79 = .ok (.invokevirtual 37, 3) := by decide +kernel
theorem dX5_cheapest_82 : decode cX5_cheapest 82 = .ok (.aload_n 0, 1) := by decide +kernel
theorem dX5_cheapest_83 : decode cX5_cheapest 83 = .ok (.iload 4, 2) := by decide +kernel
theorem dX5_cheapest_85 : decode cX5_cheapest 85 = .ok (.iconst 1, 1) := by decide +kernel
theorem dX5_cheapest_86 : decode cX5_cheapest 86 = .ok (.invokevirtual 37, 3) := by decide +kernel
theorem dX5_cheapest_89 : decode cX5_cheapest 89 = .ok (.invokestatic 70, 3) := by decide +kernel
theorem dX5_cheapest_92 : decode cX5_cheapest 92 = .ok (.aload_n 0, 1) := by decide +kernel
theorem dX5_cheapest_93 : decode cX5_cheapest 93 = .ok (.iload_n 2, 1) := by decide +kernel
theorem dX5_cheapest_94 : decode cX5_cheapest 94 = .ok (.iconst 0, 1) := by decide +kernel
theorem dX5_cheapest_95 : decode cX5_cheapest 95 = .ok (.invokevirtual 37, 3) := by decide +kernel
theorem dX5_cheapest_98 : decode cX5_cheapest 98 = .ok (.aload_n 0, 1) := by decide +kernel
theorem dX5_cheapest_99 : decode cX5_cheapest 99 = .ok (.iload_n 2, 1) := by decide +kernel
theorem dX5_cheapest_100 : decode cX5_cheapest 100 = .ok (.iconst 1, 1) := by decide +kernel
theorem dX5_cheapest_101 : decode cX5_cheapest 101 = .ok (.invokevirtual 37, 3) := by decide +kernel
theorem dX5_cheapest_104 : decode cX5_cheapest 104 = .ok (.invokestatic 70, 3) := by decide +kernel
theorem dX5_cheapest_107 : decode cX5_cheapest 107 = .ok (.if_icmp .ge 8, 3) := by decide +kernel
theorem dX5_cheapest_110 : decode cX5_cheapest 110 = .ok (.iload 4, 2) := by decide +kernel
theorem dX5_cheapest_112 : decode cX5_cheapest 112 = .ok (.goto 4, 3) := by decide +kernel
theorem dX5_cheapest_115 : decode cX5_cheapest 115 = .ok (.iload_n 2, 1) := by decide +kernel
theorem dX5_cheapest_116 : decode cX5_cheapest 116 = .ok (.istore_n 2, 1) := by decide +kernel
theorem dX5_cheapest_117 : decode cX5_cheapest 117 = .ok (.iinc 4 1, 3) := by decide +kernel
theorem dX5_cheapest_120 : decode cX5_cheapest 120 = .ok (.goto (-108), 3) := by decide +kernel
theorem dX5_cheapest_123 : decode cX5_cheapest 123 = .ok (.iload_n 2, 1) := by decide +kernel
theorem dX5_cheapest_124 : decode cX5_cheapest 124 = .ok (.ireturn, 1) := by decide +kernel
theorem dX5_helps_0 : decode cX5_helps 0 = .ok (.aload_n 0, 1) := by decide +kernel
theorem dX5_helps_1 : decode cX5_helps 1 = .ok (.iconst 0, 1) := by decide +kernel
theorem dX5_helps_2 : decode cX5_helps 2 = .ok (.putfield 22, 3) := by decide +kernel
theorem dX5_helps_5 : decode cX5_helps 5 = .ok (.iload_n 1, 1) := by decide +kernel
theorem dX5_helps_6 : decode cX5_helps 6 = .ok (.invokestatic 99, 3) := by decide +kernel
theorem dX5_helps_9 : decode cX5_helps 9 = .ok (.ifCond .eq 11, 3) := by decide +kernel
theorem dX5_helps_12 : decode cX5_helps 12 = .ok (.aload_n 0, 1) := by decide +kernel
theorem dX5_helps_13 : decode cX5_helps 13 = .ok (.iload_n 1, 1) := by decide +kernel
theorem dX5_helps_14 : decode cX5_helps 14 = .ok (.invokevirtual 163, 3) := by decide +kernel
theorem dX5_helps_17 : decode cX5_helps 17 = .ok (.goto 8, 3) := by decide +kernel
theorem dX5_helps_20 : decode cX5_helps 20 = .ok (.aload_n 0, 1) := by decide +kernel
theorem dX5_helps_21 : decode cX5_helps 21 = .ok (.iconst 1, 1) := by decide +kernel
theorem dX5_helps_22 : decode cX5_helps 22 = .ok (.invokevirtual 33, 3) := by decide +kernel
theorem dX5_helps_25 : decode cX5_helps 25 = .ok (.ireturn, 1) := by decide +kernel
theorem dX5_share_0 : decode cX5_share 0 = .ok (.aload_n 0, 1) := by decide +kernel
theorem dX5_share_1 : decode cX5_share 1 = .ok (.getfield 7, 3) := by decide +kernel
theorem dX5_share_4 : decode cX5_share 4 = .ok (.iconst 5, 1) := by decide +kernel
theorem dX5_share_5 : decode cX5_share 5 = .ok (.iaload, 1) := by decide +kernel
theorem dX5_share_6 : decode cX5_share 6 = .ok (.aload_n 0, 1) := by decide +kernel
theorem dX5_share_7 : decode cX5_share 7 = .ok (.iconst 1, 1) := by decide +kernel
theorem dX5_share_8 : decode cX5_share 8 = .ok (.invokevirtual 147, 3) := by decide +kernel
theorem dX5_share_11 : decode cX5_share 11 = .ok (.isub, 1) := by decide +kernel
theorem dX5_share_12 : decode cX5_share 12 = .ok (.istore_n 1, 1) := by decide +kernel
theorem dX5_share_13 : decode cX5_share 13 = .ok (.iload_n 1, 1) := by decide +kernel
theorem dX5_share_14 : decode cX5_share 14 = .ok (.ifCond .ne 7, 3) := by decide +kernel
theorem dX5_share_17 : decode cX5_share 17 = .ok (.dconst 1, 1) := by decide +kernel
theorem dX5_share_18 : decode cX5_share 18 = .ok (.goto 12, 3) := by decide +kernel
theorem dX5_share_21 : decode cX5_share 21 = .ok (.aload_n 0, 1) := by decide +kernel
theorem dX5_share_22 : decode cX5_share 22 = .ok (.iconst 0, 1) := by decide +kernel
theorem dX5_share_23 : decode cX5_share 23 = .ok (.invokevirtual 147, 3) := by decide +kernel
theorem dX5_share_26 : decode cX5_share 26 = .ok (.i2d, 1) := by decide +kernel
theorem dX5_share_27 : decode cX5_share 27 = .ok (.iload_n 1, 1) := by decide +kernel
theorem dX5_share_28 : decode cX5_share 28 = .ok (.i2d, 1) := by decide +kernel
theorem dX5_share_29 : decode cX5_share 29 = .ok (.ddiv, 1) := by decide +kernel
theorem dX5_share_30 : decode cX5_share 30 = .ok (.dreturn, 1) := by decide +kernel
theorem dX5_readyShare_0 : decode cX5_readyShare 0 = .ok (.aload_n 0, 1) := by decide +kernel
theorem dX5_readyShare_1 : decode cX5_readyShare 1 = .ok (.iconst 0, 1) := by decide +kernel
theorem dX5_readyShare_2 : decode cX5_readyShare 2 = .ok (.putfield 22, 3) := by decide +kernel
theorem dX5_readyShare_5 : decode cX5_readyShare 5 = .ok (.aload_n 0, 1) := by decide +kernel
theorem dX5_readyShare_6 : decode cX5_readyShare 6 = .ok (.invokevirtual 166, 3) := by decide +kernel
theorem dX5_readyShare_9 : decode cX5_readyShare 9 = .ok (.dreturn, 1) := by decide +kernel
theorem dX5_digest_0 : decode cX5_digest 0 = .ok (.aload_n 0, 1) := by decide +kernel
theorem dX5_digest_1 : decode cX5_digest 1 = .ok (.iconst 0, 1) := by decide +kernel
theorem dX5_digest_2 : decode cX5_digest 2 = .ok (.putfield 22, 3) := by decide +kernel
theorem dX5_digest_5 : decode cX5_digest 5 = .ok (.ldc2_w 170, 3) := by decide +kernel
theorem dX5_digest_8 : decode cX5_digest 8 = .ok (.lstore_n 1, 1) := by decide +kernel
theorem dX5_digest_9 : decode cX5_digest 9 = .ok (.iconst 0, 1) := by decide +kernel
theorem dX5_digest_10 : decode cX5_digest 10 = .ok (.istore_n 3, 1) := by decide +kernel
theorem dX5_digest_11 : decode cX5_digest 11 = .ok (.iload_n 3, 1) := by decide +kernel
theorem dX5_digest_12 : decode cX5_digest 12 = .ok (.bipush 11, 2) := by decide +kernel
theorem dX5_digest_14 : decode cX5_digest 14 = .ok (.if_icmp .ge 22, 3) := by decide +kernel
theorem dX5_digest_17 : decode cX5_digest 17 = .ok (.ldc2_w 172, 3) := by decide +kernel
theorem dX5_digest_20 : decode cX5_digest 20 = .ok (.lload_n 1, 1) := by decide +kernel
theorem dX5_digest_21 : decode cX5_digest 21 = .ok (.lmul, 1) := by decide +kernel
theorem dX5_digest_22 : decode cX5_digest 22 = .ok (.aload_n 0, 1) := by decide +kernel
theorem dX5_digest_23 : decode cX5_digest 23 = .ok (.iload_n 3, 1) := by decide +kernel
theorem dX5_digest_24 : decode cX5_digest 24 = .ok (.invokevirtual 150, 3) := by decide +kernel
theorem dX5_digest_27 : decode cX5_digest 27 = .ok (.i2l, 1) := by decide +kernel
theorem dX5_digest_28 : decode cX5_digest 28 = .ok (.ladd, 1) := by decide +kernel
theorem dX5_digest_29 : decode cX5_digest 29 = .ok (.lstore_n 1, 1) := by decide +kernel
theorem dX5_digest_30 : decode cX5_digest 30 = .ok (.iinc 3 1, 3) := by decide +kernel
theorem dX5_digest_33 : decode cX5_digest 33 = .ok (.goto (-22), 3) := by decide +kernel
theorem dX5_digest_36 : decode cX5_digest 36 = .ok (.iconst 0, 1) := by decide +kernel
theorem dX5_digest_37 : decode cX5_digest 37 = .ok (.istore_n 3, 1) := by decide +kernel
theorem dX5_digest_38 : decode cX5_digest 38 = .ok (.iload_n 3, 1) := by decide +kernel
theorem dX5_digest_39 : decode cX5_digest 39 = .ok (.iconst 3, 1) := by decide +kernel
theorem dX5_digest_40 : decode cX5_digest 40 = .ok (.if_icmp .ge 23, 3) := by decide +kernel
theorem dX5_digest_43 : decode cX5_digest 43 = .ok (.ldc2_w 172, 3) := by decide +kernel
theorem dX5_digest_46 : decode cX5_digest 46 = .ok (.lload_n 1, 1) := by decide +kernel
theorem dX5_digest_47 : decode cX5_digest 47 = .ok (.lmul, 1) := by decide +kernel
theorem dX5_digest_48 : decode cX5_digest 48 = .ok (.aload_n 0, 1) := by decide +kernel
theorem dX5_digest_49 : decode cX5_digest 49 = .ok (.getfield 7, 3) := by decide +kernel
theorem dX5_digest_52 : decode cX5_digest 52 = .ok (.iload_n 3, 1) := by decide +kernel
theorem dX5_digest_53 : decode cX5_digest 53 = .ok (.iaload, 1) := by decide +kernel
theorem dX5_digest_54 : decode cX5_digest 54 = .ok (.i2l, 1) := by decide +kernel
theorem dX5_digest_55 : decode cX5_digest 55 = .ok (.ladd, 1) := by decide +kernel
theorem dX5_digest_56 : decode cX5_digest 56 = .ok (.lstore_n 1, 1) := by decide +kernel
theorem dX5_digest_57 : decode cX5_digest 57 = .ok (.iinc 3 1, 3) := by decide +kernel
theorem dX5_digest_60 : decode cX5_digest 60 = .ok (.goto (-22), 3) := by decide +kernel
theorem dX5_digest_63 : decode cX5_digest 63 = .ok (.iconst 0, 1) := by decide +kernel
theorem dX5_digest_64 : decode cX5_digest 64 = .ok (.istore_n 3, 1) := by decide +kernel
theorem dX5_digest_65 : decode cX5_digest 65 = .ok (.iload_n 3, 1) := by decide +kernel
theorem dX5_digest_66 : decode cX5_digest 66 = .ok (.aload_n 0, 1) := by decide +kernel
theorem dX5_digest_67 : decode cX5_digest 67 = .ok (.getfield 7, 3) := by decide +kernel
theorem dX5_digest_70 : decode cX5_digest 70 = .ok (.iconst 5, 1) := by decide +kernel
theorem dX5_digest_71 : decode cX5_digest 71 = .ok (.iaload, 1) := by decide +kernel
theorem dX5_digest_72 : decode cX5_digest 72 = .ok (.if_icmp .ge 66, 3) := by decide +kernel
theorem dX5_digest_75 : decode cX5_digest 75 = .ok (.iconst 0, 1) := by decide +kernel
theorem dX5_digest_76 : decode cX5_digest 76 = .ok (.istore 4, 2) := by decide +kernel
theorem dX5_digest_78 : decode cX5_digest 78 = .ok (.iload 4, 2) := by decide +kernel
theorem dX5_digest_80 : decode cX5_digest 80 = .ok (.bipush 10, 2) := by decide +kernel
theorem dX5_digest_82 : decode cX5_digest 82 = .ok (.if_icmp .ge 24, 3) := by decide +kernel
theorem dX5_digest_85 : decode cX5_digest 85 = .ok (.ldc2_w 172, 3) := by decide +kernel
theorem dX5_digest_88 : decode cX5_digest 88 = .ok (.lload_n 1, 1) := by decide +kernel
theorem dX5_digest_89 : decode cX5_digest 89 = .ok (.lmul, 1) := by decide +kernel
theorem dX5_digest_90 : decode cX5_digest 90 = .ok (.aload_n 0, 1) := by decide +kernel
theorem dX5_digest_91 : decode cX5_digest 91 = .ok (.iload_n 3, 1) := by decide +kernel
theorem dX5_digest_92 : decode cX5_digest 92 = .ok (.iload 4, 2) := by decide +kernel
theorem dX5_digest_94 : decode cX5_digest 94 = .ok (.invokevirtual 134, 3) := by decide +kernel
theorem dX5_digest_97 : decode cX5_digest 97 = .ok (.i2l, 1) := by decide +kernel
theorem dX5_digest_98 : decode cX5_digest 98 = .ok (.ladd, 1) := by decide +kernel
theorem dX5_digest_99 : decode cX5_digest 99 = .ok (.lstore_n 1, 1) := by decide +kernel
theorem dX5_digest_100 : decode cX5_digest 100 = .ok (.iinc 4 1, 3) := by decide +kernel
theorem dX5_digest_103 : decode cX5_digest 103 = .ok (.goto (-25), 3) := by decide +kernel
theorem dX5_digest_106 : decode cX5_digest 106 = .ok (.ldc2_w 172, 3) := by decide +kernel
theorem dX5_digest_109 : decode cX5_digest 109 = .ok (.ldc2_w 172, 3) := by decide +kernel
theorem dX5_digest_112 : decode cX5_digest 112 = .ok (.lload_n 1, 1) := by decide +kernel
theorem dX5_digest_113 : decode cX5_digest 113 = .ok (.lmul, 1) := by decide +kernel
theorem dX5_digest_114 : decode cX5_digest 114 = .ok (.aload_n 0, 1) := by decide +kernel
theorem dX5_digest_115 : decode cX5_digest 115 = .ok (.iload_n 3, 1) := by decide +kernel
theorem dX5_digest_116 : decode cX5_digest 116 = .ok (.bipush 12, 2) := by decide +kernel
theorem dX5_digest_118 : decode cX5_digest 118 = .ok (.invokevirtual 153, 3) := by decide +kernel
theorem dX5_digest_121 : decode cX5_digest 121 = .ok (.i2l, 1) := by decide +kernel
theorem dX5_digest_122 : decode cX5_digest 122 = .ok (.ladd, 1) := by decide +kernel
theorem dX5_digest_123 : decode cX5_digest 123 = .ok (.lmul, 1) := by decide +kernel
theorem dX5_digest_124 : decode cX5_digest 124 = .ok (.aload_n 0, 1) := by decide +kernel
theorem dX5_digest_125 : decode cX5_digest 125 = .ok (.iload_n 3, 1) := by decide +kernel
theorem dX5_digest_126 : decode cX5_digest 126 = .ok (.invokevirtual 156, 3) := by decide +kernel
theorem dX5_digest_129 : decode cX5_digest 129 = .ok (.i2l, 1) := by decide +kernel
theorem dX5_digest_130 : decode cX5_digest 130 = .ok (.ladd, 1) := by decide +kernel
theorem dX5_digest_131 : decode cX5_digest 131 = .ok (.lstore_n 1, 1) := by decide +kernel
theorem dX5_digest_132 : decode cX5_digest 132 = .ok (.iinc 3 1, 3) := by decide +kernel
theorem dX5_digest_135 : decode cX5_digest 135 = .ok (.goto (-70), 3) := by decide +kernel
theorem dX5_digest_138 : decode cX5_digest 138 = .ok (.iconst 0, 1) := by decide +kernel
theorem dX5_digest_139 : decode cX5_digest 139 = .ok (.istore_n 3, 1) := by decide +kernel
theorem dX5_digest_140 : decode cX5_digest 140 = .ok (.iload_n 3, 1) := by decide +kernel
theorem dX5_digest_141 : decode cX5_digest 141 = .ok (.iconst 3, 1) := by decide +kernel
theorem dX5_digest_142 : decode cX5_digest 142 = .ok (.if_icmp .ge 53, 3) := by decide +kernel
theorem dX5_digest_145 : decode cX5_digest 145 = .ok (.iconst 0, 1) := by decide +kernel
theorem dX5_digest_146 : decode cX5_digest 146 = .ok (.istore 4, 2) := by decide +kernel
theorem dX5_digest_148 : decode cX5_digest 148 = .ok (.iload 4, 2) := by decide +kernel
theorem dX5_digest_150 : decode cX5_digest 150 = .ok (.bipush 7, 2) := by decide +kernel
theorem dX5_digest_152 : decode cX5_digest 152 = .ok (.if_icmp .ge 24, 3) := by decide +kernel
theorem dX5_digest_155 : decode cX5_digest 155 = .ok (.ldc2_w 172, 3) := by decide +kernel
theorem dX5_digest_158 : decode cX5_digest 158 = .ok (.lload_n 1, 1) := by decide +kernel
theorem dX5_digest_159 : decode cX5_digest 159 = .ok (.lmul, 1) := by decide +kernel
theorem dX5_digest_160 : decode cX5_digest 160 = .ok (.aload_n 0, 1) := by decide +kernel
theorem dX5_digest_161 : decode cX5_digest 161 = .ok (.iload_n 3, 1) := by decide +kernel
theorem dX5_digest_162 : decode cX5_digest 162 = .ok (.iload 4, 2) := by decide +kernel
theorem dX5_digest_164 : decode cX5_digest 164 = .ok (.invokevirtual 144, 3) := by decide +kernel
theorem dX5_digest_167 : decode cX5_digest 167 = .ok (.i2l, 1) := by decide +kernel
theorem dX5_digest_168 : decode cX5_digest 168 = .ok (.ladd, 1) := by decide +kernel
theorem dX5_digest_169 : decode cX5_digest 169 = .ok (.lstore_n 1, 1) := by decide +kernel
theorem dX5_digest_170 : decode cX5_digest 170 = .ok (.iinc 4 1, 3) := by decide +kernel
theorem dX5_digest_173 : decode cX5_digest 173 = .ok (.goto (-25), 3) := by decide +kernel
theorem dX5_digest_176 : decode cX5_digest 176 = .ok (.ldc2_w 172, 3) := by decide +kernel
theorem dX5_digest_179 : decode cX5_digest 179 = .ok (.lload_n 1, 1) := by decide +kernel
theorem dX5_digest_180 : decode cX5_digest 180 = .ok (.lmul, 1) := by decide +kernel
theorem dX5_digest_181 : decode cX5_digest 181 = .ok (.aload_n 0, 1) := by decide +kernel
theorem dX5_digest_182 : decode cX5_digest 182 = .ok (.iload_n 3, 1) := by decide +kernel
theorem dX5_digest_183 : decode cX5_digest 183 = .ok (.invokevirtual 163, 3) := by decide +kernel
theorem dX5_digest_186 : decode cX5_digest 186 = .ok (.i2l, 1) := by decide +kernel
theorem dX5_digest_187 : decode cX5_digest 187 = .ok (.ladd, 1) := by decide +kernel
theorem dX5_digest_188 : decode cX5_digest 188 = .ok (.lstore_n 1, 1) := by decide +kernel
theorem dX5_digest_189 : decode cX5_digest 189 = .ok (.iinc 3 1, 3) := by decide +kernel
theorem dX5_digest_192 : decode cX5_digest 192 = .ok (.goto (-52), 3) := by decide +kernel
theorem dX5_digest_195 : decode cX5_digest 195 = .ok (.ldc2_w 172, 3) := by decide +kernel
theorem dX5_digest_198 : decode cX5_digest 198 = .ok (.lload_n 1, 1) := by decide +kernel
theorem dX5_digest_199 : decode cX5_digest 199 = .ok (.lmul, 1) := by decide +kernel
theorem dX5_digest_200 : decode cX5_digest 200 = .ok (.aload_n 0, 1) := by decide +kernel
theorem dX5_digest_201 : decode cX5_digest 201 = .ok (.invokevirtual 159, 3) := by decide +kernel
theorem dX5_digest_204 : decode cX5_digest 204 = .ok (.i2l, 1) := by decide +kernel
theorem dX5_digest_205 : decode cX5_digest 205 = .ok (.ladd, 1) := by decide +kernel
theorem dX5_digest_206 : decode cX5_digest 206 = .ok (.lstore_n 1, 1) := by decide +kernel
theorem dX5_digest_207 : decode cX5_digest 207 = .ok (.ldc2_w 172, 3) := by decide +kernel
theorem dX5_digest_210 : decode cX5_digest 210 = .ok (.ldc2_w 172, 3) := by decide +kernel
theorem dX5_digest_213 : decode cX5_digest 213 = .ok (.lload_n 1, 1) := by decide +kernel
theorem dX5_digest_214 : decode cX5_digest 214 = .ok (.lmul, 1) := by decide +kernel
theorem dX5_digest_215 : decode cX5_digest 215 = .ok (.aload_n 0, 1) := by decide +kernel
theorem dX5_digest_216 : decode cX5_digest 216 = .ok (.invokevirtual 166, 3) := by decide +kernel
theorem dX5_digest_219 : decode cX5_digest 219 = .ok (.invokestatic 174, 3) := by decide +kernel
theorem dX5_digest_222 : decode cX5_digest 222 = .ok (.ladd, 1) := by decide +kernel
theorem dX5_digest_223 : decode cX5_digest 223 = .ok (.lmul, 1) := by decide +kernel
theorem dX5_digest_224 : decode cX5_digest 224 = .ok (.aload_n 0, 1) := by decide +kernel
theorem dX5_digest_225 : decode cX5_digest 225 = .ok (.getfield 105, 3) := by decide +kernel
theorem dX5_digest_228 : decode cX5_digest 228 = .ok (.i2l, 1) := by decide +kernel
theorem dX5_digest_229 : decode cX5_digest 229 = .ok (.ladd, 1) := by decide +kernel
theorem dX5_digest_230 : decode cX5_digest 230 = .ok (.lstore_n 1, 1) := by decide +kernel
theorem dX5_digest_231 : decode cX5_digest 231 = .ok (.iconst 0, 1) := by decide +kernel
theorem dX5_digest_232 : decode cX5_digest 232 = .ok (.istore_n 3, 1) := by decide +kernel
theorem dX5_digest_233 : decode cX5_digest 233 = .ok (.iload_n 3, 1) := by decide +kernel
theorem dX5_digest_234 : decode cX5_digest 234 = .ok (.aload_n 0, 1) := by decide +kernel
theorem dX5_digest_235 : decode cX5_digest 235 = .ok (.getfield 105, 3) := by decide +kernel
theorem dX5_digest_238 : decode cX5_digest 238 = .ok (.if_icmp .ge 23, 3) := by decide +kernel
theorem dX5_digest_241 : decode cX5_digest 241 = .ok (.ldc2_w 172, 3) := by decide +kernel
theorem dX5_digest_244 : decode cX5_digest 244 = .ok (.lload_n 1, 1) := by decide +kernel
theorem dX5_digest_245 : decode cX5_digest 245 = .ok (.lmul, 1) := by decide +kernel
theorem dX5_digest_246 : decode cX5_digest 246 = .ok (.aload_n 0, 1) := by decide +kernel
theorem dX5_digest_247 : decode cX5_digest 247 = .ok (.getfield 16, 3) := by decide +kernel
theorem dX5_digest_250 : decode cX5_digest 250 = .ok (.iload_n 3, 1) := by decide +kernel
theorem dX5_digest_251 : decode cX5_digest 251 = .ok (.iaload, 1) := by decide +kernel
theorem dX5_digest_252 : decode cX5_digest 252 = .ok (.i2l, 1) := by decide +kernel
theorem dX5_digest_253 : decode cX5_digest 253 = .ok (.ladd, 1) := by decide +kernel
theorem dX5_digest_254 : decode cX5_digest 254 = .ok (.lstore_n 1, 1) := by decide +kernel
theorem dX5_digest_255 : decode cX5_digest 255 = .ok (.iinc 3 1, 3) := by decide +kernel
theorem dX5_digest_258 : decode cX5_digest 258 = .ok (.goto (-25), 3) := by decide +kernel
theorem dX5_digest_261 : decode cX5_digest 261 = .ok (.lload_n 1, 1) := by decide +kernel
theorem dX5_digest_262 : decode cX5_digest 262 = .ok (.lreturn, 1) := by decide +kernel
theorem dJxe99ae_isNaN_b9ae7_0 : decode cJxe99ae_isNaN_b9ae7 0 = .ok (.dload_n 0, 1) := by decide +kernel
theorem dJxe99ae_isNaN_b9ae7_1 : decode cJxe99ae_isNaN_b9ae7 1 = .ok (.dload_n 0, 1) := by decide +kernel
theorem dJxe99ae_isNaN_b9ae7_2 : decode cJxe99ae_isNaN_b9ae7 2 = .ok (.dcmp .l, 1) := by decide +kernel
theorem dJxe99ae_isNaN_b9ae7_3 : decode cJxe99ae_isNaN_b9ae7 3 = .ok (.ifCond .eq 7, 3) := by decide +kernel
theorem dJxe99ae_isNaN_b9ae7_6 : decode cJxe99ae_isNaN_b9ae7 6 = .ok (.iconst 1, 1) := by decide +kernel
theorem dJxe99ae_isNaN_b9ae7_7 : decode cJxe99ae_isNaN_b9ae7 7 = .ok (.goto 4, 3) := by decide +kernel
theorem dJxe99ae_isNaN_b9ae7_10 : decode cJxe99ae_isNaN_b9ae7 10 = .ok (.iconst 0, 1) := by decide +kernel
theorem dJxe99ae_isNaN_b9ae7_11 : decode cJxe99ae_isNaN_b9ae7 11 = .ok (.ireturn, 1) := by decide +kernel
theorem dJxe99ae_doubleToLongBits_ccdee_0 : decode cJxe99ae_doubleToLongBits_ccdee 0 = .ok (.dload_n 0, 1) := by decide +kernel
theorem dJxe99ae_doubleToLongBits_ccdee_1 : decode cJxe99ae_doubleToLongBits_ccdee 1 = .ok (.invokestatic 122, 3) := by decide +kernel
theorem dJxe99ae_doubleToLongBits_ccdee_4 : decode cJxe99ae_doubleToLongBits_ccdee 4 = .ok (.ifCond .ne 8, 3) := by decide +kernel
theorem dJxe99ae_doubleToLongBits_ccdee_7 : decode cJxe99ae_doubleToLongBits_ccdee 7 = .ok (.dload_n 0, 1) := by decide +kernel
theorem dJxe99ae_doubleToLongBits_ccdee_8 : decode cJxe99ae_doubleToLongBits_ccdee 8 = .ok (.invokestatic 134, 3) := by decide +kernel
theorem dJxe99ae_doubleToLongBits_ccdee_11 : decode cJxe99ae_doubleToLongBits_ccdee 11 = .ok (.lreturn, 1) := by decide +kernel
theorem dJxe99ae_doubleToLongBits_ccdee_12 : decode cJxe99ae_doubleToLongBits_ccdee 12 = .ok (.ldc2_w 137, 3) := by decide +kernel
theorem dJxe99ae_doubleToLongBits_ccdee_15 : decode cJxe99ae_doubleToLongBits_ccdee 15 = .ok (.lreturn, 1) := by decide +kernel
theorem dJ9_max_7cf53_0 : decode cJ9_max_7cf53 0 = .ok (.iload_n 0, 1) := by decide +kernel
theorem dJ9_max_7cf53_1 : decode cJ9_max_7cf53 1 = .ok (.iload_n 1, 1) := by decide +kernel
theorem dJ9_max_7cf53_2 : decode cJ9_max_7cf53 2 = .ok (.if_icmp .lt 7, 3) := by decide +kernel
theorem dJ9_max_7cf53_5 : decode cJ9_max_7cf53 5 = .ok (.iload_n 0, 1) := by decide +kernel
theorem dJ9_max_7cf53_6 : decode cJ9_max_7cf53 6 = .ok (.goto 4, 3) := by decide +kernel
theorem dJ9_max_7cf53_9 : decode cJ9_max_7cf53 9 = .ok (.iload_n 1, 1) := by decide +kernel
theorem dJ9_max_7cf53_10 : decode cJ9_max_7cf53 10 = .ok (.ireturn, 1) := by decide +kernel
theorem dJ9_min_7cf53_0 : decode cJ9_min_7cf53 0 = .ok (.iload_n 0, 1) := by decide +kernel
theorem dJ9_min_7cf53_1 : decode cJ9_min_7cf53 1 = .ok (.iload_n 1, 1) := by decide +kernel
theorem dJ9_min_7cf53_2 : decode cJ9_min_7cf53 2 = .ok (.if_icmp .gt 7, 3) := by decide +kernel
theorem dJ9_min_7cf53_5 : decode cJ9_min_7cf53 5 = .ok (.iload_n 0, 1) := by decide +kernel
theorem dJ9_min_7cf53_6 : decode cJ9_min_7cf53 6 = .ok (.goto 4, 3) := by decide +kernel
theorem dJ9_min_7cf53_9 : decode cJ9_min_7cf53 9 = .ok (.iload_n 1, 1) := by decide +kernel
theorem dJ9_min_7cf53_10 : decode cJ9_min_7cf53 10 = .ok (.ireturn, 1) := by decide +kernel
theorem dL_buy_0 : decode cL_buy 0 = .ok (.aload 4, 2) := by decide +kernel
theorem dL_buy_2 : decode cL_buy 2 = .ok (.iconst 0, 1) := by decide +kernel
theorem dL_buy_3 : decode cL_buy 3 = .ok (.aload_n 0, 1) := by decide +kernel
theorem dL_buy_4 : decode cL_buy 4 = .ok (.iload_n 1, 1) := by decide +kernel
theorem dL_buy_5 : decode cL_buy 5 = .ok (.iload_n 2, 1) := by decide +kernel
theorem dL_buy_6 : decode cL_buy 6 = .ok (.iload_n 3, 1) := by decide +kernel
theorem dL_buy_7 : decode cL_buy 7 = .ok (.invokevirtual 7, 3) := by decide +kernel
theorem dL_buy_10 : decode cL_buy 10 = .ok (.i2l, 1) := by decide +kernel
theorem dL_buy_11 : decode cL_buy 11 = .ok (.lastore, 1) := by decide +kernel
theorem dL_buy_12 : decode cL_buy 12 = .ok (.goto 11, 3) := by decide +kernel
theorem dL_buy_15 : decode cL_buy 15 = .ok (.astore 5, 2) := by decide +kernel
theorem dL_buy_17 : decode cL_buy 17 = .ok (.iconst 1, 1) := by decide +kernel
theorem dL_buy_18 : decode cL_buy 18 = .ok (.ireturn, 1) := by decide +kernel
theorem dL_buy_19 : decode cL_buy 19 = .ok (.astore 5, 2) := by decide +kernel
theorem dL_buy_21 : decode cL_buy 21 = .ok (.iconst 2, 1) := by decide +kernel
theorem dL_buy_22 : decode cL_buy 22 = .ok (.ireturn, 1) := by decide +kernel
theorem dL_buy_23 : decode cL_buy 23 = .ok (.iconst 0, 1) := by decide +kernel
theorem dL_buy_24 : decode cL_buy 24 = .ok (.ireturn, 1) := by decide +kernel
theorem dL_renew_0 : decode cL_renew 0 = .ok (.aload_n 2, 1) := by decide +kernel
theorem dL_renew_1 : decode cL_renew 1 = .ok (.iconst 0, 1) := by decide +kernel
theorem dL_renew_2 : decode cL_renew 2 = .ok (.aload_n 0, 1) := by decide +kernel
theorem dL_renew_3 : decode cL_renew 3 = .ok (.iload_n 1, 1) := by decide +kernel
theorem dL_renew_4 : decode cL_renew 4 = .ok (.invokevirtual 17, 3) := by decide +kernel
theorem dL_renew_7 : decode cL_renew 7 = .ok (.i2l, 1) := by decide +kernel
theorem dL_renew_8 : decode cL_renew 8 = .ok (.lastore, 1) := by decide +kernel
theorem dL_renew_9 : decode cL_renew 9 = .ok (.goto 9, 3) := by decide +kernel
theorem dL_renew_12 : decode cL_renew 12 = .ok (.astore_n 3, 1) := by decide +kernel
theorem dL_renew_13 : decode cL_renew 13 = .ok (.iconst 1, 1) := by decide +kernel
theorem dL_renew_14 : decode cL_renew 14 = .ok (.ireturn, 1) := by decide +kernel
theorem dL_renew_15 : decode cL_renew 15 = .ok (.astore_n 3, 1) := by decide +kernel
theorem dL_renew_16 : decode cL_renew 16 = .ok (.iconst 2, 1) := by decide +kernel
theorem dL_renew_17 : decode cL_renew 17 = .ok (.ireturn, 1) := by decide +kernel
theorem dL_renew_18 : decode cL_renew 18 = .ok (.iconst 0, 1) := by decide +kernel
theorem dL_renew_19 : decode cL_renew 19 = .ok (.ireturn, 1) := by decide +kernel
theorem dL_put_0 : decode cL_put 0 = .ok (.aload_n 3, 1) := by decide +kernel
theorem dL_put_1 : decode cL_put 1 = .ok (.iconst 0, 1) := by decide +kernel
theorem dL_put_2 : decode cL_put 2 = .ok (.aload_n 0, 1) := by decide +kernel
theorem dL_put_3 : decode cL_put 3 = .ok (.iload_n 1, 1) := by decide +kernel
theorem dL_put_4 : decode cL_put 4 = .ok (.iload_n 2, 1) := by decide +kernel
theorem dL_put_5 : decode cL_put 5 = .ok (.invokevirtual 23, 3) := by decide +kernel
theorem dL_put_8 : decode cL_put 8 = .ok (.i2l, 1) := by decide +kernel
theorem dL_put_9 : decode cL_put 9 = .ok (.lastore, 1) := by decide +kernel
theorem dL_put_10 : decode cL_put 10 = .ok (.goto 15, 3) := by decide +kernel
theorem dL_put_13 : decode cL_put 13 = .ok (.astore 4, 2) := by decide +kernel
theorem dL_put_15 : decode cL_put 15 = .ok (.iconst 1, 1) := by decide +kernel
theorem dL_put_16 : decode cL_put 16 = .ok (.ireturn, 1) := by decide +kernel
theorem dL_put_17 : decode cL_put 17 = .ok (.astore 4, 2) := by decide +kernel
theorem dL_put_19 : decode cL_put 19 = .ok (.iconst 2, 1) := by decide +kernel
theorem dL_put_20 : decode cL_put 20 = .ok (.ireturn, 1) := by decide +kernel
theorem dL_put_21 : decode cL_put 21 = .ok (.astore 4, 2) := by decide +kernel
theorem dL_put_23 : decode cL_put 23 = .ok (.iconst 3, 1) := by decide +kernel
theorem dL_put_24 : decode cL_put 24 = .ok (.ireturn, 1) := by decide +kernel
theorem dL_put_25 : decode cL_put 25 = .ok (.iconst 0, 1) := by decide +kernel
theorem dL_put_26 : decode cL_put 26 = .ok (.ireturn, 1) := by decide +kernel
theorem dL_lend_0 : decode cL_lend 0 = .ok (.aload_n 3, 1) := by decide +kernel
theorem dL_lend_1 : decode cL_lend 1 = .ok (.iconst 0, 1) := by decide +kernel
theorem dL_lend_2 : decode cL_lend 2 = .ok (.aload_n 0, 1) := by decide +kernel
theorem dL_lend_3 : decode cL_lend 3 = .ok (.iload_n 1, 1) := by decide +kernel
theorem dL_lend_4 : decode cL_lend 4 = .ok (.iload_n 2, 1) := by decide +kernel
theorem dL_lend_5 : decode cL_lend 5 = .ok (.invokevirtual 27, 3) := by decide +kernel
theorem dL_lend_8 : decode cL_lend 8 = .ok (.i2l, 1) := by decide +kernel
theorem dL_lend_9 : decode cL_lend 9 = .ok (.lastore, 1) := by decide +kernel
theorem dL_lend_10 : decode cL_lend 10 = .ok (.goto 15, 3) := by decide +kernel
theorem dL_lend_13 : decode cL_lend 13 = .ok (.astore 4, 2) := by decide +kernel
theorem dL_lend_15 : decode cL_lend 15 = .ok (.iconst 1, 1) := by decide +kernel
theorem dL_lend_16 : decode cL_lend 16 = .ok (.ireturn, 1) := by decide +kernel
theorem dL_lend_17 : decode cL_lend 17 = .ok (.astore 4, 2) := by decide +kernel
theorem dL_lend_19 : decode cL_lend 19 = .ok (.iconst 2, 1) := by decide +kernel
theorem dL_lend_20 : decode cL_lend 20 = .ok (.ireturn, 1) := by decide +kernel
theorem dL_lend_21 : decode cL_lend 21 = .ok (.astore 4, 2) := by decide +kernel
theorem dL_lend_23 : decode cL_lend 23 = .ok (.iconst 3, 1) := by decide +kernel
theorem dL_lend_24 : decode cL_lend 24 = .ok (.ireturn, 1) := by decide +kernel
theorem dL_lend_25 : decode cL_lend 25 = .ok (.iconst 0, 1) := by decide +kernel
theorem dL_lend_26 : decode cL_lend 26 = .ok (.ireturn, 1) := by decide +kernel
theorem dL_test_0 : decode cL_test 0 = .ok (.aload_n 3, 1) := by decide +kernel
theorem dL_test_1 : decode cL_test 1 = .ok (.iconst 0, 1) := by decide +kernel
theorem dL_test_2 : decode cL_test 2 = .ok (.aload_n 0, 1) := by decide +kernel
theorem dL_test_3 : decode cL_test 3 = .ok (.iload_n 1, 1) := by decide +kernel
theorem dL_test_4 : decode cL_test 4 = .ok (.iload_n 2, 1) := by decide +kernel
theorem dL_test_5 : decode cL_test 5 = .ok (.invokevirtual 30, 3) := by decide +kernel
theorem dL_test_8 : decode cL_test 8 = .ok (.i2l, 1) := by decide +kernel
theorem dL_test_9 : decode cL_test 9 = .ok (.lastore, 1) := by decide +kernel
theorem dL_test_10 : decode cL_test 10 = .ok (.goto 15, 3) := by decide +kernel
theorem dL_test_13 : decode cL_test 13 = .ok (.astore 4, 2) := by decide +kernel
theorem dL_test_15 : decode cL_test 15 = .ok (.iconst 1, 1) := by decide +kernel
theorem dL_test_16 : decode cL_test 16 = .ok (.ireturn, 1) := by decide +kernel
theorem dL_test_17 : decode cL_test 17 = .ok (.astore 4, 2) := by decide +kernel
theorem dL_test_19 : decode cL_test 19 = .ok (.iconst 2, 1) := by decide +kernel
theorem dL_test_20 : decode cL_test 20 = .ok (.ireturn, 1) := by decide +kernel
theorem dL_test_21 : decode cL_test 21 = .ok (.astore 4, 2) := by decide +kernel
theorem dL_test_23 : decode cL_test 23 = .ok (.iconst 3, 1) := by decide +kernel
theorem dL_test_24 : decode cL_test 24 = .ok (.ireturn, 1) := by decide +kernel
theorem dL_test_25 : decode cL_test 25 = .ok (.iconst 0, 1) := by decide +kernel
theorem dL_test_26 : decode cL_test 26 = .ok (.ireturn, 1) := by decide +kernel
theorem dL_want_0 : decode cL_want 0 = .ok (.aload_n 3, 1) := by decide +kernel
theorem dL_want_1 : decode cL_want 1 = .ok (.iconst 0, 1) := by decide +kernel
theorem dL_want_2 : decode cL_want 2 = .ok (.aload_n 0, 1) := by decide +kernel
theorem dL_want_3 : decode cL_want 3 = .ok (.iload_n 1, 1) := by decide +kernel
theorem dL_want_4 : decode cL_want 4 = .ok (.iload_n 2, 1) := by decide +kernel
theorem dL_want_5 : decode cL_want 5 = .ok (.invokevirtual 33, 3) := by decide +kernel
theorem dL_want_8 : decode cL_want 8 = .ok (.i2l, 1) := by decide +kernel
theorem dL_want_9 : decode cL_want 9 = .ok (.lastore, 1) := by decide +kernel
theorem dL_want_10 : decode cL_want 10 = .ok (.goto 11, 3) := by decide +kernel
theorem dL_want_13 : decode cL_want 13 = .ok (.astore 4, 2) := by decide +kernel
theorem dL_want_15 : decode cL_want 15 = .ok (.iconst 1, 1) := by decide +kernel
theorem dL_want_16 : decode cL_want 16 = .ok (.ireturn, 1) := by decide +kernel
theorem dL_want_17 : decode cL_want 17 = .ok (.astore 4, 2) := by decide +kernel
theorem dL_want_19 : decode cL_want 19 = .ok (.iconst 2, 1) := by decide +kernel
theorem dL_want_20 : decode cL_want 20 = .ok (.ireturn, 1) := by decide +kernel
theorem dL_want_21 : decode cL_want 21 = .ok (.iconst 0, 1) := by decide +kernel
theorem dL_want_22 : decode cL_want 22 = .ok (.ireturn, 1) := by decide +kernel
theorem dL_set_0 : decode cL_set 0 = .ok (.aload_n 3, 1) := by decide +kernel
theorem dL_set_1 : decode cL_set 1 = .ok (.iconst 0, 1) := by decide +kernel
theorem dL_set_2 : decode cL_set 2 = .ok (.aload_n 0, 1) := by decide +kernel
theorem dL_set_3 : decode cL_set 3 = .ok (.iload_n 1, 1) := by decide +kernel
theorem dL_set_4 : decode cL_set 4 = .ok (.iload_n 2, 1) := by decide +kernel
theorem dL_set_5 : decode cL_set 5 = .ok (.invokevirtual 36, 3) := by decide +kernel
theorem dL_set_8 : decode cL_set 8 = .ok (.i2l, 1) := by decide +kernel
theorem dL_set_9 : decode cL_set 9 = .ok (.lastore, 1) := by decide +kernel
theorem dL_set_10 : decode cL_set 10 = .ok (.goto 11, 3) := by decide +kernel
theorem dL_set_13 : decode cL_set 13 = .ok (.astore 4, 2) := by decide +kernel
theorem dL_set_15 : decode cL_set 15 = .ok (.iconst 1, 1) := by decide +kernel
theorem dL_set_16 : decode cL_set 16 = .ok (.ireturn, 1) := by decide +kernel
theorem dL_set_17 : decode cL_set 17 = .ok (.astore 4, 2) := by decide +kernel
theorem dL_set_19 : decode cL_set 19 = .ok (.iconst 2, 1) := by decide +kernel
theorem dL_set_20 : decode cL_set 20 = .ok (.ireturn, 1) := by decide +kernel
theorem dL_set_21 : decode cL_set 21 = .ok (.iconst 0, 1) := by decide +kernel
theorem dL_set_22 : decode cL_set 22 = .ok (.ireturn, 1) := by decide +kernel
theorem dL_pass_0 : decode cL_pass 0 = .ok (.aload_n 2, 1) := by decide +kernel
theorem dL_pass_1 : decode cL_pass 1 = .ok (.iconst 0, 1) := by decide +kernel
theorem dL_pass_2 : decode cL_pass 2 = .ok (.aload_n 0, 1) := by decide +kernel
theorem dL_pass_3 : decode cL_pass 3 = .ok (.iload_n 1, 1) := by decide +kernel
theorem dL_pass_4 : decode cL_pass 4 = .ok (.invokevirtual 39, 3) := by decide +kernel
theorem dL_pass_7 : decode cL_pass 7 = .ok (.i2l, 1) := by decide +kernel
theorem dL_pass_8 : decode cL_pass 8 = .ok (.lastore, 1) := by decide +kernel
theorem dL_pass_9 : decode cL_pass 9 = .ok (.goto 6, 3) := by decide +kernel
theorem dL_pass_12 : decode cL_pass 12 = .ok (.astore_n 3, 1) := by decide +kernel
theorem dL_pass_13 : decode cL_pass 13 = .ok (.iconst 1, 1) := by decide +kernel
theorem dL_pass_14 : decode cL_pass 14 = .ok (.ireturn, 1) := by decide +kernel
theorem dL_pass_15 : decode cL_pass 15 = .ok (.iconst 0, 1) := by decide +kernel
theorem dL_pass_16 : decode cL_pass 16 = .ok (.ireturn, 1) := by decide +kernel
theorem dL_append_0 : decode cL_append 0 = .ok (.aload_n 2, 1) := by decide +kernel
theorem dL_append_1 : decode cL_append 1 = .ok (.iconst 0, 1) := by decide +kernel
theorem dL_append_2 : decode cL_append 2 = .ok (.aload_n 0, 1) := by decide +kernel
theorem dL_append_3 : decode cL_append 3 = .ok (.iload_n 1, 1) := by decide +kernel
theorem dL_append_4 : decode cL_append 4 = .ok (.invokevirtual 42, 3) := by decide +kernel
theorem dL_append_7 : decode cL_append 7 = .ok (.i2l, 1) := by decide +kernel
theorem dL_append_8 : decode cL_append 8 = .ok (.lastore, 1) := by decide +kernel
theorem dL_append_9 : decode cL_append 9 = .ok (.goto 9, 3) := by decide +kernel
theorem dL_append_12 : decode cL_append 12 = .ok (.astore_n 3, 1) := by decide +kernel
theorem dL_append_13 : decode cL_append 13 = .ok (.iconst 1, 1) := by decide +kernel
theorem dL_append_14 : decode cL_append 14 = .ok (.ireturn, 1) := by decide +kernel
theorem dL_append_15 : decode cL_append 15 = .ok (.astore_n 3, 1) := by decide +kernel
theorem dL_append_16 : decode cL_append 16 = .ok (.iconst 2, 1) := by decide +kernel
theorem dL_append_17 : decode cL_append 17 = .ok (.ireturn, 1) := by decide +kernel
theorem dL_append_18 : decode cL_append 18 = .ok (.iconst 0, 1) := by decide +kernel
theorem dL_append_19 : decode cL_append 19 = .ok (.ireturn, 1) := by decide +kernel
theorem dL_buyAll_0 : decode cL_buyAll 0 = .ok (.aload_n 1, 1) := by decide +kernel
theorem dL_buyAll_1 : decode cL_buyAll 1 = .ok (.iconst 0, 1) := by decide +kernel
theorem dL_buyAll_2 : decode cL_buyAll 2 = .ok (.aload_n 0, 1) := by decide +kernel
theorem dL_buyAll_3 : decode cL_buyAll 3 = .ok (.invokevirtual 45, 3) := by decide +kernel
theorem dL_buyAll_6 : decode cL_buyAll 6 = .ok (.i2l, 1) := by decide +kernel
theorem dL_buyAll_7 : decode cL_buyAll 7 = .ok (.lastore, 1) := by decide +kernel
theorem dL_buyAll_8 : decode cL_buyAll 8 = .ok (.goto 6, 3) := by decide +kernel
theorem dL_buyAll_11 : decode cL_buyAll 11 = .ok (.astore_n 2, 1) := by decide +kernel
theorem dL_buyAll_12 : decode cL_buyAll 12 = .ok (.iconst 1, 1) := by decide +kernel
theorem dL_buyAll_13 : decode cL_buyAll 13 = .ok (.ireturn, 1) := by decide +kernel
theorem dL_buyAll_14 : decode cL_buyAll 14 = .ok (.iconst 0, 1) := by decide +kernel
theorem dL_buyAll_15 : decode cL_buyAll 15 = .ok (.ireturn, 1) := by decide +kernel
theorem dL_undo_0 : decode cL_undo 0 = .ok (.aload_n 1, 1) := by decide +kernel
theorem dL_undo_1 : decode cL_undo 1 = .ok (.iconst 0, 1) := by decide +kernel
theorem dL_undo_2 : decode cL_undo 2 = .ok (.aload_n 0, 1) := by decide +kernel
theorem dL_undo_3 : decode cL_undo 3 = .ok (.invokevirtual 49, 3) := by decide +kernel
theorem dL_undo_6 : decode cL_undo 6 = .ok (.i2l, 1) := by decide +kernel
theorem dL_undo_7 : decode cL_undo 7 = .ok (.lastore, 1) := by decide +kernel
theorem dL_undo_8 : decode cL_undo 8 = .ok (.goto 6, 3) := by decide +kernel
theorem dL_undo_11 : decode cL_undo 11 = .ok (.astore_n 2, 1) := by decide +kernel
theorem dL_undo_12 : decode cL_undo 12 = .ok (.iconst 1, 1) := by decide +kernel
theorem dL_undo_13 : decode cL_undo 13 = .ok (.ireturn, 1) := by decide +kernel
theorem dL_undo_14 : decode cL_undo 14 = .ok (.iconst 0, 1) := by decide +kernel
theorem dL_undo_15 : decode cL_undo 15 = .ok (.ireturn, 1) := by decide +kernel
theorem dL_hose_0 : decode cL_hose 0 = .ok (.aload_n 3, 1) := by decide +kernel
theorem dL_hose_1 : decode cL_hose 1 = .ok (.iconst 0, 1) := by decide +kernel
theorem dL_hose_2 : decode cL_hose 2 = .ok (.aload_n 0, 1) := by decide +kernel
theorem dL_hose_3 : decode cL_hose 3 = .ok (.iload_n 1, 1) := by decide +kernel
theorem dL_hose_4 : decode cL_hose 4 = .ok (.iload_n 2, 1) := by decide +kernel
theorem dL_hose_5 : decode cL_hose 5 = .ok (.invokevirtual 52, 3) := by decide +kernel
theorem dL_hose_8 : decode cL_hose 8 = .ok (.i2l, 1) := by decide +kernel
theorem dL_hose_9 : decode cL_hose 9 = .ok (.lastore, 1) := by decide +kernel
theorem dL_hose_10 : decode cL_hose 10 = .ok (.goto 11, 3) := by decide +kernel
theorem dL_hose_13 : decode cL_hose 13 = .ok (.astore 4, 2) := by decide +kernel
theorem dL_hose_15 : decode cL_hose 15 = .ok (.iconst 1, 1) := by decide +kernel
theorem dL_hose_16 : decode cL_hose 16 = .ok (.ireturn, 1) := by decide +kernel
theorem dL_hose_17 : decode cL_hose 17 = .ok (.astore 4, 2) := by decide +kernel
theorem dL_hose_19 : decode cL_hose 19 = .ok (.iconst 2, 1) := by decide +kernel
theorem dL_hose_20 : decode cL_hose 20 = .ok (.ireturn, 1) := by decide +kernel
theorem dL_hose_21 : decode cL_hose 21 = .ok (.iconst 0, 1) := by decide +kernel
theorem dL_hose_22 : decode cL_hose 22 = .ok (.ireturn, 1) := by decide +kernel
theorem dL_truck_0 : decode cL_truck 0 = .ok (.aload_n 3, 1) := by decide +kernel
theorem dL_truck_1 : decode cL_truck 1 = .ok (.iconst 0, 1) := by decide +kernel
theorem dL_truck_2 : decode cL_truck 2 = .ok (.aload_n 0, 1) := by decide +kernel
theorem dL_truck_3 : decode cL_truck 3 = .ok (.iload_n 1, 1) := by decide +kernel
theorem dL_truck_4 : decode cL_truck 4 = .ok (.iload_n 2, 1) := by decide +kernel
theorem dL_truck_5 : decode cL_truck 5 = .ok (.invokevirtual 55, 3) := by decide +kernel
theorem dL_truck_8 : decode cL_truck 8 = .ok (.i2l, 1) := by decide +kernel
theorem dL_truck_9 : decode cL_truck 9 = .ok (.lastore, 1) := by decide +kernel
theorem dL_truck_10 : decode cL_truck 10 = .ok (.goto 11, 3) := by decide +kernel
theorem dL_truck_13 : decode cL_truck 13 = .ok (.astore 4, 2) := by decide +kernel
theorem dL_truck_15 : decode cL_truck 15 = .ok (.iconst 1, 1) := by decide +kernel
theorem dL_truck_16 : decode cL_truck 16 = .ok (.ireturn, 1) := by decide +kernel
theorem dL_truck_17 : decode cL_truck 17 = .ok (.astore 4, 2) := by decide +kernel
theorem dL_truck_19 : decode cL_truck 19 = .ok (.iconst 2, 1) := by decide +kernel
theorem dL_truck_20 : decode cL_truck 20 = .ok (.ireturn, 1) := by decide +kernel
theorem dL_truck_21 : decode cL_truck 21 = .ok (.iconst 0, 1) := by decide +kernel
theorem dL_truck_22 : decode cL_truck 22 = .ok (.ireturn, 1) := by decide +kernel
theorem dL_count_0 : decode cL_count 0 = .ok (.aload_n 2, 1) := by decide +kernel
theorem dL_count_1 : decode cL_count 1 = .ok (.iconst 0, 1) := by decide +kernel
theorem dL_count_2 : decode cL_count 2 = .ok (.aload_n 0, 1) := by decide +kernel
theorem dL_count_3 : decode cL_count 3 = .ok (.iload_n 1, 1) := by decide +kernel
theorem dL_count_4 : decode cL_count 4 = .ok (.invokevirtual 58, 3) := by decide +kernel
theorem dL_count_7 : decode cL_count 7 = .ok (.i2l, 1) := by decide +kernel
theorem dL_count_8 : decode cL_count 8 = .ok (.lastore, 1) := by decide +kernel
theorem dL_count_9 : decode cL_count 9 = .ok (.goto 6, 3) := by decide +kernel
theorem dL_count_12 : decode cL_count 12 = .ok (.astore_n 3, 1) := by decide +kernel
theorem dL_count_13 : decode cL_count 13 = .ok (.iconst 1, 1) := by decide +kernel
theorem dL_count_14 : decode cL_count 14 = .ok (.ireturn, 1) := by decide +kernel
theorem dL_count_15 : decode cL_count 15 = .ok (.iconst 0, 1) := by decide +kernel
theorem dL_count_16 : decode cL_count 16 = .ok (.ireturn, 1) := by decide +kernel
theorem dL_setting_0 : decode cL_setting 0 = .ok (.aload_n 2, 1) := by decide +kernel
theorem dL_setting_1 : decode cL_setting 1 = .ok (.iconst 0, 1) := by decide +kernel
theorem dL_setting_2 : decode cL_setting 2 = .ok (.aload_n 0, 1) := by decide +kernel
theorem dL_setting_3 : decode cL_setting 3 = .ok (.iload_n 1, 1) := by decide +kernel
theorem dL_setting_4 : decode cL_setting 4 = .ok (.invokevirtual 61, 3) := by decide +kernel
theorem dL_setting_7 : decode cL_setting 7 = .ok (.i2l, 1) := by decide +kernel
theorem dL_setting_8 : decode cL_setting 8 = .ok (.lastore, 1) := by decide +kernel
theorem dL_setting_9 : decode cL_setting 9 = .ok (.goto 6, 3) := by decide +kernel
theorem dL_setting_12 : decode cL_setting 12 = .ok (.astore_n 3, 1) := by decide +kernel
theorem dL_setting_13 : decode cL_setting 13 = .ok (.iconst 1, 1) := by decide +kernel
theorem dL_setting_14 : decode cL_setting 14 = .ok (.ireturn, 1) := by decide +kernel
theorem dL_setting_15 : decode cL_setting 15 = .ok (.iconst 0, 1) := by decide +kernel
theorem dL_setting_16 : decode cL_setting 16 = .ok (.ireturn, 1) := by decide +kernel
theorem dL_ifTested_0 : decode cL_ifTested 0 = .ok (.aload_n 3, 1) := by decide +kernel
theorem dL_ifTested_1 : decode cL_ifTested 1 = .ok (.iconst 0, 1) := by decide +kernel
theorem dL_ifTested_2 : decode cL_ifTested 2 = .ok (.aload_n 0, 1) := by decide +kernel
theorem dL_ifTested_3 : decode cL_ifTested 3 = .ok (.iload_n 1, 1) := by decide +kernel
theorem dL_ifTested_4 : decode cL_ifTested 4 = .ok (.iload_n 2, 1) := by decide +kernel
theorem dL_ifTested_5 : decode cL_ifTested 5 = .ok (.invokevirtual 64, 3) := by decide +kernel
theorem dL_ifTested_8 : decode cL_ifTested 8 = .ok (.i2l, 1) := by decide +kernel
theorem dL_ifTested_9 : decode cL_ifTested 9 = .ok (.lastore, 1) := by decide +kernel
theorem dL_ifTested_10 : decode cL_ifTested 10 = .ok (.goto 11, 3) := by decide +kernel
theorem dL_ifTested_13 : decode cL_ifTested 13 = .ok (.astore 4, 2) := by decide +kernel
theorem dL_ifTested_15 : decode cL_ifTested 15 = .ok (.iconst 1, 1) := by decide +kernel
theorem dL_ifTested_16 : decode cL_ifTested 16 = .ok (.ireturn, 1) := by decide +kernel
theorem dL_ifTested_17 : decode cL_ifTested 17 = .ok (.astore 4, 2) := by decide +kernel
theorem dL_ifTested_19 : decode cL_ifTested 19 = .ok (.iconst 2, 1) := by decide +kernel
theorem dL_ifTested_20 : decode cL_ifTested 20 = .ok (.ireturn, 1) := by decide +kernel
theorem dL_ifTested_21 : decode cL_ifTested 21 = .ok (.iconst 0, 1) := by decide +kernel
theorem dL_ifTested_22 : decode cL_ifTested 22 = .ok (.ireturn, 1) := by decide +kernel
theorem dL_safe_0 : decode cL_safe 0 = .ok (.aload_n 2, 1) := by decide +kernel
theorem dL_safe_1 : decode cL_safe 1 = .ok (.iconst 0, 1) := by decide +kernel
theorem dL_safe_2 : decode cL_safe 2 = .ok (.aload_n 0, 1) := by decide +kernel
theorem dL_safe_3 : decode cL_safe 3 = .ok (.iload_n 1, 1) := by decide +kernel
theorem dL_safe_4 : decode cL_safe 4 = .ok (.invokevirtual 67, 3) := by decide +kernel
theorem dL_safe_7 : decode cL_safe 7 = .ok (.i2l, 1) := by decide +kernel
theorem dL_safe_8 : decode cL_safe 8 = .ok (.lastore, 1) := by decide +kernel
theorem dL_safe_9 : decode cL_safe 9 = .ok (.goto 6, 3) := by decide +kernel
theorem dL_safe_12 : decode cL_safe 12 = .ok (.astore_n 3, 1) := by decide +kernel
theorem dL_safe_13 : decode cL_safe 13 = .ok (.iconst 1, 1) := by decide +kernel
theorem dL_safe_14 : decode cL_safe 14 = .ok (.ireturn, 1) := by decide +kernel
theorem dL_safe_15 : decode cL_safe 15 = .ok (.iconst 0, 1) := by decide +kernel
theorem dL_safe_16 : decode cL_safe 16 = .ok (.ireturn, 1) := by decide +kernel
theorem dL_helps_0 : decode cL_helps 0 = .ok (.aload_n 2, 1) := by decide +kernel
theorem dL_helps_1 : decode cL_helps 1 = .ok (.iconst 0, 1) := by decide +kernel
theorem dL_helps_2 : decode cL_helps 2 = .ok (.aload_n 0, 1) := by decide +kernel
theorem dL_helps_3 : decode cL_helps 3 = .ok (.iload_n 1, 1) := by decide +kernel
theorem dL_helps_4 : decode cL_helps 4 = .ok (.invokevirtual 70, 3) := by decide +kernel
theorem dL_helps_7 : decode cL_helps 7 = .ok (.i2l, 1) := by decide +kernel
theorem dL_helps_8 : decode cL_helps 8 = .ok (.lastore, 1) := by decide +kernel
theorem dL_helps_9 : decode cL_helps 9 = .ok (.goto 6, 3) := by decide +kernel
theorem dL_helps_12 : decode cL_helps 12 = .ok (.astore_n 3, 1) := by decide +kernel
theorem dL_helps_13 : decode cL_helps 13 = .ok (.iconst 1, 1) := by decide +kernel
theorem dL_helps_14 : decode cL_helps 14 = .ok (.ireturn, 1) := by decide +kernel
theorem dL_helps_15 : decode cL_helps 15 = .ok (.iconst 0, 1) := by decide +kernel
theorem dL_helps_16 : decode cL_helps 16 = .ok (.ireturn, 1) := by decide +kernel
theorem dL_law_0 : decode cL_law 0 = .ok (.new 8, 3) := by decide +kernel
theorem dL_law_3 : decode cL_law 3 = .ok (.dup, 1) := by decide +kernel
theorem dL_law_4 : decode cL_law 4 = .ok (.invokespecial 73, 3) := by decide +kernel
theorem dL_law_7 : decode cL_law 7 = .ok (.astore_n 1, 1) := by decide +kernel
theorem dL_law_8 : decode cL_law 8 = .ok (.new 74, 3) := by decide +kernel
theorem dL_law_11 : decode cL_law 11 = .ok (.dup, 1) := by decide +kernel
theorem dL_law_12 : decode cL_law 12 = .ok (.invokespecial 76, 3) := by decide +kernel
theorem dL_law_15 : decode cL_law 15 = .ok (.astore_n 2, 1) := by decide +kernel
theorem dL_law_16 : decode cL_law 16 = .ok (.iconst 1, 1) := by decide +kernel
theorem dL_law_17 : decode cL_law 17 = .ok (.newarray .long, 2) := by decide +kernel
theorem dL_law_19 : decode cL_law 19 = .ok (.astore_n 3, 1) := by decide +kernel
theorem dL_law_20 : decode cL_law 20 = .ok (.iconst 0, 1) := by decide +kernel
theorem dL_law_21 : decode cL_law 21 = .ok (.istore 4, 2) := by decide +kernel
theorem dL_law_23 : decode cL_law 23 = .ok (.iload 4, 2) := by decide +kernel
theorem dL_law_25 : decode cL_law 25 = .ok (.aload_n 0, 1) := by decide +kernel
theorem dL_law_26 : decode cL_law 26 = .ok (.arraylength, 1) := by decide +kernel
theorem dL_law_27 : decode cL_law 27 = .ok (.iconst 4, 1) := by decide +kernel
theorem dL_law_28 : decode cL_law 28 = .ok (.isub, 1) := by decide +kernel
theorem dL_law_29 : decode cL_law 29 = .ok (.if_icmp .gt 1319, 3) := by decide +kernel
theorem dL_law_32 : decode cL_law 32 = .ok (.aload_n 0, 1) := by decide +kernel
theorem dL_law_33 : decode cL_law 33 = .ok (.iload 4, 2) := by decide +kernel
theorem dL_law_35 : decode cL_law 35 = .ok (.iaload, 1) := by decide +kernel
theorem dL_law_36 : decode cL_law 36 = .ok (.bipush 31, 2) := by decide +kernel
theorem dL_law_38 : decode cL_law 38 = .ok (.iand, 1) := by decide +kernel
theorem dL_law_39 : decode cL_law 39 = .ok (.tableswitch 1303 0 22 #[105, 185, 241, 309, 377, 445, 513, 581, 637, 693, 706, 719, 763, 807, 875, 943, 999, 1055, 1123, 1179, 1192, 1248, 1289], 105) := by decide +kernel
theorem dL_law_144 : decode cL_law 144 = .ok (.aload_n 1, 1) := by decide +kernel
theorem dL_law_145 : decode cL_law 145 = .ok (.aload_n 0, 1) := by decide +kernel
theorem dL_law_146 : decode cL_law 146 = .ok (.iload 4, 2) := by decide +kernel
theorem dL_law_148 : decode cL_law 148 = .ok (.iconst 1, 1) := by decide +kernel
theorem dL_law_149 : decode cL_law 149 = .ok (.iadd, 1) := by decide +kernel
theorem dL_law_150 : decode cL_law 150 = .ok (.iaload, 1) := by decide +kernel
theorem dL_law_151 : decode cL_law 151 = .ok (.aload_n 0, 1) := by decide +kernel
theorem dL_law_152 : decode cL_law 152 = .ok (.iload 4, 2) := by decide +kernel
theorem dL_law_154 : decode cL_law 154 = .ok (.iconst 2, 1) := by decide +kernel
theorem dL_law_155 : decode cL_law 155 = .ok (.iadd, 1) := by decide +kernel
theorem dL_law_156 : decode cL_law 156 = .ok (.iaload, 1) := by decide +kernel
theorem dL_law_157 : decode cL_law 157 = .ok (.aload_n 0, 1) := by decide +kernel
theorem dL_law_158 : decode cL_law 158 = .ok (.iload 4, 2) := by decide +kernel
theorem dL_law_160 : decode cL_law 160 = .ok (.iconst 3, 1) := by decide +kernel
theorem dL_law_161 : decode cL_law 161 = .ok (.iadd, 1) := by decide +kernel
theorem dL_law_162 : decode cL_law 162 = .ok (.iaload, 1) := by decide +kernel
theorem dL_law_163 : decode cL_law 163 = .ok (.aload_n 3, 1) := by decide +kernel
theorem dL_law_164 : decode cL_law 164 = .ok (.invokestatic 77, 3) := by decide +kernel
theorem dL_law_167 : decode cL_law 167 = .ok (.istore 5, 2) := by decide +kernel
theorem dL_law_169 : decode cL_law 169 = .ok (.aload_n 2, 1) := by decide +kernel
theorem dL_law_170 : decode cL_law 170 = .ok (.aload_n 0, 1) := by decide +kernel
theorem dL_law_171 : decode cL_law 171 = .ok (.iload 4, 2) := by decide +kernel
theorem dL_law_173 : decode cL_law 173 = .ok (.iconst 1, 1) := by decide +kernel
theorem dL_law_174 : decode cL_law 174 = .ok (.iadd, 1) := by decide +kernel
theorem dL_law_175 : decode cL_law 175 = .ok (.iaload, 1) := by decide +kernel
theorem dL_law_176 : decode cL_law 176 = .ok (.aload_n 0, 1) := by decide +kernel
theorem dL_law_177 : decode cL_law 177 = .ok (.iload 4, 2) := by decide +kernel
theorem dL_law_179 : decode cL_law 179 = .ok (.iconst 2, 1) := by decide +kernel
theorem dL_law_180 : decode cL_law 180 = .ok (.iadd, 1) := by decide +kernel
theorem dL_law_181 : decode cL_law 181 = .ok (.iaload, 1) := by decide +kernel
theorem dL_law_182 : decode cL_law 182 = .ok (.aload_n 0, 1) := by decide +kernel
theorem dL_law_183 : decode cL_law 183 = .ok (.iload 4, 2) := by decide +kernel
theorem dL_law_185 : decode cL_law 185 = .ok (.iconst 3, 1) := by decide +kernel
theorem dL_law_186 : decode cL_law 186 = .ok (.iadd, 1) := by decide +kernel
theorem dL_law_187 : decode cL_law 187 = .ok (.iaload, 1) := by decide +kernel
theorem dL_law_188 : decode cL_law 188 = .ok (.invokevirtual 82, 3) := by decide +kernel
theorem dL_law_191 : decode cL_law 191 = .ok (.istore 6, 2) := by decide +kernel
theorem dL_law_193 : decode cL_law 193 = .ok (.aload_n 2, 1) := by decide +kernel
theorem dL_law_194 : decode cL_law 194 = .ok (.invokevirtual 83, 3) := by decide +kernel
theorem dL_law_197 : decode cL_law 197 = .ok (.iload 5, 2) := by decide +kernel
theorem dL_law_199 : decode cL_law 199 = .ok (.if_icmp .eq 5, 3) := by decide +kernel
theorem dL_law_202 : decode cL_law 202 = .ok (.iconst 0, 1) := by decide +kernel
theorem dL_law_203 : decode cL_law 203 = .ok (.ireturn, 1) := by decide +kernel
theorem dL_law_204 : decode cL_law 204 = .ok (.iload 5, 2) := by decide +kernel
theorem dL_law_206 : decode cL_law 206 = .ok (.ifCond .ne 15, 3) := by decide +kernel
theorem dL_law_209 : decode cL_law 209 = .ok (.aload_n 3, 1) := by decide +kernel
theorem dL_law_210 : decode cL_law 210 = .ok (.iconst 0, 1) := by decide +kernel
theorem dL_law_211 : decode cL_law 211 = .ok (.laload, 1) := by decide +kernel
theorem dL_law_212 : decode cL_law 212 = .ok (.iload 6, 2) := by decide +kernel
theorem dL_law_214 : decode cL_law 214 = .ok (.i2l, 1) := by decide +kernel
theorem dL_law_215 : decode cL_law 215 = .ok (.lcmp, 1) := by decide +kernel
theorem dL_law_216 : decode cL_law 216 = .ok (.ifCond .eq 5, 3) := by decide +kernel
theorem dL_law_219 : decode cL_law 219 = .ok (.iconst 0, 1) := by decide +kernel
theorem dL_law_220 : decode cL_law 220 = .ok (.ireturn, 1) := by decide +kernel
theorem dL_law_221 : decode cL_law 221 = .ok (.goto 1121, 3) := by decide +kernel
theorem dL_law_224 : decode cL_law 224 = .ok (.aload_n 1, 1) := by decide +kernel
theorem dL_law_225 : decode cL_law 225 = .ok (.aload_n 0, 1) := by decide +kernel
theorem dL_law_226 : decode cL_law 226 = .ok (.iload 4, 2) := by decide +kernel
theorem dL_law_228 : decode cL_law 228 = .ok (.iconst 1, 1) := by decide +kernel
theorem dL_law_229 : decode cL_law 229 = .ok (.iadd, 1) := by decide +kernel
theorem dL_law_230 : decode cL_law 230 = .ok (.iaload, 1) := by decide +kernel
theorem dL_law_231 : decode cL_law 231 = .ok (.aload_n 3, 1) := by decide +kernel
theorem dL_law_232 : decode cL_law 232 = .ok (.invokestatic 86, 3) := by decide +kernel
theorem dL_law_235 : decode cL_law 235 = .ok (.istore 5, 2) := by decide +kernel
theorem dL_law_237 : decode cL_law 237 = .ok (.aload_n 2, 1) := by decide +kernel
theorem dL_law_238 : decode cL_law 238 = .ok (.aload_n 0, 1) := by decide +kernel
theorem dL_law_239 : decode cL_law 239 = .ok (.iload 4, 2) := by decide +kernel
theorem dL_law_241 : decode cL_law 241 = .ok (.iconst 1, 1) := by decide +kernel
theorem dL_law_242 : decode cL_law 242 = .ok (.iadd, 1) := by decide +kernel
theorem dL_law_243 : decode cL_law 243 = .ok (.iaload, 1) := by decide +kernel
theorem dL_law_244 : decode cL_law 244 = .ok (.invokevirtual 89, 3) := by decide +kernel
theorem dL_law_247 : decode cL_law 247 = .ok (.istore 6, 2) := by decide +kernel
theorem dL_law_249 : decode cL_law 249 = .ok (.aload_n 2, 1) := by decide +kernel
theorem dL_law_250 : decode cL_law 250 = .ok (.invokevirtual 83, 3) := by decide +kernel
theorem dL_law_253 : decode cL_law 253 = .ok (.iload 5, 2) := by decide +kernel
theorem dL_law_255 : decode cL_law 255 = .ok (.if_icmp .eq 5, 3) := by decide +kernel
theorem dL_law_258 : decode cL_law 258 = .ok (.iconst 0, 1) := by decide +kernel
theorem dL_law_259 : decode cL_law 259 = .ok (.ireturn, 1) := by decide +kernel
theorem dL_law_260 : decode cL_law 260 = .ok (.iload 5, 2) := by decide +kernel
theorem dL_law_262 : decode cL_law 262 = .ok (.ifCond .ne 15, 3) := by decide +kernel
theorem dL_law_265 : decode cL_law 265 = .ok (.aload_n 3, 1) := by decide +kernel
theorem dL_law_266 : decode cL_law 266 = .ok (.iconst 0, 1) := by decide +kernel
theorem dL_law_267 : decode cL_law 267 = .ok (.laload, 1) := by decide +kernel
theorem dL_law_268 : decode cL_law 268 = .ok (.iload 6, 2) := by decide +kernel
theorem dL_law_270 : decode cL_law 270 = .ok (.i2l, 1) := by decide +kernel
theorem dL_law_271 : decode cL_law 271 = .ok (.lcmp, 1) := by decide +kernel
theorem dL_law_272 : decode cL_law 272 = .ok (.ifCond .eq 5, 3) := by decide +kernel
theorem dL_law_275 : decode cL_law 275 = .ok (.iconst 0, 1) := by decide +kernel
theorem dL_law_276 : decode cL_law 276 = .ok (.ireturn, 1) := by decide +kernel
theorem dL_law_277 : decode cL_law 277 = .ok (.goto 1065, 3) := by decide +kernel
theorem dL_law_280 : decode cL_law 280 = .ok (.aload_n 1, 1) := by decide +kernel
theorem dL_law_281 : decode cL_law 281 = .ok (.aload_n 0, 1) := by decide +kernel
theorem dL_law_282 : decode cL_law 282 = .ok (.iload 4, 2) := by decide +kernel
theorem dL_law_284 : decode cL_law 284 = .ok (.iconst 1, 1) := by decide +kernel
theorem dL_law_285 : decode cL_law 285 = .ok (.iadd, 1) := by decide +kernel
theorem dL_law_286 : decode cL_law 286 = .ok (.iaload, 1) := by decide +kernel
theorem dL_law_287 : decode cL_law 287 = .ok (.aload_n 0, 1) := by decide +kernel
theorem dL_law_288 : decode cL_law 288 = .ok (.iload 4, 2) := by decide +kernel
theorem dL_law_290 : decode cL_law 290 = .ok (.iconst 2, 1) := by decide +kernel
theorem dL_law_291 : decode cL_law 291 = .ok (.iadd, 1) := by decide +kernel
theorem dL_law_292 : decode cL_law 292 = .ok (.iaload, 1) := by decide +kernel
theorem dL_law_293 : decode cL_law 293 = .ok (.aload_n 3, 1) := by decide +kernel
theorem dL_law_294 : decode cL_law 294 = .ok (.invokestatic 90, 3) := by decide +kernel
theorem dL_law_297 : decode cL_law 297 = .ok (.istore 5, 2) := by decide +kernel
theorem dL_law_299 : decode cL_law 299 = .ok (.aload_n 2, 1) := by decide +kernel
theorem dL_law_300 : decode cL_law 300 = .ok (.aload_n 0, 1) := by decide +kernel
theorem dL_law_301 : decode cL_law 301 = .ok (.iload 4, 2) := by decide +kernel
theorem dL_law_303 : decode cL_law 303 = .ok (.iconst 1, 1) := by decide +kernel
theorem dL_law_304 : decode cL_law 304 = .ok (.iadd, 1) := by decide +kernel
theorem dL_law_305 : decode cL_law 305 = .ok (.iaload, 1) := by decide +kernel
theorem dL_law_306 : decode cL_law 306 = .ok (.aload_n 0, 1) := by decide +kernel
theorem dL_law_307 : decode cL_law 307 = .ok (.iload 4, 2) := by decide +kernel
theorem dL_law_309 : decode cL_law 309 = .ok (.iconst 2, 1) := by decide +kernel
theorem dL_law_310 : decode cL_law 310 = .ok (.iadd, 1) := by decide +kernel
theorem dL_law_311 : decode cL_law 311 = .ok (.iaload, 1) := by decide +kernel
theorem dL_law_312 : decode cL_law 312 = .ok (.invokevirtual 93, 3) := by decide +kernel
theorem dL_law_315 : decode cL_law 315 = .ok (.istore 6, 2) := by decide +kernel
theorem dL_law_317 : decode cL_law 317 = .ok (.aload_n 2, 1) := by decide +kernel
theorem dL_law_318 : decode cL_law 318 = .ok (.invokevirtual 83, 3) := by decide +kernel
theorem dL_law_321 : decode cL_law 321 = .ok (.iload 5, 2) := by decide +kernel
theorem dL_law_323 : decode cL_law 323 = .ok (.if_icmp .eq 5, 3) := by decide +kernel
theorem dL_law_326 : decode cL_law 326 = .ok (.iconst 0, 1) := by decide +kernel
theorem dL_law_327 : decode cL_law 327 = .ok (.ireturn, 1) := by decide +kernel
theorem dL_law_328 : decode cL_law 328 = .ok (.iload 5, 2) := by decide +kernel
theorem dL_law_330 : decode cL_law 330 = .ok (.ifCond .ne 15, 3) := by decide +kernel
theorem dL_law_333 : decode cL_law 333 = .ok (.aload_n 3, 1) := by decide +kernel
theorem dL_law_334 : decode cL_law 334 = .ok (.iconst 0, 1) := by decide +kernel
theorem dL_law_335 : decode cL_law 335 = .ok (.laload, 1) := by decide +kernel
theorem dL_law_336 : decode cL_law 336 = .ok (.iload 6, 2) := by decide +kernel
theorem dL_law_338 : decode cL_law 338 = .ok (.i2l, 1) := by decide +kernel
theorem dL_law_339 : decode cL_law 339 = .ok (.lcmp, 1) := by decide +kernel
theorem dL_law_340 : decode cL_law 340 = .ok (.ifCond .eq 5, 3) := by decide +kernel
theorem dL_law_343 : decode cL_law 343 = .ok (.iconst 0, 1) := by decide +kernel
theorem dL_law_344 : decode cL_law 344 = .ok (.ireturn, 1) := by decide +kernel
theorem dL_law_345 : decode cL_law 345 = .ok (.goto 997, 3) := by decide +kernel
theorem dL_law_348 : decode cL_law 348 = .ok (.aload_n 1, 1) := by decide +kernel
theorem dL_law_349 : decode cL_law 349 = .ok (.aload_n 0, 1) := by decide +kernel
theorem dL_law_350 : decode cL_law 350 = .ok (.iload 4, 2) := by decide +kernel
theorem dL_law_352 : decode cL_law 352 = .ok (.iconst 1, 1) := by decide +kernel
theorem dL_law_353 : decode cL_law 353 = .ok (.iadd, 1) := by decide +kernel
theorem dL_law_354 : decode cL_law 354 = .ok (.iaload, 1) := by decide +kernel
theorem dL_law_355 : decode cL_law 355 = .ok (.aload_n 0, 1) := by decide +kernel
theorem dL_law_356 : decode cL_law 356 = .ok (.iload 4, 2) := by decide +kernel
theorem dL_law_358 : decode cL_law 358 = .ok (.iconst 2, 1) := by decide +kernel
theorem dL_law_359 : decode cL_law 359 = .ok (.iadd, 1) := by decide +kernel
theorem dL_law_360 : decode cL_law 360 = .ok (.iaload, 1) := by decide +kernel
theorem dL_law_361 : decode cL_law 361 = .ok (.aload_n 3, 1) := by decide +kernel
theorem dL_law_362 : decode cL_law 362 = .ok (.invokestatic 94, 3) := by decide +kernel
theorem dL_law_365 : decode cL_law 365 = .ok (.istore 5, 2) := by decide +kernel
theorem dL_law_367 : decode cL_law 367 = .ok (.aload_n 2, 1) := by decide +kernel
theorem dL_law_368 : decode cL_law 368 = .ok (.aload_n 0, 1) := by decide +kernel
theorem dL_law_369 : decode cL_law 369 = .ok (.iload 4, 2) := by decide +kernel
theorem dL_law_371 : decode cL_law 371 = .ok (.iconst 1, 1) := by decide +kernel
theorem dL_law_372 : decode cL_law 372 = .ok (.iadd, 1) := by decide +kernel
theorem dL_law_373 : decode cL_law 373 = .ok (.iaload, 1) := by decide +kernel
theorem dL_law_374 : decode cL_law 374 = .ok (.aload_n 0, 1) := by decide +kernel
theorem dL_law_375 : decode cL_law 375 = .ok (.iload 4, 2) := by decide +kernel
theorem dL_law_377 : decode cL_law 377 = .ok (.iconst 2, 1) := by decide +kernel
theorem dL_law_378 : decode cL_law 378 = .ok (.iadd, 1) := by decide +kernel
theorem dL_law_379 : decode cL_law 379 = .ok (.iaload, 1) := by decide +kernel
theorem dL_law_380 : decode cL_law 380 = .ok (.invokevirtual 96, 3) := by decide +kernel
theorem dL_law_383 : decode cL_law 383 = .ok (.istore 6, 2) := by decide +kernel
theorem dL_law_385 : decode cL_law 385 = .ok (.aload_n 2, 1) := by decide +kernel
theorem dL_law_386 : decode cL_law 386 = .ok (.invokevirtual 83, 3) := by decide +kernel
theorem dL_law_389 : decode cL_law 389 = .ok (.iload 5, 2) := by decide +kernel
theorem dL_law_391 : decode cL_law 391 = .ok (.if_icmp .eq 5, 3) := by decide +kernel
theorem dL_law_394 : decode cL_law 394 = .ok (.iconst 0, 1) := by decide +kernel
theorem dL_law_395 : decode cL_law 395 = .ok (.ireturn, 1) := by decide +kernel
theorem dL_law_396 : decode cL_law 396 = .ok (.iload 5, 2) := by decide +kernel
theorem dL_law_398 : decode cL_law 398 = .ok (.ifCond .ne 15, 3) := by decide +kernel
theorem dL_law_401 : decode cL_law 401 = .ok (.aload_n 3, 1) := by decide +kernel
theorem dL_law_402 : decode cL_law 402 = .ok (.iconst 0, 1) := by decide +kernel
theorem dL_law_403 : decode cL_law 403 = .ok (.laload, 1) := by decide +kernel
theorem dL_law_404 : decode cL_law 404 = .ok (.iload 6, 2) := by decide +kernel
theorem dL_law_406 : decode cL_law 406 = .ok (.i2l, 1) := by decide +kernel
theorem dL_law_407 : decode cL_law 407 = .ok (.lcmp, 1) := by decide +kernel
theorem dL_law_408 : decode cL_law 408 = .ok (.ifCond .eq 5, 3) := by decide +kernel
theorem dL_law_411 : decode cL_law 411 = .ok (.iconst 0, 1) := by decide +kernel
theorem dL_law_412 : decode cL_law 412 = .ok (.ireturn, 1) := by decide +kernel
theorem dL_law_413 : decode cL_law 413 = .ok (.goto 929, 3) := by decide +kernel
theorem dL_law_416 : decode cL_law 416 = .ok (.aload_n 1, 1) := by decide +kernel
theorem dL_law_417 : decode cL_law 417 = .ok (.aload_n 0, 1) := by decide +kernel
theorem dL_law_418 : decode cL_law 418 = .ok (.iload 4, 2) := by decide +kernel
theorem dL_law_420 : decode cL_law 420 = .ok (.iconst 1, 1) := by decide +kernel
theorem dL_law_421 : decode cL_law 421 = .ok (.iadd, 1) := by decide +kernel
theorem dL_law_422 : decode cL_law 422 = .ok (.iaload, 1) := by decide +kernel
theorem dL_law_423 : decode cL_law 423 = .ok (.aload_n 0, 1) := by decide +kernel
theorem dL_law_424 : decode cL_law 424 = .ok (.iload 4, 2) := by decide +kernel
theorem dL_law_426 : decode cL_law 426 = .ok (.iconst 2, 1) := by decide +kernel
theorem dL_law_427 : decode cL_law 427 = .ok (.iadd, 1) := by decide +kernel
theorem dL_law_428 : decode cL_law 428 = .ok (.iaload, 1) := by decide +kernel
theorem dL_law_429 : decode cL_law 429 = .ok (.aload_n 3, 1) := by decide +kernel
theorem dL_law_430 : decode cL_law 430 = .ok (.invokestatic 97, 3) := by decide +kernel
theorem dL_law_433 : decode cL_law 433 = .ok (.istore 5, 2) := by decide +kernel
theorem dL_law_435 : decode cL_law 435 = .ok (.aload_n 2, 1) := by decide +kernel
theorem dL_law_436 : decode cL_law 436 = .ok (.aload_n 0, 1) := by decide +kernel
theorem dL_law_437 : decode cL_law 437 = .ok (.iload 4, 2) := by decide +kernel
theorem dL_law_439 : decode cL_law 439 = .ok (.iconst 1, 1) := by decide +kernel
theorem dL_law_440 : decode cL_law 440 = .ok (.iadd, 1) := by decide +kernel
theorem dL_law_441 : decode cL_law 441 = .ok (.iaload, 1) := by decide +kernel
theorem dL_law_442 : decode cL_law 442 = .ok (.aload_n 0, 1) := by decide +kernel
theorem dL_law_443 : decode cL_law 443 = .ok (.iload 4, 2) := by decide +kernel
theorem dL_law_445 : decode cL_law 445 = .ok (.iconst 2, 1) := by decide +kernel
theorem dL_law_446 : decode cL_law 446 = .ok (.iadd, 1) := by decide +kernel
theorem dL_law_447 : decode cL_law 447 = .ok (.iaload, 1) := by decide +kernel
theorem dL_law_448 : decode cL_law 448 = .ok (.invokevirtual 99, 3) := by decide +kernel
theorem dL_law_451 : decode cL_law 451 = .ok (.istore 6, 2) := by decide +kernel
theorem dL_law_453 : decode cL_law 453 = .ok (.aload_n 2, 1) := by decide +kernel
theorem dL_law_454 : decode cL_law 454 = .ok (.invokevirtual 83, 3) := by decide +kernel
theorem dL_law_457 : decode cL_law 457 = .ok (.iload 5, 2) := by decide +kernel
theorem dL_law_459 : decode cL_law 459 = .ok (.if_icmp .eq 5, 3) := by decide +kernel
theorem dL_law_462 : decode cL_law 462 = .ok (.iconst 0, 1) := by decide +kernel
theorem dL_law_463 : decode cL_law 463 = .ok (.ireturn, 1) := by decide +kernel
theorem dL_law_464 : decode cL_law 464 = .ok (.iload 5, 2) := by decide +kernel
theorem dL_law_466 : decode cL_law 466 = .ok (.ifCond .ne 15, 3) := by decide +kernel
theorem dL_law_469 : decode cL_law 469 = .ok (.aload_n 3, 1) := by decide +kernel
theorem dL_law_470 : decode cL_law 470 = .ok (.iconst 0, 1) := by decide +kernel
theorem dL_law_471 : decode cL_law 471 = .ok (.laload, 1) := by decide +kernel
theorem dL_law_472 : decode cL_law 472 = .ok (.iload 6, 2) := by decide +kernel
theorem dL_law_474 : decode cL_law 474 = .ok (.i2l, 1) := by decide +kernel
theorem dL_law_475 : decode cL_law 475 = .ok (.lcmp, 1) := by decide +kernel
theorem dL_law_476 : decode cL_law 476 = .ok (.ifCond .eq 5, 3) := by decide +kernel
theorem dL_law_479 : decode cL_law 479 = .ok (.iconst 0, 1) := by decide +kernel
theorem dL_law_480 : decode cL_law 480 = .ok (.ireturn, 1) := by decide +kernel
theorem dL_law_481 : decode cL_law 481 = .ok (.goto 861, 3) := by decide +kernel
theorem dL_law_484 : decode cL_law 484 = .ok (.aload_n 1, 1) := by decide +kernel
theorem dL_law_485 : decode cL_law 485 = .ok (.aload_n 0, 1) := by decide +kernel
theorem dL_law_486 : decode cL_law 486 = .ok (.iload 4, 2) := by decide +kernel
theorem dL_law_488 : decode cL_law 488 = .ok (.iconst 1, 1) := by decide +kernel
theorem dL_law_489 : decode cL_law 489 = .ok (.iadd, 1) := by decide +kernel
theorem dL_law_490 : decode cL_law 490 = .ok (.iaload, 1) := by decide +kernel
theorem dL_law_491 : decode cL_law 491 = .ok (.aload_n 0, 1) := by decide +kernel
theorem dL_law_492 : decode cL_law 492 = .ok (.iload 4, 2) := by decide +kernel
theorem dL_law_494 : decode cL_law 494 = .ok (.iconst 2, 1) := by decide +kernel
theorem dL_law_495 : decode cL_law 495 = .ok (.iadd, 1) := by decide +kernel
theorem dL_law_496 : decode cL_law 496 = .ok (.iaload, 1) := by decide +kernel
theorem dL_law_497 : decode cL_law 497 = .ok (.aload_n 3, 1) := by decide +kernel
theorem dL_law_498 : decode cL_law 498 = .ok (.invokestatic 100, 3) := by decide +kernel
theorem dL_law_501 : decode cL_law 501 = .ok (.istore 5, 2) := by decide +kernel
theorem dL_law_503 : decode cL_law 503 = .ok (.aload_n 2, 1) := by decide +kernel
theorem dL_law_504 : decode cL_law 504 = .ok (.aload_n 0, 1) := by decide +kernel
theorem dL_law_505 : decode cL_law 505 = .ok (.iload 4, 2) := by decide +kernel
theorem dL_law_507 : decode cL_law 507 = .ok (.iconst 1, 1) := by decide +kernel
theorem dL_law_508 : decode cL_law 508 = .ok (.iadd, 1) := by decide +kernel
theorem dL_law_509 : decode cL_law 509 = .ok (.iaload, 1) := by decide +kernel
theorem dL_law_510 : decode cL_law 510 = .ok (.aload_n 0, 1) := by decide +kernel
theorem dL_law_511 : decode cL_law 511 = .ok (.iload 4, 2) := by decide +kernel
theorem dL_law_513 : decode cL_law 513 = .ok (.iconst 2, 1) := by decide +kernel
theorem dL_law_514 : decode cL_law 514 = .ok (.iadd, 1) := by decide +kernel
theorem dL_law_515 : decode cL_law 515 = .ok (.iaload, 1) := by decide +kernel
theorem dL_law_516 : decode cL_law 516 = .ok (.invokevirtual 102, 3) := by decide +kernel
theorem dL_law_519 : decode cL_law 519 = .ok (.istore 6, 2) := by decide +kernel
theorem dL_law_521 : decode cL_law 521 = .ok (.aload_n 2, 1) := by decide +kernel
theorem dL_law_522 : decode cL_law 522 = .ok (.invokevirtual 83, 3) := by decide +kernel
theorem dL_law_525 : decode cL_law 525 = .ok (.iload 5, 2) := by decide +kernel
theorem dL_law_527 : decode cL_law 527 = .ok (.if_icmp .eq 5, 3) := by decide +kernel
theorem dL_law_530 : decode cL_law 530 = .ok (.iconst 0, 1) := by decide +kernel
theorem dL_law_531 : decode cL_law 531 = .ok (.ireturn, 1) := by decide +kernel
theorem dL_law_532 : decode cL_law 532 = .ok (.iload 5, 2) := by decide +kernel
theorem dL_law_534 : decode cL_law 534 = .ok (.ifCond .ne 15, 3) := by decide +kernel
theorem dL_law_537 : decode cL_law 537 = .ok (.aload_n 3, 1) := by decide +kernel
theorem dL_law_538 : decode cL_law 538 = .ok (.iconst 0, 1) := by decide +kernel
theorem dL_law_539 : decode cL_law 539 = .ok (.laload, 1) := by decide +kernel
theorem dL_law_540 : decode cL_law 540 = .ok (.iload 6, 2) := by decide +kernel
theorem dL_law_542 : decode cL_law 542 = .ok (.i2l, 1) := by decide +kernel
theorem dL_law_543 : decode cL_law 543 = .ok (.lcmp, 1) := by decide +kernel
theorem dL_law_544 : decode cL_law 544 = .ok (.ifCond .eq 5, 3) := by decide +kernel
theorem dL_law_547 : decode cL_law 547 = .ok (.iconst 0, 1) := by decide +kernel
theorem dL_law_548 : decode cL_law 548 = .ok (.ireturn, 1) := by decide +kernel
theorem dL_law_549 : decode cL_law 549 = .ok (.goto 793, 3) := by decide +kernel
theorem dL_law_552 : decode cL_law 552 = .ok (.aload_n 1, 1) := by decide +kernel
theorem dL_law_553 : decode cL_law 553 = .ok (.aload_n 0, 1) := by decide +kernel
theorem dL_law_554 : decode cL_law 554 = .ok (.iload 4, 2) := by decide +kernel
theorem dL_law_556 : decode cL_law 556 = .ok (.iconst 1, 1) := by decide +kernel
theorem dL_law_557 : decode cL_law 557 = .ok (.iadd, 1) := by decide +kernel
theorem dL_law_558 : decode cL_law 558 = .ok (.iaload, 1) := by decide +kernel
theorem dL_law_559 : decode cL_law 559 = .ok (.aload_n 0, 1) := by decide +kernel
theorem dL_law_560 : decode cL_law 560 = .ok (.iload 4, 2) := by decide +kernel
theorem dL_law_562 : decode cL_law 562 = .ok (.iconst 2, 1) := by decide +kernel
theorem dL_law_563 : decode cL_law 563 = .ok (.iadd, 1) := by decide +kernel
theorem dL_law_564 : decode cL_law 564 = .ok (.iaload, 1) := by decide +kernel
theorem dL_law_565 : decode cL_law 565 = .ok (.aload_n 3, 1) := by decide +kernel
theorem dL_law_566 : decode cL_law 566 = .ok (.invokestatic 103, 3) := by decide +kernel
theorem dL_law_569 : decode cL_law 569 = .ok (.istore 5, 2) := by decide +kernel
theorem dL_law_571 : decode cL_law 571 = .ok (.aload_n 2, 1) := by decide +kernel
theorem dL_law_572 : decode cL_law 572 = .ok (.aload_n 0, 1) := by decide +kernel
theorem dL_law_573 : decode cL_law 573 = .ok (.iload 4, 2) := by decide +kernel
theorem dL_law_575 : decode cL_law 575 = .ok (.iconst 1, 1) := by decide +kernel
theorem dL_law_576 : decode cL_law 576 = .ok (.iadd, 1) := by decide +kernel
theorem dL_law_577 : decode cL_law 577 = .ok (.iaload, 1) := by decide +kernel
theorem dL_law_578 : decode cL_law 578 = .ok (.aload_n 0, 1) := by decide +kernel
theorem dL_law_579 : decode cL_law 579 = .ok (.iload 4, 2) := by decide +kernel
theorem dL_law_581 : decode cL_law 581 = .ok (.iconst 2, 1) := by decide +kernel
theorem dL_law_582 : decode cL_law 582 = .ok (.iadd, 1) := by decide +kernel
theorem dL_law_583 : decode cL_law 583 = .ok (.iaload, 1) := by decide +kernel
theorem dL_law_584 : decode cL_law 584 = .ok (.invokevirtual 105, 3) := by decide +kernel
theorem dL_law_587 : decode cL_law 587 = .ok (.istore 6, 2) := by decide +kernel
theorem dL_law_589 : decode cL_law 589 = .ok (.aload_n 2, 1) := by decide +kernel
theorem dL_law_590 : decode cL_law 590 = .ok (.invokevirtual 83, 3) := by decide +kernel
theorem dL_law_593 : decode cL_law 593 = .ok (.iload 5, 2) := by decide +kernel
theorem dL_law_595 : decode cL_law 595 = .ok (.if_icmp .eq 5, 3) := by decide +kernel
theorem dL_law_598 : decode cL_law 598 = .ok (.iconst 0, 1) := by decide +kernel
theorem dL_law_599 : decode cL_law 599 = .ok (.ireturn, 1) := by decide +kernel
theorem dL_law_600 : decode cL_law 600 = .ok (.iload 5, 2) := by decide +kernel
theorem dL_law_602 : decode cL_law 602 = .ok (.ifCond .ne 15, 3) := by decide +kernel
theorem dL_law_605 : decode cL_law 605 = .ok (.aload_n 3, 1) := by decide +kernel
theorem dL_law_606 : decode cL_law 606 = .ok (.iconst 0, 1) := by decide +kernel
theorem dL_law_607 : decode cL_law 607 = .ok (.laload, 1) := by decide +kernel
theorem dL_law_608 : decode cL_law 608 = .ok (.iload 6, 2) := by decide +kernel
theorem dL_law_610 : decode cL_law 610 = .ok (.i2l, 1) := by decide +kernel
theorem dL_law_611 : decode cL_law 611 = .ok (.lcmp, 1) := by decide +kernel
theorem dL_law_612 : decode cL_law 612 = .ok (.ifCond .eq 5, 3) := by decide +kernel
theorem dL_law_615 : decode cL_law 615 = .ok (.iconst 0, 1) := by decide +kernel
theorem dL_law_616 : decode cL_law 616 = .ok (.ireturn, 1) := by decide +kernel
theorem dL_law_617 : decode cL_law 617 = .ok (.goto 725, 3) := by decide +kernel
theorem dL_law_620 : decode cL_law 620 = .ok (.aload_n 1, 1) := by decide +kernel
theorem dL_law_621 : decode cL_law 621 = .ok (.aload_n 0, 1) := by decide +kernel
theorem dL_law_622 : decode cL_law 622 = .ok (.iload 4, 2) := by decide +kernel
theorem dL_law_624 : decode cL_law 624 = .ok (.iconst 1, 1) := by decide +kernel
theorem dL_law_625 : decode cL_law 625 = .ok (.iadd, 1) := by decide +kernel
theorem dL_law_626 : decode cL_law 626 = .ok (.iaload, 1) := by decide +kernel
theorem dL_law_627 : decode cL_law 627 = .ok (.aload_n 3, 1) := by decide +kernel
theorem dL_law_628 : decode cL_law 628 = .ok (.invokestatic 106, 3) := by decide +kernel
theorem dL_law_631 : decode cL_law 631 = .ok (.istore 5, 2) := by decide +kernel
theorem dL_law_633 : decode cL_law 633 = .ok (.aload_n 2, 1) := by decide +kernel
theorem dL_law_634 : decode cL_law 634 = .ok (.aload_n 0, 1) := by decide +kernel
theorem dL_law_635 : decode cL_law 635 = .ok (.iload 4, 2) := by decide +kernel
theorem dL_law_637 : decode cL_law 637 = .ok (.iconst 1, 1) := by decide +kernel
theorem dL_law_638 : decode cL_law 638 = .ok (.iadd, 1) := by decide +kernel
theorem dL_law_639 : decode cL_law 639 = .ok (.iaload, 1) := by decide +kernel
theorem dL_law_640 : decode cL_law 640 = .ok (.invokevirtual 108, 3) := by decide +kernel
theorem dL_law_643 : decode cL_law 643 = .ok (.istore 6, 2) := by decide +kernel
theorem dL_law_645 : decode cL_law 645 = .ok (.aload_n 2, 1) := by decide +kernel
theorem dL_law_646 : decode cL_law 646 = .ok (.invokevirtual 83, 3) := by decide +kernel
theorem dL_law_649 : decode cL_law 649 = .ok (.iload 5, 2) := by decide +kernel
theorem dL_law_651 : decode cL_law 651 = .ok (.if_icmp .eq 5, 3) := by decide +kernel
theorem dL_law_654 : decode cL_law 654 = .ok (.iconst 0, 1) := by decide +kernel
theorem dL_law_655 : decode cL_law 655 = .ok (.ireturn, 1) := by decide +kernel
theorem dL_law_656 : decode cL_law 656 = .ok (.iload 5, 2) := by decide +kernel
theorem dL_law_658 : decode cL_law 658 = .ok (.ifCond .ne 15, 3) := by decide +kernel
theorem dL_law_661 : decode cL_law 661 = .ok (.aload_n 3, 1) := by decide +kernel
theorem dL_law_662 : decode cL_law 662 = .ok (.iconst 0, 1) := by decide +kernel
theorem dL_law_663 : decode cL_law 663 = .ok (.laload, 1) := by decide +kernel
theorem dL_law_664 : decode cL_law 664 = .ok (.iload 6, 2) := by decide +kernel
theorem dL_law_666 : decode cL_law 666 = .ok (.i2l, 1) := by decide +kernel
theorem dL_law_667 : decode cL_law 667 = .ok (.lcmp, 1) := by decide +kernel
theorem dL_law_668 : decode cL_law 668 = .ok (.ifCond .eq 5, 3) := by decide +kernel
theorem dL_law_671 : decode cL_law 671 = .ok (.iconst 0, 1) := by decide +kernel
theorem dL_law_672 : decode cL_law 672 = .ok (.ireturn, 1) := by decide +kernel
theorem dL_law_673 : decode cL_law 673 = .ok (.goto 669, 3) := by decide +kernel
theorem dL_law_676 : decode cL_law 676 = .ok (.aload_n 1, 1) := by decide +kernel
theorem dL_law_677 : decode cL_law 677 = .ok (.aload_n 0, 1) := by decide +kernel
theorem dL_law_678 : decode cL_law 678 = .ok (.iload 4, 2) := by decide +kernel
theorem dL_law_680 : decode cL_law 680 = .ok (.iconst 1, 1) := by decide +kernel
theorem dL_law_681 : decode cL_law 681 = .ok (.iadd, 1) := by decide +kernel
theorem dL_law_682 : decode cL_law 682 = .ok (.iaload, 1) := by decide +kernel
theorem dL_law_683 : decode cL_law 683 = .ok (.aload_n 3, 1) := by decide +kernel
theorem dL_law_684 : decode cL_law 684 = .ok (.invokestatic 109, 3) := by decide +kernel
theorem dL_law_687 : decode cL_law 687 = .ok (.istore 5, 2) := by decide +kernel
theorem dL_law_689 : decode cL_law 689 = .ok (.aload_n 2, 1) := by decide +kernel
theorem dL_law_690 : decode cL_law 690 = .ok (.aload_n 0, 1) := by decide +kernel
theorem dL_law_691 : decode cL_law 691 = .ok (.iload 4, 2) := by decide +kernel
theorem dL_law_693 : decode cL_law 693 = .ok (.iconst 1, 1) := by decide +kernel
theorem dL_law_694 : decode cL_law 694 = .ok (.iadd, 1) := by decide +kernel
theorem dL_law_695 : decode cL_law 695 = .ok (.iaload, 1) := by decide +kernel
theorem dL_law_696 : decode cL_law 696 = .ok (.invokevirtual 111, 3) := by decide +kernel
theorem dL_law_699 : decode cL_law 699 = .ok (.istore 6, 2) := by decide +kernel
theorem dL_law_701 : decode cL_law 701 = .ok (.aload_n 2, 1) := by decide +kernel
theorem dL_law_702 : decode cL_law 702 = .ok (.invokevirtual 83, 3) := by decide +kernel
theorem dL_law_705 : decode cL_law 705 = .ok (.iload 5, 2) := by decide +kernel
theorem dL_law_707 : decode cL_law 707 = .ok (.if_icmp .eq 5, 3) := by decide +kernel
theorem dL_law_710 : decode cL_law 710 = .ok (.iconst 0, 1) := by decide +kernel
theorem dL_law_711 : decode cL_law 711 = .ok (.ireturn, 1) := by decide +kernel
theorem dL_law_712 : decode cL_law 712 = .ok (.iload 5, 2) := by decide +kernel
theorem dL_law_714 : decode cL_law 714 = .ok (.ifCond .ne 15, 3) := by decide +kernel
theorem dL_law_717 : decode cL_law 717 = .ok (.aload_n 3, 1) := by decide +kernel
theorem dL_law_718 : decode cL_law 718 = .ok (.iconst 0, 1) := by decide +kernel
theorem dL_law_719 : decode cL_law 719 = .ok (.laload, 1) := by decide +kernel
theorem dL_law_720 : decode cL_law 720 = .ok (.iload 6, 2) := by decide +kernel
theorem dL_law_722 : decode cL_law 722 = .ok (.i2l, 1) := by decide +kernel
theorem dL_law_723 : decode cL_law 723 = .ok (.lcmp, 1) := by decide +kernel
theorem dL_law_724 : decode cL_law 724 = .ok (.ifCond .eq 5, 3) := by decide +kernel
theorem dL_law_727 : decode cL_law 727 = .ok (.iconst 0, 1) := by decide +kernel
theorem dL_law_728 : decode cL_law 728 = .ok (.ireturn, 1) := by decide +kernel
theorem dL_law_729 : decode cL_law 729 = .ok (.goto 613, 3) := by decide +kernel
theorem dL_law_732 : decode cL_law 732 = .ok (.aload_n 1, 1) := by decide +kernel
theorem dL_law_733 : decode cL_law 733 = .ok (.invokevirtual 112, 3) := by decide +kernel
theorem dL_law_736 : decode cL_law 736 = .ok (.aload_n 2, 1) := by decide +kernel
theorem dL_law_737 : decode cL_law 737 = .ok (.invokevirtual 115, 3) := by decide +kernel
theorem dL_law_740 : decode cL_law 740 = .ok (.if_icmp .eq 602, 3) := by decide +kernel
theorem dL_law_743 : decode cL_law 743 = .ok (.iconst 0, 1) := by decide +kernel
theorem dL_law_744 : decode cL_law 744 = .ok (.ireturn, 1) := by decide +kernel
theorem dL_law_745 : decode cL_law 745 = .ok (.aload_n 1, 1) := by decide +kernel
theorem dL_law_746 : decode cL_law 746 = .ok (.invokevirtual 116, 3) := by decide +kernel
theorem dL_law_749 : decode cL_law 749 = .ok (.aload_n 2, 1) := by decide +kernel
theorem dL_law_750 : decode cL_law 750 = .ok (.invokevirtual 119, 3) := by decide +kernel
theorem dL_law_753 : decode cL_law 753 = .ok (.if_icmp .eq 589, 3) := by decide +kernel
theorem dL_law_756 : decode cL_law 756 = .ok (.iconst 0, 1) := by decide +kernel
theorem dL_law_757 : decode cL_law 757 = .ok (.ireturn, 1) := by decide +kernel
theorem dL_law_758 : decode cL_law 758 = .ok (.aload_n 1, 1) := by decide +kernel
theorem dL_law_759 : decode cL_law 759 = .ok (.aload_n 3, 1) := by decide +kernel
theorem dL_law_760 : decode cL_law 760 = .ok (.invokestatic 120, 3) := by decide +kernel
theorem dL_law_763 : decode cL_law 763 = .ok (.istore 5, 2) := by decide +kernel
theorem dL_law_765 : decode cL_law 765 = .ok (.aload_n 2, 1) := by decide +kernel
theorem dL_law_766 : decode cL_law 766 = .ok (.invokevirtual 123, 3) := by decide +kernel
theorem dL_law_769 : decode cL_law 769 = .ok (.istore 6, 2) := by decide +kernel
theorem dL_law_771 : decode cL_law 771 = .ok (.aload_n 2, 1) := by decide +kernel
theorem dL_law_772 : decode cL_law 772 = .ok (.invokevirtual 83, 3) := by decide +kernel
theorem dL_law_775 : decode cL_law 775 = .ok (.iload 5, 2) := by decide +kernel
theorem dL_law_777 : decode cL_law 777 = .ok (.if_icmp .eq 5, 3) := by decide +kernel
theorem dL_law_780 : decode cL_law 780 = .ok (.iconst 0, 1) := by decide +kernel
theorem dL_law_781 : decode cL_law 781 = .ok (.ireturn, 1) := by decide +kernel
theorem dL_law_782 : decode cL_law 782 = .ok (.iload 5, 2) := by decide +kernel
theorem dL_law_784 : decode cL_law 784 = .ok (.ifCond .ne 15, 3) := by decide +kernel
theorem dL_law_787 : decode cL_law 787 = .ok (.aload_n 3, 1) := by decide +kernel
theorem dL_law_788 : decode cL_law 788 = .ok (.iconst 0, 1) := by decide +kernel
theorem dL_law_789 : decode cL_law 789 = .ok (.laload, 1) := by decide +kernel
theorem dL_law_790 : decode cL_law 790 = .ok (.iload 6, 2) := by decide +kernel
theorem dL_law_792 : decode cL_law 792 = .ok (.i2l, 1) := by decide +kernel
theorem dL_law_793 : decode cL_law 793 = .ok (.lcmp, 1) := by decide +kernel
theorem dL_law_794 : decode cL_law 794 = .ok (.ifCond .eq 5, 3) := by decide +kernel
theorem dL_law_797 : decode cL_law 797 = .ok (.iconst 0, 1) := by decide +kernel
theorem dL_law_798 : decode cL_law 798 = .ok (.ireturn, 1) := by decide +kernel
theorem dL_law_799 : decode cL_law 799 = .ok (.goto 543, 3) := by decide +kernel
theorem dL_law_802 : decode cL_law 802 = .ok (.aload_n 1, 1) := by decide +kernel
theorem dL_law_803 : decode cL_law 803 = .ok (.aload_n 3, 1) := by decide +kernel
theorem dL_law_804 : decode cL_law 804 = .ok (.invokestatic 124, 3) := by decide +kernel
theorem dL_law_807 : decode cL_law 807 = .ok (.istore 5, 2) := by decide +kernel
theorem dL_law_809 : decode cL_law 809 = .ok (.aload_n 2, 1) := by decide +kernel
theorem dL_law_810 : decode cL_law 810 = .ok (.invokevirtual 126, 3) := by decide +kernel
theorem dL_law_813 : decode cL_law 813 = .ok (.istore 6, 2) := by decide +kernel
theorem dL_law_815 : decode cL_law 815 = .ok (.aload_n 2, 1) := by decide +kernel
theorem dL_law_816 : decode cL_law 816 = .ok (.invokevirtual 83, 3) := by decide +kernel
theorem dL_law_819 : decode cL_law 819 = .ok (.iload 5, 2) := by decide +kernel
theorem dL_law_821 : decode cL_law 821 = .ok (.if_icmp .eq 5, 3) := by decide +kernel
theorem dL_law_824 : decode cL_law 824 = .ok (.iconst 0, 1) := by decide +kernel
theorem dL_law_825 : decode cL_law 825 = .ok (.ireturn, 1) := by decide +kernel
theorem dL_law_826 : decode cL_law 826 = .ok (.iload 5, 2) := by decide +kernel
theorem dL_law_828 : decode cL_law 828 = .ok (.ifCond .ne 15, 3) := by decide +kernel
theorem dL_law_831 : decode cL_law 831 = .ok (.aload_n 3, 1) := by decide +kernel
theorem dL_law_832 : decode cL_law 832 = .ok (.iconst 0, 1) := by decide +kernel
theorem dL_law_833 : decode cL_law 833 = .ok (.laload, 1) := by decide +kernel
theorem dL_law_834 : decode cL_law 834 = .ok (.iload 6, 2) := by decide +kernel
theorem dL_law_836 : decode cL_law 836 = .ok (.i2l, 1) := by decide +kernel
theorem dL_law_837 : decode cL_law 837 = .ok (.lcmp, 1) := by decide +kernel
theorem dL_law_838 : decode cL_law 838 = .ok (.ifCond .eq 5, 3) := by decide +kernel
theorem dL_law_841 : decode cL_law 841 = .ok (.iconst 0, 1) := by decide +kernel
theorem dL_law_842 : decode cL_law 842 = .ok (.ireturn, 1) := by decide +kernel
theorem dL_law_843 : decode cL_law 843 = .ok (.goto 499, 3) := by decide +kernel
theorem dL_law_846 : decode cL_law 846 = .ok (.aload_n 1, 1) := by decide +kernel
theorem dL_law_847 : decode cL_law 847 = .ok (.aload_n 0, 1) := by decide +kernel
theorem dL_law_848 : decode cL_law 848 = .ok (.iload 4, 2) := by decide +kernel
theorem dL_law_850 : decode cL_law 850 = .ok (.iconst 1, 1) := by decide +kernel
theorem dL_law_851 : decode cL_law 851 = .ok (.iadd, 1) := by decide +kernel
theorem dL_law_852 : decode cL_law 852 = .ok (.iaload, 1) := by decide +kernel
theorem dL_law_853 : decode cL_law 853 = .ok (.aload_n 0, 1) := by decide +kernel
theorem dL_law_854 : decode cL_law 854 = .ok (.iload 4, 2) := by decide +kernel
theorem dL_law_856 : decode cL_law 856 = .ok (.iconst 2, 1) := by decide +kernel
theorem dL_law_857 : decode cL_law 857 = .ok (.iadd, 1) := by decide +kernel
theorem dL_law_858 : decode cL_law 858 = .ok (.iaload, 1) := by decide +kernel
theorem dL_law_859 : decode cL_law 859 = .ok (.aload_n 3, 1) := by decide +kernel
theorem dL_law_860 : decode cL_law 860 = .ok (.invokestatic 127, 3) := by decide +kernel
theorem dL_law_863 : decode cL_law 863 = .ok (.istore 5, 2) := by decide +kernel
theorem dL_law_865 : decode cL_law 865 = .ok (.aload_n 2, 1) := by decide +kernel
theorem dL_law_866 : decode cL_law 866 = .ok (.aload_n 0, 1) := by decide +kernel
theorem dL_law_867 : decode cL_law 867 = .ok (.iload 4, 2) := by decide +kernel
theorem dL_law_869 : decode cL_law 869 = .ok (.iconst 1, 1) := by decide +kernel
theorem dL_law_870 : decode cL_law 870 = .ok (.iadd, 1) := by decide +kernel
theorem dL_law_871 : decode cL_law 871 = .ok (.iaload, 1) := by decide +kernel
theorem dL_law_872 : decode cL_law 872 = .ok (.aload_n 0, 1) := by decide +kernel
theorem dL_law_873 : decode cL_law 873 = .ok (.iload 4, 2) := by decide +kernel
theorem dL_law_875 : decode cL_law 875 = .ok (.iconst 2, 1) := by decide +kernel
theorem dL_law_876 : decode cL_law 876 = .ok (.iadd, 1) := by decide +kernel
theorem dL_law_877 : decode cL_law 877 = .ok (.iaload, 1) := by decide +kernel
theorem dL_law_878 : decode cL_law 878 = .ok (.invokevirtual 129, 3) := by decide +kernel
theorem dL_law_881 : decode cL_law 881 = .ok (.istore 6, 2) := by decide +kernel
theorem dL_law_883 : decode cL_law 883 = .ok (.aload_n 2, 1) := by decide +kernel
theorem dL_law_884 : decode cL_law 884 = .ok (.invokevirtual 83, 3) := by decide +kernel
theorem dL_law_887 : decode cL_law 887 = .ok (.iload 5, 2) := by decide +kernel
theorem dL_law_889 : decode cL_law 889 = .ok (.if_icmp .eq 5, 3) := by decide +kernel
theorem dL_law_892 : decode cL_law 892 = .ok (.iconst 0, 1) := by decide +kernel
theorem dL_law_893 : decode cL_law 893 = .ok (.ireturn, 1) := by decide +kernel
theorem dL_law_894 : decode cL_law 894 = .ok (.iload 5, 2) := by decide +kernel
theorem dL_law_896 : decode cL_law 896 = .ok (.ifCond .ne 15, 3) := by decide +kernel
theorem dL_law_899 : decode cL_law 899 = .ok (.aload_n 3, 1) := by decide +kernel
theorem dL_law_900 : decode cL_law 900 = .ok (.iconst 0, 1) := by decide +kernel
theorem dL_law_901 : decode cL_law 901 = .ok (.laload, 1) := by decide +kernel
theorem dL_law_902 : decode cL_law 902 = .ok (.iload 6, 2) := by decide +kernel
theorem dL_law_904 : decode cL_law 904 = .ok (.i2l, 1) := by decide +kernel
theorem dL_law_905 : decode cL_law 905 = .ok (.lcmp, 1) := by decide +kernel
theorem dL_law_906 : decode cL_law 906 = .ok (.ifCond .eq 5, 3) := by decide +kernel
theorem dL_law_909 : decode cL_law 909 = .ok (.iconst 0, 1) := by decide +kernel
theorem dL_law_910 : decode cL_law 910 = .ok (.ireturn, 1) := by decide +kernel
theorem dL_law_911 : decode cL_law 911 = .ok (.goto 431, 3) := by decide +kernel
theorem dL_law_914 : decode cL_law 914 = .ok (.aload_n 1, 1) := by decide +kernel
theorem dL_law_915 : decode cL_law 915 = .ok (.aload_n 0, 1) := by decide +kernel
theorem dL_law_916 : decode cL_law 916 = .ok (.iload 4, 2) := by decide +kernel
theorem dL_law_918 : decode cL_law 918 = .ok (.iconst 1, 1) := by decide +kernel
theorem dL_law_919 : decode cL_law 919 = .ok (.iadd, 1) := by decide +kernel
theorem dL_law_920 : decode cL_law 920 = .ok (.iaload, 1) := by decide +kernel
theorem dL_law_921 : decode cL_law 921 = .ok (.aload_n 0, 1) := by decide +kernel
theorem dL_law_922 : decode cL_law 922 = .ok (.iload 4, 2) := by decide +kernel
theorem dL_law_924 : decode cL_law 924 = .ok (.iconst 2, 1) := by decide +kernel
theorem dL_law_925 : decode cL_law 925 = .ok (.iadd, 1) := by decide +kernel
theorem dL_law_926 : decode cL_law 926 = .ok (.iaload, 1) := by decide +kernel
theorem dL_law_927 : decode cL_law 927 = .ok (.aload_n 3, 1) := by decide +kernel
theorem dL_law_928 : decode cL_law 928 = .ok (.invokestatic 130, 3) := by decide +kernel
theorem dL_law_931 : decode cL_law 931 = .ok (.istore 5, 2) := by decide +kernel
theorem dL_law_933 : decode cL_law 933 = .ok (.aload_n 2, 1) := by decide +kernel
theorem dL_law_934 : decode cL_law 934 = .ok (.aload_n 0, 1) := by decide +kernel
theorem dL_law_935 : decode cL_law 935 = .ok (.iload 4, 2) := by decide +kernel
theorem dL_law_937 : decode cL_law 937 = .ok (.iconst 1, 1) := by decide +kernel
theorem dL_law_938 : decode cL_law 938 = .ok (.iadd, 1) := by decide +kernel
theorem dL_law_939 : decode cL_law 939 = .ok (.iaload, 1) := by decide +kernel
theorem dL_law_940 : decode cL_law 940 = .ok (.aload_n 0, 1) := by decide +kernel
theorem dL_law_941 : decode cL_law 941 = .ok (.iload 4, 2) := by decide +kernel
theorem dL_law_943 : decode cL_law 943 = .ok (.iconst 2, 1) := by decide +kernel
theorem dL_law_944 : decode cL_law 944 = .ok (.iadd, 1) := by decide +kernel
theorem dL_law_945 : decode cL_law 945 = .ok (.iaload, 1) := by decide +kernel
theorem dL_law_946 : decode cL_law 946 = .ok (.invokevirtual 132, 3) := by decide +kernel
theorem dL_law_949 : decode cL_law 949 = .ok (.istore 6, 2) := by decide +kernel
theorem dL_law_951 : decode cL_law 951 = .ok (.aload_n 2, 1) := by decide +kernel
theorem dL_law_952 : decode cL_law 952 = .ok (.invokevirtual 83, 3) := by decide +kernel
theorem dL_law_955 : decode cL_law 955 = .ok (.iload 5, 2) := by decide +kernel
theorem dL_law_957 : decode cL_law 957 = .ok (.if_icmp .eq 5, 3) := by decide +kernel
theorem dL_law_960 : decode cL_law 960 = .ok (.iconst 0, 1) := by decide +kernel
theorem dL_law_961 : decode cL_law 961 = .ok (.ireturn, 1) := by decide +kernel
theorem dL_law_962 : decode cL_law 962 = .ok (.iload 5, 2) := by decide +kernel
theorem dL_law_964 : decode cL_law 964 = .ok (.ifCond .ne 15, 3) := by decide +kernel
theorem dL_law_967 : decode cL_law 967 = .ok (.aload_n 3, 1) := by decide +kernel
theorem dL_law_968 : decode cL_law 968 = .ok (.iconst 0, 1) := by decide +kernel
theorem dL_law_969 : decode cL_law 969 = .ok (.laload, 1) := by decide +kernel
theorem dL_law_970 : decode cL_law 970 = .ok (.iload 6, 2) := by decide +kernel
theorem dL_law_972 : decode cL_law 972 = .ok (.i2l, 1) := by decide +kernel
theorem dL_law_973 : decode cL_law 973 = .ok (.lcmp, 1) := by decide +kernel
theorem dL_law_974 : decode cL_law 974 = .ok (.ifCond .eq 5, 3) := by decide +kernel
theorem dL_law_977 : decode cL_law 977 = .ok (.iconst 0, 1) := by decide +kernel
theorem dL_law_978 : decode cL_law 978 = .ok (.ireturn, 1) := by decide +kernel
theorem dL_law_979 : decode cL_law 979 = .ok (.goto 363, 3) := by decide +kernel
theorem dL_law_982 : decode cL_law 982 = .ok (.aload_n 1, 1) := by decide +kernel
theorem dL_law_983 : decode cL_law 983 = .ok (.aload_n 0, 1) := by decide +kernel
theorem dL_law_984 : decode cL_law 984 = .ok (.iload 4, 2) := by decide +kernel
theorem dL_law_986 : decode cL_law 986 = .ok (.iconst 1, 1) := by decide +kernel
theorem dL_law_987 : decode cL_law 987 = .ok (.iadd, 1) := by decide +kernel
theorem dL_law_988 : decode cL_law 988 = .ok (.iaload, 1) := by decide +kernel
theorem dL_law_989 : decode cL_law 989 = .ok (.aload_n 3, 1) := by decide +kernel
theorem dL_law_990 : decode cL_law 990 = .ok (.invokestatic 133, 3) := by decide +kernel
theorem dL_law_993 : decode cL_law 993 = .ok (.istore 5, 2) := by decide +kernel
theorem dL_law_995 : decode cL_law 995 = .ok (.aload_n 2, 1) := by decide +kernel
theorem dL_law_996 : decode cL_law 996 = .ok (.aload_n 0, 1) := by decide +kernel
theorem dL_law_997 : decode cL_law 997 = .ok (.iload 4, 2) := by decide +kernel
theorem dL_law_999 : decode cL_law 999 = .ok (.iconst 1, 1) := by decide +kernel
theorem dL_law_1000 : decode cL_law 1000 = .ok (.iadd, 1) := by decide +kernel
theorem dL_law_1001 : decode cL_law 1001 = .ok (.iaload, 1) := by decide +kernel
theorem dL_law_1002 : decode cL_law 1002 = .ok (.invokevirtual 135, 3) := by decide +kernel
theorem dL_law_1005 : decode cL_law 1005 = .ok (.istore 6, 2) := by decide +kernel
theorem dL_law_1007 : decode cL_law 1007 = .ok (.aload_n 2, 1) := by decide +kernel
theorem dL_law_1008 : decode cL_law 1008 = .ok (.invokevirtual 83, 3) := by decide +kernel
theorem dL_law_1011 : decode cL_law 1011 = .ok (.iload 5, 2) := by decide +kernel
theorem dL_law_1013 : decode cL_law 1013 = .ok (.if_icmp .eq 5, 3) := by decide +kernel
theorem dL_law_1016 : decode cL_law 1016 = .ok (.iconst 0, 1) := by decide +kernel
theorem dL_law_1017 : decode cL_law 1017 = .ok (.ireturn, 1) := by decide +kernel
theorem dL_law_1018 : decode cL_law 1018 = .ok (.iload 5, 2) := by decide +kernel
theorem dL_law_1020 : decode cL_law 1020 = .ok (.ifCond .ne 15, 3) := by decide +kernel
theorem dL_law_1023 : decode cL_law 1023 = .ok (.aload_n 3, 1) := by decide +kernel
theorem dL_law_1024 : decode cL_law 1024 = .ok (.iconst 0, 1) := by decide +kernel
theorem dL_law_1025 : decode cL_law 1025 = .ok (.laload, 1) := by decide +kernel
theorem dL_law_1026 : decode cL_law 1026 = .ok (.iload 6, 2) := by decide +kernel
theorem dL_law_1028 : decode cL_law 1028 = .ok (.i2l, 1) := by decide +kernel
theorem dL_law_1029 : decode cL_law 1029 = .ok (.lcmp, 1) := by decide +kernel
theorem dL_law_1030 : decode cL_law 1030 = .ok (.ifCond .eq 5, 3) := by decide +kernel
theorem dL_law_1033 : decode cL_law 1033 = .ok (.iconst 0, 1) := by decide +kernel
theorem dL_law_1034 : decode cL_law 1034 = .ok (.ireturn, 1) := by decide +kernel
theorem dL_law_1035 : decode cL_law 1035 = .ok (.goto 307, 3) := by decide +kernel
theorem dL_law_1038 : decode cL_law 1038 = .ok (.aload_n 1, 1) := by decide +kernel
theorem dL_law_1039 : decode cL_law 1039 = .ok (.aload_n 0, 1) := by decide +kernel
theorem dL_law_1040 : decode cL_law 1040 = .ok (.iload 4, 2) := by decide +kernel
theorem dL_law_1042 : decode cL_law 1042 = .ok (.iconst 1, 1) := by decide +kernel
theorem dL_law_1043 : decode cL_law 1043 = .ok (.iadd, 1) := by decide +kernel
theorem dL_law_1044 : decode cL_law 1044 = .ok (.iaload, 1) := by decide +kernel
theorem dL_law_1045 : decode cL_law 1045 = .ok (.aload_n 3, 1) := by decide +kernel
theorem dL_law_1046 : decode cL_law 1046 = .ok (.invokestatic 136, 3) := by decide +kernel
theorem dL_law_1049 : decode cL_law 1049 = .ok (.istore 5, 2) := by decide +kernel
theorem dL_law_1051 : decode cL_law 1051 = .ok (.aload_n 2, 1) := by decide +kernel
theorem dL_law_1052 : decode cL_law 1052 = .ok (.aload_n 0, 1) := by decide +kernel
theorem dL_law_1053 : decode cL_law 1053 = .ok (.iload 4, 2) := by decide +kernel
theorem dL_law_1055 : decode cL_law 1055 = .ok (.iconst 1, 1) := by decide +kernel
theorem dL_law_1056 : decode cL_law 1056 = .ok (.iadd, 1) := by decide +kernel
theorem dL_law_1057 : decode cL_law 1057 = .ok (.iaload, 1) := by decide +kernel
theorem dL_law_1058 : decode cL_law 1058 = .ok (.invokevirtual 138, 3) := by decide +kernel
theorem dL_law_1061 : decode cL_law 1061 = .ok (.istore 6, 2) := by decide +kernel
theorem dL_law_1063 : decode cL_law 1063 = .ok (.aload_n 2, 1) := by decide +kernel
theorem dL_law_1064 : decode cL_law 1064 = .ok (.invokevirtual 83, 3) := by decide +kernel
theorem dL_law_1067 : decode cL_law 1067 = .ok (.iload 5, 2) := by decide +kernel
theorem dL_law_1069 : decode cL_law 1069 = .ok (.if_icmp .eq 5, 3) := by decide +kernel
theorem dL_law_1072 : decode cL_law 1072 = .ok (.iconst 0, 1) := by decide +kernel
theorem dL_law_1073 : decode cL_law 1073 = .ok (.ireturn, 1) := by decide +kernel
theorem dL_law_1074 : decode cL_law 1074 = .ok (.iload 5, 2) := by decide +kernel
theorem dL_law_1076 : decode cL_law 1076 = .ok (.ifCond .ne 15, 3) := by decide +kernel
theorem dL_law_1079 : decode cL_law 1079 = .ok (.aload_n 3, 1) := by decide +kernel
theorem dL_law_1080 : decode cL_law 1080 = .ok (.iconst 0, 1) := by decide +kernel
theorem dL_law_1081 : decode cL_law 1081 = .ok (.laload, 1) := by decide +kernel
theorem dL_law_1082 : decode cL_law 1082 = .ok (.iload 6, 2) := by decide +kernel
theorem dL_law_1084 : decode cL_law 1084 = .ok (.i2l, 1) := by decide +kernel
theorem dL_law_1085 : decode cL_law 1085 = .ok (.lcmp, 1) := by decide +kernel
theorem dL_law_1086 : decode cL_law 1086 = .ok (.ifCond .eq 5, 3) := by decide +kernel
theorem dL_law_1089 : decode cL_law 1089 = .ok (.iconst 0, 1) := by decide +kernel
theorem dL_law_1090 : decode cL_law 1090 = .ok (.ireturn, 1) := by decide +kernel
theorem dL_law_1091 : decode cL_law 1091 = .ok (.goto 251, 3) := by decide +kernel
theorem dL_law_1094 : decode cL_law 1094 = .ok (.aload_n 1, 1) := by decide +kernel
theorem dL_law_1095 : decode cL_law 1095 = .ok (.aload_n 0, 1) := by decide +kernel
theorem dL_law_1096 : decode cL_law 1096 = .ok (.iload 4, 2) := by decide +kernel
theorem dL_law_1098 : decode cL_law 1098 = .ok (.iconst 1, 1) := by decide +kernel
theorem dL_law_1099 : decode cL_law 1099 = .ok (.iadd, 1) := by decide +kernel
theorem dL_law_1100 : decode cL_law 1100 = .ok (.iaload, 1) := by decide +kernel
theorem dL_law_1101 : decode cL_law 1101 = .ok (.aload_n 0, 1) := by decide +kernel
theorem dL_law_1102 : decode cL_law 1102 = .ok (.iload 4, 2) := by decide +kernel
theorem dL_law_1104 : decode cL_law 1104 = .ok (.iconst 2, 1) := by decide +kernel
theorem dL_law_1105 : decode cL_law 1105 = .ok (.iadd, 1) := by decide +kernel
theorem dL_law_1106 : decode cL_law 1106 = .ok (.iaload, 1) := by decide +kernel
theorem dL_law_1107 : decode cL_law 1107 = .ok (.aload_n 3, 1) := by decide +kernel
theorem dL_law_1108 : decode cL_law 1108 = .ok (.invokestatic 139, 3) := by decide +kernel
theorem dL_law_1111 : decode cL_law 1111 = .ok (.istore 5, 2) := by decide +kernel
theorem dL_law_1113 : decode cL_law 1113 = .ok (.aload_n 2, 1) := by decide +kernel
theorem dL_law_1114 : decode cL_law 1114 = .ok (.aload_n 0, 1) := by decide +kernel
theorem dL_law_1115 : decode cL_law 1115 = .ok (.iload 4, 2) := by decide +kernel
theorem dL_law_1117 : decode cL_law 1117 = .ok (.iconst 1, 1) := by decide +kernel
theorem dL_law_1118 : decode cL_law 1118 = .ok (.iadd, 1) := by decide +kernel
theorem dL_law_1119 : decode cL_law 1119 = .ok (.iaload, 1) := by decide +kernel
theorem dL_law_1120 : decode cL_law 1120 = .ok (.aload_n 0, 1) := by decide +kernel
theorem dL_law_1121 : decode cL_law 1121 = .ok (.iload 4, 2) := by decide +kernel
theorem dL_law_1123 : decode cL_law 1123 = .ok (.iconst 2, 1) := by decide +kernel
theorem dL_law_1124 : decode cL_law 1124 = .ok (.iadd, 1) := by decide +kernel
theorem dL_law_1125 : decode cL_law 1125 = .ok (.iaload, 1) := by decide +kernel
theorem dL_law_1126 : decode cL_law 1126 = .ok (.invokevirtual 141, 3) := by decide +kernel
theorem dL_law_1129 : decode cL_law 1129 = .ok (.istore 6, 2) := by decide +kernel
theorem dL_law_1131 : decode cL_law 1131 = .ok (.aload_n 2, 1) := by decide +kernel
theorem dL_law_1132 : decode cL_law 1132 = .ok (.invokevirtual 83, 3) := by decide +kernel
theorem dL_law_1135 : decode cL_law 1135 = .ok (.iload 5, 2) := by decide +kernel
theorem dL_law_1137 : decode cL_law 1137 = .ok (.if_icmp .eq 5, 3) := by decide +kernel
theorem dL_law_1140 : decode cL_law 1140 = .ok (.iconst 0, 1) := by decide +kernel
theorem dL_law_1141 : decode cL_law 1141 = .ok (.ireturn, 1) := by decide +kernel
theorem dL_law_1142 : decode cL_law 1142 = .ok (.iload 5, 2) := by decide +kernel
theorem dL_law_1144 : decode cL_law 1144 = .ok (.ifCond .ne 15, 3) := by decide +kernel
theorem dL_law_1147 : decode cL_law 1147 = .ok (.aload_n 3, 1) := by decide +kernel
theorem dL_law_1148 : decode cL_law 1148 = .ok (.iconst 0, 1) := by decide +kernel
theorem dL_law_1149 : decode cL_law 1149 = .ok (.laload, 1) := by decide +kernel
theorem dL_law_1150 : decode cL_law 1150 = .ok (.iload 6, 2) := by decide +kernel
theorem dL_law_1152 : decode cL_law 1152 = .ok (.i2l, 1) := by decide +kernel
theorem dL_law_1153 : decode cL_law 1153 = .ok (.lcmp, 1) := by decide +kernel
theorem dL_law_1154 : decode cL_law 1154 = .ok (.ifCond .eq 5, 3) := by decide +kernel
theorem dL_law_1157 : decode cL_law 1157 = .ok (.iconst 0, 1) := by decide +kernel
theorem dL_law_1158 : decode cL_law 1158 = .ok (.ireturn, 1) := by decide +kernel
theorem dL_law_1159 : decode cL_law 1159 = .ok (.goto 183, 3) := by decide +kernel
theorem dL_law_1162 : decode cL_law 1162 = .ok (.aload_n 1, 1) := by decide +kernel
theorem dL_law_1163 : decode cL_law 1163 = .ok (.aload_n 0, 1) := by decide +kernel
theorem dL_law_1164 : decode cL_law 1164 = .ok (.iload 4, 2) := by decide +kernel
theorem dL_law_1166 : decode cL_law 1166 = .ok (.iconst 1, 1) := by decide +kernel
theorem dL_law_1167 : decode cL_law 1167 = .ok (.iadd, 1) := by decide +kernel
theorem dL_law_1168 : decode cL_law 1168 = .ok (.iaload, 1) := by decide +kernel
theorem dL_law_1169 : decode cL_law 1169 = .ok (.aload_n 3, 1) := by decide +kernel
theorem dL_law_1170 : decode cL_law 1170 = .ok (.invokestatic 142, 3) := by decide +kernel
theorem dL_law_1173 : decode cL_law 1173 = .ok (.istore 5, 2) := by decide +kernel
theorem dL_law_1175 : decode cL_law 1175 = .ok (.aload_n 2, 1) := by decide +kernel
theorem dL_law_1176 : decode cL_law 1176 = .ok (.aload_n 0, 1) := by decide +kernel
theorem dL_law_1177 : decode cL_law 1177 = .ok (.iload 4, 2) := by decide +kernel
theorem dL_law_1179 : decode cL_law 1179 = .ok (.iconst 1, 1) := by decide +kernel
theorem dL_law_1180 : decode cL_law 1180 = .ok (.iadd, 1) := by decide +kernel
theorem dL_law_1181 : decode cL_law 1181 = .ok (.iaload, 1) := by decide +kernel
theorem dL_law_1182 : decode cL_law 1182 = .ok (.invokevirtual 144, 3) := by decide +kernel
theorem dL_law_1185 : decode cL_law 1185 = .ok (.istore 6, 2) := by decide +kernel
theorem dL_law_1187 : decode cL_law 1187 = .ok (.aload_n 2, 1) := by decide +kernel
theorem dL_law_1188 : decode cL_law 1188 = .ok (.invokevirtual 83, 3) := by decide +kernel
theorem dL_law_1191 : decode cL_law 1191 = .ok (.iload 5, 2) := by decide +kernel
theorem dL_law_1193 : decode cL_law 1193 = .ok (.if_icmp .eq 5, 3) := by decide +kernel
theorem dL_law_1196 : decode cL_law 1196 = .ok (.iconst 0, 1) := by decide +kernel
theorem dL_law_1197 : decode cL_law 1197 = .ok (.ireturn, 1) := by decide +kernel
theorem dL_law_1198 : decode cL_law 1198 = .ok (.iload 5, 2) := by decide +kernel
theorem dL_law_1200 : decode cL_law 1200 = .ok (.ifCond .ne 15, 3) := by decide +kernel
theorem dL_law_1203 : decode cL_law 1203 = .ok (.aload_n 3, 1) := by decide +kernel
theorem dL_law_1204 : decode cL_law 1204 = .ok (.iconst 0, 1) := by decide +kernel
theorem dL_law_1205 : decode cL_law 1205 = .ok (.laload, 1) := by decide +kernel
theorem dL_law_1206 : decode cL_law 1206 = .ok (.iload 6, 2) := by decide +kernel
theorem dL_law_1208 : decode cL_law 1208 = .ok (.i2l, 1) := by decide +kernel
theorem dL_law_1209 : decode cL_law 1209 = .ok (.lcmp, 1) := by decide +kernel
theorem dL_law_1210 : decode cL_law 1210 = .ok (.ifCond .eq 5, 3) := by decide +kernel
theorem dL_law_1213 : decode cL_law 1213 = .ok (.iconst 0, 1) := by decide +kernel
theorem dL_law_1214 : decode cL_law 1214 = .ok (.ireturn, 1) := by decide +kernel
theorem dL_law_1215 : decode cL_law 1215 = .ok (.goto 127, 3) := by decide +kernel
theorem dL_law_1218 : decode cL_law 1218 = .ok (.aload_n 1, 1) := by decide +kernel
theorem dL_law_1219 : decode cL_law 1219 = .ok (.invokevirtual 145, 3) := by decide +kernel
theorem dL_law_1222 : decode cL_law 1222 = .ok (.aload_n 2, 1) := by decide +kernel
theorem dL_law_1223 : decode cL_law 1223 = .ok (.invokevirtual 148, 3) := by decide +kernel
theorem dL_law_1226 : decode cL_law 1226 = .ok (.if_icmp .eq 116, 3) := by decide +kernel
theorem dL_law_1229 : decode cL_law 1229 = .ok (.iconst 0, 1) := by decide +kernel
theorem dL_law_1230 : decode cL_law 1230 = .ok (.ireturn, 1) := by decide +kernel
theorem dL_law_1231 : decode cL_law 1231 = .ok (.aload_n 1, 1) := by decide +kernel
theorem dL_law_1232 : decode cL_law 1232 = .ok (.aload_n 0, 1) := by decide +kernel
theorem dL_law_1233 : decode cL_law 1233 = .ok (.iload 4, 2) := by decide +kernel
theorem dL_law_1235 : decode cL_law 1235 = .ok (.iconst 1, 1) := by decide +kernel
theorem dL_law_1236 : decode cL_law 1236 = .ok (.iadd, 1) := by decide +kernel
theorem dL_law_1237 : decode cL_law 1237 = .ok (.iaload, 1) := by decide +kernel
theorem dL_law_1238 : decode cL_law 1238 = .ok (.aload_n 3, 1) := by decide +kernel
theorem dL_law_1239 : decode cL_law 1239 = .ok (.invokestatic 149, 3) := by decide +kernel
theorem dL_law_1242 : decode cL_law 1242 = .ok (.istore 5, 2) := by decide +kernel
theorem dL_law_1244 : decode cL_law 1244 = .ok (.aload_n 2, 1) := by decide +kernel
theorem dL_law_1245 : decode cL_law 1245 = .ok (.aload_n 0, 1) := by decide +kernel
theorem dL_law_1246 : decode cL_law 1246 = .ok (.iload 4, 2) := by decide +kernel
theorem dL_law_1248 : decode cL_law 1248 = .ok (.iconst 1, 1) := by decide +kernel
theorem dL_law_1249 : decode cL_law 1249 = .ok (.iadd, 1) := by decide +kernel
theorem dL_law_1250 : decode cL_law 1250 = .ok (.iaload, 1) := by decide +kernel
theorem dL_law_1251 : decode cL_law 1251 = .ok (.invokevirtual 151, 3) := by decide +kernel
theorem dL_law_1254 : decode cL_law 1254 = .ok (.istore 6, 2) := by decide +kernel
theorem dL_law_1256 : decode cL_law 1256 = .ok (.aload_n 2, 1) := by decide +kernel
theorem dL_law_1257 : decode cL_law 1257 = .ok (.invokevirtual 83, 3) := by decide +kernel
theorem dL_law_1260 : decode cL_law 1260 = .ok (.iload 5, 2) := by decide +kernel
theorem dL_law_1262 : decode cL_law 1262 = .ok (.if_icmp .eq 5, 3) := by decide +kernel
theorem dL_law_1265 : decode cL_law 1265 = .ok (.iconst 0, 1) := by decide +kernel
theorem dL_law_1266 : decode cL_law 1266 = .ok (.ireturn, 1) := by decide +kernel
theorem dL_law_1267 : decode cL_law 1267 = .ok (.iload 5, 2) := by decide +kernel
theorem dL_law_1269 : decode cL_law 1269 = .ok (.ifCond .ne 15, 3) := by decide +kernel
theorem dL_law_1272 : decode cL_law 1272 = .ok (.aload_n 3, 1) := by decide +kernel
theorem dL_law_1273 : decode cL_law 1273 = .ok (.iconst 0, 1) := by decide +kernel
theorem dL_law_1274 : decode cL_law 1274 = .ok (.laload, 1) := by decide +kernel
theorem dL_law_1275 : decode cL_law 1275 = .ok (.iload 6, 2) := by decide +kernel
theorem dL_law_1277 : decode cL_law 1277 = .ok (.i2l, 1) := by decide +kernel
theorem dL_law_1278 : decode cL_law 1278 = .ok (.lcmp, 1) := by decide +kernel
theorem dL_law_1279 : decode cL_law 1279 = .ok (.ifCond .eq 5, 3) := by decide +kernel
theorem dL_law_1282 : decode cL_law 1282 = .ok (.iconst 0, 1) := by decide +kernel
theorem dL_law_1283 : decode cL_law 1283 = .ok (.ireturn, 1) := by decide +kernel
theorem dL_law_1284 : decode cL_law 1284 = .ok (.goto 58, 3) := by decide +kernel
theorem dL_law_1287 : decode cL_law 1287 = .ok (.aload_n 1, 1) := by decide +kernel
theorem dL_law_1288 : decode cL_law 1288 = .ok (.invokevirtual 152, 3) := by decide +kernel
theorem dL_law_1291 : decode cL_law 1291 = .ok (.dstore 5, 2) := by decide +kernel
theorem dL_law_1293 : decode cL_law 1293 = .ok (.aload_n 2, 1) := by decide +kernel
theorem dL_law_1294 : decode cL_law 1294 = .ok (.invokevirtual 156, 3) := by decide +kernel
theorem dL_law_1297 : decode cL_law 1297 = .ok (.dstore 7, 2) := by decide +kernel
theorem dL_law_1299 : decode cL_law 1299 = .ok (.dload 5, 2) := by decide +kernel
theorem dL_law_1301 : decode cL_law 1301 = .ok (.dload 7, 2) := by decide +kernel
theorem dL_law_1303 : decode cL_law 1303 = .ok (.dcmp .l, 1) := by decide +kernel
theorem dL_law_1304 : decode cL_law 1304 = .ok (.ifCond .eq 21, 3) := by decide +kernel
theorem dL_law_1307 : decode cL_law 1307 = .ok (.dload 5, 2) := by decide +kernel
theorem dL_law_1309 : decode cL_law 1309 = .ok (.dload 5, 2) := by decide +kernel
theorem dL_law_1311 : decode cL_law 1311 = .ok (.dcmp .l, 1) := by decide +kernel
theorem dL_law_1312 : decode cL_law 1312 = .ok (.ifCond .eq 11, 3) := by decide +kernel
theorem dL_law_1315 : decode cL_law 1315 = .ok (.dload 7, 2) := by decide +kernel
theorem dL_law_1317 : decode cL_law 1317 = .ok (.dload 7, 2) := by decide +kernel
theorem dL_law_1319 : decode cL_law 1319 = .ok (.dcmp .l, 1) := by decide +kernel
theorem dL_law_1320 : decode cL_law 1320 = .ok (.ifCond .ne 5, 3) := by decide +kernel
theorem dL_law_1323 : decode cL_law 1323 = .ok (.iconst 0, 1) := by decide +kernel
theorem dL_law_1324 : decode cL_law 1324 = .ok (.ireturn, 1) := by decide +kernel
theorem dL_law_1325 : decode cL_law 1325 = .ok (.goto 17, 3) := by decide +kernel
theorem dL_law_1328 : decode cL_law 1328 = .ok (.aload_n 1, 1) := by decide +kernel
theorem dL_law_1329 : decode cL_law 1329 = .ok (.invokevirtual 157, 3) := by decide +kernel
theorem dL_law_1332 : decode cL_law 1332 = .ok (.aload_n 2, 1) := by decide +kernel
theorem dL_law_1333 : decode cL_law 1333 = .ok (.invokevirtual 161, 3) := by decide +kernel
theorem dL_law_1336 : decode cL_law 1336 = .ok (.lcmp, 1) := by decide +kernel
theorem dL_law_1337 : decode cL_law 1337 = .ok (.ifCond .eq 5, 3) := by decide +kernel
theorem dL_law_1340 : decode cL_law 1340 = .ok (.iconst 0, 1) := by decide +kernel
theorem dL_law_1341 : decode cL_law 1341 = .ok (.ireturn, 1) := by decide +kernel
theorem dL_law_1342 : decode cL_law 1342 = .ok (.iinc 4 4, 3) := by decide +kernel
theorem dL_law_1345 : decode cL_law 1345 = .ok (.goto (-1322), 3) := by decide +kernel
theorem dL_law_1348 : decode cL_law 1348 = .ok (.iconst 1, 1) := by decide +kernel
theorem dL_law_1349 : decode cL_law 1349 = .ok (.ireturn, 1) := by decide +kernel
