/-! decode rows -/
theorem dX0_init_0 : decode cX0_init 0 = .ok (.aload_n 0, 1) := by decide +kernel
theorem dX0_init_1 : decode cX0_init 1 = .ok (.invokespecial 3, 3) := by decide +kernel
theorem dX0_init_4 : decode cX0_init 4 = .ok (.aload_n 0, 1) := by decide +kernel
theorem dX0_init_5 : decode cX0_init 5 = .ok (.bipush 60, 2) := by decide +kernel
theorem dX0_init_7 : decode cX0_init 7 = .ok (.newarray .int, 2) := by decide +kernel
theorem dX0_init_9 : decode cX0_init 9 = .ok (.putfield 11, 3) := by decide +kernel
theorem dX0_init_12 : decode cX0_init 12 = .ok (.aload_n 0, 1) := by decide +kernel
theorem dX0_init_13 : decode cX0_init 13 = .ok (.iconst 0, 1) := by decide +kernel
theorem dX0_init_14 : decode cX0_init 14 = .ok (.putfield 15, 3) := by decide +kernel
theorem dX0_init_17 : decode cX0_init 17 = .ok (.return_, 1) := by decide +kernel
theorem dX1_strengthOf_0 : decode cX1_strengthOf 0 = .ok (.iload_n 0, 1) := by decide +kernel
theorem dX1_strengthOf_1 : decode cX1_strengthOf 1 = .ok (.lookupswitch 57 #[(0, 27), (1, 41)], 27) := by decide +kernel
theorem dX1_strengthOf_28 : decode cX1_strengthOf 28 = .ok (.iconst 0, 1) := by decide +kernel
theorem dX1_strengthOf_29 : decode cX1_strengthOf 29 = .ok (.bipush 16, 2) := by decide +kernel
theorem dX1_strengthOf_31 : decode cX1_strengthOf 31 = .ok (.iload_n 1, 1) := by decide +kernel
theorem dX1_strengthOf_32 : decode cX1_strengthOf 32 = .ok (.bipush 10, 2) := by decide +kernel
theorem dX1_strengthOf_34 : decode cX1_strengthOf 34 = .ok (.idiv, 1) := by decide +kernel
theorem dX1_strengthOf_35 : decode cX1_strengthOf 35 = .ok (.isub, 1) := by decide +kernel
theorem dX1_strengthOf_36 : decode cX1_strengthOf 36 = .ok (.iload_n 2, 1) := by decide +kernel
theorem dX1_strengthOf_37 : decode cX1_strengthOf 37 = .ok (.isub, 1) := by decide +kernel
theorem dX1_strengthOf_38 : decode cX1_strengthOf 38 = .ok (.invokestatic 9, 3) := by decide +kernel
theorem dX1_strengthOf_41 : decode cX1_strengthOf 41 = .ok (.ireturn, 1) := by decide +kernel
theorem dX1_strengthOf_42 : decode cX1_strengthOf 42 = .ok (.iconst 0, 1) := by decide +kernel
theorem dX1_strengthOf_43 : decode cX1_strengthOf 43 = .ok (.bipush 20, 2) := by decide +kernel
theorem dX1_strengthOf_45 : decode cX1_strengthOf 45 = .ok (.iload_n 1, 1) := by decide +kernel
theorem dX1_strengthOf_46 : decode cX1_strengthOf 46 = .ok (.bipush 8, 2) := by decide +kernel
theorem dX1_strengthOf_48 : decode cX1_strengthOf 48 = .ok (.idiv, 1) := by decide +kernel
theorem dX1_strengthOf_49 : decode cX1_strengthOf 49 = .ok (.isub, 1) := by decide +kernel
theorem dX1_strengthOf_50 : decode cX1_strengthOf 50 = .ok (.iload_n 2, 1) := by decide +kernel
theorem dX1_strengthOf_51 : decode cX1_strengthOf 51 = .ok (.iconst 2, 1) := by decide +kernel
theorem dX1_strengthOf_52 : decode cX1_strengthOf 52 = .ok (.idiv, 1) := by decide +kernel
theorem dX1_strengthOf_53 : decode cX1_strengthOf 53 = .ok (.isub, 1) := by decide +kernel
theorem dX1_strengthOf_54 : decode cX1_strengthOf 54 = .ok (.invokestatic 9, 3) := by decide +kernel
theorem dX1_strengthOf_57 : decode cX1_strengthOf 57 = .ok (.ireturn, 1) := by decide +kernel
theorem dX1_strengthOf_58 : decode cX1_strengthOf 58 = .ok (.iconst 0, 1) := by decide +kernel
theorem dX1_strengthOf_59 : decode cX1_strengthOf 59 = .ok (.bipush 24, 2) := by decide +kernel
theorem dX1_strengthOf_61 : decode cX1_strengthOf 61 = .ok (.iload_n 1, 1) := by decide +kernel
theorem dX1_strengthOf_62 : decode cX1_strengthOf 62 = .ok (.iconst 5, 1) := by decide +kernel
theorem dX1_strengthOf_63 : decode cX1_strengthOf 63 = .ok (.idiv, 1) := by decide +kernel
theorem dX1_strengthOf_64 : decode cX1_strengthOf 64 = .ok (.isub, 1) := by decide +kernel
theorem dX1_strengthOf_65 : decode cX1_strengthOf 65 = .ok (.invokestatic 9, 3) := by decide +kernel
theorem dX1_strengthOf_68 : decode cX1_strengthOf 68 = .ok (.ireturn, 1) := by decide +kernel
theorem dX1_lifeOf_0 : decode cX1_lifeOf 0 = .ok (.iload_n 0, 1) := by decide +kernel
theorem dX1_lifeOf_1 : decode cX1_lifeOf 1 = .ok (.lookupswitch 35 #[(0, 27), (1, 31)], 27) := by decide +kernel
theorem dX1_lifeOf_28 : decode cX1_lifeOf 28 = .ok (.sipush 900, 3) := by decide +kernel
theorem dX1_lifeOf_31 : decode cX1_lifeOf 31 = .ok (.ireturn, 1) := by decide +kernel
theorem dX1_lifeOf_32 : decode cX1_lifeOf 32 = .ok (.sipush 1500, 3) := by decide +kernel
theorem dX1_lifeOf_35 : decode cX1_lifeOf 35 = .ok (.ireturn, 1) := by decide +kernel
theorem dX1_lifeOf_36 : decode cX1_lifeOf 36 = .ok (.sipush 1200, 3) := by decide +kernel
theorem dX1_lifeOf_39 : decode cX1_lifeOf 39 = .ok (.ireturn, 1) := by decide +kernel
theorem dX1_daysInForce_0 : decode cX1_daysInForce 0 = .ok (.iload_n 0, 1) := by decide +kernel
theorem dX1_daysInForce_1 : decode cX1_daysInForce 1 = .ok (.lookupswitch 34 #[(0, 27), (1, 30)], 27) := by decide +kernel
theorem dX1_daysInForce_28 : decode cX1_daysInForce 28 = .ok (.bipush 100, 2) := by decide +kernel
theorem dX1_daysInForce_30 : decode cX1_daysInForce 30 = .ok (.ireturn, 1) := by decide +kernel
theorem dX1_daysInForce_31 : decode cX1_daysInForce 31 = .ok (.sipush 150, 3) := by decide +kernel
theorem dX1_daysInForce_34 : decode cX1_daysInForce 34 = .ok (.ireturn, 1) := by decide +kernel
theorem dX1_daysInForce_35 : decode cX1_daysInForce 35 = .ok (.sipush 200, 3) := by decide +kernel
theorem dX1_daysInForce_38 : decode cX1_daysInForce 38 = .ok (.ireturn, 1) := by decide +kernel
theorem dX1_costOf_0 : decode cX1_costOf 0 = .ok (.iload_n 0, 1) := by decide +kernel
theorem dX1_costOf_1 : decode cX1_costOf 1 = .ok (.lookupswitch 35 #[(0, 27), (1, 31)], 27) := by decide +kernel
theorem dX1_costOf_28 : decode cX1_costOf 28 = .ok (.iconst 2, 1) := by decide +kernel
theorem dX1_costOf_29 : decode cX1_costOf 29 = .ok (.iload_n 1, 1) := by decide +kernel
theorem dX1_costOf_30 : decode cX1_costOf 30 = .ok (.imul, 1) := by decide +kernel
theorem dX1_costOf_31 : decode cX1_costOf 31 = .ok (.ireturn, 1) := by decide +kernel
theorem dX1_costOf_32 : decode cX1_costOf 32 = .ok (.iconst 3, 1) := by decide +kernel
theorem dX1_costOf_33 : decode cX1_costOf 33 = .ok (.iload_n 1, 1) := by decide +kernel
theorem dX1_costOf_34 : decode cX1_costOf 34 = .ok (.imul, 1) := by decide +kernel
theorem dX1_costOf_35 : decode cX1_costOf 35 = .ok (.ireturn, 1) := by decide +kernel
theorem dX1_costOf_36 : decode cX1_costOf 36 = .ok (.iconst 4, 1) := by decide +kernel
theorem dX1_costOf_37 : decode cX1_costOf 37 = .ok (.iload_n 1, 1) := by decide +kernel
theorem dX1_costOf_38 : decode cX1_costOf 38 = .ok (.imul, 1) := by decide +kernel
theorem dX1_costOf_39 : decode cX1_costOf 39 = .ok (.bipush 10, 2) := by decide +kernel
theorem dX1_costOf_41 : decode cX1_costOf 41 = .ok (.iadd, 1) := by decide +kernel
theorem dX1_costOf_42 : decode cX1_costOf 42 = .ok (.ireturn, 1) := by decide +kernel
theorem dX2_init_0 : decode cX2_init 0 = .ok (.aload_n 0, 1) := by decide +kernel
theorem dX2_init_1 : decode cX2_init 1 = .ok (.invokespecial 3, 3) := by decide +kernel
theorem dX2_init_4 : decode cX2_init 4 = .ok (.return_, 1) := by decide +kernel
theorem dX2_begin_0 : decode cX2_begin 0 = .ok (.aload_n 0, 1) := by decide +kernel
theorem dX2_begin_1 : decode cX2_begin 1 = .ok (.iconst 0, 1) := by decide +kernel
theorem dX2_begin_2 : decode cX2_begin 2 = .ok (.putfield 9, 3) := by decide +kernel
theorem dX2_begin_5 : decode cX2_begin 5 = .ok (.aload_n 0, 1) := by decide +kernel
theorem dX2_begin_6 : decode cX2_begin 6 = .ok (.iconst 0, 1) := by decide +kernel
theorem dX2_begin_7 : decode cX2_begin 7 = .ok (.putfield 15, 3) := by decide +kernel
theorem dX2_begin_10 : decode cX2_begin 10 = .ok (.aload_n 0, 1) := by decide +kernel
theorem dX2_begin_11 : decode cX2_begin 11 = .ok (.iconst 0, 1) := by decide +kernel
theorem dX2_begin_12 : decode cX2_begin 12 = .ok (.putfield 18, 3) := by decide +kernel
theorem dX2_begin_15 : decode cX2_begin 15 = .ok (.aload_n 0, 1) := by decide +kernel
theorem dX2_begin_16 : decode cX2_begin 16 = .ok (.iconst (-1), 1) := by decide +kernel
theorem dX2_begin_17 : decode cX2_begin 17 = .ok (.putfield 21, 3) := by decide +kernel
theorem dX2_begin_20 : decode cX2_begin 20 = .ok (.return_, 1) := by decide +kernel
theorem dX2_join_0 : decode cX2_join 0 = .ok (.aload_n 0, 1) := by decide +kernel
theorem dX2_join_1 : decode cX2_join 1 = .ok (.getfield 21, 3) := by decide +kernel
theorem dX2_join_4 : decode cX2_join 4 = .ok (.iconst (-1), 1) := by decide +kernel
theorem dX2_join_5 : decode cX2_join 5 = .ok (.if_icmp .eq 31, 3) := by decide +kernel
theorem dX2_join_8 : decode cX2_join 8 = .ok (.aload_n 0, 1) := by decide +kernel
theorem dX2_join_9 : decode cX2_join 9 = .ok (.getfield 21, 3) := by decide +kernel
theorem dX2_join_12 : decode cX2_join 12 = .ok (.iload_n 3, 1) := by decide +kernel
theorem dX2_join_13 : decode cX2_join 13 = .ok (.if_icmp .eq 23, 3) := by decide +kernel
theorem dX2_join_16 : decode cX2_join 16 = .ok (.aload_n 0, 1) := by decide +kernel
theorem dX2_join_17 : decode cX2_join 17 = .ok (.getfield 15, 3) := by decide +kernel
theorem dX2_join_20 : decode cX2_join 20 = .ok (.iload 4, 2) := by decide +kernel
theorem dX2_join_22 : decode cX2_join 22 = .ok (.if_icmp .lt 4, 3) := by decide +kernel
theorem dX2_join_25 : decode cX2_join 25 = .ok (.return_, 1) := by decide +kernel
theorem dX2_join_26 : decode cX2_join 26 = .ok (.aload_n 0, 1) := by decide +kernel
theorem dX2_join_27 : decode cX2_join 27 = .ok (.dup, 1) := by decide +kernel
theorem dX2_join_28 : decode cX2_join 28 = .ok (.getfield 15, 3) := by decide +kernel
theorem dX2_join_31 : decode cX2_join 31 = .ok (.iconst 1, 1) := by decide +kernel
theorem dX2_join_32 : decode cX2_join 32 = .ok (.iadd, 1) := by decide +kernel
theorem dX2_join_33 : decode cX2_join 33 = .ok (.putfield 15, 3) := by decide +kernel
theorem dX2_join_36 : decode cX2_join 36 = .ok (.aload_n 0, 1) := by decide +kernel
theorem dX2_join_37 : decode cX2_join 37 = .ok (.iload_n 3, 1) := by decide +kernel
theorem dX2_join_38 : decode cX2_join 38 = .ok (.putfield 21, 3) := by decide +kernel
theorem dX2_join_41 : decode cX2_join 41 = .ok (.aload_n 0, 1) := by decide +kernel
theorem dX2_join_42 : decode cX2_join 42 = .ok (.dup, 1) := by decide +kernel
theorem dX2_join_43 : decode cX2_join 43 = .ok (.getfield 9, 3) := by decide +kernel
theorem dX2_join_46 : decode cX2_join 46 = .ok (.iload_n 2, 1) := by decide +kernel
theorem dX2_join_47 : decode cX2_join 47 = .ok (.iadd, 1) := by decide +kernel
theorem dX2_join_48 : decode cX2_join 48 = .ok (.putfield 9, 3) := by decide +kernel
theorem dX2_join_51 : decode cX2_join 51 = .ok (.aload_n 0, 1) := by decide +kernel
theorem dX2_join_52 : decode cX2_join 52 = .ok (.dup, 1) := by decide +kernel
theorem dX2_join_53 : decode cX2_join 53 = .ok (.getfield 18, 3) := by decide +kernel
theorem dX2_join_56 : decode cX2_join 56 = .ok (.iconst 1, 1) := by decide +kernel
theorem dX2_join_57 : decode cX2_join 57 = .ok (.iload_n 1, 1) := by decide +kernel
theorem dX2_join_58 : decode cX2_join 58 = .ok (.ishl, 1) := by decide +kernel
theorem dX2_join_59 : decode cX2_join 59 = .ok (.ior, 1) := by decide +kernel
theorem dX2_join_60 : decode cX2_join 60 = .ok (.putfield 18, 3) := by decide +kernel
theorem dX2_join_63 : decode cX2_join 63 = .ok (.return_, 1) := by decide +kernel
theorem dX3_init_0 : decode cX3_init 0 = .ok (.aload_n 0, 1) := by decide +kernel
theorem dX3_init_1 : decode cX3_init 1 = .ok (.invokespecial 3, 3) := by decide +kernel
theorem dX3_init_4 : decode cX3_init 4 = .ok (.aload_n 0, 1) := by decide +kernel
theorem dX3_init_5 : decode cX3_init 5 = .ok (.iconst 0, 1) := by decide +kernel
theorem dX3_init_6 : decode cX3_init 6 = .ok (.putfield 9, 3) := by decide +kernel
theorem dX3_init_9 : decode cX3_init 9 = .ok (.aload_n 0, 1) := by decide +kernel
theorem dX3_init_10 : decode cX3_init 10 = .ok (.sipush 200, 3) := by decide +kernel
theorem dX3_init_13 : decode cX3_init 13 = .ok (.putfield 15, 3) := by decide +kernel
theorem dX3_init_16 : decode cX3_init 16 = .ok (.aload_n 0, 1) := by decide +kernel
theorem dX3_init_17 : decode cX3_init 17 = .ok (.iconst 3, 1) := by decide +kernel
theorem dX3_init_18 : decode cX3_init 18 = .ok (.newarray .int, 2) := by decide +kernel
theorem dX3_init_20 : decode cX3_init 20 = .ok (.dup, 1) := by decide +kernel
theorem dX3_init_21 : decode cX3_init 21 = .ok (.iconst 0, 1) := by decide +kernel
theorem dX3_init_22 : decode cX3_init 22 = .ok (.bipush 60, 2) := by decide +kernel
theorem dX3_init_24 : decode cX3_init 24 = .ok (.iastore, 1) := by decide +kernel
theorem dX3_init_25 : decode cX3_init 25 = .ok (.dup, 1) := by decide +kernel
theorem dX3_init_26 : decode cX3_init 26 = .ok (.iconst 1, 1) := by decide +kernel
theorem dX3_init_27 : decode cX3_init 27 = .ok (.bipush 60, 2) := by decide +kernel
theorem dX3_init_29 : decode cX3_init 29 = .ok (.iastore, 1) := by decide +kernel
theorem dX3_init_30 : decode cX3_init 30 = .ok (.dup, 1) := by decide +kernel
theorem dX3_init_31 : decode cX3_init 31 = .ok (.iconst 2, 1) := by decide +kernel
theorem dX3_init_32 : decode cX3_init 32 = .ok (.bipush 60, 2) := by decide +kernel
theorem dX3_init_34 : decode cX3_init 34 = .ok (.iastore, 1) := by decide +kernel
theorem dX3_init_35 : decode cX3_init 35 = .ok (.putfield 18, 3) := by decide +kernel
theorem dX3_init_38 : decode cX3_init 38 = .ok (.aload_n 0, 1) := by decide +kernel
theorem dX3_init_39 : decode cX3_init 39 = .ok (.iconst 3, 1) := by decide +kernel
theorem dX3_init_40 : decode cX3_init 40 = .ok (.newarray .int, 2) := by decide +kernel
theorem dX3_init_42 : decode cX3_init 42 = .ok (.dup, 1) := by decide +kernel
theorem dX3_init_43 : decode cX3_init 43 = .ok (.iconst 0, 1) := by decide +kernel
theorem dX3_init_44 : decode cX3_init 44 = .ok (.bipush 12, 2) := by decide +kernel
theorem dX3_init_46 : decode cX3_init 46 = .ok (.iastore, 1) := by decide +kernel
theorem dX3_init_47 : decode cX3_init 47 = .ok (.dup, 1) := by decide +kernel
theorem dX3_init_48 : decode cX3_init 48 = .ok (.iconst 1, 1) := by decide +kernel
theorem dX3_init_49 : decode cX3_init 49 = .ok (.iconst 1, 1) := by decide +kernel
theorem dX3_init_50 : decode cX3_init 50 = .ok (.iastore, 1) := by decide +kernel
theorem dX3_init_51 : decode cX3_init 51 = .ok (.dup, 1) := by decide +kernel
theorem dX3_init_52 : decode cX3_init 52 = .ok (.iconst 2, 1) := by decide +kernel
theorem dX3_init_53 : decode cX3_init 53 = .ok (.bipush 50, 2) := by decide +kernel
theorem dX3_init_55 : decode cX3_init 55 = .ok (.iastore, 1) := by decide +kernel
theorem dX3_init_56 : decode cX3_init 56 = .ok (.putfield 22, 3) := by decide +kernel
theorem dX3_init_59 : decode cX3_init 59 = .ok (.aload_n 0, 1) := by decide +kernel
theorem dX3_init_60 : decode cX3_init 60 = .ok (.bipush 14, 2) := by decide +kernel
theorem dX3_init_62 : decode cX3_init 62 = .ok (.newarray .int, 2) := by decide +kernel
theorem dX3_init_64 : decode cX3_init 64 = .ok (.putfield 25, 3) := by decide +kernel
theorem dX3_init_67 : decode cX3_init 67 = .ok (.aload_n 0, 1) := by decide +kernel
theorem dX3_init_68 : decode cX3_init 68 = .ok (.bipush 14, 2) := by decide +kernel
theorem dX3_init_70 : decode cX3_init 70 = .ok (.newarray .int, 2) := by decide +kernel
theorem dX3_init_72 : decode cX3_init 72 = .ok (.putfield 28, 3) := by decide +kernel
theorem dX3_init_75 : decode cX3_init 75 = .ok (.aload_n 0, 1) := by decide +kernel
theorem dX3_init_76 : decode cX3_init 76 = .ok (.bipush 14, 2) := by decide +kernel
theorem dX3_init_78 : decode cX3_init 78 = .ok (.newarray .int, 2) := by decide +kernel
theorem dX3_init_80 : decode cX3_init 80 = .ok (.putfield 31, 3) := by decide +kernel
theorem dX3_init_83 : decode cX3_init 83 = .ok (.aload_n 0, 1) := by decide +kernel
theorem dX3_init_84 : decode cX3_init 84 = .ok (.bipush 14, 2) := by decide +kernel
theorem dX3_init_86 : decode cX3_init 86 = .ok (.newarray .int, 2) := by decide +kernel
theorem dX3_init_88 : decode cX3_init 88 = .ok (.putfield 34, 3) := by decide +kernel
theorem dX3_init_91 : decode cX3_init 91 = .ok (.aload_n 0, 1) := by decide +kernel
theorem dX3_init_92 : decode cX3_init 92 = .ok (.bipush 14, 2) := by decide +kernel
theorem dX3_init_94 : decode cX3_init 94 = .ok (.newarray .int, 2) := by decide +kernel
theorem dX3_init_96 : decode cX3_init 96 = .ok (.putfield 37, 3) := by decide +kernel
theorem dX3_init_99 : decode cX3_init 99 = .ok (.aload_n 0, 1) := by decide +kernel
theorem dX3_init_100 : decode cX3_init 100 = .ok (.bipush 14, 2) := by decide +kernel
theorem dX3_init_102 : decode cX3_init 102 = .ok (.newarray .int, 2) := by decide +kernel
theorem dX3_init_104 : decode cX3_init 104 = .ok (.putfield 40, 3) := by decide +kernel
theorem dX3_init_107 : decode cX3_init 107 = .ok (.aload_n 0, 1) := by decide +kernel
theorem dX3_init_108 : decode cX3_init 108 = .ok (.bipush 14, 2) := by decide +kernel
theorem dX3_init_110 : decode cX3_init 110 = .ok (.newarray .int, 2) := by decide +kernel
theorem dX3_init_112 : decode cX3_init 112 = .ok (.putfield 43, 3) := by decide +kernel
theorem dX3_init_115 : decode cX3_init 115 = .ok (.aload_n 0, 1) := by decide +kernel
theorem dX3_init_116 : decode cX3_init 116 = .ok (.bipush 14, 2) := by decide +kernel
theorem dX3_init_118 : decode cX3_init 118 = .ok (.newarray .int, 2) := by decide +kernel
theorem dX3_init_120 : decode cX3_init 120 = .ok (.putfield 46, 3) := by decide +kernel
theorem dX3_init_123 : decode cX3_init 123 = .ok (.aload_n 0, 1) := by decide +kernel
theorem dX3_init_124 : decode cX3_init 124 = .ok (.new 49, 3) := by decide +kernel
theorem dX3_init_127 : decode cX3_init 127 = .ok (.dup, 1) := by decide +kernel
theorem dX3_init_128 : decode cX3_init 128 = .ok (.invokespecial 51, 3) := by decide +kernel
theorem dX3_init_131 : decode cX3_init 131 = .ok (.putfield 52, 3) := by decide +kernel
theorem dX3_init_134 : decode cX3_init 134 = .ok (.return_, 1) := by decide +kernel
theorem dX3_copyFrom_0 : decode cX3_copyFrom 0 = .ok (.aload_n 0, 1) := by decide +kernel
theorem dX3_copyFrom_1 : decode cX3_copyFrom 1 = .ok (.aload_n 1, 1) := by decide +kernel
theorem dX3_copyFrom_2 : decode cX3_copyFrom 2 = .ok (.getfield 9, 3) := by decide +kernel
theorem dX3_copyFrom_5 : decode cX3_copyFrom 5 = .ok (.putfield 9, 3) := by decide +kernel
theorem dX3_copyFrom_8 : decode cX3_copyFrom 8 = .ok (.aload_n 0, 1) := by decide +kernel
theorem dX3_copyFrom_9 : decode cX3_copyFrom 9 = .ok (.aload_n 1, 1) := by decide +kernel
theorem dX3_copyFrom_10 : decode cX3_copyFrom 10 = .ok (.getfield 15, 3) := by decide +kernel
theorem dX3_copyFrom_13 : decode cX3_copyFrom 13 = .ok (.putfield 15, 3) := by decide +kernel
theorem dX3_copyFrom_16 : decode cX3_copyFrom 16 = .ok (.aload_n 0, 1) := by decide +kernel
theorem dX3_copyFrom_17 : decode cX3_copyFrom 17 = .ok (.aload_n 1, 1) := by decide +kernel
theorem dX3_copyFrom_18 : decode cX3_copyFrom 18 = .ok (.getfield 56, 3) := by decide +kernel
theorem dX3_copyFrom_21 : decode cX3_copyFrom 21 = .ok (.putfield 56, 3) := by decide +kernel
theorem dX3_copyFrom_24 : decode cX3_copyFrom 24 = .ok (.aload_n 0, 1) := by decide +kernel
theorem dX3_copyFrom_25 : decode cX3_copyFrom 25 = .ok (.aload_n 1, 1) := by decide +kernel
theorem dX3_copyFrom_26 : decode cX3_copyFrom 26 = .ok (.getfield 59, 3) := by decide +kernel
theorem dX3_copyFrom_29 : decode cX3_copyFrom 29 = .ok (.putfield 59, 3) := by decide +kernel
theorem dX3_copyFrom_32 : decode cX3_copyFrom 32 = .ok (.aload_n 0, 1) := by decide +kernel
theorem dX3_copyFrom_33 : decode cX3_copyFrom 33 = .ok (.aload_n 1, 1) := by decide +kernel
theorem dX3_copyFrom_34 : decode cX3_copyFrom 34 = .ok (.getfield 62, 3) := by decide +kernel
theorem dX3_copyFrom_37 : decode cX3_copyFrom 37 = .ok (.putfield 62, 3) := by decide +kernel
theorem dX3_copyFrom_40 : decode cX3_copyFrom 40 = .ok (.aload_n 0, 1) := by decide +kernel
theorem dX3_copyFrom_41 : decode cX3_copyFrom 41 = .ok (.aload_n 1, 1) := by decide +kernel
theorem dX3_copyFrom_42 : decode cX3_copyFrom 42 = .ok (.getfield 65, 3) := by decide +kernel
theorem dX3_copyFrom_45 : decode cX3_copyFrom 45 = .ok (.putfield 65, 3) := by decide +kernel
theorem dX3_copyFrom_48 : decode cX3_copyFrom 48 = .ok (.aload_n 1, 1) := by decide +kernel
theorem dX3_copyFrom_49 : decode cX3_copyFrom 49 = .ok (.getfield 18, 3) := by decide +kernel
theorem dX3_copyFrom_52 : decode cX3_copyFrom 52 = .ok (.iconst 0, 1) := by decide +kernel
theorem dX3_copyFrom_53 : decode cX3_copyFrom 53 = .ok (.aload_n 0, 1) := by decide +kernel
theorem dX3_copyFrom_54 : decode cX3_copyFrom 54 = .ok (.getfield 18, 3) := by decide +kernel
theorem dX3_copyFrom_57 : decode cX3_copyFrom 57 = .ok (.iconst 0, 1) := by decide +kernel
theorem dX3_copyFrom_58 : decode cX3_copyFrom 58 = .ok (.iconst 3, 1) := by decide +kernel
theorem dX3_copyFrom_59 : decode cX3_copyFrom 59 = .ok (.invokestatic 68, 3) := by decide +kernel
theorem dX3_copyFrom_62 : decode cX3_copyFrom 62 = .ok (.aload_n 1, 1) := by decide +kernel
theorem dX3_copyFrom_63 : decode cX3_copyFrom 63 = .ok (.getfield 22, 3) := by decide +kernel
theorem dX3_copyFrom_66 : decode cX3_copyFrom 66 = .ok (.iconst 0, 1) := by decide +kernel
theorem dX3_copyFrom_67 : decode cX3_copyFrom 67 = .ok (.aload_n 0, 1) := by decide +kernel
theorem dX3_copyFrom_68 : decode cX3_copyFrom 68 = .ok (.getfield 22, 3) := by decide +kernel
theorem dX3_copyFrom_71 : decode cX3_copyFrom 71 = .ok (.iconst 0, 1) := by decide +kernel
theorem dX3_copyFrom_72 : decode cX3_copyFrom 72 = .ok (.iconst 3, 1) := by decide +kernel
theorem dX3_copyFrom_73 : decode cX3_copyFrom 73 = .ok (.invokestatic 68, 3) := by decide +kernel
theorem dX3_copyFrom_76 : decode cX3_copyFrom 76 = .ok (.aload_n 1, 1) := by decide +kernel
theorem dX3_copyFrom_77 : decode cX3_copyFrom 77 = .ok (.getfield 25, 3) := by decide +kernel
theorem dX3_copyFrom_80 : decode cX3_copyFrom 80 = .ok (.iconst 0, 1) := by decide +kernel
theorem dX3_copyFrom_81 : decode cX3_copyFrom 81 = .ok (.aload_n 0, 1) := by decide +kernel
theorem dX3_copyFrom_82 : decode cX3_copyFrom 82 = .ok (.getfield 25, 3) := by decide +kernel
theorem dX3_copyFrom_85 : decode cX3_copyFrom 85 = .ok (.iconst 0, 1) := by decide +kernel
theorem dX3_copyFrom_86 : decode cX3_copyFrom 86 = .ok (.bipush 14, 2) := by decide +kernel
theorem dX3_copyFrom_88 : decode cX3_copyFrom 88 = .ok (.invokestatic 68, 3) := by decide +kernel
theorem dX3_copyFrom_91 : decode cX3_copyFrom 91 = .ok (.aload_n 1, 1) := by decide +kernel
theorem dX3_copyFrom_92 : decode cX3_copyFrom 92 = .ok (.getfield 28, 3) := by decide +kernel
theorem dX3_copyFrom_95 : decode cX3_copyFrom 95 = .ok (.iconst 0, 1) := by decide +kernel
theorem dX3_copyFrom_96 : decode cX3_copyFrom 96 = .ok (.aload_n 0, 1) := by decide +kernel
theorem dX3_copyFrom_97 : decode cX3_copyFrom 97 = .ok (.getfield 28, 3) := by decide +kernel
theorem dX3_copyFrom_100 : decode cX3_copyFrom 100 = .ok (.iconst 0, 1) := by decide +kernel
theorem dX3_copyFrom_101 : decode cX3_copyFrom 101 = .ok (.bipush 14, 2) := by decide +kernel
theorem dX3_copyFrom_103 : decode cX3_copyFrom 103 = .ok (.invokestatic 68, 3) := by decide +kernel
theorem dX3_copyFrom_106 : decode cX3_copyFrom 106 = .ok (.aload_n 1, 1) := by decide +kernel
theorem dX3_copyFrom_107 : decode cX3_copyFrom 107 = .ok (.getfield 31, 3) := by decide +kernel
theorem dX3_copyFrom_110 : decode cX3_copyFrom 110 = .ok (.iconst 0, 1) := by decide +kernel
theorem dX3_copyFrom_111 : decode cX3_copyFrom 111 = .ok (.aload_n 0, 1) := by decide +kernel
theorem dX3_copyFrom_112 : decode cX3_copyFrom 112 = .ok (.getfield 31, 3) := by decide +kernel
theorem dX3_copyFrom_115 : decode cX3_copyFrom 115 = .ok (.iconst 0, 1) := by decide +kernel
theorem dX3_copyFrom_116 : decode cX3_copyFrom 116 = .ok (.bipush 14, 2) := by decide +kernel
theorem dX3_copyFrom_118 : decode cX3_copyFrom 118 = .ok (.invokestatic 68, 3) := by decide +kernel
theorem dX3_copyFrom_121 : decode cX3_copyFrom 121 = .ok (.aload_n 1, 1) := by decide +kernel
theorem dX3_copyFrom_122 : decode cX3_copyFrom 122 = .ok (.getfield 34, 3) := by decide +kernel
theorem dX3_copyFrom_125 : decode cX3_copyFrom 125 = .ok (.iconst 0, 1) := by decide +kernel
theorem dX3_copyFrom_126 : decode cX3_copyFrom 126 = .ok (.aload_n 0, 1) := by decide +kernel
theorem dX3_copyFrom_127 : decode cX3_copyFrom 127 = .ok (.getfield 34, 3) := by decide +kernel
theorem dX3_copyFrom_130 : decode cX3_copyFrom 130 = .ok (.iconst 0, 1) := by decide +kernel
theorem dX3_copyFrom_131 : decode cX3_copyFrom 131 = .ok (.bipush 14, 2) := by decide +kernel
theorem dX3_copyFrom_133 : decode cX3_copyFrom 133 = .ok (.invokestatic 68, 3) := by decide +kernel
theorem dX3_copyFrom_136 : decode cX3_copyFrom 136 = .ok (.aload_n 1, 1) := by decide +kernel
theorem dX3_copyFrom_137 : decode cX3_copyFrom 137 = .ok (.getfield 37, 3) := by decide +kernel
theorem dX3_copyFrom_140 : decode cX3_copyFrom 140 = .ok (.iconst 0, 1) := by decide +kernel
theorem dX3_copyFrom_141 : decode cX3_copyFrom 141 = .ok (.aload_n 0, 1) := by decide +kernel
theorem dX3_copyFrom_142 : decode cX3_copyFrom 142 = .ok (.getfield 37, 3) := by decide +kernel
theorem dX3_copyFrom_145 : decode cX3_copyFrom 145 = .ok (.iconst 0, 1) := by decide +kernel
theorem dX3_copyFrom_146 : decode cX3_copyFrom 146 = .ok (.bipush 14, 2) := by decide +kernel
theorem dX3_copyFrom_148 : decode cX3_copyFrom 148 = .ok (.invokestatic 68, 3) := by decide +kernel
theorem dX3_copyFrom_151 : decode cX3_copyFrom 151 = .ok (.aload_n 1, 1) := by decide +kernel
theorem dX3_copyFrom_152 : decode cX3_copyFrom 152 = .ok (.getfield 40, 3) := by decide +kernel
theorem dX3_copyFrom_155 : decode cX3_copyFrom 155 = .ok (.iconst 0, 1) := by decide +kernel
theorem dX3_copyFrom_156 : decode cX3_copyFrom 156 = .ok (.aload_n 0, 1) := by decide +kernel
theorem dX3_copyFrom_157 : decode cX3_copyFrom 157 = .ok (.getfield 40, 3) := by decide +kernel
theorem dX3_copyFrom_160 : decode cX3_copyFrom 160 = .ok (.iconst 0, 1) := by decide +kernel
theorem dX3_copyFrom_161 : decode cX3_copyFrom 161 = .ok (.bipush 14, 2) := by decide +kernel
theorem dX3_copyFrom_163 : decode cX3_copyFrom 163 = .ok (.invokestatic 68, 3) := by decide +kernel
theorem dX3_copyFrom_166 : decode cX3_copyFrom 166 = .ok (.aload_n 1, 1) := by decide +kernel
theorem dX3_copyFrom_167 : decode cX3_copyFrom 167 = .ok (.getfield 43, 3) := by decide +kernel
theorem dX3_copyFrom_170 : decode cX3_copyFrom 170 = .ok (.iconst 0, 1) := by decide +kernel
theorem dX3_copyFrom_171 : decode cX3_copyFrom 171 = .ok (.aload_n 0, 1) := by decide +kernel
theorem dX3_copyFrom_172 : decode cX3_copyFrom 172 = .ok (.getfield 43, 3) := by decide +kernel
theorem dX3_copyFrom_175 : decode cX3_copyFrom 175 = .ok (.iconst 0, 1) := by decide +kernel
theorem dX3_copyFrom_176 : decode cX3_copyFrom 176 = .ok (.bipush 14, 2) := by decide +kernel
theorem dX3_copyFrom_178 : decode cX3_copyFrom 178 = .ok (.invokestatic 68, 3) := by decide +kernel
theorem dX3_copyFrom_181 : decode cX3_copyFrom 181 = .ok (.aload_n 1, 1) := by decide +kernel
theorem dX3_copyFrom_182 : decode cX3_copyFrom 182 = .ok (.getfield 46, 3) := by decide +kernel
theorem dX3_copyFrom_185 : decode cX3_copyFrom 185 = .ok (.iconst 0, 1) := by decide +kernel
theorem dX3_copyFrom_186 : decode cX3_copyFrom 186 = .ok (.aload_n 0, 1) := by decide +kernel
theorem dX3_copyFrom_187 : decode cX3_copyFrom 187 = .ok (.getfield 46, 3) := by decide +kernel
theorem dX3_copyFrom_190 : decode cX3_copyFrom 190 = .ok (.iconst 0, 1) := by decide +kernel
theorem dX3_copyFrom_191 : decode cX3_copyFrom 191 = .ok (.bipush 14, 2) := by decide +kernel
theorem dX3_copyFrom_193 : decode cX3_copyFrom 193 = .ok (.invokestatic 68, 3) := by decide +kernel
theorem dX3_copyFrom_196 : decode cX3_copyFrom 196 = .ok (.return_, 1) := by decide +kernel
theorem dX3_isGone_0 : decode cX3_isGone 0 = .ok (.aload_n 0, 1) := by decide +kernel
theorem dX3_isGone_1 : decode cX3_isGone 1 = .ok (.getfield 43, 3) := by decide +kernel
theorem dX3_isGone_4 : decode cX3_isGone 4 = .ok (.iload_n 1, 1) := by decide +kernel
theorem dX3_isGone_5 : decode cX3_isGone 5 = .ok (.iaload, 1) := by decide +kernel
theorem dX3_isGone_6 : decode cX3_isGone 6 = .ok (.iconst (-1), 1) := by decide +kernel
theorem dX3_isGone_7 : decode cX3_isGone 7 = .ok (.if_icmp .ne 7, 3) := by decide +kernel
theorem dX3_isGone_10 : decode cX3_isGone 10 = .ok (.iconst 1, 1) := by decide +kernel
theorem dX3_isGone_11 : decode cX3_isGone 11 = .ok (.goto 4, 3) := by decide +kernel
theorem dX3_isGone_14 : decode cX3_isGone 14 = .ok (.iconst 0, 1) := by decide +kernel
theorem dX3_isGone_15 : decode cX3_isGone 15 = .ok (.ireturn, 1) := by decide +kernel
theorem dX3_isLent_0 : decode cX3_isLent 0 = .ok (.aload_n 0, 1) := by decide +kernel
theorem dX3_isLent_1 : decode cX3_isLent 1 = .ok (.getfield 43, 3) := by decide +kernel
theorem dX3_isLent_4 : decode cX3_isLent 4 = .ok (.iload_n 1, 1) := by decide +kernel
theorem dX3_isLent_5 : decode cX3_isLent 5 = .ok (.iaload, 1) := by decide +kernel
theorem dX3_isLent_6 : decode cX3_isLent 6 = .ok (.iconst 4, 1) := by decide +kernel
theorem dX3_isLent_7 : decode cX3_isLent 7 = .ok (.if_icmp .ne 7, 3) := by decide +kernel
theorem dX3_isLent_10 : decode cX3_isLent 10 = .ok (.iconst 1, 1) := by decide +kernel
theorem dX3_isLent_11 : decode cX3_isLent 11 = .ok (.goto 4, 3) := by decide +kernel
theorem dX3_isLent_14 : decode cX3_isLent 14 = .ok (.iconst 0, 1) := by decide +kernel
theorem dX3_isLent_15 : decode cX3_isLent 15 = .ok (.ireturn, 1) := by decide +kernel
theorem dX3_isOnTruck_0 : decode cX3_isOnTruck 0 = .ok (.aload_n 0, 1) := by decide +kernel
theorem dX3_isOnTruck_1 : decode cX3_isOnTruck 1 = .ok (.getfield 43, 3) := by decide +kernel
theorem dX3_isOnTruck_4 : decode cX3_isOnTruck 4 = .ok (.iload_n 1, 1) := by decide +kernel
theorem dX3_isOnTruck_5 : decode cX3_isOnTruck 5 = .ok (.iaload, 1) := by decide +kernel
theorem dX3_isOnTruck_6 : decode cX3_isOnTruck 6 = .ok (.iconst 0, 1) := by decide +kernel
theorem dX3_isOnTruck_7 : decode cX3_isOnTruck 7 = .ok (.iconst 2, 1) := by decide +kernel
theorem dX3_isOnTruck_8 : decode cX3_isOnTruck 8 = .ok (.invokestatic 74, 3) := by decide +kernel
theorem dX3_isOnTruck_11 : decode cX3_isOnTruck 11 = .ok (.ireturn, 1) := by decide +kernel
theorem dX3_isReady_0 : decode cX3_isReady 0 = .ok (.aload_n 0, 1) := by decide +kernel
theorem dX3_isReady_1 : decode cX3_isReady 1 = .ok (.iload_n 1, 1) := by decide +kernel
theorem dX3_isReady_2 : decode cX3_isReady 2 = .ok (.invokevirtual 78, 3) := by decide +kernel
theorem dX3_isReady_5 : decode cX3_isReady 5 = .ok (.ifCond .ne 7, 3) := by decide +kernel
theorem dX3_isReady_8 : decode cX3_isReady 8 = .ok (.iconst 1, 1) := by decide +kernel
theorem dX3_isReady_9 : decode cX3_isReady 9 = .ok (.goto 4, 3) := by decide +kernel
theorem dX3_isReady_12 : decode cX3_isReady 12 = .ok (.iconst 0, 1) := by decide +kernel
theorem dX3_isReady_13 : decode cX3_isReady 13 = .ok (.ireturn, 1) := by decide +kernel
theorem dX3_reasonOf_0 : decode cX3_reasonOf 0 = .ok (.aload_n 0, 1) := by decide +kernel
theorem dX3_reasonOf_1 : decode cX3_reasonOf 1 = .ok (.iload_n 1, 1) := by decide +kernel
theorem dX3_reasonOf_2 : decode cX3_reasonOf 2 = .ok (.invokevirtual 82, 3) := by decide +kernel
theorem dX3_reasonOf_5 : decode cX3_reasonOf 5 = .ok (.ifCond .eq 5, 3) := by decide +kernel
theorem dX3_reasonOf_8 : decode cX3_reasonOf 8 = .ok (.iconst 1, 1) := by decide +kernel
theorem dX3_reasonOf_9 : decode cX3_reasonOf 9 = .ok (.ireturn, 1) := by decide +kernel
theorem dX3_reasonOf_10 : decode cX3_reasonOf 10 = .ok (.aload_n 0, 1) := by decide +kernel
theorem dX3_reasonOf_11 : decode cX3_reasonOf 11 = .ok (.iload_n 1, 1) := by decide +kernel
theorem dX3_reasonOf_12 : decode cX3_reasonOf 12 = .ok (.invokevirtual 86, 3) := by decide +kernel
theorem dX3_reasonOf_15 : decode cX3_reasonOf 15 = .ok (.ifCond .eq 5, 3) := by decide +kernel
theorem dX3_reasonOf_18 : decode cX3_reasonOf 18 = .ok (.iconst 2, 1) := by decide +kernel
theorem dX3_reasonOf_19 : decode cX3_reasonOf 19 = .ok (.ireturn, 1) := by decide +kernel
theorem dX3_reasonOf_20 : decode cX3_reasonOf 20 = .ok (.aload_n 0, 1) := by decide +kernel
theorem dX3_reasonOf_21 : decode cX3_reasonOf 21 = .ok (.getfield 9, 3) := by decide +kernel
theorem dX3_reasonOf_24 : decode cX3_reasonOf 24 = .ok (.aload_n 0, 1) := by decide +kernel
theorem dX3_reasonOf_25 : decode cX3_reasonOf 25 = .ok (.getfield 34, 3) := by decide +kernel
theorem dX3_reasonOf_28 : decode cX3_reasonOf 28 = .ok (.iload_n 1, 1) := by decide +kernel
theorem dX3_reasonOf_29 : decode cX3_reasonOf 29 = .ok (.iaload, 1) := by decide +kernel
theorem dX3_reasonOf_30 : decode cX3_reasonOf 30 = .ok (.isub, 1) := by decide +kernel
theorem dX3_reasonOf_31 : decode cX3_reasonOf 31 = .ok (.aload_n 0, 1) := by decide +kernel
theorem dX3_reasonOf_32 : decode cX3_reasonOf 32 = .ok (.getfield 25, 3) := by decide +kernel
theorem dX3_reasonOf_35 : decode cX3_reasonOf 35 = .ok (.iload_n 1, 1) := by decide +kernel
theorem dX3_reasonOf_36 : decode cX3_reasonOf 36 = .ok (.iaload, 1) := by decide +kernel
theorem dX3_reasonOf_37 : decode cX3_reasonOf 37 = .ok (.invokestatic 89, 3) := by decide +kernel
theorem dX3_reasonOf_40 : decode cX3_reasonOf 40 = .ok (.if_icmp .le 5, 3) := by decide +kernel
theorem dX3_reasonOf_43 : decode cX3_reasonOf 43 = .ok (.iconst 3, 1) := by decide +kernel
theorem dX3_reasonOf_44 : decode cX3_reasonOf 44 = .ok (.ireturn, 1) := by decide +kernel
theorem dX3_reasonOf_45 : decode cX3_reasonOf 45 = .ok (.aload_n 0, 1) := by decide +kernel
theorem dX3_reasonOf_46 : decode cX3_reasonOf 46 = .ok (.getfield 40, 3) := by decide +kernel
theorem dX3_reasonOf_49 : decode cX3_reasonOf 49 = .ok (.iload_n 1, 1) := by decide +kernel
theorem dX3_reasonOf_50 : decode cX3_reasonOf 50 = .ok (.iaload, 1) := by decide +kernel
theorem dX3_reasonOf_51 : decode cX3_reasonOf 51 = .ok (.iconst (-1), 1) := by decide +kernel
theorem dX3_reasonOf_52 : decode cX3_reasonOf 52 = .ok (.if_icmp .eq 16, 3) := by decide +kernel
theorem dX3_reasonOf_55 : decode cX3_reasonOf 55 = .ok (.aload_n 0, 1) := by decide +kernel
theorem dX3_reasonOf_56 : decode cX3_reasonOf 56 = .ok (.getfield 9, 3) := by decide +kernel
theorem dX3_reasonOf_59 : decode cX3_reasonOf 59 = .ok (.aload_n 0, 1) := by decide +kernel
theorem dX3_reasonOf_60 : decode cX3_reasonOf 60 = .ok (.getfield 40, 3) := by decide +kernel
theorem dX3_reasonOf_63 : decode cX3_reasonOf 63 = .ok (.iload_n 1, 1) := by decide +kernel
theorem dX3_reasonOf_64 : decode cX3_reasonOf 64 = .ok (.iaload, 1) := by decide +kernel
theorem dX3_reasonOf_65 : decode cX3_reasonOf 65 = .ok (.if_icmp .le 7, 3) := by decide +kernel
theorem dX3_reasonOf_68 : decode cX3_reasonOf 68 = .ok (.iconst 4, 1) := by decide +kernel
theorem dX3_reasonOf_69 : decode cX3_reasonOf 69 = .ok (.goto 4, 3) := by decide +kernel
theorem dX3_reasonOf_72 : decode cX3_reasonOf 72 = .ok (.iconst 0, 1) := by decide +kernel
theorem dX3_reasonOf_73 : decode cX3_reasonOf 73 = .ok (.ireturn, 1) := by decide +kernel
theorem dX3_strengthAt_0 : decode cX3_strengthAt 0 = .ok (.aload_n 0, 1) := by decide +kernel
theorem dX3_strengthAt_1 : decode cX3_strengthAt 1 = .ok (.getfield 25, 3) := by decide +kernel
theorem dX3_strengthAt_4 : decode cX3_strengthAt 4 = .ok (.iload_n 1, 1) := by decide +kernel
theorem dX3_strengthAt_5 : decode cX3_strengthAt 5 = .ok (.iaload, 1) := by decide +kernel
theorem dX3_strengthAt_6 : decode cX3_strengthAt 6 = .ok (.iload_n 2, 1) := by decide +kernel
theorem dX3_strengthAt_7 : decode cX3_strengthAt 7 = .ok (.aload_n 0, 1) := by decide +kernel
theorem dX3_strengthAt_8 : decode cX3_strengthAt 8 = .ok (.getfield 9, 3) := by decide +kernel
theorem dX3_strengthAt_11 : decode cX3_strengthAt 11 = .ok (.aload_n 0, 1) := by decide +kernel
theorem dX3_strengthAt_12 : decode cX3_strengthAt 12 = .ok (.getfield 34, 3) := by decide +kernel
theorem dX3_strengthAt_15 : decode cX3_strengthAt 15 = .ok (.iload_n 1, 1) := by decide +kernel
theorem dX3_strengthAt_16 : decode cX3_strengthAt 16 = .ok (.iaload, 1) := by decide +kernel
theorem dX3_strengthAt_17 : decode cX3_strengthAt 17 = .ok (.isub, 1) := by decide +kernel
theorem dX3_strengthAt_18 : decode cX3_strengthAt 18 = .ok (.bipush 100, 2) := by decide +kernel
theorem dX3_strengthAt_20 : decode cX3_strengthAt 20 = .ok (.idiv, 1) := by decide +kernel
theorem dX3_strengthAt_21 : decode cX3_strengthAt 21 = .ok (.invokestatic 94, 3) := by decide +kernel
theorem dX3_strengthAt_24 : decode cX3_strengthAt 24 = .ok (.ireturn, 1) := by decide +kernel
theorem dX3_priceOf_0 : decode cX3_priceOf 0 = .ok (.aload_n 0, 1) := by decide +kernel
theorem dX3_priceOf_1 : decode cX3_priceOf 1 = .ok (.getfield 25, 3) := by decide +kernel
theorem dX3_priceOf_4 : decode cX3_priceOf 4 = .ok (.iload_n 1, 1) := by decide +kernel
theorem dX3_priceOf_5 : decode cX3_priceOf 5 = .ok (.iaload, 1) := by decide +kernel
theorem dX3_priceOf_6 : decode cX3_priceOf 6 = .ok (.aload_n 0, 1) := by decide +kernel
theorem dX3_priceOf_7 : decode cX3_priceOf 7 = .ok (.getfield 28, 3) := by decide +kernel
theorem dX3_priceOf_10 : decode cX3_priceOf 10 = .ok (.iload_n 1, 1) := by decide +kernel
theorem dX3_priceOf_11 : decode cX3_priceOf 11 = .ok (.iaload, 1) := by decide +kernel
theorem dX3_priceOf_12 : decode cX3_priceOf 12 = .ok (.invokestatic 98, 3) := by decide +kernel
theorem dX3_priceOf_15 : decode cX3_priceOf 15 = .ok (.ireturn, 1) := by decide +kernel
theorem dX3_canBuy_0 : decode cX3_canBuy 0 = .ok (.aload_n 0, 1) := by decide +kernel
theorem dX3_canBuy_1 : decode cX3_canBuy 1 = .ok (.getfield 56, 3) := by decide +kernel
theorem dX3_canBuy_4 : decode cX3_canBuy 4 = .ok (.bipush 14, 2) := by decide +kernel
theorem dX3_canBuy_6 : decode cX3_canBuy 6 = .ok (.if_icmp .ge 19, 3) := by decide +kernel
theorem dX3_canBuy_9 : decode cX3_canBuy 9 = .ok (.iload_n 1, 1) := by decide +kernel
theorem dX3_canBuy_10 : decode cX3_canBuy 10 = .ok (.iload_n 2, 1) := by decide +kernel
theorem dX3_canBuy_11 : decode cX3_canBuy 11 = .ok (.invokestatic 98, 3) := by decide +kernel
theorem dX3_canBuy_14 : decode cX3_canBuy 14 = .ok (.aload_n 0, 1) := by decide +kernel
theorem dX3_canBuy_15 : decode cX3_canBuy 15 = .ok (.getfield 15, 3) := by decide +kernel
theorem dX3_canBuy_18 : decode cX3_canBuy 18 = .ok (.if_icmp .gt 7, 3) := by decide +kernel
theorem dX3_canBuy_21 : decode cX3_canBuy 21 = .ok (.iconst 1, 1) := by decide +kernel
theorem dX3_canBuy_22 : decode cX3_canBuy 22 = .ok (.goto 4, 3) := by decide +kernel
theorem dX3_canBuy_25 : decode cX3_canBuy 25 = .ok (.iconst 0, 1) := by decide +kernel
theorem dX3_canBuy_26 : decode cX3_canBuy 26 = .ok (.ireturn, 1) := by decide +kernel
theorem dX3_addHose_0 : decode cX3_addHose 0 = .ok (.aload_n 0, 1) := by decide +kernel
theorem dX3_addHose_1 : decode cX3_addHose 1 = .ok (.getfield 56, 3) := by decide +kernel
theorem dX3_addHose_4 : decode cX3_addHose 4 = .ok (.istore 5, 2) := by decide +kernel
theorem dX3_addHose_6 : decode cX3_addHose 6 = .ok (.aload_n 0, 1) := by decide +kernel
theorem dX3_addHose_7 : decode cX3_addHose 7 = .ok (.getfield 25, 3) := by decide +kernel
theorem dX3_addHose_10 : decode cX3_addHose 10 = .ok (.iload 5, 2) := by decide +kernel
theorem dX3_addHose_12 : decode cX3_addHose 12 = .ok (.iload_n 1, 1) := by decide +kernel
theorem dX3_addHose_13 : decode cX3_addHose 13 = .ok (.iastore, 1) := by decide +kernel
theorem dX3_addHose_14 : decode cX3_addHose 14 = .ok (.aload_n 0, 1) := by decide +kernel
theorem dX3_addHose_15 : decode cX3_addHose 15 = .ok (.getfield 28, 3) := by decide +kernel
theorem dX3_addHose_18 : decode cX3_addHose 18 = .ok (.iload 5, 2) := by decide +kernel
theorem dX3_addHose_20 : decode cX3_addHose 20 = .ok (.iload_n 2, 1) := by decide +kernel
theorem dX3_addHose_21 : decode cX3_addHose 21 = .ok (.iastore, 1) := by decide +kernel
theorem dX3_addHose_22 : decode cX3_addHose 22 = .ok (.aload_n 0, 1) := by decide +kernel
theorem dX3_addHose_23 : decode cX3_addHose 23 = .ok (.getfield 31, 3) := by decide +kernel
theorem dX3_addHose_26 : decode cX3_addHose 26 = .ok (.iload 5, 2) := by decide +kernel
theorem dX3_addHose_28 : decode cX3_addHose 28 = .ok (.iload_n 3, 1) := by decide +kernel
theorem dX3_addHose_29 : decode cX3_addHose 29 = .ok (.iastore, 1) := by decide +kernel
theorem dX3_addHose_30 : decode cX3_addHose 30 = .ok (.aload_n 0, 1) := by decide +kernel
theorem dX3_addHose_31 : decode cX3_addHose 31 = .ok (.getfield 34, 3) := by decide +kernel
theorem dX3_addHose_34 : decode cX3_addHose 34 = .ok (.iload 5, 2) := by decide +kernel
theorem dX3_addHose_36 : decode cX3_addHose 36 = .ok (.aload_n 0, 1) := by decide +kernel
theorem dX3_addHose_37 : decode cX3_addHose 37 = .ok (.getfield 9, 3) := by decide +kernel
theorem dX3_addHose_40 : decode cX3_addHose 40 = .ok (.iastore, 1) := by decide +kernel
theorem dX3_addHose_41 : decode cX3_addHose 41 = .ok (.aload_n 0, 1) := by decide +kernel
theorem dX3_addHose_42 : decode cX3_addHose 42 = .ok (.getfield 37, 3) := by decide +kernel
theorem dX3_addHose_45 : decode cX3_addHose 45 = .ok (.iload 5, 2) := by decide +kernel
theorem dX3_addHose_47 : decode cX3_addHose 47 = .ok (.iconst 0, 1) := by decide +kernel
theorem dX3_addHose_48 : decode cX3_addHose 48 = .ok (.iastore, 1) := by decide +kernel
theorem dX3_addHose_49 : decode cX3_addHose 49 = .ok (.aload_n 0, 1) := by decide +kernel
theorem dX3_addHose_50 : decode cX3_addHose 50 = .ok (.getfield 40, 3) := by decide +kernel
theorem dX3_addHose_53 : decode cX3_addHose 53 = .ok (.iload 5, 2) := by decide +kernel
theorem dX3_addHose_55 : decode cX3_addHose 55 = .ok (.iconst (-1), 1) := by decide +kernel
theorem dX3_addHose_56 : decode cX3_addHose 56 = .ok (.iastore, 1) := by decide +kernel
theorem dX3_addHose_57 : decode cX3_addHose 57 = .ok (.aload_n 0, 1) := by decide +kernel
theorem dX3_addHose_58 : decode cX3_addHose 58 = .ok (.getfield 43, 3) := by decide +kernel
theorem dX3_addHose_61 : decode cX3_addHose 61 = .ok (.iload 5, 2) := by decide +kernel
theorem dX3_addHose_63 : decode cX3_addHose 63 = .ok (.iload 4, 2) := by decide +kernel
theorem dX3_addHose_65 : decode cX3_addHose 65 = .ok (.iastore, 1) := by decide +kernel
theorem dX3_addHose_66 : decode cX3_addHose 66 = .ok (.aload_n 0, 1) := by decide +kernel
theorem dX3_addHose_67 : decode cX3_addHose 67 = .ok (.getfield 46, 3) := by decide +kernel
theorem dX3_addHose_70 : decode cX3_addHose 70 = .ok (.iload 5, 2) := by decide +kernel
theorem dX3_addHose_72 : decode cX3_addHose 72 = .ok (.iconst (-1), 1) := by decide +kernel
theorem dX3_addHose_73 : decode cX3_addHose 73 = .ok (.iastore, 1) := by decide +kernel
theorem dX3_addHose_74 : decode cX3_addHose 74 = .ok (.aload_n 0, 1) := by decide +kernel
theorem dX3_addHose_75 : decode cX3_addHose 75 = .ok (.dup, 1) := by decide +kernel
theorem dX3_addHose_76 : decode cX3_addHose 76 = .ok (.getfield 56, 3) := by decide +kernel
theorem dX3_addHose_79 : decode cX3_addHose 79 = .ok (.iconst 1, 1) := by decide +kernel
theorem dX3_addHose_80 : decode cX3_addHose 80 = .ok (.iadd, 1) := by decide +kernel
theorem dX3_addHose_81 : decode cX3_addHose 81 = .ok (.putfield 56, 3) := by decide +kernel
theorem dX3_addHose_84 : decode cX3_addHose 84 = .ok (.aload_n 0, 1) := by decide +kernel
theorem dX3_addHose_85 : decode cX3_addHose 85 = .ok (.dup, 1) := by decide +kernel
theorem dX3_addHose_86 : decode cX3_addHose 86 = .ok (.getfield 15, 3) := by decide +kernel
theorem dX3_addHose_89 : decode cX3_addHose 89 = .ok (.aload_n 0, 1) := by decide +kernel
theorem dX3_addHose_90 : decode cX3_addHose 90 = .ok (.iload 5, 2) := by decide +kernel
theorem dX3_addHose_92 : decode cX3_addHose 92 = .ok (.invokevirtual 102, 3) := by decide +kernel
theorem dX3_addHose_95 : decode cX3_addHose 95 = .ok (.isub, 1) := by decide +kernel
theorem dX3_addHose_96 : decode cX3_addHose 96 = .ok (.putfield 15, 3) := by decide +kernel
theorem dX3_addHose_99 : decode cX3_addHose 99 = .ok (.aload_n 0, 1) := by decide +kernel
theorem dX3_addHose_100 : decode cX3_addHose 100 = .ok (.dup, 1) := by decide +kernel
theorem dX3_addHose_101 : decode cX3_addHose 101 = .ok (.getfield 65, 3) := by decide +kernel
theorem dX3_addHose_104 : decode cX3_addHose 104 = .ok (.aload_n 0, 1) := by decide +kernel
theorem dX3_addHose_105 : decode cX3_addHose 105 = .ok (.iload 5, 2) := by decide +kernel
theorem dX3_addHose_107 : decode cX3_addHose 107 = .ok (.invokevirtual 102, 3) := by decide +kernel
theorem dX3_addHose_110 : decode cX3_addHose 110 = .ok (.iadd, 1) := by decide +kernel
theorem dX3_addHose_111 : decode cX3_addHose 111 = .ok (.putfield 65, 3) := by decide +kernel
theorem dX3_addHose_114 : decode cX3_addHose 114 = .ok (.iload 5, 2) := by decide +kernel
theorem dX3_addHose_116 : decode cX3_addHose 116 = .ok (.ireturn, 1) := by decide +kernel
theorem dX3_replaceHose_0 : decode cX3_replaceHose 0 = .ok (.aload_n 0, 1) := by decide +kernel
theorem dX3_replaceHose_1 : decode cX3_replaceHose 1 = .ok (.getfield 43, 3) := by decide +kernel
theorem dX3_replaceHose_4 : decode cX3_replaceHose 4 = .ok (.iload_n 1, 1) := by decide +kernel
theorem dX3_replaceHose_5 : decode cX3_replaceHose 5 = .ok (.iaload, 1) := by decide +kernel
theorem dX3_replaceHose_6 : decode cX3_replaceHose 6 = .ok (.istore_n 2, 1) := by decide +kernel
theorem dX3_replaceHose_7 : decode cX3_replaceHose 7 = .ok (.aload_n 0, 1) := by decide +kernel
theorem dX3_replaceHose_8 : decode cX3_replaceHose 8 = .ok (.getfield 43, 3) := by decide +kernel
theorem dX3_replaceHose_11 : decode cX3_replaceHose 11 = .ok (.iload_n 1, 1) := by decide +kernel
theorem dX3_replaceHose_12 : decode cX3_replaceHose 12 = .ok (.iconst (-1), 1) := by decide +kernel
theorem dX3_replaceHose_13 : decode cX3_replaceHose 13 = .ok (.iastore, 1) := by decide +kernel
theorem dX3_replaceHose_14 : decode cX3_replaceHose 14 = .ok (.aload_n 0, 1) := by decide +kernel
theorem dX3_replaceHose_15 : decode cX3_replaceHose 15 = .ok (.aload_n 0, 1) := by decide +kernel
theorem dX3_replaceHose_16 : decode cX3_replaceHose 16 = .ok (.getfield 25, 3) := by decide +kernel
theorem dX3_replaceHose_19 : decode cX3_replaceHose 19 = .ok (.iload_n 1, 1) := by decide +kernel
theorem dX3_replaceHose_20 : decode cX3_replaceHose 20 = .ok (.iaload, 1) := by decide +kernel
theorem dX3_replaceHose_21 : decode cX3_replaceHose 21 = .ok (.aload_n 0, 1) := by decide +kernel
theorem dX3_replaceHose_22 : decode cX3_replaceHose 22 = .ok (.getfield 28, 3) := by decide +kernel
theorem dX3_replaceHose_25 : decode cX3_replaceHose 25 = .ok (.iload_n 1, 1) := by decide +kernel
theorem dX3_replaceHose_26 : decode cX3_replaceHose 26 = .ok (.iaload, 1) := by decide +kernel
theorem dX3_replaceHose_27 : decode cX3_replaceHose 27 = .ok (.aload_n 0, 1) := by decide +kernel
theorem dX3_replaceHose_28 : decode cX3_replaceHose 28 = .ok (.getfield 31, 3) := by decide +kernel
theorem dX3_replaceHose_31 : decode cX3_replaceHose 31 = .ok (.iload_n 1, 1) := by decide +kernel
theorem dX3_replaceHose_32 : decode cX3_replaceHose 32 = .ok (.iaload, 1) := by decide +kernel
theorem dX3_replaceHose_33 : decode cX3_replaceHose 33 = .ok (.iload_n 2, 1) := by decide +kernel
theorem dX3_replaceHose_34 : decode cX3_replaceHose 34 = .ok (.invokevirtual 105, 3) := by decide +kernel
theorem dX3_replaceHose_37 : decode cX3_replaceHose 37 = .ok (.ireturn, 1) := by decide +kernel
theorem dX3_lendOut_0 : decode cX3_lendOut 0 = .ok (.aload_n 0, 1) := by decide +kernel
theorem dX3_lendOut_1 : decode cX3_lendOut 1 = .ok (.getfield 43, 3) := by decide +kernel
theorem dX3_lendOut_4 : decode cX3_lendOut 4 = .ok (.iload_n 1, 1) := by decide +kernel
theorem dX3_lendOut_5 : decode cX3_lendOut 5 = .ok (.iconst 4, 1) := by decide +kernel
theorem dX3_lendOut_6 : decode cX3_lendOut 6 = .ok (.iastore, 1) := by decide +kernel
theorem dX3_lendOut_7 : decode cX3_lendOut 7 = .ok (.aload_n 0, 1) := by decide +kernel
theorem dX3_lendOut_8 : decode cX3_lendOut 8 = .ok (.getfield 46, 3) := by decide +kernel
theorem dX3_lendOut_11 : decode cX3_lendOut 11 = .ok (.iload_n 1, 1) := by decide +kernel
theorem dX3_lendOut_12 : decode cX3_lendOut 12 = .ok (.aload_n 0, 1) := by decide +kernel
theorem dX3_lendOut_13 : decode cX3_lendOut 13 = .ok (.getfield 9, 3) := by decide +kernel
theorem dX3_lendOut_16 : decode cX3_lendOut 16 = .ok (.iload_n 2, 1) := by decide +kernel
theorem dX3_lendOut_17 : decode cX3_lendOut 17 = .ok (.iadd, 1) := by decide +kernel
theorem dX3_lendOut_18 : decode cX3_lendOut 18 = .ok (.iastore, 1) := by decide +kernel
theorem dX3_lendOut_19 : decode cX3_lendOut 19 = .ok (.aload_n 0, 1) := by decide +kernel
theorem dX3_lendOut_20 : decode cX3_lendOut 20 = .ok (.getfield 46, 3) := by decide +kernel
theorem dX3_lendOut_23 : decode cX3_lendOut 23 = .ok (.iload_n 1, 1) := by decide +kernel
theorem dX3_lendOut_24 : decode cX3_lendOut 24 = .ok (.iaload, 1) := by decide +kernel
theorem dX3_lendOut_25 : decode cX3_lendOut 25 = .ok (.ireturn, 1) := by decide +kernel
theorem dX3_stepsUpTo_0 : decode cX3_stepsUpTo 0 = .ok (.iload_n 0, 1) := by decide +kernel
theorem dX3_stepsUpTo_1 : decode cX3_stepsUpTo 1 = .ok (.iconst 4, 1) := by decide +kernel
theorem dX3_stepsUpTo_2 : decode cX3_stepsUpTo 2 = .ok (.iadd, 1) := by decide +kernel
theorem dX3_stepsUpTo_3 : decode cX3_stepsUpTo 3 = .ok (.iconst 1, 1) := by decide +kernel
theorem dX3_stepsUpTo_4 : decode cX3_stepsUpTo 4 = .ok (.isub, 1) := by decide +kernel
theorem dX3_stepsUpTo_5 : decode cX3_stepsUpTo 5 = .ok (.iconst 4, 1) := by decide +kernel
theorem dX3_stepsUpTo_6 : decode cX3_stepsUpTo 6 = .ok (.idiv, 1) := by decide +kernel
theorem dX3_stepsUpTo_7 : decode cX3_stepsUpTo 7 = .ok (.ireturn, 1) := by decide +kernel
theorem dX3_stepsHeld_0 : decode cX3_stepsHeld 0 = .ok (.iload_n 2, 1) := by decide +kernel
theorem dX3_stepsHeld_1 : decode cX3_stepsHeld 1 = .ok (.invokestatic 109, 3) := by decide +kernel
theorem dX3_stepsHeld_4 : decode cX3_stepsHeld 4 = .ok (.istore_n 3, 1) := by decide +kernel
theorem dX3_stepsHeld_5 : decode cX3_stepsHeld 5 = .ok (.aload_n 0, 1) := by decide +kernel
theorem dX3_stepsHeld_6 : decode cX3_stepsHeld 6 = .ok (.getfield 37, 3) := by decide +kernel
theorem dX3_stepsHeld_9 : decode cX3_stepsHeld 9 = .ok (.iload_n 1, 1) := by decide +kernel
theorem dX3_stepsHeld_10 : decode cX3_stepsHeld 10 = .ok (.iaload, 1) := by decide +kernel
theorem dX3_stepsHeld_11 : decode cX3_stepsHeld 11 = .ok (.istore 4, 2) := by decide +kernel
theorem dX3_stepsHeld_13 : decode cX3_stepsHeld 13 = .ok (.iconst 0, 1) := by decide +kernel
theorem dX3_stepsHeld_14 : decode cX3_stepsHeld 14 = .ok (.istore 5, 2) := by decide +kernel
theorem dX3_stepsHeld_16 : decode cX3_stepsHeld 16 = .ok (.iload 5, 2) := by decide +kernel
theorem dX3_stepsHeld_18 : decode cX3_stepsHeld 18 = .ok (.iload_n 3, 1) := by decide +kernel
theorem dX3_stepsHeld_19 : decode cX3_stepsHeld 19 = .ok (.if_icmp .ge 47, 3) := by decide +kernel
theorem dX3_stepsHeld_22 : decode cX3_stepsHeld 22 = .ok (.iconst 4, 1) := by decide +kernel
theorem dX3_stepsHeld_23 : decode cX3_stepsHeld 23 = .ok (.iload 5, 2) := by decide +kernel
theorem dX3_stepsHeld_25 : decode cX3_stepsHeld 25 = .ok (.iconst 1, 1) := by decide +kernel
theorem dX3_stepsHeld_26 : decode cX3_stepsHeld 26 = .ok (.iadd, 1) := by decide +kernel
theorem dX3_stepsHeld_27 : decode cX3_stepsHeld 27 = .ok (.imul, 1) := by decide +kernel
theorem dX3_stepsHeld_28 : decode cX3_stepsHeld 28 = .ok (.iload_n 2, 1) := by decide +kernel
theorem dX3_stepsHeld_29 : decode cX3_stepsHeld 29 = .ok (.invokestatic 112, 3) := by decide +kernel
theorem dX3_stepsHeld_32 : decode cX3_stepsHeld 32 = .ok (.istore 6, 2) := by decide +kernel
theorem dX3_stepsHeld_34 : decode cX3_stepsHeld 34 = .ok (.aload_n 0, 1) := by decide +kernel
theorem dX3_stepsHeld_35 : decode cX3_stepsHeld 35 = .ok (.iload_n 1, 1) := by decide +kernel
theorem dX3_stepsHeld_36 : decode cX3_stepsHeld 36 = .ok (.iload 4, 2) := by decide +kernel
theorem dX3_stepsHeld_38 : decode cX3_stepsHeld 38 = .ok (.invokevirtual 117, 3) := by decide +kernel
theorem dX3_stepsHeld_41 : decode cX3_stepsHeld 41 = .ok (.iload 6, 2) := by decide +kernel
theorem dX3_stepsHeld_43 : decode cX3_stepsHeld 43 = .ok (.if_icmp .ge 6, 3) := by decide +kernel
theorem dX3_stepsHeld_46 : decode cX3_stepsHeld 46 = .ok (.iload 5, 2) := by decide +kernel
theorem dX3_stepsHeld_48 : decode cX3_stepsHeld 48 = .ok (.ireturn, 1) := by decide +kernel
theorem dX3_stepsHeld_49 : decode cX3_stepsHeld 49 = .ok (.bipush 99, 2) := by decide +kernel
theorem dX3_stepsHeld_51 : decode cX3_stepsHeld 51 = .ok (.iload 4, 2) := by decide +kernel
theorem dX3_stepsHeld_53 : decode cX3_stepsHeld 53 = .ok (.iconst 1, 1) := by decide +kernel
theorem dX3_stepsHeld_54 : decode cX3_stepsHeld 54 = .ok (.iadd, 1) := by decide +kernel
theorem dX3_stepsHeld_55 : decode cX3_stepsHeld 55 = .ok (.invokestatic 112, 3) := by decide +kernel
theorem dX3_stepsHeld_58 : decode cX3_stepsHeld 58 = .ok (.istore 4, 2) := by decide +kernel
theorem dX3_stepsHeld_60 : decode cX3_stepsHeld 60 = .ok (.iinc 5 1, 3) := by decide +kernel
theorem dX3_stepsHeld_63 : decode cX3_stepsHeld 63 = .ok (.goto (-47), 3) := by decide +kernel
theorem dX3_stepsHeld_66 : decode cX3_stepsHeld 66 = .ok (.iload_n 3, 1) := by decide +kernel
theorem dX3_stepsHeld_67 : decode cX3_stepsHeld 67 = .ok (.ireturn, 1) := by decide +kernel
theorem dX3_outcomeOf_0 : decode cX3_outcomeOf 0 = .ok (.aload_n 0, 1) := by decide +kernel
theorem dX3_outcomeOf_1 : decode cX3_outcomeOf 1 = .ok (.iload_n 1, 1) := by decide +kernel
theorem dX3_outcomeOf_2 : decode cX3_outcomeOf 2 = .ok (.iload_n 2, 1) := by decide +kernel
theorem dX3_outcomeOf_3 : decode cX3_outcomeOf 3 = .ok (.invokevirtual 120, 3) := by decide +kernel
theorem dX3_outcomeOf_6 : decode cX3_outcomeOf 6 = .ok (.istore_n 3, 1) := by decide +kernel
theorem dX3_outcomeOf_7 : decode cX3_outcomeOf 7 = .ok (.iload_n 3, 1) := by decide +kernel
theorem dX3_outcomeOf_8 : decode cX3_outcomeOf 8 = .ok (.iload_n 2, 1) := by decide +kernel
theorem dX3_outcomeOf_9 : decode cX3_outcomeOf 9 = .ok (.invokestatic 109, 3) := by decide +kernel
theorem dX3_outcomeOf_12 : decode cX3_outcomeOf 12 = .ok (.if_icmp .ge 10, 3) := by decide +kernel
theorem dX3_outcomeOf_15 : decode cX3_outcomeOf 15 = .ok (.iload_n 3, 1) := by decide +kernel
theorem dX3_outcomeOf_16 : decode cX3_outcomeOf 16 = .ok (.bipush 100, 2) := by decide +kernel
theorem dX3_outcomeOf_18 : decode cX3_outcomeOf 18 = .ok (.iadd, 1) := by decide +kernel
theorem dX3_outcomeOf_19 : decode cX3_outcomeOf 19 = .ok (.goto 4, 3) := by decide +kernel
theorem dX3_outcomeOf_22 : decode cX3_outcomeOf 22 = .ok (.iload_n 3, 1) := by decide +kernel
theorem dX3_outcomeOf_23 : decode cX3_outcomeOf 23 = .ok (.ireturn, 1) := by decide +kernel
theorem dX3_runTest_0 : decode cX3_runTest 0 = .ok (.aload_n 0, 1) := by decide +kernel
theorem dX3_runTest_1 : decode cX3_runTest 1 = .ok (.iload_n 1, 1) := by decide +kernel
theorem dX3_runTest_2 : decode cX3_runTest 2 = .ok (.iload_n 2, 1) := by decide +kernel
theorem dX3_runTest_3 : decode cX3_runTest 3 = .ok (.invokevirtual 123, 3) := by decide +kernel
theorem dX3_runTest_6 : decode cX3_runTest 6 = .ok (.istore_n 3, 1) := by decide +kernel
theorem dX3_runTest_7 : decode cX3_runTest 7 = .ok (.iload_n 3, 1) := by decide +kernel
theorem dX3_runTest_8 : decode cX3_runTest 8 = .ok (.bipush 100, 2) := by decide +kernel
theorem dX3_runTest_10 : decode cX3_runTest 10 = .ok (.if_icmp .lt 7, 3) := by decide +kernel
theorem dX3_runTest_13 : decode cX3_runTest 13 = .ok (.iconst 1, 1) := by decide +kernel
theorem dX3_runTest_14 : decode cX3_runTest 14 = .ok (.goto 4, 3) := by decide +kernel
theorem dX3_runTest_17 : decode cX3_runTest 17 = .ok (.iconst 0, 1) := by decide +kernel
theorem dX3_runTest_18 : decode cX3_runTest 18 = .ok (.istore 4, 2) := by decide +kernel
theorem dX3_runTest_20 : decode cX3_runTest 20 = .ok (.aload_n 0, 1) := by decide +kernel
theorem dX3_runTest_21 : decode cX3_runTest 21 = .ok (.getfield 37, 3) := by decide +kernel
theorem dX3_runTest_24 : decode cX3_runTest 24 = .ok (.iload_n 1, 1) := by decide +kernel
theorem dX3_runTest_25 : decode cX3_runTest 25 = .ok (.bipush 99, 2) := by decide +kernel
theorem dX3_runTest_27 : decode cX3_runTest 27 = .ok (.aload_n 0, 1) := by decide +kernel
theorem dX3_runTest_28 : decode cX3_runTest 28 = .ok (.getfield 37, 3) := by decide +kernel
theorem dX3_runTest_31 : decode cX3_runTest 31 = .ok (.iload_n 1, 1) := by decide +kernel
theorem dX3_runTest_32 : decode cX3_runTest 32 = .ok (.iaload, 1) := by decide +kernel
theorem dX3_runTest_33 : decode cX3_runTest 33 = .ok (.iload 4, 2) := by decide +kernel
theorem dX3_runTest_35 : decode cX3_runTest 35 = .ok (.ifCond .eq 10, 3) := by decide +kernel
theorem dX3_runTest_38 : decode cX3_runTest 38 = .ok (.iload_n 3, 1) := by decide +kernel
theorem dX3_runTest_39 : decode cX3_runTest 39 = .ok (.bipush 100, 2) := by decide +kernel
theorem dX3_runTest_41 : decode cX3_runTest 41 = .ok (.isub, 1) := by decide +kernel
theorem dX3_runTest_42 : decode cX3_runTest 42 = .ok (.goto 4, 3) := by decide +kernel
theorem dX3_runTest_45 : decode cX3_runTest 45 = .ok (.iload_n 3, 1) := by decide +kernel
theorem dX3_runTest_46 : decode cX3_runTest 46 = .ok (.iadd, 1) := by decide +kernel
theorem dX3_runTest_47 : decode cX3_runTest 47 = .ok (.invokestatic 112, 3) := by decide +kernel
theorem dX3_runTest_50 : decode cX3_runTest 50 = .ok (.iastore, 1) := by decide +kernel
theorem dX3_runTest_51 : decode cX3_runTest 51 = .ok (.aload_n 0, 1) := by decide +kernel
theorem dX3_runTest_52 : decode cX3_runTest 52 = .ok (.dup, 1) := by decide +kernel
theorem dX3_runTest_53 : decode cX3_runTest 53 = .ok (.getfield 59, 3) := by decide +kernel
theorem dX3_runTest_56 : decode cX3_runTest 56 = .ok (.iconst 1, 1) := by decide +kernel
theorem dX3_runTest_57 : decode cX3_runTest 57 = .ok (.iadd, 1) := by decide +kernel
theorem dX3_runTest_58 : decode cX3_runTest 58 = .ok (.putfield 59, 3) := by decide +kernel
theorem dX3_runTest_61 : decode cX3_runTest 61 = .ok (.iload 4, 2) := by decide +kernel
theorem dX3_runTest_63 : decode cX3_runTest 63 = .ok (.ifCond .eq 23, 3) := by decide +kernel
theorem dX3_runTest_66 : decode cX3_runTest 66 = .ok (.aload_n 0, 1) := by decide +kernel
theorem dX3_runTest_67 : decode cX3_runTest 67 = .ok (.dup, 1) := by decide +kernel
theorem dX3_runTest_68 : decode cX3_runTest 68 = .ok (.getfield 62, 3) := by decide +kernel
theorem dX3_runTest_71 : decode cX3_runTest 71 = .ok (.iconst 1, 1) := by decide +kernel
theorem dX3_runTest_72 : decode cX3_runTest 72 = .ok (.iadd, 1) := by decide +kernel
theorem dX3_runTest_73 : decode cX3_runTest 73 = .ok (.putfield 62, 3) := by decide +kernel
theorem dX3_runTest_76 : decode cX3_runTest 76 = .ok (.aload_n 0, 1) := by decide +kernel
theorem dX3_runTest_77 : decode cX3_runTest 77 = .ok (.getfield 43, 3) := by decide +kernel
theorem dX3_runTest_80 : decode cX3_runTest 80 = .ok (.iload_n 1, 1) := by decide +kernel
theorem dX3_runTest_81 : decode cX3_runTest 81 = .ok (.iconst (-1), 1) := by decide +kernel
theorem dX3_runTest_82 : decode cX3_runTest 82 = .ok (.iastore, 1) := by decide +kernel
theorem dX3_runTest_83 : decode cX3_runTest 83 = .ok (.goto 33, 3) := by decide +kernel
theorem dX3_runTest_86 : decode cX3_runTest 86 = .ok (.iload_n 2, 1) := by decide +kernel
theorem dX3_runTest_87 : decode cX3_runTest 87 = .ok (.aload_n 0, 1) := by decide +kernel
theorem dX3_runTest_88 : decode cX3_runTest 88 = .ok (.getfield 22, 3) := by decide +kernel
theorem dX3_runTest_91 : decode cX3_runTest 91 = .ok (.iconst 0, 1) := by decide +kernel
theorem dX3_runTest_92 : decode cX3_runTest 92 = .ok (.iaload, 1) := by decide +kernel
theorem dX3_runTest_93 : decode cX3_runTest 93 = .ok (.if_icmp .lt 23, 3) := by decide +kernel
theorem dX3_runTest_96 : decode cX3_runTest 96 = .ok (.aload_n 0, 1) := by decide +kernel
theorem dX3_runTest_97 : decode cX3_runTest 97 = .ok (.getfield 40, 3) := by decide +kernel
theorem dX3_runTest_100 : decode cX3_runTest 100 = .ok (.iload_n 1, 1) := by decide +kernel
theorem dX3_runTest_101 : decode cX3_runTest 101 = .ok (.aload_n 0, 1) := by decide +kernel
theorem dX3_runTest_102 : decode cX3_runTest 102 = .ok (.getfield 9, 3) := by decide +kernel
theorem dX3_runTest_105 : decode cX3_runTest 105 = .ok (.aload_n 0, 1) := by decide +kernel
theorem dX3_runTest_106 : decode cX3_runTest 106 = .ok (.getfield 25, 3) := by decide +kernel
theorem dX3_runTest_109 : decode cX3_runTest 109 = .ok (.iload_n 1, 1) := by decide +kernel
theorem dX3_runTest_110 : decode cX3_runTest 110 = .ok (.iaload, 1) := by decide +kernel
theorem dX3_runTest_111 : decode cX3_runTest 111 = .ok (.invokestatic 126, 3) := by decide +kernel
theorem dX3_runTest_114 : decode cX3_runTest 114 = .ok (.iadd, 1) := by decide +kernel
theorem dX3_runTest_115 : decode cX3_runTest 115 = .ok (.iastore, 1) := by decide +kernel
theorem dX3_runTest_116 : decode cX3_runTest 116 = .ok (.iload_n 3, 1) := by decide +kernel
theorem dX3_runTest_117 : decode cX3_runTest 117 = .ok (.ireturn, 1) := by decide +kernel
theorem dX3_greatestSafePressure_0 : decode cX3_greatestSafePressure 0 = .ok (.bipush 24, 2) := by decide +kernel
theorem dX3_greatestSafePressure_2 : decode cX3_greatestSafePressure 2 = .ok (.istore_n 2, 1) := by decide +kernel
theorem dX3_greatestSafePressure_3 : decode cX3_greatestSafePressure 3 = .ok (.iload_n 2, 1) := by decide +kernel
theorem dX3_greatestSafePressure_4 : decode cX3_greatestSafePressure 4 = .ok (.iconst 4, 1) := by decide +kernel
theorem dX3_greatestSafePressure_5 : decode cX3_greatestSafePressure 5 = .ok (.if_icmp .lt 24, 3) := by decide +kernel
theorem dX3_greatestSafePressure_8 : decode cX3_greatestSafePressure 8 = .ok (.aload_n 0, 1) := by decide +kernel
theorem dX3_greatestSafePressure_9 : decode cX3_greatestSafePressure 9 = .ok (.iload_n 1, 1) := by decide +kernel
theorem dX3_greatestSafePressure_10 : decode cX3_greatestSafePressure 10 = .ok (.iload_n 2, 1) := by decide +kernel
theorem dX3_greatestSafePressure_11 : decode cX3_greatestSafePressure 11 = .ok (.invokevirtual 120, 3) := by decide +kernel
theorem dX3_greatestSafePressure_14 : decode cX3_greatestSafePressure 14 = .ok (.iload_n 2, 1) := by decide +kernel
theorem dX3_greatestSafePressure_15 : decode cX3_greatestSafePressure 15 = .ok (.invokestatic 109, 3) := by decide +kernel
theorem dX3_greatestSafePressure_18 : decode cX3_greatestSafePressure 18 = .ok (.if_icmp .ne 5, 3) := by decide +kernel
theorem dX3_greatestSafePressure_21 : decode cX3_greatestSafePressure 21 = .ok (.iload_n 2, 1) := by decide +kernel
theorem dX3_greatestSafePressure_22 : decode cX3_greatestSafePressure 22 = .ok (.ireturn, 1) := by decide +kernel
theorem dX3_greatestSafePressure_23 : decode cX3_greatestSafePressure 23 = .ok (.iinc 2 (-1), 3) := by decide +kernel
theorem dX3_greatestSafePressure_26 : decode cX3_greatestSafePressure 26 = .ok (.goto (-23), 3) := by decide +kernel
theorem dX3_greatestSafePressure_29 : decode cX3_greatestSafePressure 29 = .ok (.iconst (-1), 1) := by decide +kernel
theorem dX3_greatestSafePressure_30 : decode cX3_greatestSafePressure 30 = .ok (.ireturn, 1) := by decide +kernel
theorem dX3_passDay_0 : decode cX3_passDay 0 = .ok (.aload_n 0, 1) := by decide +kernel
theorem dX3_passDay_1 : decode cX3_passDay 1 = .ok (.dup, 1) := by decide +kernel
theorem dX3_passDay_2 : decode cX3_passDay 2 = .ok (.getfield 9, 3) := by decide +kernel
theorem dX3_passDay_5 : decode cX3_passDay 5 = .ok (.iconst 1, 1) := by decide +kernel
theorem dX3_passDay_6 : decode cX3_passDay 6 = .ok (.iadd, 1) := by decide +kernel
theorem dX3_passDay_7 : decode cX3_passDay 7 = .ok (.putfield 9, 3) := by decide +kernel
theorem dX3_passDay_10 : decode cX3_passDay 10 = .ok (.aload_n 0, 1) := by decide +kernel
theorem dX3_passDay_11 : decode cX3_passDay 11 = .ok (.invokevirtual 129, 3) := by decide +kernel
theorem dX3_passDay_14 : decode cX3_passDay 14 = .ok (.aload_n 0, 1) := by decide +kernel
theorem dX3_passDay_15 : decode cX3_passDay 15 = .ok (.getfield 9, 3) := by decide +kernel
theorem dX3_passDay_18 : decode cX3_passDay 18 = .ok (.bipush 10, 2) := by decide +kernel
theorem dX3_passDay_20 : decode cX3_passDay 20 = .ok (.irem, 1) := by decide +kernel
theorem dX3_passDay_21 : decode cX3_passDay 21 = .ok (.ifCond .ne 7, 3) := by decide +kernel
theorem dX3_passDay_24 : decode cX3_passDay 24 = .ok (.aload_n 0, 1) := by decide +kernel
theorem dX3_passDay_25 : decode cX3_passDay 25 = .ok (.invokevirtual 132, 3) := by decide +kernel
theorem dX3_passDay_28 : decode cX3_passDay 28 = .ok (.aload_n 0, 1) := by decide +kernel
theorem dX3_passDay_29 : decode cX3_passDay 29 = .ok (.getfield 9, 3) := by decide +kernel
theorem dX3_passDay_32 : decode cX3_passDay 32 = .ok (.bipush 30, 2) := by decide +kernel
theorem dX3_passDay_34 : decode cX3_passDay 34 = .ok (.irem, 1) := by decide +kernel
theorem dX3_passDay_35 : decode cX3_passDay 35 = .ok (.ifCond .ne 24, 3) := by decide +kernel
theorem dX3_passDay_38 : decode cX3_passDay 38 = .ok (.aload_n 0, 1) := by decide +kernel
theorem dX3_passDay_39 : decode cX3_passDay 39 = .ok (.sipush 9999, 3) := by decide +kernel
theorem dX3_passDay_42 : decode cX3_passDay 42 = .ok (.aload_n 0, 1) := by decide +kernel
theorem dX3_passDay_43 : decode cX3_passDay 43 = .ok (.getfield 15, 3) := by decide +kernel
theorem dX3_passDay_46 : decode cX3_passDay 46 = .ok (.aload_n 0, 1) := by decide +kernel
theorem dX3_passDay_47 : decode cX3_passDay 47 = .ok (.getfield 22, 3) := by decide +kernel
theorem dX3_passDay_50 : decode cX3_passDay 50 = .ok (.iconst 2, 1) := by decide +kernel
theorem dX3_passDay_51 : decode cX3_passDay 51 = .ok (.iaload, 1) := by decide +kernel
theorem dX3_passDay_52 : decode cX3_passDay 52 = .ok (.iadd, 1) := by decide +kernel
theorem dX3_passDay_53 : decode cX3_passDay 53 = .ok (.invokestatic 112, 3) := by decide +kernel
theorem dX3_passDay_56 : decode cX3_passDay 56 = .ok (.putfield 15, 3) := by decide +kernel
theorem dX3_passDay_59 : decode cX3_passDay 59 = .ok (.return_, 1) := by decide +kernel
theorem dX3_takeBackLent_0 : decode cX3_takeBackLent 0 = .ok (.iconst 0, 1) := by decide +kernel
theorem dX3_takeBackLent_1 : decode cX3_takeBackLent 1 = .ok (.istore_n 1, 1) := by decide +kernel
theorem dX3_takeBackLent_2 : decode cX3_takeBackLent 2 = .ok (.iload_n 1, 1) := by decide +kernel
theorem dX3_takeBackLent_3 : decode cX3_takeBackLent 3 = .ok (.aload_n 0, 1) := by decide +kernel
theorem dX3_takeBackLent_4 : decode cX3_takeBackLent 4 = .ok (.getfield 56, 3) := by decide +kernel
theorem dX3_takeBackLent_7 : decode cX3_takeBackLent 7 = .ok (.if_icmp .ge 44, 3) := by decide +kernel
theorem dX3_takeBackLent_10 : decode cX3_takeBackLent 10 = .ok (.aload_n 0, 1) := by decide +kernel
theorem dX3_takeBackLent_11 : decode cX3_takeBackLent 11 = .ok (.iload_n 1, 1) := by decide +kernel
theorem dX3_takeBackLent_12 : decode cX3_takeBackLent 12 = .ok (.invokevirtual 86, 3) := by decide +kernel
theorem dX3_takeBackLent_15 : decode cX3_takeBackLent 15 = .ok (.ifCond .eq 30, 3) := by decide +kernel
theorem dX3_takeBackLent_18 : decode cX3_takeBackLent 18 = .ok (.aload_n 0, 1) := by decide +kernel
theorem dX3_takeBackLent_19 : decode cX3_takeBackLent 19 = .ok (.getfield 46, 3) := by decide +kernel
theorem dX3_takeBackLent_22 : decode cX3_takeBackLent 22 = .ok (.iload_n 1, 1) := by decide +kernel
theorem dX3_takeBackLent_23 : decode cX3_takeBackLent 23 = .ok (.iaload, 1) := by decide +kernel
theorem dX3_takeBackLent_24 : decode cX3_takeBackLent 24 = .ok (.aload_n 0, 1) := by decide +kernel
theorem dX3_takeBackLent_25 : decode cX3_takeBackLent 25 = .ok (.getfield 9, 3) := by decide +kernel
theorem dX3_takeBackLent_28 : decode cX3_takeBackLent 28 = .ok (.if_icmp .ne 17, 3) := by decide +kernel
theorem dX3_takeBackLent_31 : decode cX3_takeBackLent 31 = .ok (.aload_n 0, 1) := by decide +kernel
theorem dX3_takeBackLent_32 : decode cX3_takeBackLent 32 = .ok (.getfield 43, 3) := by decide +kernel
theorem dX3_takeBackLent_35 : decode cX3_takeBackLent 35 = .ok (.iload_n 1, 1) := by decide +kernel
theorem dX3_takeBackLent_36 : decode cX3_takeBackLent 36 = .ok (.iconst 3, 1) := by decide +kernel
theorem dX3_takeBackLent_37 : decode cX3_takeBackLent 37 = .ok (.iastore, 1) := by decide +kernel
theorem dX3_takeBackLent_38 : decode cX3_takeBackLent 38 = .ok (.aload_n 0, 1) := by decide +kernel
theorem dX3_takeBackLent_39 : decode cX3_takeBackLent 39 = .ok (.getfield 46, 3) := by decide +kernel
theorem dX3_takeBackLent_42 : decode cX3_takeBackLent 42 = .ok (.iload_n 1, 1) := by decide +kernel
theorem dX3_takeBackLent_43 : decode cX3_takeBackLent 43 = .ok (.iconst (-1), 1) := by decide +kernel
theorem dX3_takeBackLent_44 : decode cX3_takeBackLent 44 = .ok (.iastore, 1) := by decide +kernel
theorem dX3_takeBackLent_45 : decode cX3_takeBackLent 45 = .ok (.iinc 1 1, 3) := by decide +kernel
theorem dX3_takeBackLent_48 : decode cX3_takeBackLent 48 = .ok (.goto (-46), 3) := by decide +kernel
theorem dX3_takeBackLent_51 : decode cX3_takeBackLent 51 = .ok (.return_, 1) := by decide +kernel
theorem dX3_wearOnTrucks_0 : decode cX3_wearOnTrucks 0 = .ok (.iconst 0, 1) := by decide +kernel
theorem dX3_wearOnTrucks_1 : decode cX3_wearOnTrucks 1 = .ok (.istore_n 1, 1) := by decide +kernel
theorem dX3_wearOnTrucks_2 : decode cX3_wearOnTrucks 2 = .ok (.iload_n 1, 1) := by decide +kernel
theorem dX3_wearOnTrucks_3 : decode cX3_wearOnTrucks 3 = .ok (.aload_n 0, 1) := by decide +kernel
theorem dX3_wearOnTrucks_4 : decode cX3_wearOnTrucks 4 = .ok (.getfield 56, 3) := by decide +kernel
theorem dX3_wearOnTrucks_7 : decode cX3_wearOnTrucks 7 = .ok (.if_icmp .ge 44, 3) := by decide +kernel
theorem dX3_wearOnTrucks_10 : decode cX3_wearOnTrucks 10 = .ok (.aload_n 0, 1) := by decide +kernel
theorem dX3_wearOnTrucks_11 : decode cX3_wearOnTrucks 11 = .ok (.iload_n 1, 1) := by decide +kernel
theorem dX3_wearOnTrucks_12 : decode cX3_wearOnTrucks 12 = .ok (.invokevirtual 135, 3) := by decide +kernel
theorem dX3_wearOnTrucks_15 : decode cX3_wearOnTrucks 15 = .ok (.ifCond .eq 30, 3) := by decide +kernel
theorem dX3_wearOnTrucks_18 : decode cX3_wearOnTrucks 18 = .ok (.aload_n 0, 1) := by decide +kernel
theorem dX3_wearOnTrucks_19 : decode cX3_wearOnTrucks 19 = .ok (.iload_n 1, 1) := by decide +kernel
theorem dX3_wearOnTrucks_20 : decode cX3_wearOnTrucks 20 = .ok (.invokevirtual 138, 3) := by decide +kernel
theorem dX3_wearOnTrucks_23 : decode cX3_wearOnTrucks 23 = .ok (.ifCond .eq 22, 3) := by decide +kernel
theorem dX3_wearOnTrucks_26 : decode cX3_wearOnTrucks 26 = .ok (.aload_n 0, 1) := by decide +kernel
theorem dX3_wearOnTrucks_27 : decode cX3_wearOnTrucks 27 = .ok (.getfield 37, 3) := by decide +kernel
theorem dX3_wearOnTrucks_30 : decode cX3_wearOnTrucks 30 = .ok (.iload_n 1, 1) := by decide +kernel
theorem dX3_wearOnTrucks_31 : decode cX3_wearOnTrucks 31 = .ok (.bipush 99, 2) := by decide +kernel
theorem dX3_wearOnTrucks_33 : decode cX3_wearOnTrucks 33 = .ok (.aload_n 0, 1) := by decide +kernel
theorem dX3_wearOnTrucks_34 : decode cX3_wearOnTrucks 34 = .ok (.getfield 37, 3) := by decide +kernel
theorem dX3_wearOnTrucks_37 : decode cX3_wearOnTrucks 37 = .ok (.iload_n 1, 1) := by decide +kernel
theorem dX3_wearOnTrucks_38 : decode cX3_wearOnTrucks 38 = .ok (.iaload, 1) := by decide +kernel
theorem dX3_wearOnTrucks_39 : decode cX3_wearOnTrucks 39 = .ok (.iconst 1, 1) := by decide +kernel
theorem dX3_wearOnTrucks_40 : decode cX3_wearOnTrucks 40 = .ok (.iadd, 1) := by decide +kernel
theorem dX3_wearOnTrucks_41 : decode cX3_wearOnTrucks 41 = .ok (.invokestatic 112, 3) := by decide +kernel
theorem dX3_wearOnTrucks_44 : decode cX3_wearOnTrucks 44 = .ok (.iastore, 1) := by decide +kernel
theorem dX3_wearOnTrucks_45 : decode cX3_wearOnTrucks 45 = .ok (.iinc 1 1, 3) := by decide +kernel
theorem dX3_wearOnTrucks_48 : decode cX3_wearOnTrucks 48 = .ok (.goto (-46), 3) := by decide +kernel
theorem dX3_wearOnTrucks_51 : decode cX3_wearOnTrucks 51 = .ok (.return_, 1) := by decide +kernel
theorem dX3_hosesAt_0 : decode cX3_hosesAt 0 = .ok (.iconst 0, 1) := by decide +kernel
theorem dX3_hosesAt_1 : decode cX3_hosesAt 1 = .ok (.istore_n 2, 1) := by decide +kernel
theorem dX3_hosesAt_2 : decode cX3_hosesAt 2 = .ok (.iconst 0, 1) := by decide +kernel
theorem dX3_hosesAt_3 : decode cX3_hosesAt 3 = .ok (.istore_n 3, 1) := by decide +kernel
theorem dX3_hosesAt_4 : decode cX3_hosesAt 4 = .ok (.iload_n 3, 1) := by decide +kernel
theorem dX3_hosesAt_5 : decode cX3_hosesAt 5 = .ok (.aload_n 0, 1) := by decide +kernel
theorem dX3_hosesAt_6 : decode cX3_hosesAt 6 = .ok (.getfield 56, 3) := by decide +kernel
theorem dX3_hosesAt_9 : decode cX3_hosesAt 9 = .ok (.if_icmp .ge 22, 3) := by decide +kernel
theorem dX3_hosesAt_12 : decode cX3_hosesAt 12 = .ok (.aload_n 0, 1) := by decide +kernel
theorem dX3_hosesAt_13 : decode cX3_hosesAt 13 = .ok (.getfield 43, 3) := by decide +kernel
theorem dX3_hosesAt_16 : decode cX3_hosesAt 16 = .ok (.iload_n 3, 1) := by decide +kernel
theorem dX3_hosesAt_17 : decode cX3_hosesAt 17 = .ok (.iaload, 1) := by decide +kernel
theorem dX3_hosesAt_18 : decode cX3_hosesAt 18 = .ok (.iload_n 1, 1) := by decide +kernel
theorem dX3_hosesAt_19 : decode cX3_hosesAt 19 = .ok (.if_icmp .ne 6, 3) := by decide +kernel
theorem dX3_hosesAt_22 : decode cX3_hosesAt 22 = .ok (.iinc 2 1, 3) := by decide +kernel
theorem dX3_hosesAt_25 : decode cX3_hosesAt 25 = .ok (.iinc 3 1, 3) := by decide +kernel
theorem dX3_hosesAt_28 : decode cX3_hosesAt 28 = .ok (.goto (-24), 3) := by decide +kernel
theorem dX3_hosesAt_31 : decode cX3_hosesAt 31 = .ok (.iload_n 2, 1) := by decide +kernel
theorem dX3_hosesAt_32 : decode cX3_hosesAt 32 = .ok (.ireturn, 1) := by decide +kernel
theorem dX3_readyHosesAt_0 : decode cX3_readyHosesAt 0 = .ok (.iconst 0, 1) := by decide +kernel
theorem dX3_readyHosesAt_1 : decode cX3_readyHosesAt 1 = .ok (.istore_n 2, 1) := by decide +kernel
theorem dX3_readyHosesAt_2 : decode cX3_readyHosesAt 2 = .ok (.iconst 0, 1) := by decide +kernel
theorem dX3_readyHosesAt_3 : decode cX3_readyHosesAt 3 = .ok (.istore_n 3, 1) := by decide +kernel
theorem dX3_readyHosesAt_4 : decode cX3_readyHosesAt 4 = .ok (.iload_n 3, 1) := by decide +kernel
theorem dX3_readyHosesAt_5 : decode cX3_readyHosesAt 5 = .ok (.aload_n 0, 1) := by decide +kernel
theorem dX3_readyHosesAt_6 : decode cX3_readyHosesAt 6 = .ok (.getfield 56, 3) := by decide +kernel
theorem dX3_readyHosesAt_9 : decode cX3_readyHosesAt 9 = .ok (.if_icmp .ge 30, 3) := by decide +kernel
theorem dX3_readyHosesAt_12 : decode cX3_readyHosesAt 12 = .ok (.aload_n 0, 1) := by decide +kernel
theorem dX3_readyHosesAt_13 : decode cX3_readyHosesAt 13 = .ok (.getfield 43, 3) := by decide +kernel
theorem dX3_readyHosesAt_16 : decode cX3_readyHosesAt 16 = .ok (.iload_n 3, 1) := by decide +kernel
theorem dX3_readyHosesAt_17 : decode cX3_readyHosesAt 17 = .ok (.iaload, 1) := by decide +kernel
theorem dX3_readyHosesAt_18 : decode cX3_readyHosesAt 18 = .ok (.iload_n 1, 1) := by decide +kernel
theorem dX3_readyHosesAt_19 : decode cX3_readyHosesAt 19 = .ok (.if_icmp .ne 14, 3) := by decide +kernel
theorem dX3_readyHosesAt_22 : decode cX3_readyHosesAt 22 = .ok (.aload_n 0, 1) := by decide +kernel
theorem dX3_readyHosesAt_23 : decode cX3_readyHosesAt 23 = .ok (.iload_n 3, 1) := by decide +kernel
theorem dX3_readyHosesAt_24 : decode cX3_readyHosesAt 24 = .ok (.invokevirtual 138, 3) := by decide +kernel
theorem dX3_readyHosesAt_27 : decode cX3_readyHosesAt 27 = .ok (.ifCond .eq 6, 3) := by decide +kernel
theorem dX3_readyHosesAt_30 : decode cX3_readyHosesAt 30 = .ok (.iinc 2 1, 3) := by decide +kernel
theorem dX3_readyHosesAt_33 : decode cX3_readyHosesAt 33 = .ok (.iinc 3 1, 3) := by decide +kernel
theorem dX3_readyHosesAt_36 : decode cX3_readyHosesAt 36 = .ok (.goto (-32), 3) := by decide +kernel
theorem dX3_readyHosesAt_39 : decode cX3_readyHosesAt 39 = .ok (.iload_n 2, 1) := by decide +kernel
theorem dX3_readyHosesAt_40 : decode cX3_readyHosesAt 40 = .ok (.ireturn, 1) := by decide +kernel
theorem dX3_readyHoses_0 : decode cX3_readyHoses 0 = .ok (.iconst 0, 1) := by decide +kernel
theorem dX3_readyHoses_1 : decode cX3_readyHoses 1 = .ok (.istore_n 1, 1) := by decide +kernel
theorem dX3_readyHoses_2 : decode cX3_readyHoses 2 = .ok (.iconst 0, 1) := by decide +kernel
theorem dX3_readyHoses_3 : decode cX3_readyHoses 3 = .ok (.istore_n 2, 1) := by decide +kernel
theorem dX3_readyHoses_4 : decode cX3_readyHoses 4 = .ok (.iload_n 2, 1) := by decide +kernel
theorem dX3_readyHoses_5 : decode cX3_readyHoses 5 = .ok (.aload_n 0, 1) := by decide +kernel
theorem dX3_readyHoses_6 : decode cX3_readyHoses 6 = .ok (.getfield 56, 3) := by decide +kernel
theorem dX3_readyHoses_9 : decode cX3_readyHoses 9 = .ok (.if_icmp .ge 20, 3) := by decide +kernel
theorem dX3_readyHoses_12 : decode cX3_readyHoses 12 = .ok (.aload_n 0, 1) := by decide +kernel
theorem dX3_readyHoses_13 : decode cX3_readyHoses 13 = .ok (.iload_n 2, 1) := by decide +kernel
theorem dX3_readyHoses_14 : decode cX3_readyHoses 14 = .ok (.invokevirtual 138, 3) := by decide +kernel
theorem dX3_readyHoses_17 : decode cX3_readyHoses 17 = .ok (.ifCond .eq 6, 3) := by decide +kernel
theorem dX3_readyHoses_20 : decode cX3_readyHoses 20 = .ok (.iinc 1 1, 3) := by decide +kernel
theorem dX3_readyHoses_23 : decode cX3_readyHoses 23 = .ok (.iinc 2 1, 3) := by decide +kernel
theorem dX3_readyHoses_26 : decode cX3_readyHoses 26 = .ok (.goto (-22), 3) := by decide +kernel
theorem dX3_readyHoses_29 : decode cX3_readyHoses 29 = .ok (.iload_n 1, 1) := by decide +kernel
theorem dX3_readyHoses_30 : decode cX3_readyHoses 30 = .ok (.ireturn, 1) := by decide +kernel
theorem dX3_layLine_0 : decode cX3_layLine 0 = .ok (.aload_n 0, 1) := by decide +kernel
theorem dX3_layLine_1 : decode cX3_layLine 1 = .ok (.getfield 52, 3) := by decide +kernel
theorem dX3_layLine_4 : decode cX3_layLine 4 = .ok (.invokevirtual 141, 3) := by decide +kernel
theorem dX3_layLine_7 : decode cX3_layLine 7 = .ok (.iconst 0, 1) := by decide +kernel
theorem dX3_layLine_8 : decode cX3_layLine 8 = .ok (.istore_n 3, 1) := by decide +kernel
theorem dX3_layLine_9 : decode cX3_layLine 9 = .ok (.iload_n 3, 1) := by decide +kernel
theorem dX3_layLine_10 : decode cX3_layLine 10 = .ok (.aload_n 0, 1) := by decide +kernel
theorem dX3_layLine_11 : decode cX3_layLine 11 = .ok (.getfield 56, 3) := by decide +kernel
theorem dX3_layLine_14 : decode cX3_layLine 14 = .ok (.if_icmp .ge 58, 3) := by decide +kernel
theorem dX3_layLine_17 : decode cX3_layLine 17 = .ok (.aload_n 0, 1) := by decide +kernel
theorem dX3_layLine_18 : decode cX3_layLine 18 = .ok (.getfield 43, 3) := by decide +kernel
theorem dX3_layLine_21 : decode cX3_layLine 21 = .ok (.iload_n 3, 1) := by decide +kernel
theorem dX3_layLine_22 : decode cX3_layLine 22 = .ok (.iaload, 1) := by decide +kernel
theorem dX3_layLine_23 : decode cX3_layLine 23 = .ok (.iload_n 1, 1) := by decide +kernel
theorem dX3_layLine_24 : decode cX3_layLine 24 = .ok (.if_icmp .eq 8, 3) := by decide +kernel
theorem dX3_layLine_27 : decode cX3_layLine 27 = .ok (.iload_n 3, 1) := by decide +kernel
theorem dX3_layLine_28 : decode cX3_layLine 28 = .ok (.iload_n 2, 1) := by decide +kernel
theorem dX3_layLine_29 : decode cX3_layLine 29 = .ok (.if_icmp .ne 37, 3) := by decide +kernel
theorem dX3_layLine_32 : decode cX3_layLine 32 = .ok (.aload_n 0, 1) := by decide +kernel
theorem dX3_layLine_33 : decode cX3_layLine 33 = .ok (.iload_n 3, 1) := by decide +kernel
theorem dX3_layLine_34 : decode cX3_layLine 34 = .ok (.invokevirtual 138, 3) := by decide +kernel
theorem dX3_layLine_37 : decode cX3_layLine 37 = .ok (.ifCond .eq 29, 3) := by decide +kernel
theorem dX3_layLine_40 : decode cX3_layLine 40 = .ok (.aload_n 0, 1) := by decide +kernel
theorem dX3_layLine_41 : decode cX3_layLine 41 = .ok (.getfield 52, 3) := by decide +kernel
theorem dX3_layLine_44 : decode cX3_layLine 44 = .ok (.iload_n 3, 1) := by decide +kernel
theorem dX3_layLine_45 : decode cX3_layLine 45 = .ok (.aload_n 0, 1) := by decide +kernel
theorem dX3_layLine_46 : decode cX3_layLine 46 = .ok (.getfield 28, 3) := by decide +kernel
theorem dX3_layLine_49 : decode cX3_layLine 49 = .ok (.iload_n 3, 1) := by decide +kernel
theorem dX3_layLine_50 : decode cX3_layLine 50 = .ok (.iaload, 1) := by decide +kernel
theorem dX3_layLine_51 : decode cX3_layLine 51 = .ok (.aload_n 0, 1) := by decide +kernel
theorem dX3_layLine_52 : decode cX3_layLine 52 = .ok (.getfield 31, 3) := by decide +kernel
theorem dX3_layLine_55 : decode cX3_layLine 55 = .ok (.iload_n 3, 1) := by decide +kernel
theorem dX3_layLine_56 : decode cX3_layLine 56 = .ok (.iaload, 1) := by decide +kernel
theorem dX3_layLine_57 : decode cX3_layLine 57 = .ok (.aload_n 0, 1) := by decide +kernel
theorem dX3_layLine_58 : decode cX3_layLine 58 = .ok (.getfield 22, 3) := by decide +kernel
theorem dX3_layLine_61 : decode cX3_layLine 61 = .ok (.iconst 1, 1) := by decide +kernel
theorem dX3_layLine_62 : decode cX3_layLine 62 = .ok (.iaload, 1) := by decide +kernel
theorem dX3_layLine_63 : decode cX3_layLine 63 = .ok (.invokevirtual 144, 3) := by decide +kernel
theorem dX3_layLine_66 : decode cX3_layLine 66 = .ok (.iinc 3 1, 3) := by decide +kernel
theorem dX3_layLine_69 : decode cX3_layLine 69 = .ok (.goto (-60), 3) := by decide +kernel
theorem dX3_layLine_72 : decode cX3_layLine 72 = .ok (.aload_n 0, 1) := by decide +kernel
theorem dX3_layLine_73 : decode cX3_layLine 73 = .ok (.getfield 52, 3) := by decide +kernel
theorem dX3_layLine_76 : decode cX3_layLine 76 = .ok (.getfield 148, 3) := by decide +kernel
theorem dX3_layLine_79 : decode cX3_layLine 79 = .ok (.aload_n 0, 1) := by decide +kernel
theorem dX3_layLine_80 : decode cX3_layLine 80 = .ok (.getfield 18, 3) := by decide +kernel
theorem dX3_layLine_83 : decode cX3_layLine 83 = .ok (.iload_n 1, 1) := by decide +kernel
theorem dX3_layLine_84 : decode cX3_layLine 84 = .ok (.iaload, 1) := by decide +kernel
theorem dX3_layLine_85 : decode cX3_layLine 85 = .ok (.if_icmp .lt 7, 3) := by decide +kernel
theorem dX3_layLine_88 : decode cX3_layLine 88 = .ok (.iconst 1, 1) := by decide +kernel
theorem dX3_layLine_89 : decode cX3_layLine 89 = .ok (.goto 4, 3) := by decide +kernel
theorem dX3_layLine_92 : decode cX3_layLine 92 = .ok (.iconst 0, 1) := by decide +kernel
theorem dX3_layLine_93 : decode cX3_layLine 93 = .ok (.ireturn, 1) := by decide +kernel
theorem dX3_wholeTrucks_0 : decode cX3_wholeTrucks 0 = .ok (.iconst 0, 1) := by decide +kernel
theorem dX3_wholeTrucks_1 : decode cX3_wholeTrucks 1 = .ok (.istore_n 1, 1) := by decide +kernel
theorem dX3_wholeTrucks_2 : decode cX3_wholeTrucks 2 = .ok (.iconst 0, 1) := by decide +kernel
theorem dX3_wholeTrucks_3 : decode cX3_wholeTrucks 3 = .ok (.istore_n 2, 1) := by decide +kernel
theorem dX3_wholeTrucks_4 : decode cX3_wholeTrucks 4 = .ok (.iload_n 2, 1) := by decide +kernel
theorem dX3_wholeTrucks_5 : decode cX3_wholeTrucks 5 = .ok (.iconst 3, 1) := by decide +kernel
theorem dX3_wholeTrucks_6 : decode cX3_wholeTrucks 6 = .ok (.if_icmp .ge 21, 3) := by decide +kernel
theorem dX3_wholeTrucks_9 : decode cX3_wholeTrucks 9 = .ok (.aload_n 0, 1) := by decide +kernel
theorem dX3_wholeTrucks_10 : decode cX3_wholeTrucks 10 = .ok (.iload_n 2, 1) := by decide +kernel
theorem dX3_wholeTrucks_11 : decode cX3_wholeTrucks 11 = .ok (.iconst (-1), 1) := by decide +kernel
theorem dX3_wholeTrucks_12 : decode cX3_wholeTrucks 12 = .ok (.invokevirtual 151, 3) := by decide +kernel
theorem dX3_wholeTrucks_15 : decode cX3_wholeTrucks 15 = .ok (.ifCond .eq 6, 3) := by decide +kernel
theorem dX3_wholeTrucks_18 : decode cX3_wholeTrucks 18 = .ok (.iinc 1 1, 3) := by decide +kernel
theorem dX3_wholeTrucks_21 : decode cX3_wholeTrucks 21 = .ok (.iinc 2 1, 3) := by decide +kernel
theorem dX3_wholeTrucks_24 : decode cX3_wholeTrucks 24 = .ok (.goto (-20), 3) := by decide +kernel
theorem dX3_wholeTrucks_27 : decode cX3_wholeTrucks 27 = .ok (.iload_n 1, 1) := by decide +kernel
theorem dX3_wholeTrucks_28 : decode cX3_wholeTrucks 28 = .ok (.ireturn, 1) := by decide +kernel
theorem dX3_cheapestHelp_0 : decode cX3_cheapestHelp 0 = .ok (.aload_n 0, 1) := by decide +kernel
theorem dX3_cheapestHelp_1 : decode cX3_cheapestHelp 1 = .ok (.iload_n 1, 1) := by decide +kernel
theorem dX3_cheapestHelp_2 : decode cX3_cheapestHelp 2 = .ok (.iconst (-1), 1) := by decide +kernel
theorem dX3_cheapestHelp_3 : decode cX3_cheapestHelp 3 = .ok (.invokevirtual 151, 3) := by decide +kernel
theorem dX3_cheapestHelp_6 : decode cX3_cheapestHelp 6 = .ok (.ifCond .eq 5, 3) := by decide +kernel
theorem dX3_cheapestHelp_9 : decode cX3_cheapestHelp 9 = .ok (.iconst (-1), 1) := by decide +kernel
theorem dX3_cheapestHelp_10 : decode cX3_cheapestHelp 10 = .ok (.ireturn, 1) := by decide +kernel
theorem dX3_cheapestHelp_11 : decode cX3_cheapestHelp 11 = .ok (.iconst (-1), 1) := by decide +kernel
theorem dX3_cheapestHelp_12 : decode cX3_cheapestHelp 12 = .ok (.istore_n 2, 1) := by decide +kernel
theorem dX3_cheapestHelp_13 : decode cX3_cheapestHelp 13 = .ok (.iconst 0, 1) := by decide +kernel
theorem dX3_cheapestHelp_14 : decode cX3_cheapestHelp 14 = .ok (.istore_n 3, 1) := by decide +kernel
theorem dX3_cheapestHelp_15 : decode cX3_cheapestHelp 15 = .ok (.iconst 0, 1) := by decide +kernel
theorem dX3_cheapestHelp_16 : decode cX3_cheapestHelp 16 = .ok (.istore 4, 2) := by decide +kernel
theorem dX3_cheapestHelp_18 : decode cX3_cheapestHelp 18 = .ok (.iload 4, 2) := by decide +kernel
theorem dX3_cheapestHelp_20 : decode cX3_cheapestHelp 20 = .ok (.aload_n 0, 1) := by decide +kernel
theorem dX3_cheapestHelp_21 : decode cX3_cheapestHelp 21 = .ok (.getfield 56, 3) := by decide +kernel
theorem dX3_cheapestHelp_24 : decode cX3_cheapestHelp 24 = .ok (.if_icmp .ge 76, 3) := by decide +kernel
theorem dX3_cheapestHelp_27 : decode cX3_cheapestHelp 27 = .ok (.aload_n 0, 1) := by decide +kernel
theorem dX3_cheapestHelp_28 : decode cX3_cheapestHelp 28 = .ok (.getfield 43, 3) := by decide +kernel
theorem dX3_cheapestHelp_31 : decode cX3_cheapestHelp 31 = .ok (.iload 4, 2) := by decide +kernel
theorem dX3_cheapestHelp_33 : decode cX3_cheapestHelp 33 = .ok (.iaload, 1) := by decide +kernel
theorem dX3_cheapestHelp_34 : decode cX3_cheapestHelp 34 = .ok (.iconst 3, 1) := by decide +kernel
theorem dX3_cheapestHelp_35 : decode cX3_cheapestHelp 35 = .ok (.if_icmp .ne 26, 3) := by decide +kernel
theorem dX3_cheapestHelp_38 : decode cX3_cheapestHelp 38 = .ok (.aload_n 0, 1) := by decide +kernel
theorem dX3_cheapestHelp_39 : decode cX3_cheapestHelp 39 = .ok (.iload 4, 2) := by decide +kernel
theorem dX3_cheapestHelp_41 : decode cX3_cheapestHelp 41 = .ok (.invokevirtual 138, 3) := by decide +kernel
theorem dX3_cheapestHelp_44 : decode cX3_cheapestHelp 44 = .ok (.ifCond .eq 17, 3) := by decide +kernel
theorem dX3_cheapestHelp_47 : decode cX3_cheapestHelp 47 = .ok (.aload_n 0, 1) := by decide +kernel
theorem dX3_cheapestHelp_48 : decode cX3_cheapestHelp 48 = .ok (.iload_n 1, 1) := by decide +kernel
theorem dX3_cheapestHelp_49 : decode cX3_cheapestHelp 49 = .ok (.iload 4, 2) := by decide +kernel
theorem dX3_cheapestHelp_51 : decode cX3_cheapestHelp 51 = .ok (.invokevirtual 151, 3) := by decide +kernel
theorem dX3_cheapestHelp_54 : decode cX3_cheapestHelp 54 = .ok (.ifCond .eq 7, 3) := by decide +kernel
theorem dX3_cheapestHelp_57 : decode cX3_cheapestHelp 57 = .ok (.iconst 1, 1) := by decide +kernel
theorem dX3_cheapestHelp_58 : decode cX3_cheapestHelp 58 = .ok (.goto 4, 3) := by decide +kernel
theorem dX3_cheapestHelp_61 : decode cX3_cheapestHelp 61 = .ok (.iconst 0, 1) := by decide +kernel
theorem dX3_cheapestHelp_62 : decode cX3_cheapestHelp 62 = .ok (.istore 5, 2) := by decide +kernel
theorem dX3_cheapestHelp_64 : decode cX3_cheapestHelp 64 = .ok (.iload 5, 2) := by decide +kernel
theorem dX3_cheapestHelp_66 : decode cX3_cheapestHelp 66 = .ok (.ifCond .eq 28, 3) := by decide +kernel
theorem dX3_cheapestHelp_69 : decode cX3_cheapestHelp 69 = .ok (.iload_n 2, 1) := by decide +kernel
theorem dX3_cheapestHelp_70 : decode cX3_cheapestHelp 70 = .ok (.iconst (-1), 1) := by decide +kernel
theorem dX3_cheapestHelp_71 : decode cX3_cheapestHelp 71 = .ok (.if_icmp .eq 13, 3) := by decide +kernel
theorem dX3_cheapestHelp_74 : decode cX3_cheapestHelp 74 = .ok (.aload_n 0, 1) := by decide +kernel
theorem dX3_cheapestHelp_75 : decode cX3_cheapestHelp 75 = .ok (.iload 4, 2) := by decide +kernel
theorem dX3_cheapestHelp_77 : decode cX3_cheapestHelp 77 = .ok (.invokevirtual 102, 3) := by decide +kernel
theorem dX3_cheapestHelp_80 : decode cX3_cheapestHelp 80 = .ok (.iload_n 3, 1) := by decide +kernel
theorem dX3_cheapestHelp_81 : decode cX3_cheapestHelp 81 = .ok (.if_icmp .ge 13, 3) := by decide +kernel
theorem dX3_cheapestHelp_84 : decode cX3_cheapestHelp 84 = .ok (.iload 4, 2) := by decide +kernel
theorem dX3_cheapestHelp_86 : decode cX3_cheapestHelp 86 = .ok (.istore_n 2, 1) := by decide +kernel
theorem dX3_cheapestHelp_87 : decode cX3_cheapestHelp 87 = .ok (.aload_n 0, 1) := by decide +kernel
theorem dX3_cheapestHelp_88 : decode cX3_cheapestHelp 88 = .ok (.iload 4, 2) := by decide +kernel
theorem dX3_cheapestHelp_90 : decode cX3_cheapestHelp 90 = .ok (.invokevirtual 102, 3) := by decide +kernel
theorem dX3_cheapestHelp_93 : decode cX3_cheapestHelp 93 = .ok (.istore_n 3, 1) := by decide +kernel
theorem dX3_cheapestHelp_94 : decode cX3_cheapestHelp 94 = .ok (.iinc 4 1, 3) := by decide +kernel
theorem dX3_cheapestHelp_97 : decode cX3_cheapestHelp 97 = .ok (.goto (-79), 3) := by decide +kernel
theorem dX3_cheapestHelp_100 : decode cX3_cheapestHelp 100 = .ok (.iload_n 2, 1) := by decide +kernel
theorem dX3_cheapestHelp_101 : decode cX3_cheapestHelp 101 = .ok (.ireturn, 1) := by decide +kernel
theorem dX3_daysToFirstLapse_0 : decode cX3_daysToFirstLapse 0 = .ok (.iconst (-1), 1) := by decide +kernel
theorem dX3_daysToFirstLapse_1 : decode cX3_daysToFirstLapse 1 = .ok (.istore_n 1, 1) := by decide +kernel
theorem dX3_daysToFirstLapse_2 : decode cX3_daysToFirstLapse 2 = .ok (.iconst 0, 1) := by decide +kernel
theorem dX3_daysToFirstLapse_3 : decode cX3_daysToFirstLapse 3 = .ok (.istore_n 2, 1) := by decide +kernel
theorem dX3_daysToFirstLapse_4 : decode cX3_daysToFirstLapse 4 = .ok (.iload_n 2, 1) := by decide +kernel
theorem dX3_daysToFirstLapse_5 : decode cX3_daysToFirstLapse 5 = .ok (.aload_n 0, 1) := by decide +kernel
theorem dX3_daysToFirstLapse_6 : decode cX3_daysToFirstLapse 6 = .ok (.getfield 56, 3) := by decide +kernel
theorem dX3_daysToFirstLapse_9 : decode cX3_daysToFirstLapse 9 = .ok (.if_icmp .ge 70, 3) := by decide +kernel
theorem dX3_daysToFirstLapse_12 : decode cX3_daysToFirstLapse 12 = .ok (.aload_n 0, 1) := by decide +kernel
theorem dX3_daysToFirstLapse_13 : decode cX3_daysToFirstLapse 13 = .ok (.iload_n 2, 1) := by decide +kernel
theorem dX3_daysToFirstLapse_14 : decode cX3_daysToFirstLapse 14 = .ok (.invokevirtual 138, 3) := by decide +kernel
theorem dX3_daysToFirstLapse_17 : decode cX3_daysToFirstLapse 17 = .ok (.ifCond .eq 56, 3) := by decide +kernel
theorem dX3_daysToFirstLapse_20 : decode cX3_daysToFirstLapse 20 = .ok (.aload_n 0, 1) := by decide +kernel
theorem dX3_daysToFirstLapse_21 : decode cX3_daysToFirstLapse 21 = .ok (.getfield 40, 3) := by decide +kernel
theorem dX3_daysToFirstLapse_24 : decode cX3_daysToFirstLapse 24 = .ok (.iload_n 2, 1) := by decide +kernel
theorem dX3_daysToFirstLapse_25 : decode cX3_daysToFirstLapse 25 = .ok (.iaload, 1) := by decide +kernel
theorem dX3_daysToFirstLapse_26 : decode cX3_daysToFirstLapse 26 = .ok (.aload_n 0, 1) := by decide +kernel
theorem dX3_daysToFirstLapse_27 : decode cX3_daysToFirstLapse 27 = .ok (.getfield 34, 3) := by decide +kernel
theorem dX3_daysToFirstLapse_30 : decode cX3_daysToFirstLapse 30 = .ok (.iload_n 2, 1) := by decide +kernel
theorem dX3_daysToFirstLapse_31 : decode cX3_daysToFirstLapse 31 = .ok (.iaload, 1) := by decide +kernel
theorem dX3_daysToFirstLapse_32 : decode cX3_daysToFirstLapse 32 = .ok (.aload_n 0, 1) := by decide +kernel
theorem dX3_daysToFirstLapse_33 : decode cX3_daysToFirstLapse 33 = .ok (.getfield 25, 3) := by decide +kernel
theorem dX3_daysToFirstLapse_36 : decode cX3_daysToFirstLapse 36 = .ok (.iload_n 2, 1) := by decide +kernel
theorem dX3_daysToFirstLapse_37 : decode cX3_daysToFirstLapse 37 = .ok (.iaload, 1) := by decide +kernel
theorem dX3_daysToFirstLapse_38 : decode cX3_daysToFirstLapse 38 = .ok (.invokestatic 89, 3) := by decide +kernel
theorem dX3_daysToFirstLapse_41 : decode cX3_daysToFirstLapse 41 = .ok (.iadd, 1) := by decide +kernel
theorem dX3_daysToFirstLapse_42 : decode cX3_daysToFirstLapse 42 = .ok (.invokestatic 112, 3) := by decide +kernel
theorem dX3_daysToFirstLapse_45 : decode cX3_daysToFirstLapse 45 = .ok (.istore_n 3, 1) := by decide +kernel
theorem dX3_daysToFirstLapse_46 : decode cX3_daysToFirstLapse 46 = .ok (.iload_n 3, 1) := by decide +kernel
theorem dX3_daysToFirstLapse_47 : decode cX3_daysToFirstLapse 47 = .ok (.iconst 1, 1) := by decide +kernel
theorem dX3_daysToFirstLapse_48 : decode cX3_daysToFirstLapse 48 = .ok (.iadd, 1) := by decide +kernel
theorem dX3_daysToFirstLapse_49 : decode cX3_daysToFirstLapse 49 = .ok (.aload_n 0, 1) := by decide +kernel
theorem dX3_daysToFirstLapse_50 : decode cX3_daysToFirstLapse 50 = .ok (.getfield 9, 3) := by decide +kernel
theorem dX3_daysToFirstLapse_53 : decode cX3_daysToFirstLapse 53 = .ok (.isub, 1) := by decide +kernel
theorem dX3_daysToFirstLapse_54 : decode cX3_daysToFirstLapse 54 = .ok (.istore 4, 2) := by decide +kernel
theorem dX3_daysToFirstLapse_56 : decode cX3_daysToFirstLapse 56 = .ok (.iload_n 1, 1) := by decide +kernel
theorem dX3_daysToFirstLapse_57 : decode cX3_daysToFirstLapse 57 = .ok (.iconst (-1), 1) := by decide +kernel
theorem dX3_daysToFirstLapse_58 : decode cX3_daysToFirstLapse 58 = .ok (.if_icmp .ne 8, 3) := by decide +kernel
theorem dX3_daysToFirstLapse_61 : decode cX3_daysToFirstLapse 61 = .ok (.iload 4, 2) := by decide +kernel
theorem dX3_daysToFirstLapse_63 : decode cX3_daysToFirstLapse 63 = .ok (.goto 9, 3) := by decide +kernel
theorem dX3_daysToFirstLapse_66 : decode cX3_daysToFirstLapse 66 = .ok (.iload_n 1, 1) := by decide +kernel
theorem dX3_daysToFirstLapse_67 : decode cX3_daysToFirstLapse 67 = .ok (.iload 4, 2) := by decide +kernel
theorem dX3_daysToFirstLapse_69 : decode cX3_daysToFirstLapse 69 = .ok (.invokestatic 112, 3) := by decide +kernel
theorem dX3_daysToFirstLapse_72 : decode cX3_daysToFirstLapse 72 = .ok (.istore_n 1, 1) := by decide +kernel
theorem dX3_daysToFirstLapse_73 : decode cX3_daysToFirstLapse 73 = .ok (.iinc 2 1, 3) := by decide +kernel
theorem dX3_daysToFirstLapse_76 : decode cX3_daysToFirstLapse 76 = .ok (.goto (-72), 3) := by decide +kernel
theorem dX3_daysToFirstLapse_79 : decode cX3_daysToFirstLapse 79 = .ok (.iload_n 1, 1) := by decide +kernel
theorem dX3_daysToFirstLapse_80 : decode cX3_daysToFirstLapse 80 = .ok (.ireturn, 1) := by decide +kernel
theorem dX4_init_0 : decode cX4_init 0 = .ok (.aload_n 0, 1) := by decide +kernel
theorem dX4_init_1 : decode cX4_init 1 = .ok (.invokespecial 1, 3) := by decide +kernel
theorem dX4_init_4 : decode cX4_init 4 = .ok (.aload_n 0, 1) := by decide +kernel
theorem dX4_init_5 : decode cX4_init 5 = .ok (.new 7, 3) := by decide +kernel
theorem dX4_init_8 : decode cX4_init 8 = .ok (.dup, 1) := by decide +kernel
theorem dX4_init_9 : decode cX4_init 9 = .ok (.invokespecial 9, 3) := by decide +kernel
theorem dX4_init_12 : decode cX4_init 12 = .ok (.putfield 10, 3) := by decide +kernel
theorem dX4_init_15 : decode cX4_init 15 = .ok (.aload_n 0, 1) := by decide +kernel
theorem dX4_init_16 : decode cX4_init 16 = .ok (.bipush 6, 2) := by decide +kernel
theorem dX4_init_18 : decode cX4_init 18 = .ok (.anewarray 7, 3) := by decide +kernel
theorem dX4_init_21 : decode cX4_init 21 = .ok (.putfield 16, 3) := by decide +kernel
theorem dX4_init_24 : decode cX4_init 24 = .ok (.iconst 0, 1) := by decide +kernel
theorem dX4_init_25 : decode cX4_init 25 = .ok (.istore_n 1, 1) := by decide +kernel
theorem dX4_init_26 : decode cX4_init 26 = .ok (.iload_n 1, 1) := by decide +kernel
theorem dX4_init_27 : decode cX4_init 27 = .ok (.bipush 6, 2) := by decide +kernel
theorem dX4_init_29 : decode cX4_init 29 = .ok (.if_icmp .ge 22, 3) := by decide +kernel
theorem dX4_init_32 : decode cX4_init 32 = .ok (.aload_n 0, 1) := by decide +kernel
theorem dX4_init_33 : decode cX4_init 33 = .ok (.getfield 16, 3) := by decide +kernel
theorem dX4_init_36 : decode cX4_init 36 = .ok (.iload_n 1, 1) := by decide +kernel
theorem dX4_init_37 : decode cX4_init 37 = .ok (.new 7, 3) := by decide +kernel
theorem dX4_init_40 : decode cX4_init 40 = .ok (.dup, 1) := by decide +kernel
theorem dX4_init_41 : decode cX4_init 41 = .ok (.invokespecial 9, 3) := by decide +kernel
theorem dX4_init_44 : decode cX4_init 44 = .ok (.aastore, 1) := by decide +kernel
theorem dX4_init_45 : decode cX4_init 45 = .ok (.iinc 1 1, 3) := by decide +kernel
theorem dX4_init_48 : decode cX4_init 48 = .ok (.goto (-22), 3) := by decide +kernel
theorem dX4_init_51 : decode cX4_init 51 = .ok (.aload_n 0, 1) := by decide +kernel
theorem dX4_init_52 : decode cX4_init 52 = .ok (.iconst 0, 1) := by decide +kernel
theorem dX4_init_53 : decode cX4_init 53 = .ok (.putfield 20, 3) := by decide +kernel
theorem dX4_init_56 : decode cX4_init 56 = .ok (.aload_n 0, 1) := by decide +kernel
theorem dX4_init_57 : decode cX4_init 57 = .ok (.iconst 0, 1) := by decide +kernel
theorem dX4_init_58 : decode cX4_init 58 = .ok (.putfield 24, 3) := by decide +kernel
theorem dX4_init_61 : decode cX4_init 61 = .ok (.aload_n 0, 1) := by decide +kernel
theorem dX4_init_62 : decode cX4_init 62 = .ok (.new 27, 3) := by decide +kernel
theorem dX4_init_65 : decode cX4_init 65 = .ok (.dup, 1) := by decide +kernel
theorem dX4_init_66 : decode cX4_init 66 = .ok (.invokespecial 29, 3) := by decide +kernel
theorem dX4_init_69 : decode cX4_init 69 = .ok (.putfield 30, 3) := by decide +kernel
theorem dX4_init_72 : decode cX4_init 72 = .ok (.return_, 1) := by decide +kernel
theorem dX4_buy_0 : decode cX4_buy 0 = .ok (.iload_n 1, 1) := by decide +kernel
theorem dX4_buy_1 : decode cX4_buy 1 = .ok (.iconst 0, 1) := by decide +kernel
theorem dX4_buy_2 : decode cX4_buy 2 = .ok (.iconst 2, 1) := by decide +kernel
theorem dX4_buy_3 : decode cX4_buy 3 = .ok (.invokestatic 34, 3) := by decide +kernel
theorem dX4_buy_6 : decode cX4_buy 6 = .ok (.ifCond .eq 22, 3) := by decide +kernel
theorem dX4_buy_9 : decode cX4_buy 9 = .ok (.iload_n 2, 1) := by decide +kernel
theorem dX4_buy_10 : decode cX4_buy 10 = .ok (.iconst 5, 1) := by decide +kernel
theorem dX4_buy_11 : decode cX4_buy 11 = .ok (.bipush 50, 2) := by decide +kernel
theorem dX4_buy_13 : decode cX4_buy 13 = .ok (.invokestatic 34, 3) := by decide +kernel
theorem dX4_buy_16 : decode cX4_buy 16 = .ok (.ifCond .eq 12, 3) := by decide +kernel
theorem dX4_buy_19 : decode cX4_buy 19 = .ok (.iload_n 3, 1) := by decide +kernel
theorem dX4_buy_20 : decode cX4_buy 20 = .ok (.iconst 0, 1) := by decide +kernel
theorem dX4_buy_21 : decode cX4_buy 21 = .ok (.iconst 2, 1) := by decide +kernel
theorem dX4_buy_22 : decode cX4_buy 22 = .ok (.invokestatic 34, 3) := by decide +kernel
theorem dX4_buy_25 : decode cX4_buy 25 = .ok (.ifCond .ne 13, 3) := by decide +kernel
theorem dX4_buy_28 : decode cX4_buy 28 = .ok (.new 38, 3) := by decide +kernel
theorem dX4_buy_31 : decode cX4_buy 31 = .ok (.dup, 1) := by decide +kernel
theorem dX4_buy_32 : decode cX4_buy 32 = .ok (.ldc 40, 2) := by decide +kernel
theorem dX4_buy_34 : decode cX4_buy 34 = .ok (.invokespecial 42, 3) := by decide +kernel
theorem dX4_buy_37 : decode cX4_buy 37 = .ok (.athrow, 1) := by decide +kernel
theorem dX4_buy_38 : decode cX4_buy 38 = .ok (.aload_n 0, 1) := by decide +kernel
theorem dX4_buy_39 : decode cX4_buy 39 = .ok (.getfield 10, 3) := by decide +kernel
theorem dX4_buy_42 : decode cX4_buy 42 = .ok (.iload_n 1, 1) := by decide +kernel
theorem dX4_buy_43 : decode cX4_buy 43 = .ok (.iload_n 2, 1) := by decide +kernel
theorem dX4_buy_44 : decode cX4_buy 44 = .ok (.invokevirtual 45, 3) := by decide +kernel
theorem dX4_buy_47 : decode cX4_buy 47 = .ok (.ifCond .ne 13, 3) := by decide +kernel
theorem dX4_buy_50 : decode cX4_buy 50 = .ok (.new 49, 3) := by decide +kernel
theorem dX4_buy_53 : decode cX4_buy 53 = .ok (.dup, 1) := by decide +kernel
theorem dX4_buy_54 : decode cX4_buy 54 = .ok (.ldc 51, 2) := by decide +kernel
theorem dX4_buy_56 : decode cX4_buy 56 = .ok (.invokespecial 53, 3) := by decide +kernel
theorem dX4_buy_59 : decode cX4_buy 59 = .ok (.athrow, 1) := by decide +kernel
theorem dX4_buy_60 : decode cX4_buy 60 = .ok (.aload_n 0, 1) := by decide +kernel
theorem dX4_buy_61 : decode cX4_buy 61 = .ok (.invokevirtual 54, 3) := by decide +kernel
theorem dX4_buy_64 : decode cX4_buy 64 = .ok (.aload_n 0, 1) := by decide +kernel
theorem dX4_buy_65 : decode cX4_buy 65 = .ok (.getfield 10, 3) := by decide +kernel
theorem dX4_buy_68 : decode cX4_buy 68 = .ok (.iload_n 1, 1) := by decide +kernel
theorem dX4_buy_69 : decode cX4_buy 69 = .ok (.iload_n 2, 1) := by decide +kernel
theorem dX4_buy_70 : decode cX4_buy 70 = .ok (.iload_n 3, 1) := by decide +kernel
theorem dX4_buy_71 : decode cX4_buy 71 = .ok (.iconst 3, 1) := by decide +kernel
theorem dX4_buy_72 : decode cX4_buy 72 = .ok (.invokevirtual 57, 3) := by decide +kernel
theorem dX4_buy_75 : decode cX4_buy 75 = .ok (.ireturn, 1) := by decide +kernel
theorem dX4_renew_0 : decode cX4_renew 0 = .ok (.aload_n 0, 1) := by decide +kernel
theorem dX4_renew_1 : decode cX4_renew 1 = .ok (.iload_n 1, 1) := by decide +kernel
theorem dX4_renew_2 : decode cX4_renew 2 = .ok (.invokevirtual 61, 3) := by decide +kernel
theorem dX4_renew_5 : decode cX4_renew 5 = .ok (.aload_n 0, 1) := by decide +kernel
theorem dX4_renew_6 : decode cX4_renew 6 = .ok (.iload_n 1, 1) := by decide +kernel
theorem dX4_renew_7 : decode cX4_renew 7 = .ok (.invokevirtual 65, 3) := by decide +kernel
theorem dX4_renew_10 : decode cX4_renew 10 = .ok (.aload_n 0, 1) := by decide +kernel
theorem dX4_renew_11 : decode cX4_renew 11 = .ok (.getfield 10, 3) := by decide +kernel
theorem dX4_renew_14 : decode cX4_renew 14 = .ok (.aload_n 0, 1) := by decide +kernel
theorem dX4_renew_15 : decode cX4_renew 15 = .ok (.getfield 10, 3) := by decide +kernel
theorem dX4_renew_18 : decode cX4_renew 18 = .ok (.getfield 68, 3) := by decide +kernel
theorem dX4_renew_21 : decode cX4_renew 21 = .ok (.iload_n 1, 1) := by decide +kernel
theorem dX4_renew_22 : decode cX4_renew 22 = .ok (.iaload, 1) := by decide +kernel
theorem dX4_renew_23 : decode cX4_renew 23 = .ok (.aload_n 0, 1) := by decide +kernel
theorem dX4_renew_24 : decode cX4_renew 24 = .ok (.getfield 10, 3) := by decide +kernel
theorem dX4_renew_27 : decode cX4_renew 27 = .ok (.getfield 72, 3) := by decide +kernel
theorem dX4_renew_30 : decode cX4_renew 30 = .ok (.iload_n 1, 1) := by decide +kernel
theorem dX4_renew_31 : decode cX4_renew 31 = .ok (.iaload, 1) := by decide +kernel
theorem dX4_renew_32 : decode cX4_renew 32 = .ok (.invokevirtual 45, 3) := by decide +kernel
theorem dX4_renew_35 : decode cX4_renew 35 = .ok (.ifCond .ne 13, 3) := by decide +kernel
theorem dX4_renew_38 : decode cX4_renew 38 = .ok (.new 49, 3) := by decide +kernel
theorem dX4_renew_41 : decode cX4_renew 41 = .ok (.dup, 1) := by decide +kernel
theorem dX4_renew_42 : decode cX4_renew 42 = .ok (.ldc 51, 2) := by decide +kernel
theorem dX4_renew_44 : decode cX4_renew 44 = .ok (.invokespecial 53, 3) := by decide +kernel
theorem dX4_renew_47 : decode cX4_renew 47 = .ok (.athrow, 1) := by decide +kernel
theorem dX4_renew_48 : decode cX4_renew 48 = .ok (.aload_n 0, 1) := by decide +kernel
theorem dX4_renew_49 : decode cX4_renew 49 = .ok (.invokevirtual 54, 3) := by decide +kernel
theorem dX4_renew_52 : decode cX4_renew 52 = .ok (.aload_n 0, 1) := by decide +kernel
theorem dX4_renew_53 : decode cX4_renew 53 = .ok (.getfield 10, 3) := by decide +kernel
theorem dX4_renew_56 : decode cX4_renew 56 = .ok (.iload_n 1, 1) := by decide +kernel
theorem dX4_renew_57 : decode cX4_renew 57 = .ok (.invokevirtual 75, 3) := by decide +kernel
theorem dX4_renew_60 : decode cX4_renew 60 = .ok (.ireturn, 1) := by decide +kernel
theorem dX4_put_0 : decode cX4_put 0 = .ok (.aload_n 0, 1) := by decide +kernel
theorem dX4_put_1 : decode cX4_put 1 = .ok (.iload_n 1, 1) := by decide +kernel
theorem dX4_put_2 : decode cX4_put 2 = .ok (.invokevirtual 61, 3) := by decide +kernel
theorem dX4_put_5 : decode cX4_put 5 = .ok (.iload_n 2, 1) := by decide +kernel
theorem dX4_put_6 : decode cX4_put 6 = .ok (.iconst 0, 1) := by decide +kernel
theorem dX4_put_7 : decode cX4_put 7 = .ok (.iconst 3, 1) := by decide +kernel
theorem dX4_put_8 : decode cX4_put 8 = .ok (.invokestatic 34, 3) := by decide +kernel
theorem dX4_put_11 : decode cX4_put 11 = .ok (.ifCond .ne 13, 3) := by decide +kernel
theorem dX4_put_14 : decode cX4_put 14 = .ok (.new 38, 3) := by decide +kernel
theorem dX4_put_17 : decode cX4_put 17 = .ok (.dup, 1) := by decide +kernel
theorem dX4_put_18 : decode cX4_put 18 = .ok (.ldc 79, 2) := by decide +kernel
theorem dX4_put_20 : decode cX4_put 20 = .ok (.invokespecial 42, 3) := by decide +kernel
theorem dX4_put_23 : decode cX4_put 23 = .ok (.athrow, 1) := by decide +kernel
theorem dX4_put_24 : decode cX4_put 24 = .ok (.aload_n 0, 1) := by decide +kernel
theorem dX4_put_25 : decode cX4_put 25 = .ok (.iload_n 1, 1) := by decide +kernel
theorem dX4_put_26 : decode cX4_put 26 = .ok (.invokevirtual 65, 3) := by decide +kernel
theorem dX4_put_29 : decode cX4_put 29 = .ok (.aload_n 0, 1) := by decide +kernel
theorem dX4_put_30 : decode cX4_put 30 = .ok (.invokevirtual 54, 3) := by decide +kernel
theorem dX4_put_33 : decode cX4_put 33 = .ok (.aload_n 0, 1) := by decide +kernel
theorem dX4_put_34 : decode cX4_put 34 = .ok (.getfield 10, 3) := by decide +kernel
theorem dX4_put_37 : decode cX4_put 37 = .ok (.getfield 81, 3) := by decide +kernel
theorem dX4_put_40 : decode cX4_put 40 = .ok (.iload_n 1, 1) := by decide +kernel
theorem dX4_put_41 : decode cX4_put 41 = .ok (.iaload, 1) := by decide +kernel
theorem dX4_put_42 : decode cX4_put 42 = .ok (.istore_n 3, 1) := by decide +kernel
theorem dX4_put_43 : decode cX4_put 43 = .ok (.aload_n 0, 1) := by decide +kernel
theorem dX4_put_44 : decode cX4_put 44 = .ok (.getfield 10, 3) := by decide +kernel
theorem dX4_put_47 : decode cX4_put 47 = .ok (.getfield 81, 3) := by decide +kernel
theorem dX4_put_50 : decode cX4_put 50 = .ok (.iload_n 1, 1) := by decide +kernel
theorem dX4_put_51 : decode cX4_put 51 = .ok (.iload_n 2, 1) := by decide +kernel
theorem dX4_put_52 : decode cX4_put 52 = .ok (.iastore, 1) := by decide +kernel
theorem dX4_put_53 : decode cX4_put 53 = .ok (.iload_n 3, 1) := by decide +kernel
theorem dX4_put_54 : decode cX4_put 54 = .ok (.ireturn, 1) := by decide +kernel
theorem dX4_lend_0 : decode cX4_lend 0 = .ok (.aload_n 0, 1) := by decide +kernel
theorem dX4_lend_1 : decode cX4_lend 1 = .ok (.iload_n 1, 1) := by decide +kernel
theorem dX4_lend_2 : decode cX4_lend 2 = .ok (.invokevirtual 61, 3) := by decide +kernel
theorem dX4_lend_5 : decode cX4_lend 5 = .ok (.iload_n 2, 1) := by decide +kernel
theorem dX4_lend_6 : decode cX4_lend 6 = .ok (.iconst 1, 1) := by decide +kernel
theorem dX4_lend_7 : decode cX4_lend 7 = .ok (.bipush 99, 2) := by decide +kernel
theorem dX4_lend_9 : decode cX4_lend 9 = .ok (.invokestatic 34, 3) := by decide +kernel
theorem dX4_lend_12 : decode cX4_lend 12 = .ok (.ifCond .ne 13, 3) := by decide +kernel
theorem dX4_lend_15 : decode cX4_lend 15 = .ok (.new 38, 3) := by decide +kernel
theorem dX4_lend_18 : decode cX4_lend 18 = .ok (.dup, 1) := by decide +kernel
theorem dX4_lend_19 : decode cX4_lend 19 = .ok (.ldc 84, 2) := by decide +kernel
theorem dX4_lend_21 : decode cX4_lend 21 = .ok (.invokespecial 42, 3) := by decide +kernel
theorem dX4_lend_24 : decode cX4_lend 24 = .ok (.athrow, 1) := by decide +kernel
theorem dX4_lend_25 : decode cX4_lend 25 = .ok (.aload_n 0, 1) := by decide +kernel
theorem dX4_lend_26 : decode cX4_lend 26 = .ok (.getfield 10, 3) := by decide +kernel
theorem dX4_lend_29 : decode cX4_lend 29 = .ok (.iload_n 1, 1) := by decide +kernel
theorem dX4_lend_30 : decode cX4_lend 30 = .ok (.invokevirtual 86, 3) := by decide +kernel
theorem dX4_lend_33 : decode cX4_lend 33 = .ok (.ifCond .ne 13, 3) := by decide +kernel
theorem dX4_lend_36 : decode cX4_lend 36 = .ok (.new 49, 3) := by decide +kernel
theorem dX4_lend_39 : decode cX4_lend 39 = .ok (.dup, 1) := by decide +kernel
theorem dX4_lend_40 : decode cX4_lend 40 = .ok (.ldc 90, 2) := by decide +kernel
theorem dX4_lend_42 : decode cX4_lend 42 = .ok (.invokespecial 53, 3) := by decide +kernel
theorem dX4_lend_45 : decode cX4_lend 45 = .ok (.athrow, 1) := by decide +kernel
theorem dX4_lend_46 : decode cX4_lend 46 = .ok (.aload_n 0, 1) := by decide +kernel
theorem dX4_lend_47 : decode cX4_lend 47 = .ok (.invokevirtual 54, 3) := by decide +kernel
theorem dX4_lend_50 : decode cX4_lend 50 = .ok (.aload_n 0, 1) := by decide +kernel
theorem dX4_lend_51 : decode cX4_lend 51 = .ok (.getfield 10, 3) := by decide +kernel
theorem dX4_lend_54 : decode cX4_lend 54 = .ok (.iload_n 1, 1) := by decide +kernel
theorem dX4_lend_55 : decode cX4_lend 55 = .ok (.iload_n 2, 1) := by decide +kernel
theorem dX4_lend_56 : decode cX4_lend 56 = .ok (.invokevirtual 92, 3) := by decide +kernel
theorem dX4_lend_59 : decode cX4_lend 59 = .ok (.ireturn, 1) := by decide +kernel
theorem dX4_test_0 : decode cX4_test 0 = .ok (.aload_n 0, 1) := by decide +kernel
theorem dX4_test_1 : decode cX4_test 1 = .ok (.iload_n 1, 1) := by decide +kernel
theorem dX4_test_2 : decode cX4_test 2 = .ok (.invokevirtual 61, 3) := by decide +kernel
theorem dX4_test_5 : decode cX4_test 5 = .ok (.iload_n 2, 1) := by decide +kernel
theorem dX4_test_6 : decode cX4_test 6 = .ok (.invokestatic 96, 3) := by decide +kernel
theorem dX4_test_9 : decode cX4_test 9 = .ok (.aload_n 0, 1) := by decide +kernel
theorem dX4_test_10 : decode cX4_test 10 = .ok (.iload_n 1, 1) := by decide +kernel
theorem dX4_test_11 : decode cX4_test 11 = .ok (.invokevirtual 65, 3) := by decide +kernel
theorem dX4_test_14 : decode cX4_test 14 = .ok (.aload_n 0, 1) := by decide +kernel
theorem dX4_test_15 : decode cX4_test 15 = .ok (.invokevirtual 54, 3) := by decide +kernel
theorem dX4_test_18 : decode cX4_test 18 = .ok (.aload_n 0, 1) := by decide +kernel
theorem dX4_test_19 : decode cX4_test 19 = .ok (.getfield 10, 3) := by decide +kernel
theorem dX4_test_22 : decode cX4_test 22 = .ok (.iload_n 1, 1) := by decide +kernel
theorem dX4_test_23 : decode cX4_test 23 = .ok (.iload_n 2, 1) := by decide +kernel
theorem dX4_test_24 : decode cX4_test 24 = .ok (.invokevirtual 99, 3) := by decide +kernel
theorem dX4_test_27 : decode cX4_test 27 = .ok (.ireturn, 1) := by decide +kernel
theorem dX4_want_0 : decode cX4_want 0 = .ok (.iload_n 1, 1) := by decide +kernel
theorem dX4_want_1 : decode cX4_want 1 = .ok (.invokestatic 102, 3) := by decide +kernel
theorem dX4_want_4 : decode cX4_want 4 = .ok (.iload_n 2, 1) := by decide +kernel
theorem dX4_want_5 : decode cX4_want 5 = .ok (.iconst 0, 1) := by decide +kernel
theorem dX4_want_6 : decode cX4_want 6 = .ok (.sipush 200, 3) := by decide +kernel
theorem dX4_want_9 : decode cX4_want 9 = .ok (.invokestatic 34, 3) := by decide +kernel
theorem dX4_want_12 : decode cX4_want 12 = .ok (.ifCond .ne 13, 3) := by decide +kernel
theorem dX4_want_15 : decode cX4_want 15 = .ok (.new 38, 3) := by decide +kernel
theorem dX4_want_18 : decode cX4_want 18 = .ok (.dup, 1) := by decide +kernel
theorem dX4_want_19 : decode cX4_want 19 = .ok (.ldc 105, 2) := by decide +kernel
theorem dX4_want_21 : decode cX4_want 21 = .ok (.invokespecial 42, 3) := by decide +kernel
theorem dX4_want_24 : decode cX4_want 24 = .ok (.athrow, 1) := by decide +kernel
theorem dX4_want_25 : decode cX4_want 25 = .ok (.aload_n 0, 1) := by decide +kernel
theorem dX4_want_26 : decode cX4_want 26 = .ok (.invokevirtual 54, 3) := by decide +kernel
theorem dX4_want_29 : decode cX4_want 29 = .ok (.aload_n 0, 1) := by decide +kernel
theorem dX4_want_30 : decode cX4_want 30 = .ok (.getfield 10, 3) := by decide +kernel
theorem dX4_want_33 : decode cX4_want 33 = .ok (.getfield 107, 3) := by decide +kernel
theorem dX4_want_36 : decode cX4_want 36 = .ok (.iload_n 1, 1) := by decide +kernel
theorem dX4_want_37 : decode cX4_want 37 = .ok (.iaload, 1) := by decide +kernel
theorem dX4_want_38 : decode cX4_want 38 = .ok (.istore_n 3, 1) := by decide +kernel
theorem dX4_want_39 : decode cX4_want 39 = .ok (.aload_n 0, 1) := by decide +kernel
theorem dX4_want_40 : decode cX4_want 40 = .ok (.getfield 10, 3) := by decide +kernel
theorem dX4_want_43 : decode cX4_want 43 = .ok (.getfield 107, 3) := by decide +kernel
theorem dX4_want_46 : decode cX4_want 46 = .ok (.iload_n 1, 1) := by decide +kernel
theorem dX4_want_47 : decode cX4_want 47 = .ok (.iload_n 2, 1) := by decide +kernel
theorem dX4_want_48 : decode cX4_want 48 = .ok (.iastore, 1) := by decide +kernel
theorem dX4_want_49 : decode cX4_want 49 = .ok (.iload_n 3, 1) := by decide +kernel
theorem dX4_want_50 : decode cX4_want 50 = .ok (.ireturn, 1) := by decide +kernel
theorem dX4_set_0 : decode cX4_set 0 = .ok (.iload_n 1, 1) := by decide +kernel
theorem dX4_set_1 : decode cX4_set 1 = .ok (.invokestatic 110, 3) := by decide +kernel
theorem dX4_set_4 : decode cX4_set 4 = .ok (.iload_n 2, 1) := by decide +kernel
theorem dX4_set_5 : decode cX4_set 5 = .ok (.iload_n 1, 1) := by decide +kernel
theorem dX4_set_6 : decode cX4_set 6 = .ok (.invokestatic 113, 3) := by decide +kernel
theorem dX4_set_9 : decode cX4_set 9 = .ok (.iload_n 1, 1) := by decide +kernel
theorem dX4_set_10 : decode cX4_set 10 = .ok (.invokestatic 116, 3) := by decide +kernel
theorem dX4_set_13 : decode cX4_set 13 = .ok (.invokestatic 34, 3) := by decide +kernel
theorem dX4_set_16 : decode cX4_set 16 = .ok (.ifCond .ne 13, 3) := by decide +kernel
theorem dX4_set_19 : decode cX4_set 19 = .ok (.new 38, 3) := by decide +kernel
theorem dX4_set_22 : decode cX4_set 22 = .ok (.dup, 1) := by decide +kernel
theorem dX4_set_23 : decode cX4_set 23 = .ok (.ldc 119, 2) := by decide +kernel
theorem dX4_set_25 : decode cX4_set 25 = .ok (.invokespecial 42, 3) := by decide +kernel
theorem dX4_set_28 : decode cX4_set 28 = .ok (.athrow, 1) := by decide +kernel
theorem dX4_set_29 : decode cX4_set 29 = .ok (.aload_n 0, 1) := by decide +kernel
theorem dX4_set_30 : decode cX4_set 30 = .ok (.invokevirtual 54, 3) := by decide +kernel
theorem dX4_set_33 : decode cX4_set 33 = .ok (.aload_n 0, 1) := by decide +kernel
theorem dX4_set_34 : decode cX4_set 34 = .ok (.getfield 10, 3) := by decide +kernel
theorem dX4_set_37 : decode cX4_set 37 = .ok (.getfield 121, 3) := by decide +kernel
theorem dX4_set_40 : decode cX4_set 40 = .ok (.iload_n 1, 1) := by decide +kernel
theorem dX4_set_41 : decode cX4_set 41 = .ok (.iaload, 1) := by decide +kernel
theorem dX4_set_42 : decode cX4_set 42 = .ok (.istore_n 3, 1) := by decide +kernel
theorem dX4_set_43 : decode cX4_set 43 = .ok (.aload_n 0, 1) := by decide +kernel
theorem dX4_set_44 : decode cX4_set 44 = .ok (.getfield 10, 3) := by decide +kernel
theorem dX4_set_47 : decode cX4_set 47 = .ok (.getfield 121, 3) := by decide +kernel
theorem dX4_set_50 : decode cX4_set 50 = .ok (.iload_n 1, 1) := by decide +kernel
theorem dX4_set_51 : decode cX4_set 51 = .ok (.iload_n 2, 1) := by decide +kernel
theorem dX4_set_52 : decode cX4_set 52 = .ok (.iastore, 1) := by decide +kernel
theorem dX4_set_53 : decode cX4_set 53 = .ok (.iload_n 3, 1) := by decide +kernel
theorem dX4_set_54 : decode cX4_set 54 = .ok (.ireturn, 1) := by decide +kernel
theorem dX4_pass_0 : decode cX4_pass 0 = .ok (.iload_n 1, 1) := by decide +kernel
theorem dX4_pass_1 : decode cX4_pass 1 = .ok (.iconst 1, 1) := by decide +kernel
theorem dX4_pass_2 : decode cX4_pass 2 = .ok (.bipush 100, 2) := by decide +kernel
theorem dX4_pass_4 : decode cX4_pass 4 = .ok (.invokestatic 34, 3) := by decide +kernel
theorem dX4_pass_7 : decode cX4_pass 7 = .ok (.ifCond .ne 13, 3) := by decide +kernel
theorem dX4_pass_10 : decode cX4_pass 10 = .ok (.new 38, 3) := by decide +kernel
theorem dX4_pass_13 : decode cX4_pass 13 = .ok (.dup, 1) := by decide +kernel
theorem dX4_pass_14 : decode cX4_pass 14 = .ok (.ldc 84, 2) := by decide +kernel
theorem dX4_pass_16 : decode cX4_pass 16 = .ok (.invokespecial 42, 3) := by decide +kernel
theorem dX4_pass_19 : decode cX4_pass 19 = .ok (.athrow, 1) := by decide +kernel
theorem dX4_pass_20 : decode cX4_pass 20 = .ok (.aload_n 0, 1) := by decide +kernel
theorem dX4_pass_21 : decode cX4_pass 21 = .ok (.invokevirtual 54, 3) := by decide +kernel
theorem dX4_pass_24 : decode cX4_pass 24 = .ok (.iconst 0, 1) := by decide +kernel
theorem dX4_pass_25 : decode cX4_pass 25 = .ok (.istore_n 2, 1) := by decide +kernel
theorem dX4_pass_26 : decode cX4_pass 26 = .ok (.iload_n 2, 1) := by decide +kernel
theorem dX4_pass_27 : decode cX4_pass 27 = .ok (.iload_n 1, 1) := by decide +kernel
theorem dX4_pass_28 : decode cX4_pass 28 = .ok (.if_icmp .ge 16, 3) := by decide +kernel
theorem dX4_pass_31 : decode cX4_pass 31 = .ok (.aload_n 0, 1) := by decide +kernel
theorem dX4_pass_32 : decode cX4_pass 32 = .ok (.getfield 10, 3) := by decide +kernel
theorem dX4_pass_35 : decode cX4_pass 35 = .ok (.invokevirtual 124, 3) := by decide +kernel
theorem dX4_pass_38 : decode cX4_pass 38 = .ok (.iinc 2 1, 3) := by decide +kernel
theorem dX4_pass_41 : decode cX4_pass 41 = .ok (.goto (-15), 3) := by decide +kernel
theorem dX4_pass_44 : decode cX4_pass 44 = .ok (.aload_n 0, 1) := by decide +kernel
theorem dX4_pass_45 : decode cX4_pass 45 = .ok (.getfield 10, 3) := by decide +kernel
theorem dX4_pass_48 : decode cX4_pass 48 = .ok (.getfield 127, 3) := by decide +kernel
theorem dX4_pass_51 : decode cX4_pass 51 = .ok (.ireturn, 1) := by decide +kernel
theorem dX4_undo_0 : decode cX4_undo 0 = .ok (.aload_n 0, 1) := by decide +kernel
theorem dX4_undo_1 : decode cX4_undo 1 = .ok (.getfield 24, 3) := by decide +kernel
theorem dX4_undo_4 : decode cX4_undo 4 = .ok (.ifCond .ne 13, 3) := by decide +kernel
theorem dX4_undo_7 : decode cX4_undo 7 = .ok (.new 49, 3) := by decide +kernel
theorem dX4_undo_10 : decode cX4_undo 10 = .ok (.dup, 1) := by decide +kernel
theorem dX4_undo_11 : decode cX4_undo 11 = .ok (.ldc 156, 2) := by decide +kernel
theorem dX4_undo_13 : decode cX4_undo 13 = .ok (.invokespecial 53, 3) := by decide +kernel
theorem dX4_undo_16 : decode cX4_undo 16 = .ok (.athrow, 1) := by decide +kernel
theorem dX4_undo_17 : decode cX4_undo 17 = .ok (.aload_n 0, 1) := by decide +kernel
theorem dX4_undo_18 : decode cX4_undo 18 = .ok (.getfield 16, 3) := by decide +kernel
theorem dX4_undo_21 : decode cX4_undo 21 = .ok (.aload_n 0, 1) := by decide +kernel
theorem dX4_undo_22 : decode cX4_undo 22 = .ok (.getfield 20, 3) := by decide +kernel
theorem dX4_undo_25 : decode cX4_undo 25 = .ok (.aaload, 1) := by decide +kernel
theorem dX4_undo_26 : decode cX4_undo 26 = .ok (.astore_n 1, 1) := by decide +kernel
theorem dX4_undo_27 : decode cX4_undo 27 = .ok (.aload_n 1, 1) := by decide +kernel
theorem dX4_undo_28 : decode cX4_undo 28 = .ok (.ifnull 11, 3) := by decide +kernel
theorem dX4_undo_31 : decode cX4_undo 31 = .ok (.aload_n 0, 1) := by decide +kernel
theorem dX4_undo_32 : decode cX4_undo 32 = .ok (.getfield 10, 3) := by decide +kernel
theorem dX4_undo_35 : decode cX4_undo 35 = .ok (.aload_n 1, 1) := by decide +kernel
theorem dX4_undo_36 : decode cX4_undo 36 = .ok (.invokevirtual 158, 3) := by decide +kernel
theorem dX4_undo_39 : decode cX4_undo 39 = .ok (.aload_n 0, 1) := by decide +kernel
theorem dX4_undo_40 : decode cX4_undo 40 = .ok (.aload_n 0, 1) := by decide +kernel
theorem dX4_undo_41 : decode cX4_undo 41 = .ok (.getfield 20, 3) := by decide +kernel
theorem dX4_undo_44 : decode cX4_undo 44 = .ok (.ifCond .ne 7, 3) := by decide +kernel
theorem dX4_undo_47 : decode cX4_undo 47 = .ok (.iconst 5, 1) := by decide +kernel
theorem dX4_undo_48 : decode cX4_undo 48 = .ok (.goto 9, 3) := by decide +kernel
theorem dX4_undo_51 : decode cX4_undo 51 = .ok (.aload_n 0, 1) := by decide +kernel
theorem dX4_undo_52 : decode cX4_undo 52 = .ok (.getfield 20, 3) := by decide +kernel
theorem dX4_undo_55 : decode cX4_undo 55 = .ok (.iconst 1, 1) := by decide +kernel
theorem dX4_undo_56 : decode cX4_undo 56 = .ok (.isub, 1) := by decide +kernel
theorem dX4_undo_57 : decode cX4_undo 57 = .ok (.putfield 20, 3) := by decide +kernel
theorem dX4_undo_60 : decode cX4_undo 60 = .ok (.aload_n 0, 1) := by decide +kernel
theorem dX4_undo_61 : decode cX4_undo 61 = .ok (.dup, 1) := by decide +kernel
theorem dX4_undo_62 : decode cX4_undo 62 = .ok (.getfield 24, 3) := by decide +kernel
theorem dX4_undo_65 : decode cX4_undo 65 = .ok (.iconst 1, 1) := by decide +kernel
theorem dX4_undo_66 : decode cX4_undo 66 = .ok (.isub, 1) := by decide +kernel
theorem dX4_undo_67 : decode cX4_undo 67 = .ok (.putfield 24, 3) := by decide +kernel
theorem dX4_undo_70 : decode cX4_undo 70 = .ok (.aload_n 0, 1) := by decide +kernel
theorem dX4_undo_71 : decode cX4_undo 71 = .ok (.getfield 24, 3) := by decide +kernel
theorem dX4_undo_74 : decode cX4_undo 74 = .ok (.ireturn, 1) := by decide +kernel
theorem dX4_hose_0 : decode cX4_hose 0 = .ok (.aload_n 0, 1) := by decide +kernel
theorem dX4_hose_1 : decode cX4_hose 1 = .ok (.iload_n 1, 1) := by decide +kernel
theorem dX4_hose_2 : decode cX4_hose 2 = .ok (.invokevirtual 61, 3) := by decide +kernel
theorem dX4_hose_5 : decode cX4_hose 5 = .ok (.iload_n 2, 1) := by decide +kernel
theorem dX4_hose_6 : decode cX4_hose 6 = .ok (.iconst 0, 1) := by decide +kernel
theorem dX4_hose_7 : decode cX4_hose 7 = .ok (.bipush 9, 2) := by decide +kernel
theorem dX4_hose_9 : decode cX4_hose 9 = .ok (.invokestatic 34, 3) := by decide +kernel
theorem dX4_hose_12 : decode cX4_hose 12 = .ok (.ifCond .ne 13, 3) := by decide +kernel
theorem dX4_hose_15 : decode cX4_hose 15 = .ok (.new 38, 3) := by decide +kernel
theorem dX4_hose_18 : decode cX4_hose 18 = .ok (.dup, 1) := by decide +kernel
theorem dX4_hose_19 : decode cX4_hose 19 = .ok (.ldc 162, 2) := by decide +kernel
theorem dX4_hose_21 : decode cX4_hose 21 = .ok (.invokespecial 42, 3) := by decide +kernel
theorem dX4_hose_24 : decode cX4_hose 24 = .ok (.athrow, 1) := by decide +kernel
theorem dX4_hose_25 : decode cX4_hose 25 = .ok (.iload_n 2, 1) := by decide +kernel
theorem dX4_hose_26 : decode cX4_hose 26 = .ok (.tableswitch 148 0 8 #[50, 60, 70, 80, 90, 100, 118, 128, 138], 50) := by decide +kernel
theorem dX4_hose_76 : decode cX4_hose 76 = .ok (.aload_n 0, 1) := by decide +kernel
theorem dX4_hose_77 : decode cX4_hose 77 = .ok (.getfield 10, 3) := by decide +kernel
theorem dX4_hose_80 : decode cX4_hose 80 = .ok (.getfield 68, 3) := by decide +kernel
theorem dX4_hose_83 : decode cX4_hose 83 = .ok (.iload_n 1, 1) := by decide +kernel
theorem dX4_hose_84 : decode cX4_hose 84 = .ok (.iaload, 1) := by decide +kernel
theorem dX4_hose_85 : decode cX4_hose 85 = .ok (.ireturn, 1) := by decide +kernel
theorem dX4_hose_86 : decode cX4_hose 86 = .ok (.aload_n 0, 1) := by decide +kernel
theorem dX4_hose_87 : decode cX4_hose 87 = .ok (.getfield 10, 3) := by decide +kernel
theorem dX4_hose_90 : decode cX4_hose 90 = .ok (.getfield 72, 3) := by decide +kernel
theorem dX4_hose_93 : decode cX4_hose 93 = .ok (.iload_n 1, 1) := by decide +kernel
theorem dX4_hose_94 : decode cX4_hose 94 = .ok (.iaload, 1) := by decide +kernel
theorem dX4_hose_95 : decode cX4_hose 95 = .ok (.ireturn, 1) := by decide +kernel
theorem dX4_hose_96 : decode cX4_hose 96 = .ok (.aload_n 0, 1) := by decide +kernel
theorem dX4_hose_97 : decode cX4_hose 97 = .ok (.getfield 10, 3) := by decide +kernel
theorem dX4_hose_100 : decode cX4_hose 100 = .ok (.getfield 164, 3) := by decide +kernel
theorem dX4_hose_103 : decode cX4_hose 103 = .ok (.iload_n 1, 1) := by decide +kernel
theorem dX4_hose_104 : decode cX4_hose 104 = .ok (.iaload, 1) := by decide +kernel
theorem dX4_hose_105 : decode cX4_hose 105 = .ok (.ireturn, 1) := by decide +kernel
theorem dX4_hose_106 : decode cX4_hose 106 = .ok (.aload_n 0, 1) := by decide +kernel
theorem dX4_hose_107 : decode cX4_hose 107 = .ok (.getfield 10, 3) := by decide +kernel
theorem dX4_hose_110 : decode cX4_hose 110 = .ok (.getfield 167, 3) := by decide +kernel
theorem dX4_hose_113 : decode cX4_hose 113 = .ok (.iload_n 1, 1) := by decide +kernel
theorem dX4_hose_114 : decode cX4_hose 114 = .ok (.iaload, 1) := by decide +kernel
theorem dX4_hose_115 : decode cX4_hose 115 = .ok (.ireturn, 1) := by decide +kernel
theorem dX4_hose_116 : decode cX4_hose 116 = .ok (.aload_n 0, 1) := by decide +kernel
theorem dX4_hose_117 : decode cX4_hose 117 = .ok (.getfield 10, 3) := by decide +kernel
theorem dX4_hose_120 : decode cX4_hose 120 = .ok (.getfield 170, 3) := by decide +kernel
theorem dX4_hose_123 : decode cX4_hose 123 = .ok (.iload_n 1, 1) := by decide +kernel
theorem dX4_hose_124 : decode cX4_hose 124 = .ok (.iaload, 1) := by decide +kernel
theorem dX4_hose_125 : decode cX4_hose 125 = .ok (.ireturn, 1) := by decide +kernel
theorem dX4_hose_126 : decode cX4_hose 126 = .ok (.aload_n 0, 1) := by decide +kernel
theorem dX4_hose_127 : decode cX4_hose 127 = .ok (.getfield 10, 3) := by decide +kernel
theorem dX4_hose_130 : decode cX4_hose 130 = .ok (.iload_n 1, 1) := by decide +kernel
theorem dX4_hose_131 : decode cX4_hose 131 = .ok (.aload_n 0, 1) := by decide +kernel
theorem dX4_hose_132 : decode cX4_hose 132 = .ok (.getfield 10, 3) := by decide +kernel
theorem dX4_hose_135 : decode cX4_hose 135 = .ok (.getfield 170, 3) := by decide +kernel
theorem dX4_hose_138 : decode cX4_hose 138 = .ok (.iload_n 1, 1) := by decide +kernel
theorem dX4_hose_139 : decode cX4_hose 139 = .ok (.iaload, 1) := by decide +kernel
theorem dX4_hose_140 : decode cX4_hose 140 = .ok (.invokevirtual 173, 3) := by decide +kernel
theorem dX4_hose_143 : decode cX4_hose 143 = .ok (.ireturn, 1) := by decide +kernel
theorem dX4_hose_144 : decode cX4_hose 144 = .ok (.aload_n 0, 1) := by decide +kernel
theorem dX4_hose_145 : decode cX4_hose 145 = .ok (.getfield 10, 3) := by decide +kernel
theorem dX4_hose_148 : decode cX4_hose 148 = .ok (.getfield 176, 3) := by decide +kernel
theorem dX4_hose_151 : decode cX4_hose 151 = .ok (.iload_n 1, 1) := by decide +kernel
theorem dX4_hose_152 : decode cX4_hose 152 = .ok (.iaload, 1) := by decide +kernel
theorem dX4_hose_153 : decode cX4_hose 153 = .ok (.ireturn, 1) := by decide +kernel
theorem dX4_hose_154 : decode cX4_hose 154 = .ok (.aload_n 0, 1) := by decide +kernel
theorem dX4_hose_155 : decode cX4_hose 155 = .ok (.getfield 10, 3) := by decide +kernel
theorem dX4_hose_158 : decode cX4_hose 158 = .ok (.getfield 81, 3) := by decide +kernel
theorem dX4_hose_161 : decode cX4_hose 161 = .ok (.iload_n 1, 1) := by decide +kernel
theorem dX4_hose_162 : decode cX4_hose 162 = .ok (.iaload, 1) := by decide +kernel
theorem dX4_hose_163 : decode cX4_hose 163 = .ok (.ireturn, 1) := by decide +kernel
theorem dX4_hose_164 : decode cX4_hose 164 = .ok (.aload_n 0, 1) := by decide +kernel
theorem dX4_hose_165 : decode cX4_hose 165 = .ok (.getfield 10, 3) := by decide +kernel
theorem dX4_hose_168 : decode cX4_hose 168 = .ok (.getfield 179, 3) := by decide +kernel
theorem dX4_hose_171 : decode cX4_hose 171 = .ok (.iload_n 1, 1) := by decide +kernel
theorem dX4_hose_172 : decode cX4_hose 172 = .ok (.iaload, 1) := by decide +kernel
theorem dX4_hose_173 : decode cX4_hose 173 = .ok (.ireturn, 1) := by decide +kernel
theorem dX4_hose_174 : decode cX4_hose 174 = .ok (.aload_n 0, 1) := by decide +kernel
theorem dX4_hose_175 : decode cX4_hose 175 = .ok (.getfield 10, 3) := by decide +kernel
theorem dX4_hose_178 : decode cX4_hose 178 = .ok (.iload_n 1, 1) := by decide +kernel
theorem dX4_hose_179 : decode cX4_hose 179 = .ok (.invokevirtual 182, 3) := by decide +kernel
theorem dX4_hose_182 : decode cX4_hose 182 = .ok (.ireturn, 1) := by decide +kernel
theorem dX4_truck_0 : decode cX4_truck 0 = .ok (.iload_n 1, 1) := by decide +kernel
theorem dX4_truck_1 : decode cX4_truck 1 = .ok (.invokestatic 102, 3) := by decide +kernel
theorem dX4_truck_4 : decode cX4_truck 4 = .ok (.iload_n 2, 1) := by decide +kernel
theorem dX4_truck_5 : decode cX4_truck 5 = .ok (.iconst 0, 1) := by decide +kernel
theorem dX4_truck_6 : decode cX4_truck 6 = .ok (.bipush 6, 2) := by decide +kernel
theorem dX4_truck_8 : decode cX4_truck 8 = .ok (.invokestatic 34, 3) := by decide +kernel
theorem dX4_truck_11 : decode cX4_truck 11 = .ok (.ifCond .ne 13, 3) := by decide +kernel
theorem dX4_truck_14 : decode cX4_truck 14 = .ok (.new 38, 3) := by decide +kernel
theorem dX4_truck_17 : decode cX4_truck 17 = .ok (.dup, 1) := by decide +kernel
theorem dX4_truck_18 : decode cX4_truck 18 = .ok (.ldc 185, 2) := by decide +kernel
theorem dX4_truck_20 : decode cX4_truck 20 = .ok (.invokespecial 42, 3) := by decide +kernel
theorem dX4_truck_23 : decode cX4_truck 23 = .ok (.athrow, 1) := by decide +kernel
theorem dX4_truck_24 : decode cX4_truck 24 = .ok (.aload_n 0, 1) := by decide +kernel
theorem dX4_truck_25 : decode cX4_truck 25 = .ok (.getfield 10, 3) := by decide +kernel
theorem dX4_truck_28 : decode cX4_truck 28 = .ok (.iload_n 1, 1) := by decide +kernel
theorem dX4_truck_29 : decode cX4_truck 29 = .ok (.iconst (-1), 1) := by decide +kernel
theorem dX4_truck_30 : decode cX4_truck 30 = .ok (.invokevirtual 187, 3) := by decide +kernel
theorem dX4_truck_33 : decode cX4_truck 33 = .ok (.istore_n 3, 1) := by decide +kernel
theorem dX4_truck_34 : decode cX4_truck 34 = .ok (.iload_n 2, 1) := by decide +kernel
theorem dX4_truck_35 : decode cX4_truck 35 = .ok (.tableswitch 98 0 5 #[37, 47, 58, 67, 76, 87], 37) := by decide +kernel
theorem dX4_truck_72 : decode cX4_truck 72 = .ok (.aload_n 0, 1) := by decide +kernel
theorem dX4_truck_73 : decode cX4_truck 73 = .ok (.getfield 10, 3) := by decide +kernel
theorem dX4_truck_76 : decode cX4_truck 76 = .ok (.getfield 107, 3) := by decide +kernel
theorem dX4_truck_79 : decode cX4_truck 79 = .ok (.iload_n 1, 1) := by decide +kernel
theorem dX4_truck_80 : decode cX4_truck 80 = .ok (.iaload, 1) := by decide +kernel
theorem dX4_truck_81 : decode cX4_truck 81 = .ok (.ireturn, 1) := by decide +kernel
theorem dX4_truck_82 : decode cX4_truck 82 = .ok (.aload_n 0, 1) := by decide +kernel
theorem dX4_truck_83 : decode cX4_truck 83 = .ok (.getfield 10, 3) := by decide +kernel
theorem dX4_truck_86 : decode cX4_truck 86 = .ok (.getfield 190, 3) := by decide +kernel
theorem dX4_truck_89 : decode cX4_truck 89 = .ok (.getfield 194, 3) := by decide +kernel
theorem dX4_truck_92 : decode cX4_truck 92 = .ok (.ireturn, 1) := by decide +kernel
theorem dX4_truck_93 : decode cX4_truck 93 = .ok (.aload_n 0, 1) := by decide +kernel
theorem dX4_truck_94 : decode cX4_truck 94 = .ok (.getfield 10, 3) := by decide +kernel
theorem dX4_truck_97 : decode cX4_truck 97 = .ok (.iload_n 1, 1) := by decide +kernel
theorem dX4_truck_98 : decode cX4_truck 98 = .ok (.invokevirtual 199, 3) := by decide +kernel
theorem dX4_truck_101 : decode cX4_truck 101 = .ok (.ireturn, 1) := by decide +kernel
theorem dX4_truck_102 : decode cX4_truck 102 = .ok (.aload_n 0, 1) := by decide +kernel
theorem dX4_truck_103 : decode cX4_truck 103 = .ok (.getfield 10, 3) := by decide +kernel
theorem dX4_truck_106 : decode cX4_truck 106 = .ok (.iload_n 1, 1) := by decide +kernel
theorem dX4_truck_107 : decode cX4_truck 107 = .ok (.invokevirtual 202, 3) := by decide +kernel
theorem dX4_truck_110 : decode cX4_truck 110 = .ok (.ireturn, 1) := by decide +kernel
theorem dX4_truck_111 : decode cX4_truck 111 = .ok (.aload_n 0, 1) := by decide +kernel
theorem dX4_truck_112 : decode cX4_truck 112 = .ok (.getfield 10, 3) := by decide +kernel
theorem dX4_truck_115 : decode cX4_truck 115 = .ok (.getfield 190, 3) := by decide +kernel
theorem dX4_truck_118 : decode cX4_truck 118 = .ok (.getfield 205, 3) := by decide +kernel
theorem dX4_truck_121 : decode cX4_truck 121 = .ok (.ireturn, 1) := by decide +kernel
theorem dX4_truck_122 : decode cX4_truck 122 = .ok (.aload_n 0, 1) := by decide +kernel
theorem dX4_truck_123 : decode cX4_truck 123 = .ok (.getfield 10, 3) := by decide +kernel
theorem dX4_truck_126 : decode cX4_truck 126 = .ok (.getfield 190, 3) := by decide +kernel
theorem dX4_truck_129 : decode cX4_truck 129 = .ok (.getfield 208, 3) := by decide +kernel
theorem dX4_truck_132 : decode cX4_truck 132 = .ok (.ireturn, 1) := by decide +kernel
theorem dX4_truck_133 : decode cX4_truck 133 = .ok (.iload_n 3, 1) := by decide +kernel
theorem dX4_truck_134 : decode cX4_truck 134 = .ok (.ifCond .eq 7, 3) := by decide +kernel
theorem dX4_truck_137 : decode cX4_truck 137 = .ok (.iconst 1, 1) := by decide +kernel
theorem dX4_truck_138 : decode cX4_truck 138 = .ok (.goto 4, 3) := by decide +kernel
theorem dX4_truck_141 : decode cX4_truck 141 = .ok (.iconst 0, 1) := by decide +kernel
theorem dX4_truck_142 : decode cX4_truck 142 = .ok (.ireturn, 1) := by decide +kernel
theorem dX4_count_0 : decode cX4_count 0 = .ok (.iload_n 1, 1) := by decide +kernel
theorem dX4_count_1 : decode cX4_count 1 = .ok (.iconst 0, 1) := by decide +kernel
theorem dX4_count_2 : decode cX4_count 2 = .ok (.bipush 10, 2) := by decide +kernel
theorem dX4_count_4 : decode cX4_count 4 = .ok (.invokestatic 34, 3) := by decide +kernel
theorem dX4_count_7 : decode cX4_count 7 = .ok (.ifCond .ne 13, 3) := by decide +kernel
theorem dX4_count_10 : decode cX4_count 10 = .ok (.new 38, 3) := by decide +kernel
theorem dX4_count_13 : decode cX4_count 13 = .ok (.dup, 1) := by decide +kernel
theorem dX4_count_14 : decode cX4_count 14 = .ok (.ldc 211, 2) := by decide +kernel
theorem dX4_count_16 : decode cX4_count 16 = .ok (.invokespecial 42, 3) := by decide +kernel
theorem dX4_count_19 : decode cX4_count 19 = .ok (.athrow, 1) := by decide +kernel
theorem dX4_count_20 : decode cX4_count 20 = .ok (.iload_n 1, 1) := by decide +kernel
theorem dX4_count_21 : decode cX4_count 21 = .ok (.tableswitch 137 0 9 #[55, 63, 71, 79, 88, 96, 105, 113, 121, 129], 55) := by decide +kernel
theorem dX4_count_76 : decode cX4_count 76 = .ok (.aload_n 0, 1) := by decide +kernel
theorem dX4_count_77 : decode cX4_count 77 = .ok (.getfield 10, 3) := by decide +kernel
theorem dX4_count_80 : decode cX4_count 80 = .ok (.getfield 127, 3) := by decide +kernel
theorem dX4_count_83 : decode cX4_count 83 = .ok (.ireturn, 1) := by decide +kernel
theorem dX4_count_84 : decode cX4_count 84 = .ok (.aload_n 0, 1) := by decide +kernel
theorem dX4_count_85 : decode cX4_count 85 = .ok (.getfield 10, 3) := by decide +kernel
theorem dX4_count_88 : decode cX4_count 88 = .ok (.getfield 213, 3) := by decide +kernel
theorem dX4_count_91 : decode cX4_count 91 = .ok (.ireturn, 1) := by decide +kernel
theorem dX4_count_92 : decode cX4_count 92 = .ok (.aload_n 0, 1) := by decide +kernel
theorem dX4_count_93 : decode cX4_count 93 = .ok (.getfield 10, 3) := by decide +kernel
theorem dX4_count_96 : decode cX4_count 96 = .ok (.getfield 216, 3) := by decide +kernel
theorem dX4_count_99 : decode cX4_count 99 = .ok (.ireturn, 1) := by decide +kernel
theorem dX4_count_100 : decode cX4_count 100 = .ok (.aload_n 0, 1) := by decide +kernel
theorem dX4_count_101 : decode cX4_count 101 = .ok (.getfield 10, 3) := by decide +kernel
theorem dX4_count_104 : decode cX4_count 104 = .ok (.iconst (-1), 1) := by decide +kernel
theorem dX4_count_105 : decode cX4_count 105 = .ok (.invokevirtual 199, 3) := by decide +kernel
theorem dX4_count_108 : decode cX4_count 108 = .ok (.ireturn, 1) := by decide +kernel
theorem dX4_count_109 : decode cX4_count 109 = .ok (.aload_n 0, 1) := by decide +kernel
theorem dX4_count_110 : decode cX4_count 110 = .ok (.getfield 10, 3) := by decide +kernel
theorem dX4_count_113 : decode cX4_count 113 = .ok (.invokevirtual 219, 3) := by decide +kernel
theorem dX4_count_116 : decode cX4_count 116 = .ok (.ireturn, 1) := by decide +kernel
theorem dX4_count_117 : decode cX4_count 117 = .ok (.aload_n 0, 1) := by decide +kernel
theorem dX4_count_118 : decode cX4_count 118 = .ok (.getfield 10, 3) := by decide +kernel
theorem dX4_count_121 : decode cX4_count 121 = .ok (.iconst 4, 1) := by decide +kernel
theorem dX4_count_122 : decode cX4_count 122 = .ok (.invokevirtual 199, 3) := by decide +kernel
theorem dX4_count_125 : decode cX4_count 125 = .ok (.ireturn, 1) := by decide +kernel
theorem dX4_count_126 : decode cX4_count 126 = .ok (.aload_n 0, 1) := by decide +kernel
theorem dX4_count_127 : decode cX4_count 127 = .ok (.getfield 10, 3) := by decide +kernel
theorem dX4_count_130 : decode cX4_count 130 = .ok (.invokevirtual 222, 3) := by decide +kernel
theorem dX4_count_133 : decode cX4_count 133 = .ok (.ireturn, 1) := by decide +kernel
theorem dX4_count_134 : decode cX4_count 134 = .ok (.aload_n 0, 1) := by decide +kernel
theorem dX4_count_135 : decode cX4_count 135 = .ok (.getfield 10, 3) := by decide +kernel
theorem dX4_count_138 : decode cX4_count 138 = .ok (.getfield 225, 3) := by decide +kernel
theorem dX4_count_141 : decode cX4_count 141 = .ok (.ireturn, 1) := by decide +kernel
theorem dX4_count_142 : decode cX4_count 142 = .ok (.aload_n 0, 1) := by decide +kernel
theorem dX4_count_143 : decode cX4_count 143 = .ok (.getfield 10, 3) := by decide +kernel
theorem dX4_count_146 : decode cX4_count 146 = .ok (.getfield 228, 3) := by decide +kernel
theorem dX4_count_149 : decode cX4_count 149 = .ok (.ireturn, 1) := by decide +kernel
theorem dX4_count_150 : decode cX4_count 150 = .ok (.aload_n 0, 1) := by decide +kernel
theorem dX4_count_151 : decode cX4_count 151 = .ok (.getfield 10, 3) := by decide +kernel
theorem dX4_count_154 : decode cX4_count 154 = .ok (.getfield 231, 3) := by decide +kernel
theorem dX4_count_157 : decode cX4_count 157 = .ok (.ireturn, 1) := by decide +kernel
theorem dX4_count_158 : decode cX4_count 158 = .ok (.aload_n 0, 1) := by decide +kernel
theorem dX4_count_159 : decode cX4_count 159 = .ok (.getfield 24, 3) := by decide +kernel
theorem dX4_count_162 : decode cX4_count 162 = .ok (.ireturn, 1) := by decide +kernel
theorem dX4_setting_0 : decode cX4_setting 0 = .ok (.iload_n 1, 1) := by decide +kernel
theorem dX4_setting_1 : decode cX4_setting 1 = .ok (.invokestatic 110, 3) := by decide +kernel
theorem dX4_setting_4 : decode cX4_setting 4 = .ok (.aload_n 0, 1) := by decide +kernel
theorem dX4_setting_5 : decode cX4_setting 5 = .ok (.getfield 10, 3) := by decide +kernel
theorem dX4_setting_8 : decode cX4_setting 8 = .ok (.getfield 121, 3) := by decide +kernel
theorem dX4_setting_11 : decode cX4_setting 11 = .ok (.iload_n 1, 1) := by decide +kernel
theorem dX4_setting_12 : decode cX4_setting 12 = .ok (.iaload, 1) := by decide +kernel
theorem dX4_setting_13 : decode cX4_setting 13 = .ok (.ireturn, 1) := by decide +kernel
theorem dX4_ifTested_0 : decode cX4_ifTested 0 = .ok (.aload_n 0, 1) := by decide +kernel
theorem dX4_ifTested_1 : decode cX4_ifTested 1 = .ok (.iload_n 1, 1) := by decide +kernel
theorem dX4_ifTested_2 : decode cX4_ifTested 2 = .ok (.invokevirtual 61, 3) := by decide +kernel
theorem dX4_ifTested_5 : decode cX4_ifTested 5 = .ok (.iload_n 2, 1) := by decide +kernel
theorem dX4_ifTested_6 : decode cX4_ifTested 6 = .ok (.invokestatic 96, 3) := by decide +kernel
theorem dX4_ifTested_9 : decode cX4_ifTested 9 = .ok (.aload_n 0, 1) := by decide +kernel
theorem dX4_ifTested_10 : decode cX4_ifTested 10 = .ok (.getfield 10, 3) := by decide +kernel
theorem dX4_ifTested_13 : decode cX4_ifTested 13 = .ok (.iload_n 1, 1) := by decide +kernel
theorem dX4_ifTested_14 : decode cX4_ifTested 14 = .ok (.invokevirtual 234, 3) := by decide +kernel
theorem dX4_ifTested_17 : decode cX4_ifTested 17 = .ok (.ifCond .eq 7, 3) := by decide +kernel
theorem dX4_ifTested_20 : decode cX4_ifTested 20 = .ok (.iconst (-1), 1) := by decide +kernel
theorem dX4_ifTested_21 : decode cX4_ifTested 21 = .ok (.goto 12, 3) := by decide +kernel
theorem dX4_ifTested_24 : decode cX4_ifTested 24 = .ok (.aload_n 0, 1) := by decide +kernel
theorem dX4_ifTested_25 : decode cX4_ifTested 25 = .ok (.getfield 10, 3) := by decide +kernel
theorem dX4_ifTested_28 : decode cX4_ifTested 28 = .ok (.iload_n 1, 1) := by decide +kernel
theorem dX4_ifTested_29 : decode cX4_ifTested 29 = .ok (.iload_n 2, 1) := by decide +kernel
theorem dX4_ifTested_30 : decode cX4_ifTested 30 = .ok (.invokevirtual 237, 3) := by decide +kernel
theorem dX4_ifTested_33 : decode cX4_ifTested 33 = .ok (.ireturn, 1) := by decide +kernel
theorem dX4_safe_0 : decode cX4_safe 0 = .ok (.aload_n 0, 1) := by decide +kernel
theorem dX4_safe_1 : decode cX4_safe 1 = .ok (.iload_n 1, 1) := by decide +kernel
theorem dX4_safe_2 : decode cX4_safe 2 = .ok (.invokevirtual 61, 3) := by decide +kernel
theorem dX4_safe_5 : decode cX4_safe 5 = .ok (.aload_n 0, 1) := by decide +kernel
theorem dX4_safe_6 : decode cX4_safe 6 = .ok (.getfield 10, 3) := by decide +kernel
theorem dX4_safe_9 : decode cX4_safe 9 = .ok (.iload_n 1, 1) := by decide +kernel
theorem dX4_safe_10 : decode cX4_safe 10 = .ok (.invokevirtual 234, 3) := by decide +kernel
theorem dX4_safe_13 : decode cX4_safe 13 = .ok (.ifCond .eq 7, 3) := by decide +kernel
theorem dX4_safe_16 : decode cX4_safe 16 = .ok (.iconst (-1), 1) := by decide +kernel
theorem dX4_safe_17 : decode cX4_safe 17 = .ok (.goto 11, 3) := by decide +kernel
theorem dX4_safe_20 : decode cX4_safe 20 = .ok (.aload_n 0, 1) := by decide +kernel
theorem dX4_safe_21 : decode cX4_safe 21 = .ok (.getfield 10, 3) := by decide +kernel
theorem dX4_safe_24 : decode cX4_safe 24 = .ok (.iload_n 1, 1) := by decide +kernel
theorem dX4_safe_25 : decode cX4_safe 25 = .ok (.invokevirtual 240, 3) := by decide +kernel
theorem dX4_safe_28 : decode cX4_safe 28 = .ok (.ireturn, 1) := by decide +kernel
theorem dX4_nextLapse_0 : decode cX4_nextLapse 0 = .ok (.aload_n 0, 1) := by decide +kernel
theorem dX4_nextLapse_1 : decode cX4_nextLapse 1 = .ok (.getfield 10, 3) := by decide +kernel
theorem dX4_nextLapse_4 : decode cX4_nextLapse 4 = .ok (.invokevirtual 243, 3) := by decide +kernel
theorem dX4_nextLapse_7 : decode cX4_nextLapse 7 = .ok (.ireturn, 1) := by decide +kernel
theorem dX4_helps_0 : decode cX4_helps 0 = .ok (.iload_n 1, 1) := by decide +kernel
theorem dX4_helps_1 : decode cX4_helps 1 = .ok (.invokestatic 102, 3) := by decide +kernel
theorem dX4_helps_4 : decode cX4_helps 4 = .ok (.aload_n 0, 1) := by decide +kernel
theorem dX4_helps_5 : decode cX4_helps 5 = .ok (.getfield 10, 3) := by decide +kernel
theorem dX4_helps_8 : decode cX4_helps 8 = .ok (.iload_n 1, 1) := by decide +kernel
theorem dX4_helps_9 : decode cX4_helps 9 = .ok (.invokevirtual 246, 3) := by decide +kernel
theorem dX4_helps_12 : decode cX4_helps 12 = .ok (.ireturn, 1) := by decide +kernel
theorem dX4_readyShare_0 : decode cX4_readyShare 0 = .ok (.aload_n 0, 1) := by decide +kernel
theorem dX4_readyShare_1 : decode cX4_readyShare 1 = .ok (.getfield 10, 3) := by decide +kernel
theorem dX4_readyShare_4 : decode cX4_readyShare 4 = .ok (.getfield 216, 3) := by decide +kernel
theorem dX4_readyShare_7 : decode cX4_readyShare 7 = .ok (.aload_n 0, 1) := by decide +kernel
theorem dX4_readyShare_8 : decode cX4_readyShare 8 = .ok (.getfield 10, 3) := by decide +kernel
theorem dX4_readyShare_11 : decode cX4_readyShare 11 = .ok (.iconst (-1), 1) := by decide +kernel
theorem dX4_readyShare_12 : decode cX4_readyShare 12 = .ok (.invokevirtual 199, 3) := by decide +kernel
theorem dX4_readyShare_15 : decode cX4_readyShare 15 = .ok (.isub, 1) := by decide +kernel
theorem dX4_readyShare_16 : decode cX4_readyShare 16 = .ok (.istore_n 1, 1) := by decide +kernel
theorem dX4_readyShare_17 : decode cX4_readyShare 17 = .ok (.iload_n 1, 1) := by decide +kernel
theorem dX4_readyShare_18 : decode cX4_readyShare 18 = .ok (.ifCond .gt 5, 3) := by decide +kernel
theorem dX4_readyShare_21 : decode cX4_readyShare 21 = .ok (.dconst 1, 1) := by decide +kernel
theorem dX4_readyShare_22 : decode cX4_readyShare 22 = .ok (.dreturn, 1) := by decide +kernel
theorem dX4_readyShare_23 : decode cX4_readyShare 23 = .ok (.aload_n 0, 1) := by decide +kernel
theorem dX4_readyShare_24 : decode cX4_readyShare 24 = .ok (.getfield 10, 3) := by decide +kernel
theorem dX4_readyShare_27 : decode cX4_readyShare 27 = .ok (.invokevirtual 219, 3) := by decide +kernel
theorem dX4_readyShare_30 : decode cX4_readyShare 30 = .ok (.i2d, 1) := by decide +kernel
theorem dX4_readyShare_31 : decode cX4_readyShare 31 = .ok (.iload_n 1, 1) := by decide +kernel
theorem dX4_readyShare_32 : decode cX4_readyShare 32 = .ok (.i2d, 1) := by decide +kernel
theorem dX4_readyShare_33 : decode cX4_readyShare 33 = .ok (.ddiv, 1) := by decide +kernel
theorem dX4_readyShare_34 : decode cX4_readyShare 34 = .ok (.dreturn, 1) := by decide +kernel
theorem dX4_isWithin_0 : decode cX4_isWithin 0 = .ok (.iload_n 0, 1) := by decide +kernel
theorem dX4_isWithin_1 : decode cX4_isWithin 1 = .ok (.iload_n 1, 1) := by decide +kernel
theorem dX4_isWithin_2 : decode cX4_isWithin 2 = .ok (.if_icmp .lt 12, 3) := by decide +kernel
theorem dX4_isWithin_5 : decode cX4_isWithin 5 = .ok (.iload_n 0, 1) := by decide +kernel
theorem dX4_isWithin_6 : decode cX4_isWithin 6 = .ok (.iload_n 2, 1) := by decide +kernel
theorem dX4_isWithin_7 : decode cX4_isWithin 7 = .ok (.if_icmp .gt 7, 3) := by decide +kernel
theorem dX4_isWithin_10 : decode cX4_isWithin 10 = .ok (.iconst 1, 1) := by decide +kernel
theorem dX4_isWithin_11 : decode cX4_isWithin 11 = .ok (.goto 4, 3) := by decide +kernel
theorem dX4_isWithin_14 : decode cX4_isWithin 14 = .ok (.iconst 0, 1) := by decide +kernel
theorem dX4_isWithin_15 : decode cX4_isWithin 15 = .ok (.ireturn, 1) := by decide +kernel
theorem dX4_requireHose_0 : decode cX4_requireHose 0 = .ok (.iload_n 1, 1) := by decide +kernel
theorem dX4_requireHose_1 : decode cX4_requireHose 1 = .ok (.iconst 0, 1) := by decide +kernel
theorem dX4_requireHose_2 : decode cX4_requireHose 2 = .ok (.aload_n 0, 1) := by decide +kernel
theorem dX4_requireHose_3 : decode cX4_requireHose 3 = .ok (.getfield 10, 3) := by decide +kernel
theorem dX4_requireHose_6 : decode cX4_requireHose 6 = .ok (.getfield 216, 3) := by decide +kernel
theorem dX4_requireHose_9 : decode cX4_requireHose 9 = .ok (.iconst 1, 1) := by decide +kernel
theorem dX4_requireHose_10 : decode cX4_requireHose 10 = .ok (.isub, 1) := by decide +kernel
theorem dX4_requireHose_11 : decode cX4_requireHose 11 = .ok (.invokestatic 34, 3) := by decide +kernel
theorem dX4_requireHose_14 : decode cX4_requireHose 14 = .ok (.ifCond .ne 14, 3) := by decide +kernel
theorem dX4_requireHose_17 : decode cX4_requireHose 17 = .ok (.new 287, 3) := by decide +kernel
theorem dX4_requireHose_20 : decode cX4_requireHose 20 = .ok (.dup, 1) := by decide +kernel
theorem dX4_requireHose_21 : decode cX4_requireHose 21 = .ok (.ldc_w 289, 3) := by decide +kernel
theorem dX4_requireHose_24 : decode cX4_requireHose 24 = .ok (.invokespecial 291, 3) := by decide +kernel
theorem dX4_requireHose_27 : decode cX4_requireHose 27 = .ok (.athrow, 1) := by decide +kernel
theorem dX4_requireHose_28 : decode cX4_requireHose 28 = .ok (.return_, 1) := by decide +kernel
theorem dX4_requireAtHand_0 : decode cX4_requireAtHand 0 = .ok (.aload_n 0, 1) := by decide +kernel
theorem dX4_requireAtHand_1 : decode cX4_requireAtHand 1 = .ok (.getfield 10, 3) := by decide +kernel
theorem dX4_requireAtHand_4 : decode cX4_requireAtHand 4 = .ok (.iload_n 1, 1) := by decide +kernel
theorem dX4_requireAtHand_5 : decode cX4_requireAtHand 5 = .ok (.invokevirtual 234, 3) := by decide +kernel
theorem dX4_requireAtHand_8 : decode cX4_requireAtHand 8 = .ok (.ifCond .ne 14, 3) := by decide +kernel
theorem dX4_requireAtHand_11 : decode cX4_requireAtHand 11 = .ok (.aload_n 0, 1) := by decide +kernel
theorem dX4_requireAtHand_12 : decode cX4_requireAtHand 12 = .ok (.getfield 10, 3) := by decide +kernel
theorem dX4_requireAtHand_15 : decode cX4_requireAtHand 15 = .ok (.iload_n 1, 1) := by decide +kernel
theorem dX4_requireAtHand_16 : decode cX4_requireAtHand 16 = .ok (.invokevirtual 292, 3) := by decide +kernel
theorem dX4_requireAtHand_19 : decode cX4_requireAtHand 19 = .ok (.ifCond .eq 14, 3) := by decide +kernel
theorem dX4_requireAtHand_22 : decode cX4_requireAtHand 22 = .ok (.new 49, 3) := by decide +kernel
theorem dX4_requireAtHand_25 : decode cX4_requireAtHand 25 = .ok (.dup, 1) := by decide +kernel
theorem dX4_requireAtHand_26 : decode cX4_requireAtHand 26 = .ok (.ldc_w 295, 3) := by decide +kernel
theorem dX4_requireAtHand_29 : decode cX4_requireAtHand 29 = .ok (.invokespecial 53, 3) := by decide +kernel
theorem dX4_requireAtHand_32 : decode cX4_requireAtHand 32 = .ok (.athrow, 1) := by decide +kernel
theorem dX4_requireAtHand_33 : decode cX4_requireAtHand 33 = .ok (.return_, 1) := by decide +kernel
theorem dX4_requireTruck_0 : decode cX4_requireTruck 0 = .ok (.iload_n 0, 1) := by decide +kernel
theorem dX4_requireTruck_1 : decode cX4_requireTruck 1 = .ok (.iconst 0, 1) := by decide +kernel
theorem dX4_requireTruck_2 : decode cX4_requireTruck 2 = .ok (.iconst 2, 1) := by decide +kernel
theorem dX4_requireTruck_3 : decode cX4_requireTruck 3 = .ok (.invokestatic 34, 3) := by decide +kernel
theorem dX4_requireTruck_6 : decode cX4_requireTruck 6 = .ok (.ifCond .ne 14, 3) := by decide +kernel
theorem dX4_requireTruck_9 : decode cX4_requireTruck 9 = .ok (.new 287, 3) := by decide +kernel
theorem dX4_requireTruck_12 : decode cX4_requireTruck 12 = .ok (.dup, 1) := by decide +kernel
theorem dX4_requireTruck_13 : decode cX4_requireTruck 13 = .ok (.ldc_w 297, 3) := by decide +kernel
theorem dX4_requireTruck_16 : decode cX4_requireTruck 16 = .ok (.invokespecial 291, 3) := by decide +kernel
theorem dX4_requireTruck_19 : decode cX4_requireTruck 19 = .ok (.athrow, 1) := by decide +kernel
theorem dX4_requireTruck_20 : decode cX4_requireTruck 20 = .ok (.return_, 1) := by decide +kernel
theorem dX4_requireSetting_0 : decode cX4_requireSetting 0 = .ok (.iload_n 0, 1) := by decide +kernel
theorem dX4_requireSetting_1 : decode cX4_requireSetting 1 = .ok (.iconst 0, 1) := by decide +kernel
theorem dX4_requireSetting_2 : decode cX4_requireSetting 2 = .ok (.iconst 2, 1) := by decide +kernel
theorem dX4_requireSetting_3 : decode cX4_requireSetting 3 = .ok (.invokestatic 34, 3) := by decide +kernel
theorem dX4_requireSetting_6 : decode cX4_requireSetting 6 = .ok (.ifCond .ne 14, 3) := by decide +kernel
theorem dX4_requireSetting_9 : decode cX4_requireSetting 9 = .ok (.new 287, 3) := by decide +kernel
theorem dX4_requireSetting_12 : decode cX4_requireSetting 12 = .ok (.dup, 1) := by decide +kernel
theorem dX4_requireSetting_13 : decode cX4_requireSetting 13 = .ok (.ldc_w 299, 3) := by decide +kernel
theorem dX4_requireSetting_16 : decode cX4_requireSetting 16 = .ok (.invokespecial 291, 3) := by decide +kernel
theorem dX4_requireSetting_19 : decode cX4_requireSetting 19 = .ok (.athrow, 1) := by decide +kernel
theorem dX4_requireSetting_20 : decode cX4_requireSetting 20 = .ok (.return_, 1) := by decide +kernel
theorem dX4_requirePressure_0 : decode cX4_requirePressure 0 = .ok (.iload_n 0, 1) := by decide +kernel
theorem dX4_requirePressure_1 : decode cX4_requirePressure 1 = .ok (.iconst 4, 1) := by decide +kernel
theorem dX4_requirePressure_2 : decode cX4_requirePressure 2 = .ok (.bipush 24, 2) := by decide +kernel
theorem dX4_requirePressure_4 : decode cX4_requirePressure 4 = .ok (.invokestatic 34, 3) := by decide +kernel
theorem dX4_requirePressure_7 : decode cX4_requirePressure 7 = .ok (.ifCond .ne 14, 3) := by decide +kernel
theorem dX4_requirePressure_10 : decode cX4_requirePressure 10 = .ok (.new 38, 3) := by decide +kernel
theorem dX4_requirePressure_13 : decode cX4_requirePressure 13 = .ok (.dup, 1) := by decide +kernel
theorem dX4_requirePressure_14 : decode cX4_requirePressure 14 = .ok (.ldc_w 301, 3) := by decide +kernel
theorem dX4_requirePressure_17 : decode cX4_requirePressure 17 = .ok (.invokespecial 42, 3) := by decide +kernel
theorem dX4_requirePressure_20 : decode cX4_requirePressure 20 = .ok (.athrow, 1) := by decide +kernel
theorem dX4_requirePressure_21 : decode cX4_requirePressure 21 = .ok (.return_, 1) := by decide +kernel
theorem dX4_leastOfSetting_0 : decode cX4_leastOfSetting 0 = .ok (.iload_n 0, 1) := by decide +kernel
theorem dX4_leastOfSetting_1 : decode cX4_leastOfSetting 1 = .ok (.ifCond .ne 7, 3) := by decide +kernel
theorem dX4_leastOfSetting_4 : decode cX4_leastOfSetting 4 = .ok (.iconst 4, 1) := by decide +kernel
theorem dX4_leastOfSetting_5 : decode cX4_leastOfSetting 5 = .ok (.goto 4, 3) := by decide +kernel
theorem dX4_leastOfSetting_8 : decode cX4_leastOfSetting 8 = .ok (.iconst 0, 1) := by decide +kernel
theorem dX4_leastOfSetting_9 : decode cX4_leastOfSetting 9 = .ok (.ireturn, 1) := by decide +kernel
theorem dX4_greatestOfSetting_0 : decode cX4_greatestOfSetting 0 = .ok (.iload_n 0, 1) := by decide +kernel
theorem dX4_greatestOfSetting_1 : decode cX4_greatestOfSetting 1 = .ok (.lookupswitch 32 #[(0, 27), (1, 30)], 27) := by decide +kernel
theorem dX4_greatestOfSetting_28 : decode cX4_greatestOfSetting 28 = .ok (.bipush 24, 2) := by decide +kernel
theorem dX4_greatestOfSetting_30 : decode cX4_greatestOfSetting 30 = .ok (.ireturn, 1) := by decide +kernel
theorem dX4_greatestOfSetting_31 : decode cX4_greatestOfSetting 31 = .ok (.iconst 5, 1) := by decide +kernel
theorem dX4_greatestOfSetting_32 : decode cX4_greatestOfSetting 32 = .ok (.ireturn, 1) := by decide +kernel
theorem dX4_greatestOfSetting_33 : decode cX4_greatestOfSetting 33 = .ok (.sipush 200, 3) := by decide +kernel
theorem dX4_greatestOfSetting_36 : decode cX4_greatestOfSetting 36 = .ok (.ireturn, 1) := by decide +kernel
theorem dX4_saveState_0 : decode cX4_saveState 0 = .ok (.aload_n 0, 1) := by decide +kernel
theorem dX4_saveState_1 : decode cX4_saveState 1 = .ok (.aload_n 0, 1) := by decide +kernel
theorem dX4_saveState_2 : decode cX4_saveState 2 = .ok (.getfield 20, 3) := by decide +kernel
theorem dX4_saveState_5 : decode cX4_saveState 5 = .ok (.iconst 5, 1) := by decide +kernel
theorem dX4_saveState_6 : decode cX4_saveState 6 = .ok (.if_icmp .lt 7, 3) := by decide +kernel
theorem dX4_saveState_9 : decode cX4_saveState 9 = .ok (.iconst 0, 1) := by decide +kernel
theorem dX4_saveState_10 : decode cX4_saveState 10 = .ok (.goto 9, 3) := by decide +kernel
theorem dX4_saveState_13 : decode cX4_saveState 13 = .ok (.aload_n 0, 1) := by decide +kernel
theorem dX4_saveState_14 : decode cX4_saveState 14 = .ok (.getfield 20, 3) := by decide +kernel
theorem dX4_saveState_17 : decode cX4_saveState 17 = .ok (.iconst 1, 1) := by decide +kernel
theorem dX4_saveState_18 : decode cX4_saveState 18 = .ok (.iadd, 1) := by decide +kernel
theorem dX4_saveState_19 : decode cX4_saveState 19 = .ok (.putfield 20, 3) := by decide +kernel
theorem dX4_saveState_22 : decode cX4_saveState 22 = .ok (.aload_n 0, 1) := by decide +kernel
theorem dX4_saveState_23 : decode cX4_saveState 23 = .ok (.getfield 16, 3) := by decide +kernel
theorem dX4_saveState_26 : decode cX4_saveState 26 = .ok (.aload_n 0, 1) := by decide +kernel
theorem dX4_saveState_27 : decode cX4_saveState 27 = .ok (.getfield 20, 3) := by decide +kernel
theorem dX4_saveState_30 : decode cX4_saveState 30 = .ok (.aaload, 1) := by decide +kernel
theorem dX4_saveState_31 : decode cX4_saveState 31 = .ok (.astore_n 1, 1) := by decide +kernel
theorem dX4_saveState_32 : decode cX4_saveState 32 = .ok (.aload_n 1, 1) := by decide +kernel
theorem dX4_saveState_33 : decode cX4_saveState 33 = .ok (.ifnull 11, 3) := by decide +kernel
theorem dX4_saveState_36 : decode cX4_saveState 36 = .ok (.aload_n 1, 1) := by decide +kernel
theorem dX4_saveState_37 : decode cX4_saveState 37 = .ok (.aload_n 0, 1) := by decide +kernel
theorem dX4_saveState_38 : decode cX4_saveState 38 = .ok (.getfield 10, 3) := by decide +kernel
theorem dX4_saveState_41 : decode cX4_saveState 41 = .ok (.invokevirtual 158, 3) := by decide +kernel
theorem dX4_saveState_44 : decode cX4_saveState 44 = .ok (.aload_n 0, 1) := by decide +kernel
theorem dX4_saveState_45 : decode cX4_saveState 45 = .ok (.getfield 24, 3) := by decide +kernel
theorem dX4_saveState_48 : decode cX4_saveState 48 = .ok (.bipush 6, 2) := by decide +kernel
theorem dX4_saveState_50 : decode cX4_saveState 50 = .ok (.if_icmp .ge 13, 3) := by decide +kernel
theorem dX4_saveState_53 : decode cX4_saveState 53 = .ok (.aload_n 0, 1) := by decide +kernel
theorem dX4_saveState_54 : decode cX4_saveState 54 = .ok (.dup, 1) := by decide +kernel
theorem dX4_saveState_55 : decode cX4_saveState 55 = .ok (.getfield 24, 3) := by decide +kernel
theorem dX4_saveState_58 : decode cX4_saveState 58 = .ok (.iconst 1, 1) := by decide +kernel
theorem dX4_saveState_59 : decode cX4_saveState 59 = .ok (.iadd, 1) := by decide +kernel
theorem dX4_saveState_60 : decode cX4_saveState 60 = .ok (.putfield 24, 3) := by decide +kernel
theorem dX4_saveState_63 : decode cX4_saveState 63 = .ok (.return_, 1) := by decide +kernel
theorem dJ9_max_7cf53_0 : decode cJ9_max_7cf53 0 = .ok (.iload_n 0, 1) := by decide +kernel
theorem dJ9_max_7cf53_1 : decode cJ9_max_7cf53 1 = .ok (.iload_n 1, 1) := by decide +kernel
theorem dJ9_max_7cf53_2 : decode cJ9_max_7cf53 2 = .ok (.if_icmp .lt 7, 3) := by decide +kernel
theorem dJ9_max_7cf53_5 : decode cJ9_max_7cf53 5 = .ok (.iload_n 0, 1) := by decide +kernel
theorem dJ9_max_7cf53_6 : decode cJ9_max_7cf53 6 = .ok (.goto 4, 3) := by decide +kernel
theorem dJ9_max_7cf53_9 : decode cJ9_max_7cf53 9 = .ok (.iload_n 1, 1) := by decide +kernel
theorem dJ9_max_7cf53_10 : decode cJ9_max_7cf53 10 = .ok (.ireturn, 1) := by decide +kernel
theorem dJ9_min_7cf53_0 : decode cJ9_min_7cf53 0 = .ok (.iload_n 0, 1) := by decide +kernel
theorem dJ9_min_7cf53_1 : decode cJ9_min_7cf53 1 = .ok (.iload_n 1, 1) := by decide +kernel
theorem dJ9_min_7cf53_2 : decode cJ9_min_7cf53 2 = .ok (.if_icmp .gt 7, 3) := by decide +kernel
theorem dJ9_min_7cf53_5 : decode cJ9_min_7cf53 5 = .ok (.iload_n 0, 1) := by decide +kernel
theorem dJ9_min_7cf53_6 : decode cJ9_min_7cf53 6 = .ok (.goto 4, 3) := by decide +kernel
theorem dJ9_min_7cf53_9 : decode cJ9_min_7cf53 9 = .ok (.iload_n 1, 1) := by decide +kernel
theorem dJ9_min_7cf53_10 : decode cJ9_min_7cf53 10 = .ok (.ireturn, 1) := by decide +kernel
theorem dL_low_0 : decode cL_low 0 = .ok (.iload_n 0, 1) := by decide +kernel
theorem dL_low_1 : decode cL_low 1 = .ok (.ldc 7, 2) := by decide +kernel
theorem dL_low_3 : decode cL_low 3 = .ok (.iand, 1) := by decide +kernel
theorem dL_low_4 : decode cL_low 4 = .ok (.iload_n 1, 1) := by decide +kernel
theorem dL_low_5 : decode cL_low 5 = .ok (.irem, 1) := by decide +kernel
theorem dL_low_6 : decode cL_low 6 = .ok (.ireturn, 1) := by decide +kernel
theorem dL_cell_0 : decode cL_cell 0 = .ok (.iload_n 1, 1) := by decide +kernel
theorem dL_cell_1 : decode cL_cell 1 = .ok (.aload_n 0, 1) := by decide +kernel
theorem dL_cell_2 : decode cL_cell 2 = .ok (.arraylength, 1) := by decide +kernel
theorem dL_cell_3 : decode cL_cell 3 = .ok (.if_icmp .ge 9, 3) := by decide +kernel
theorem dL_cell_6 : decode cL_cell 6 = .ok (.aload_n 0, 1) := by decide +kernel
theorem dL_cell_7 : decode cL_cell 7 = .ok (.iload_n 1, 1) := by decide +kernel
theorem dL_cell_8 : decode cL_cell 8 = .ok (.iaload, 1) := by decide +kernel
theorem dL_cell_9 : decode cL_cell 9 = .ok (.goto 11, 3) := by decide +kernel
theorem dL_cell_12 : decode cL_cell 12 = .ok (.ldc 8, 2) := by decide +kernel
theorem dL_cell_14 : decode cL_cell 14 = .ok (.iload_n 1, 1) := by decide +kernel
theorem dL_cell_15 : decode cL_cell 15 = .ok (.imul, 1) := by decide +kernel
theorem dL_cell_16 : decode cL_cell 16 = .ok (.sipush 977, 3) := by decide +kernel
theorem dL_cell_19 : decode cL_cell 19 = .ok (.iadd, 1) := by decide +kernel
theorem dL_cell_20 : decode cL_cell 20 = .ok (.ireturn, 1) := by decide +kernel
theorem dL_buy_0 : decode cL_buy 0 = .ok (.aload_n 0, 1) := by decide +kernel
theorem dL_buy_1 : decode cL_buy 1 = .ok (.iload_n 1, 1) := by decide +kernel
theorem dL_buy_2 : decode cL_buy 2 = .ok (.iload_n 2, 1) := by decide +kernel
theorem dL_buy_3 : decode cL_buy 3 = .ok (.iload_n 3, 1) := by decide +kernel
theorem dL_buy_4 : decode cL_buy 4 = .ok (.invokevirtual 9, 3) := by decide +kernel
theorem dL_buy_7 : decode cL_buy 7 = .ok (.ireturn, 1) := by decide +kernel
theorem dL_buy_8 : decode cL_buy 8 = .ok (.astore 4, 2) := by decide +kernel
theorem dL_buy_10 : decode cL_buy 10 = .ok (.bipush (-3), 2) := by decide +kernel
theorem dL_buy_12 : decode cL_buy 12 = .ok (.ireturn, 1) := by decide +kernel
theorem dL_renew_0 : decode cL_renew 0 = .ok (.aload_n 0, 1) := by decide +kernel
theorem dL_renew_1 : decode cL_renew 1 = .ok (.iload_n 1, 1) := by decide +kernel
theorem dL_renew_2 : decode cL_renew 2 = .ok (.invokevirtual 17, 3) := by decide +kernel
theorem dL_renew_5 : decode cL_renew 5 = .ok (.ireturn, 1) := by decide +kernel
theorem dL_renew_6 : decode cL_renew 6 = .ok (.astore_n 2, 1) := by decide +kernel
theorem dL_renew_7 : decode cL_renew 7 = .ok (.bipush (-3), 2) := by decide +kernel
theorem dL_renew_9 : decode cL_renew 9 = .ok (.ireturn, 1) := by decide +kernel
theorem dL_put_0 : decode cL_put 0 = .ok (.aload_n 0, 1) := by decide +kernel
theorem dL_put_1 : decode cL_put 1 = .ok (.iload_n 1, 1) := by decide +kernel
theorem dL_put_2 : decode cL_put 2 = .ok (.iload_n 2, 1) := by decide +kernel
theorem dL_put_3 : decode cL_put 3 = .ok (.invokevirtual 21, 3) := by decide +kernel
theorem dL_put_6 : decode cL_put 6 = .ok (.ireturn, 1) := by decide +kernel
theorem dL_put_7 : decode cL_put 7 = .ok (.astore_n 3, 1) := by decide +kernel
theorem dL_put_8 : decode cL_put 8 = .ok (.bipush (-3), 2) := by decide +kernel
theorem dL_put_10 : decode cL_put 10 = .ok (.ireturn, 1) := by decide +kernel
theorem dL_lend_0 : decode cL_lend 0 = .ok (.aload_n 0, 1) := by decide +kernel
theorem dL_lend_1 : decode cL_lend 1 = .ok (.iload_n 1, 1) := by decide +kernel
theorem dL_lend_2 : decode cL_lend 2 = .ok (.iload_n 2, 1) := by decide +kernel
theorem dL_lend_3 : decode cL_lend 3 = .ok (.invokevirtual 25, 3) := by decide +kernel
theorem dL_lend_6 : decode cL_lend 6 = .ok (.ireturn, 1) := by decide +kernel
theorem dL_lend_7 : decode cL_lend 7 = .ok (.astore_n 3, 1) := by decide +kernel
theorem dL_lend_8 : decode cL_lend 8 = .ok (.bipush (-3), 2) := by decide +kernel
theorem dL_lend_10 : decode cL_lend 10 = .ok (.ireturn, 1) := by decide +kernel
theorem dL_test_0 : decode cL_test 0 = .ok (.aload_n 0, 1) := by decide +kernel
theorem dL_test_1 : decode cL_test 1 = .ok (.iload_n 1, 1) := by decide +kernel
theorem dL_test_2 : decode cL_test 2 = .ok (.iload_n 2, 1) := by decide +kernel
theorem dL_test_3 : decode cL_test 3 = .ok (.invokevirtual 28, 3) := by decide +kernel
theorem dL_test_6 : decode cL_test 6 = .ok (.ireturn, 1) := by decide +kernel
theorem dL_test_7 : decode cL_test 7 = .ok (.astore_n 3, 1) := by decide +kernel
theorem dL_test_8 : decode cL_test 8 = .ok (.bipush (-3), 2) := by decide +kernel
theorem dL_test_10 : decode cL_test 10 = .ok (.ireturn, 1) := by decide +kernel
theorem dL_undo_0 : decode cL_undo 0 = .ok (.aload_n 0, 1) := by decide +kernel
theorem dL_undo_1 : decode cL_undo 1 = .ok (.invokevirtual 31, 3) := by decide +kernel
theorem dL_undo_4 : decode cL_undo 4 = .ok (.ireturn, 1) := by decide +kernel
theorem dL_undo_5 : decode cL_undo 5 = .ok (.astore_n 1, 1) := by decide +kernel
theorem dL_undo_6 : decode cL_undo 6 = .ok (.bipush (-3), 2) := by decide +kernel
theorem dL_undo_8 : decode cL_undo 8 = .ok (.ireturn, 1) := by decide +kernel
theorem dL_station_0 : decode cL_station 0 = .ok (.aload_n 0, 1) := by decide +kernel
theorem dL_station_1 : decode cL_station 1 = .ok (.iconst 2, 1) := by decide +kernel
theorem dL_station_2 : decode cL_station 2 = .ok (.invokevirtual 35, 3) := by decide +kernel
theorem dL_station_5 : decode cL_station 5 = .ok (.istore_n 1, 1) := by decide +kernel
theorem dL_station_6 : decode cL_station 6 = .ok (.aload_n 0, 1) := by decide +kernel
theorem dL_station_7 : decode cL_station 7 = .ok (.iconst 0, 1) := by decide +kernel
theorem dL_station_8 : decode cL_station 8 = .ok (.invokevirtual 35, 3) := by decide +kernel
theorem dL_station_11 : decode cL_station 11 = .ok (.istore_n 2, 1) := by decide +kernel
theorem dL_station_12 : decode cL_station 12 = .ok (.iconst 0, 1) := by decide +kernel
theorem dL_station_13 : decode cL_station 13 = .ok (.istore_n 3, 1) := by decide +kernel
theorem dL_station_14 : decode cL_station 14 = .ok (.iconst 0, 1) := by decide +kernel
theorem dL_station_15 : decode cL_station 15 = .ok (.istore 4, 2) := by decide +kernel
theorem dL_station_17 : decode cL_station 17 = .ok (.iconst 0, 1) := by decide +kernel
theorem dL_station_18 : decode cL_station 18 = .ok (.istore 5, 2) := by decide +kernel
theorem dL_station_20 : decode cL_station 20 = .ok (.iconst 0, 1) := by decide +kernel
theorem dL_station_21 : decode cL_station 21 = .ok (.istore 6, 2) := by decide +kernel
theorem dL_station_23 : decode cL_station 23 = .ok (.iload_n 1, 1) := by decide +kernel
theorem dL_station_24 : decode cL_station 24 = .ok (.bipush 14, 2) := by decide +kernel
theorem dL_station_26 : decode cL_station 26 = .ok (.if_icmp .gt 41, 3) := by decide +kernel
theorem dL_station_29 : decode cL_station 29 = .ok (.aload_n 0, 1) := by decide +kernel
theorem dL_station_30 : decode cL_station 30 = .ok (.bipush 8, 2) := by decide +kernel
theorem dL_station_32 : decode cL_station 32 = .ok (.invokevirtual 35, 3) := by decide +kernel
theorem dL_station_35 : decode cL_station 35 = .ok (.aload_n 0, 1) := by decide +kernel
theorem dL_station_36 : decode cL_station 36 = .ok (.bipush 7, 2) := by decide +kernel
theorem dL_station_38 : decode cL_station 38 = .ok (.invokevirtual 35, 3) := by decide +kernel
theorem dL_station_41 : decode cL_station 41 = .ok (.if_icmp .gt 26, 3) := by decide +kernel
theorem dL_station_44 : decode cL_station 44 = .ok (.aload_n 0, 1) := by decide +kernel
theorem dL_station_45 : decode cL_station 45 = .ok (.iconst 1, 1) := by decide +kernel
theorem dL_station_46 : decode cL_station 46 = .ok (.invokevirtual 35, 3) := by decide +kernel
theorem dL_station_49 : decode cL_station 49 = .ok (.ifCond .lt 18, 3) := by decide +kernel
theorem dL_station_52 : decode cL_station 52 = .ok (.aload_n 0, 1) := by decide +kernel
theorem dL_station_53 : decode cL_station 53 = .ok (.iconst 1, 1) := by decide +kernel
theorem dL_station_54 : decode cL_station 54 = .ok (.invokevirtual 35, 3) := by decide +kernel
theorem dL_station_57 : decode cL_station 57 = .ok (.sipush 9999, 3) := by decide +kernel
theorem dL_station_60 : decode cL_station 60 = .ok (.if_icmp .gt 7, 3) := by decide +kernel
theorem dL_station_63 : decode cL_station 63 = .ok (.iconst 1, 1) := by decide +kernel
theorem dL_station_64 : decode cL_station 64 = .ok (.goto 4, 3) := by decide +kernel
theorem dL_station_67 : decode cL_station 67 = .ok (.iconst 0, 1) := by decide +kernel
theorem dL_station_68 : decode cL_station 68 = .ok (.istore 7, 2) := by decide +kernel
theorem dL_station_70 : decode cL_station 70 = .ok (.iconst 0, 1) := by decide +kernel
theorem dL_station_71 : decode cL_station 71 = .ok (.istore 8, 2) := by decide +kernel
theorem dL_station_73 : decode cL_station 73 = .ok (.iload 8, 2) := by decide +kernel
theorem dL_station_75 : decode cL_station 75 = .ok (.iload_n 1, 1) := by decide +kernel
theorem dL_station_76 : decode cL_station 76 = .ok (.if_icmp .ge 312, 3) := by decide +kernel
theorem dL_station_79 : decode cL_station 79 = .ok (.iload 7, 2) := by decide +kernel
theorem dL_station_81 : decode cL_station 81 = .ok (.ifCond .eq 307, 3) := by decide +kernel
theorem dL_station_84 : decode cL_station 84 = .ok (.aload_n 0, 1) := by decide +kernel
theorem dL_station_85 : decode cL_station 85 = .ok (.iload 8, 2) := by decide +kernel
theorem dL_station_87 : decode cL_station 87 = .ok (.bipush 7, 2) := by decide +kernel
theorem dL_station_89 : decode cL_station 89 = .ok (.invokevirtual 38, 3) := by decide +kernel
theorem dL_station_92 : decode cL_station 92 = .ok (.istore 9, 2) := by decide +kernel
theorem dL_station_94 : decode cL_station 94 = .ok (.aload_n 0, 1) := by decide +kernel
theorem dL_station_95 : decode cL_station 95 = .ok (.iload 8, 2) := by decide +kernel
theorem dL_station_97 : decode cL_station 97 = .ok (.bipush 9, 2) := by decide +kernel
theorem dL_station_99 : decode cL_station 99 = .ok (.invokevirtual 38, 3) := by decide +kernel
theorem dL_station_102 : decode cL_station 102 = .ok (.istore 10, 2) := by decide +kernel
theorem dL_station_104 : decode cL_station 104 = .ok (.aload_n 0, 1) := by decide +kernel
theorem dL_station_105 : decode cL_station 105 = .ok (.iload 8, 2) := by decide +kernel
theorem dL_station_107 : decode cL_station 107 = .ok (.invokevirtual 41, 3) := by decide +kernel
theorem dL_station_110 : decode cL_station 110 = .ok (.istore 11, 2) := by decide +kernel
theorem dL_station_112 : decode cL_station 112 = .ok (.iload_n 3, 1) := by decide +kernel
theorem dL_station_113 : decode cL_station 113 = .ok (.iload 10, 2) := by decide +kernel
theorem dL_station_115 : decode cL_station 115 = .ok (.iconst 1, 1) := by decide +kernel
theorem dL_station_116 : decode cL_station 116 = .ok (.if_icmp .ne 7, 3) := by decide +kernel
theorem dL_station_119 : decode cL_station 119 = .ok (.iconst 1, 1) := by decide +kernel
theorem dL_station_120 : decode cL_station 120 = .ok (.goto 4, 3) := by decide +kernel
theorem dL_station_123 : decode cL_station 123 = .ok (.iconst 0, 1) := by decide +kernel
theorem dL_station_124 : decode cL_station 124 = .ok (.iadd, 1) := by decide +kernel
theorem dL_station_125 : decode cL_station 125 = .ok (.istore_n 3, 1) := by decide +kernel
theorem dL_station_126 : decode cL_station 126 = .ok (.iload 4, 2) := by decide +kernel
theorem dL_station_128 : decode cL_station 128 = .ok (.iload 10, 2) := by decide +kernel
theorem dL_station_130 : decode cL_station 130 = .ok (.ifCond .ne 7, 3) := by decide +kernel
theorem dL_station_133 : decode cL_station 133 = .ok (.iconst 1, 1) := by decide +kernel
theorem dL_station_134 : decode cL_station 134 = .ok (.goto 4, 3) := by decide +kernel
theorem dL_station_137 : decode cL_station 137 = .ok (.iconst 0, 1) := by decide +kernel
theorem dL_station_138 : decode cL_station 138 = .ok (.iadd, 1) := by decide +kernel
theorem dL_station_139 : decode cL_station 139 = .ok (.istore 4, 2) := by decide +kernel
theorem dL_station_141 : decode cL_station 141 = .ok (.iload 5, 2) := by decide +kernel
theorem dL_station_143 : decode cL_station 143 = .ok (.iload 10, 2) := by decide +kernel
theorem dL_station_145 : decode cL_station 145 = .ok (.iconst 2, 1) := by decide +kernel
theorem dL_station_146 : decode cL_station 146 = .ok (.if_icmp .ne 7, 3) := by decide +kernel
theorem dL_station_149 : decode cL_station 149 = .ok (.iconst 1, 1) := by decide +kernel
theorem dL_station_150 : decode cL_station 150 = .ok (.goto 4, 3) := by decide +kernel
theorem dL_station_153 : decode cL_station 153 = .ok (.iconst 0, 1) := by decide +kernel
theorem dL_station_154 : decode cL_station 154 = .ok (.iadd, 1) := by decide +kernel
theorem dL_station_155 : decode cL_station 155 = .ok (.istore 5, 2) := by decide +kernel
theorem dL_station_157 : decode cL_station 157 = .ok (.iload 10, 2) := by decide +kernel
theorem dL_station_159 : decode cL_station 159 = .ok (.iconst 1, 1) := by decide +kernel
theorem dL_station_160 : decode cL_station 160 = .ok (.if_icmp .ne 7, 3) := by decide +kernel
theorem dL_station_163 : decode cL_station 163 = .ok (.iconst 1, 1) := by decide +kernel
theorem dL_station_164 : decode cL_station 164 = .ok (.goto 4, 3) := by decide +kernel
theorem dL_station_167 : decode cL_station 167 = .ok (.iconst 0, 1) := by decide +kernel
theorem dL_station_168 : decode cL_station 168 = .ok (.iload 9, 2) := by decide +kernel
theorem dL_station_170 : decode cL_station 170 = .ok (.iconst (-1), 1) := by decide +kernel
theorem dL_station_171 : decode cL_station 171 = .ok (.if_icmp .ne 7, 3) := by decide +kernel
theorem dL_station_174 : decode cL_station 174 = .ok (.iconst 1, 1) := by decide +kernel
theorem dL_station_175 : decode cL_station 175 = .ok (.goto 4, 3) := by decide +kernel
theorem dL_station_178 : decode cL_station 178 = .ok (.iconst 0, 1) := by decide +kernel
theorem dL_station_179 : decode cL_station 179 = .ok (.if_icmp .ne 200, 3) := by decide +kernel
theorem dL_station_182 : decode cL_station 182 = .ok (.iload 10, 2) := by decide +kernel
theorem dL_station_184 : decode cL_station 184 = .ok (.iconst 2, 1) := by decide +kernel
theorem dL_station_185 : decode cL_station 185 = .ok (.if_icmp .ne 7, 3) := by decide +kernel
theorem dL_station_188 : decode cL_station 188 = .ok (.iconst 1, 1) := by decide +kernel
theorem dL_station_189 : decode cL_station 189 = .ok (.goto 4, 3) := by decide +kernel
theorem dL_station_192 : decode cL_station 192 = .ok (.iconst 0, 1) := by decide +kernel
theorem dL_station_193 : decode cL_station 193 = .ok (.iload 9, 2) := by decide +kernel
theorem dL_station_195 : decode cL_station 195 = .ok (.iconst 4, 1) := by decide +kernel
theorem dL_station_196 : decode cL_station 196 = .ok (.if_icmp .ne 7, 3) := by decide +kernel
theorem dL_station_199 : decode cL_station 199 = .ok (.iconst 1, 1) := by decide +kernel
theorem dL_station_200 : decode cL_station 200 = .ok (.goto 4, 3) := by decide +kernel
theorem dL_station_203 : decode cL_station 203 = .ok (.iconst 0, 1) := by decide +kernel
theorem dL_station_204 : decode cL_station 204 = .ok (.if_icmp .ne 175, 3) := by decide +kernel
theorem dL_station_207 : decode cL_station 207 = .ok (.aload_n 0, 1) := by decide +kernel
theorem dL_station_208 : decode cL_station 208 = .ok (.iload 8, 2) := by decide +kernel
theorem dL_station_210 : decode cL_station 210 = .ok (.bipush 8, 2) := by decide +kernel
theorem dL_station_212 : decode cL_station 212 = .ok (.invokevirtual 38, 3) := by decide +kernel
theorem dL_station_215 : decode cL_station 215 = .ok (.iconst (-1), 1) := by decide +kernel
theorem dL_station_216 : decode cL_station 216 = .ok (.if_icmp .ne 7, 3) := by decide +kernel
theorem dL_station_219 : decode cL_station 219 = .ok (.iconst 1, 1) := by decide +kernel
theorem dL_station_220 : decode cL_station 220 = .ok (.goto 4, 3) := by decide +kernel
theorem dL_station_223 : decode cL_station 223 = .ok (.iconst 0, 1) := by decide +kernel
theorem dL_station_224 : decode cL_station 224 = .ok (.iload 9, 2) := by decide +kernel
theorem dL_station_226 : decode cL_station 226 = .ok (.iconst 4, 1) := by decide +kernel
theorem dL_station_227 : decode cL_station 227 = .ok (.if_icmp .eq 7, 3) := by decide +kernel
theorem dL_station_230 : decode cL_station 230 = .ok (.iconst 1, 1) := by decide +kernel
theorem dL_station_231 : decode cL_station 231 = .ok (.goto 4, 3) := by decide +kernel
theorem dL_station_234 : decode cL_station 234 = .ok (.iconst 0, 1) := by decide +kernel
theorem dL_station_235 : decode cL_station 235 = .ok (.if_icmp .ne 144, 3) := by decide +kernel
theorem dL_station_238 : decode cL_station 238 = .ok (.iload 9, 2) := by decide +kernel
theorem dL_station_240 : decode cL_station 240 = .ok (.iconst 4, 1) := by decide +kernel
theorem dL_station_241 : decode cL_station 241 = .ok (.if_icmp .ne 15, 3) := by decide +kernel
theorem dL_station_244 : decode cL_station 244 = .ok (.aload_n 0, 1) := by decide +kernel
theorem dL_station_245 : decode cL_station 245 = .ok (.iload 8, 2) := by decide +kernel
theorem dL_station_247 : decode cL_station 247 = .ok (.bipush 8, 2) := by decide +kernel
theorem dL_station_249 : decode cL_station 249 = .ok (.invokevirtual 38, 3) := by decide +kernel
theorem dL_station_252 : decode cL_station 252 = .ok (.iload_n 2, 1) := by decide +kernel
theorem dL_station_253 : decode cL_station 253 = .ok (.if_icmp .le 126, 3) := by decide +kernel
theorem dL_station_256 : decode cL_station 256 = .ok (.aload_n 0, 1) := by decide +kernel
theorem dL_station_257 : decode cL_station 257 = .ok (.iload 8, 2) := by decide +kernel
theorem dL_station_259 : decode cL_station 259 = .ok (.iconst 4, 1) := by decide +kernel
theorem dL_station_260 : decode cL_station 260 = .ok (.invokevirtual 38, 3) := by decide +kernel
theorem dL_station_263 : decode cL_station 263 = .ok (.ifCond .lt 116, 3) := by decide +kernel
theorem dL_station_266 : decode cL_station 266 = .ok (.aload_n 0, 1) := by decide +kernel
theorem dL_station_267 : decode cL_station 267 = .ok (.iload 8, 2) := by decide +kernel
theorem dL_station_269 : decode cL_station 269 = .ok (.iconst 4, 1) := by decide +kernel
theorem dL_station_270 : decode cL_station 270 = .ok (.invokevirtual 38, 3) := by decide +kernel
theorem dL_station_273 : decode cL_station 273 = .ok (.bipush 99, 2) := by decide +kernel
theorem dL_station_275 : decode cL_station 275 = .ok (.if_icmp .gt 104, 3) := by decide +kernel
theorem dL_station_278 : decode cL_station 278 = .ok (.aload_n 0, 1) := by decide +kernel
theorem dL_station_279 : decode cL_station 279 = .ok (.iload 8, 2) := by decide +kernel
theorem dL_station_281 : decode cL_station 281 = .ok (.iconst 5, 1) := by decide +kernel
theorem dL_station_282 : decode cL_station 282 = .ok (.invokevirtual 38, 3) := by decide +kernel
theorem dL_station_285 : decode cL_station 285 = .ok (.ifCond .lt 94, 3) := by decide +kernel
theorem dL_station_288 : decode cL_station 288 = .ok (.aload_n 0, 1) := by decide +kernel
theorem dL_station_289 : decode cL_station 289 = .ok (.iload 8, 2) := by decide +kernel
theorem dL_station_291 : decode cL_station 291 = .ok (.iconst 5, 1) := by decide +kernel
theorem dL_station_292 : decode cL_station 292 = .ok (.invokevirtual 38, 3) := by decide +kernel
theorem dL_station_295 : decode cL_station 295 = .ok (.bipush 24, 2) := by decide +kernel
theorem dL_station_297 : decode cL_station 297 = .ok (.if_icmp .gt 82, 3) := by decide +kernel
theorem dL_station_300 : decode cL_station 300 = .ok (.iload 10, 2) := by decide +kernel
theorem dL_station_302 : decode cL_station 302 = .ok (.ifCond .ne 15, 3) := by decide +kernel
theorem dL_station_305 : decode cL_station 305 = .ok (.aload_n 0, 1) := by decide +kernel
theorem dL_station_306 : decode cL_station 306 = .ok (.iload 8, 2) := by decide +kernel
theorem dL_station_308 : decode cL_station 308 = .ok (.bipush 6, 2) := by decide +kernel
theorem dL_station_310 : decode cL_station 310 = .ok (.invokevirtual 38, 3) := by decide +kernel
theorem dL_station_313 : decode cL_station 313 = .ok (.iload_n 2, 1) := by decide +kernel
theorem dL_station_314 : decode cL_station 314 = .ok (.if_icmp .lt 65, 3) := by decide +kernel
theorem dL_station_317 : decode cL_station 317 = .ok (.iload 11, 2) := by decide +kernel
theorem dL_station_319 : decode cL_station 319 = .ok (.iconst (-1), 1) := by decide +kernel
theorem dL_station_320 : decode cL_station 320 = .ok (.if_icmp .eq 16, 3) := by decide +kernel
theorem dL_station_323 : decode cL_station 323 = .ok (.aload_n 0, 1) := by decide +kernel
theorem dL_station_324 : decode cL_station 324 = .ok (.iload 8, 2) := by decide +kernel
theorem dL_station_326 : decode cL_station 326 = .ok (.iload 11, 2) := by decide +kernel
theorem dL_station_328 : decode cL_station 328 = .ok (.invokevirtual 44, 3) := by decide +kernel
theorem dL_station_331 : decode cL_station 331 = .ok (.bipush 100, 2) := by decide +kernel
theorem dL_station_333 : decode cL_station 333 = .ok (.if_icmp .ge 46, 3) := by decide +kernel
theorem dL_station_336 : decode cL_station 336 = .ok (.iload 11, 2) := by decide +kernel
theorem dL_station_338 : decode cL_station 338 = .ok (.bipush 24, 2) := by decide +kernel
theorem dL_station_340 : decode cL_station 340 = .ok (.if_icmp .eq 24, 3) := by decide +kernel
theorem dL_station_343 : decode cL_station 343 = .ok (.iload 11, 2) := by decide +kernel
theorem dL_station_345 : decode cL_station 345 = .ok (.iconst (-1), 1) := by decide +kernel
theorem dL_station_346 : decode cL_station 346 = .ok (.if_icmp .eq 18, 3) := by decide +kernel
theorem dL_station_349 : decode cL_station 349 = .ok (.aload_n 0, 1) := by decide +kernel
theorem dL_station_350 : decode cL_station 350 = .ok (.iload 8, 2) := by decide +kernel
theorem dL_station_352 : decode cL_station 352 = .ok (.iload 11, 2) := by decide +kernel
theorem dL_station_354 : decode cL_station 354 = .ok (.iconst 1, 1) := by decide +kernel
theorem dL_station_355 : decode cL_station 355 = .ok (.iadd, 1) := by decide +kernel
theorem dL_station_356 : decode cL_station 356 = .ok (.invokevirtual 44, 3) := by decide +kernel
theorem dL_station_359 : decode cL_station 359 = .ok (.bipush 100, 2) := by decide +kernel
theorem dL_station_361 : decode cL_station 361 = .ok (.if_icmp .lt 18, 3) := by decide +kernel
theorem dL_station_364 : decode cL_station 364 = .ok (.iload 9, 2) := by decide +kernel
theorem dL_station_366 : decode cL_station 366 = .ok (.ifCond .ge 9, 3) := by decide +kernel
theorem dL_station_369 : decode cL_station 369 = .ok (.iload 11, 2) := by decide +kernel
theorem dL_station_371 : decode cL_station 371 = .ok (.iconst (-1), 1) := by decide +kernel
theorem dL_station_372 : decode cL_station 372 = .ok (.if_icmp .ne 7, 3) := by decide +kernel
theorem dL_station_375 : decode cL_station 375 = .ok (.iconst 1, 1) := by decide +kernel
theorem dL_station_376 : decode cL_station 376 = .ok (.goto 4, 3) := by decide +kernel
theorem dL_station_379 : decode cL_station 379 = .ok (.iconst 0, 1) := by decide +kernel
theorem dL_station_380 : decode cL_station 380 = .ok (.istore 7, 2) := by decide +kernel
theorem dL_station_382 : decode cL_station 382 = .ok (.iinc 8 1, 3) := by decide +kernel
theorem dL_station_385 : decode cL_station 385 = .ok (.goto (-312), 3) := by decide +kernel
theorem dL_station_388 : decode cL_station 388 = .ok (.iconst 0, 1) := by decide +kernel
theorem dL_station_389 : decode cL_station 389 = .ok (.istore 8, 2) := by decide +kernel
theorem dL_station_391 : decode cL_station 391 = .ok (.iload 8, 2) := by decide +kernel
theorem dL_station_393 : decode cL_station 393 = .ok (.iconst 3, 1) := by decide +kernel
theorem dL_station_394 : decode cL_station 394 = .ok (.if_icmp .ge 299, 3) := by decide +kernel
theorem dL_station_397 : decode cL_station 397 = .ok (.iload 7, 2) := by decide +kernel
theorem dL_station_399 : decode cL_station 399 = .ok (.ifCond .eq 294, 3) := by decide +kernel
theorem dL_station_402 : decode cL_station 402 = .ok (.iconst 0, 1) := by decide +kernel
theorem dL_station_403 : decode cL_station 403 = .ok (.istore 9, 2) := by decide +kernel
theorem dL_station_405 : decode cL_station 405 = .ok (.aload_n 0, 1) := by decide +kernel
theorem dL_station_406 : decode cL_station 406 = .ok (.iload 8, 2) := by decide +kernel
theorem dL_station_408 : decode cL_station 408 = .ok (.iconst 5, 1) := by decide +kernel
theorem dL_station_409 : decode cL_station 409 = .ok (.invokevirtual 47, 3) := by decide +kernel
theorem dL_station_412 : decode cL_station 412 = .ok (.istore 10, 2) := by decide +kernel
theorem dL_station_414 : decode cL_station 414 = .ok (.iconst 0, 1) := by decide +kernel
theorem dL_station_415 : decode cL_station 415 = .ok (.istore 11, 2) := by decide +kernel
theorem dL_station_417 : decode cL_station 417 = .ok (.iload 11, 2) := by decide +kernel
theorem dL_station_419 : decode cL_station 419 = .ok (.iload_n 1, 1) := by decide +kernel
theorem dL_station_420 : decode cL_station 420 = .ok (.if_icmp .ge 101, 3) := by decide +kernel
theorem dL_station_423 : decode cL_station 423 = .ok (.iload 7, 2) := by decide +kernel
theorem dL_station_425 : decode cL_station 425 = .ok (.ifCond .eq 96, 3) := by decide +kernel
theorem dL_station_428 : decode cL_station 428 = .ok (.iload 10, 2) := by decide +kernel
theorem dL_station_430 : decode cL_station 430 = .ok (.iload 11, 2) := by decide +kernel
theorem dL_station_432 : decode cL_station 432 = .ok (.ishr, 1) := by decide +kernel
theorem dL_station_433 : decode cL_station 433 = .ok (.iconst 1, 1) := by decide +kernel
theorem dL_station_434 : decode cL_station 434 = .ok (.iand, 1) := by decide +kernel
theorem dL_station_435 : decode cL_station 435 = .ok (.iconst 1, 1) := by decide +kernel
theorem dL_station_436 : decode cL_station 436 = .ok (.if_icmp .ne 7, 3) := by decide +kernel
theorem dL_station_439 : decode cL_station 439 = .ok (.iconst 1, 1) := by decide +kernel
theorem dL_station_440 : decode cL_station 440 = .ok (.goto 4, 3) := by decide +kernel
theorem dL_station_443 : decode cL_station 443 = .ok (.iconst 0, 1) := by decide +kernel
theorem dL_station_444 : decode cL_station 444 = .ok (.istore 12, 2) := by decide +kernel
theorem dL_station_446 : decode cL_station 446 = .ok (.iload 9, 2) := by decide +kernel
theorem dL_station_448 : decode cL_station 448 = .ok (.iload 12, 2) := by decide +kernel
theorem dL_station_450 : decode cL_station 450 = .ok (.ifCond .eq 13, 3) := by decide +kernel
theorem dL_station_453 : decode cL_station 453 = .ok (.aload_n 0, 1) := by decide +kernel
theorem dL_station_454 : decode cL_station 454 = .ok (.iload 11, 2) := by decide +kernel
theorem dL_station_456 : decode cL_station 456 = .ok (.iconst 1, 1) := by decide +kernel
theorem dL_station_457 : decode cL_station 457 = .ok (.invokevirtual 38, 3) := by decide +kernel
theorem dL_station_460 : decode cL_station 460 = .ok (.goto 4, 3) := by decide +kernel
theorem dL_station_463 : decode cL_station 463 = .ok (.iconst 0, 1) := by decide +kernel
theorem dL_station_464 : decode cL_station 464 = .ok (.iadd, 1) := by decide +kernel
theorem dL_station_465 : decode cL_station 465 = .ok (.istore 9, 2) := by decide +kernel
theorem dL_station_467 : decode cL_station 467 = .ok (.iload 12, 2) := by decide +kernel
theorem dL_station_469 : decode cL_station 469 = .ok (.ifCond .eq 39, 3) := by decide +kernel
theorem dL_station_472 : decode cL_station 472 = .ok (.aload_n 0, 1) := by decide +kernel
theorem dL_station_473 : decode cL_station 473 = .ok (.iload 11, 2) := by decide +kernel
theorem dL_station_475 : decode cL_station 475 = .ok (.bipush 9, 2) := by decide +kernel
theorem dL_station_477 : decode cL_station 477 = .ok (.invokevirtual 38, 3) := by decide +kernel
theorem dL_station_480 : decode cL_station 480 = .ok (.ifCond .ne 32, 3) := by decide +kernel
theorem dL_station_483 : decode cL_station 483 = .ok (.aload_n 0, 1) := by decide +kernel
theorem dL_station_484 : decode cL_station 484 = .ok (.iload 11, 2) := by decide +kernel
theorem dL_station_486 : decode cL_station 486 = .ok (.bipush 7, 2) := by decide +kernel
theorem dL_station_488 : decode cL_station 488 = .ok (.invokevirtual 38, 3) := by decide +kernel
theorem dL_station_491 : decode cL_station 491 = .ok (.iload 8, 2) := by decide +kernel
theorem dL_station_493 : decode cL_station 493 = .ok (.if_icmp .ne 19, 3) := by decide +kernel
theorem dL_station_496 : decode cL_station 496 = .ok (.aload_n 0, 1) := by decide +kernel
theorem dL_station_497 : decode cL_station 497 = .ok (.iload 11, 2) := by decide +kernel
theorem dL_station_499 : decode cL_station 499 = .ok (.bipush 6, 2) := by decide +kernel
theorem dL_station_501 : decode cL_station 501 = .ok (.invokevirtual 38, 3) := by decide +kernel
theorem dL_station_504 : decode cL_station 504 = .ok (.iload_n 2, 1) := by decide +kernel
theorem dL_station_505 : decode cL_station 505 = .ok (.if_icmp .lt 7, 3) := by decide +kernel
theorem dL_station_508 : decode cL_station 508 = .ok (.iconst 1, 1) := by decide +kernel
theorem dL_station_509 : decode cL_station 509 = .ok (.goto 4, 3) := by decide +kernel
theorem dL_station_512 : decode cL_station 512 = .ok (.iconst 0, 1) := by decide +kernel
theorem dL_station_513 : decode cL_station 513 = .ok (.istore 7, 2) := by decide +kernel
theorem dL_station_515 : decode cL_station 515 = .ok (.iinc 11 1, 3) := by decide +kernel
theorem dL_station_518 : decode cL_station 518 = .ok (.goto (-101), 3) := by decide +kernel
theorem dL_station_521 : decode cL_station 521 = .ok (.aload_n 0, 1) := by decide +kernel
theorem dL_station_522 : decode cL_station 522 = .ok (.iload 8, 2) := by decide +kernel
theorem dL_station_524 : decode cL_station 524 = .ok (.invokevirtual 50, 3) := by decide +kernel
theorem dL_station_527 : decode cL_station 527 = .ok (.istore 11, 2) := by decide +kernel
theorem dL_station_529 : decode cL_station 529 = .ok (.iload 6, 2) := by decide +kernel
theorem dL_station_531 : decode cL_station 531 = .ok (.aload_n 0, 1) := by decide +kernel
theorem dL_station_532 : decode cL_station 532 = .ok (.iload 8, 2) := by decide +kernel
theorem dL_station_534 : decode cL_station 534 = .ok (.bipush 6, 2) := by decide +kernel
theorem dL_station_536 : decode cL_station 536 = .ok (.invokevirtual 47, 3) := by decide +kernel
theorem dL_station_539 : decode cL_station 539 = .ok (.iadd, 1) := by decide +kernel
theorem dL_station_540 : decode cL_station 540 = .ok (.istore 6, 2) := by decide +kernel
theorem dL_station_542 : decode cL_station 542 = .ok (.iload 7, 2) := by decide +kernel
theorem dL_station_544 : decode cL_station 544 = .ok (.ifCond .eq 140, 3) := by decide +kernel
theorem dL_station_547 : decode cL_station 547 = .ok (.iload 10, 2) := by decide +kernel
theorem dL_station_549 : decode cL_station 549 = .ok (.iload_n 1, 1) := by decide +kernel
theorem dL_station_550 : decode cL_station 550 = .ok (.ishr, 1) := by decide +kernel
theorem dL_station_551 : decode cL_station 551 = .ok (.ifCond .ne 133, 3) := by decide +kernel
theorem dL_station_554 : decode cL_station 554 = .ok (.aload_n 0, 1) := by decide +kernel
theorem dL_station_555 : decode cL_station 555 = .ok (.iload 8, 2) := by decide +kernel
theorem dL_station_557 : decode cL_station 557 = .ok (.iconst 1, 1) := by decide +kernel
theorem dL_station_558 : decode cL_station 558 = .ok (.invokevirtual 47, 3) := by decide +kernel
theorem dL_station_561 : decode cL_station 561 = .ok (.iload 9, 2) := by decide +kernel
theorem dL_station_563 : decode cL_station 563 = .ok (.if_icmp .ne 121, 3) := by decide +kernel
theorem dL_station_566 : decode cL_station 566 = .ok (.aload_n 0, 1) := by decide +kernel
theorem dL_station_567 : decode cL_station 567 = .ok (.iload 8, 2) := by decide +kernel
theorem dL_station_569 : decode cL_station 569 = .ok (.iconst 4, 1) := by decide +kernel
theorem dL_station_570 : decode cL_station 570 = .ok (.invokevirtual 47, 3) := by decide +kernel
theorem dL_station_573 : decode cL_station 573 = .ok (.aload_n 0, 1) := by decide +kernel
theorem dL_station_574 : decode cL_station 574 = .ok (.iconst 1, 1) := by decide +kernel
theorem dL_station_575 : decode cL_station 575 = .ok (.invokevirtual 53, 3) := by decide +kernel
theorem dL_station_578 : decode cL_station 578 = .ok (.if_icmp .gt 106, 3) := by decide +kernel
theorem dL_station_581 : decode cL_station 581 = .ok (.aload_n 0, 1) := by decide +kernel
theorem dL_station_582 : decode cL_station 582 = .ok (.iload 8, 2) := by decide +kernel
theorem dL_station_584 : decode cL_station 584 = .ok (.bipush 6, 2) := by decide +kernel
theorem dL_station_586 : decode cL_station 586 = .ok (.invokevirtual 47, 3) := by decide +kernel
theorem dL_station_589 : decode cL_station 589 = .ok (.iconst 1, 1) := by decide +kernel
theorem dL_station_590 : decode cL_station 590 = .ok (.if_icmp .ne 7, 3) := by decide +kernel
theorem dL_station_593 : decode cL_station 593 = .ok (.iconst 1, 1) := by decide +kernel
theorem dL_station_594 : decode cL_station 594 = .ok (.goto 4, 3) := by decide +kernel
theorem dL_station_597 : decode cL_station 597 = .ok (.iconst 0, 1) := by decide +kernel
theorem dL_station_598 : decode cL_station 598 = .ok (.aload_n 0, 1) := by decide +kernel
theorem dL_station_599 : decode cL_station 599 = .ok (.iload 8, 2) := by decide +kernel
theorem dL_station_601 : decode cL_station 601 = .ok (.iconst 1, 1) := by decide +kernel
theorem dL_station_602 : decode cL_station 602 = .ok (.invokevirtual 47, 3) := by decide +kernel
theorem dL_station_605 : decode cL_station 605 = .ok (.aload_n 0, 1) := by decide +kernel
theorem dL_station_606 : decode cL_station 606 = .ok (.iload 8, 2) := by decide +kernel
theorem dL_station_608 : decode cL_station 608 = .ok (.iconst 0, 1) := by decide +kernel
theorem dL_station_609 : decode cL_station 609 = .ok (.invokevirtual 47, 3) := by decide +kernel
theorem dL_station_612 : decode cL_station 612 = .ok (.if_icmp .lt 7, 3) := by decide +kernel
theorem dL_station_615 : decode cL_station 615 = .ok (.iconst 1, 1) := by decide +kernel
theorem dL_station_616 : decode cL_station 616 = .ok (.goto 4, 3) := by decide +kernel
theorem dL_station_619 : decode cL_station 619 = .ok (.iconst 0, 1) := by decide +kernel
theorem dL_station_620 : decode cL_station 620 = .ok (.if_icmp .ne 64, 3) := by decide +kernel
theorem dL_station_623 : decode cL_station 623 = .ok (.aload_n 0, 1) := by decide +kernel
theorem dL_station_624 : decode cL_station 624 = .ok (.iload 8, 2) := by decide +kernel
theorem dL_station_626 : decode cL_station 626 = .ok (.iconst 3, 1) := by decide +kernel
theorem dL_station_627 : decode cL_station 627 = .ok (.invokevirtual 47, 3) := by decide +kernel
theorem dL_station_630 : decode cL_station 630 = .ok (.aload_n 0, 1) := by decide +kernel
theorem dL_station_631 : decode cL_station 631 = .ok (.iload 8, 2) := by decide +kernel
theorem dL_station_633 : decode cL_station 633 = .ok (.iconst 2, 1) := by decide +kernel
theorem dL_station_634 : decode cL_station 634 = .ok (.invokevirtual 47, 3) := by decide +kernel
theorem dL_station_637 : decode cL_station 637 = .ok (.if_icmp .gt 47, 3) := by decide +kernel
theorem dL_station_640 : decode cL_station 640 = .ok (.iload 11, 2) := by decide +kernel
theorem dL_station_642 : decode cL_station 642 = .ok (.iconst (-1), 1) := by decide +kernel
theorem dL_station_643 : decode cL_station 643 = .ok (.if_icmp .eq 37, 3) := by decide +kernel
theorem dL_station_646 : decode cL_station 646 = .ok (.aload_n 0, 1) := by decide +kernel
theorem dL_station_647 : decode cL_station 647 = .ok (.iload 8, 2) := by decide +kernel
theorem dL_station_649 : decode cL_station 649 = .ok (.bipush 6, 2) := by decide +kernel
theorem dL_station_651 : decode cL_station 651 = .ok (.invokevirtual 47, 3) := by decide +kernel
theorem dL_station_654 : decode cL_station 654 = .ok (.ifCond .ne 30, 3) := by decide +kernel
theorem dL_station_657 : decode cL_station 657 = .ok (.aload_n 0, 1) := by decide +kernel
theorem dL_station_658 : decode cL_station 658 = .ok (.iload 11, 2) := by decide +kernel
theorem dL_station_660 : decode cL_station 660 = .ok (.bipush 7, 2) := by decide +kernel
theorem dL_station_662 : decode cL_station 662 = .ok (.invokevirtual 38, 3) := by decide +kernel
theorem dL_station_665 : decode cL_station 665 = .ok (.iconst 3, 1) := by decide +kernel
theorem dL_station_666 : decode cL_station 666 = .ok (.if_icmp .ne 18, 3) := by decide +kernel
theorem dL_station_669 : decode cL_station 669 = .ok (.aload_n 0, 1) := by decide +kernel
theorem dL_station_670 : decode cL_station 670 = .ok (.iload 11, 2) := by decide +kernel
theorem dL_station_672 : decode cL_station 672 = .ok (.bipush 9, 2) := by decide +kernel
theorem dL_station_674 : decode cL_station 674 = .ok (.invokevirtual 38, 3) := by decide +kernel
theorem dL_station_677 : decode cL_station 677 = .ok (.ifCond .ne 7, 3) := by decide +kernel
theorem dL_station_680 : decode cL_station 680 = .ok (.iconst 1, 1) := by decide +kernel
theorem dL_station_681 : decode cL_station 681 = .ok (.goto 4, 3) := by decide +kernel
theorem dL_station_684 : decode cL_station 684 = .ok (.iconst 0, 1) := by decide +kernel
theorem dL_station_685 : decode cL_station 685 = .ok (.istore 7, 2) := by decide +kernel
theorem dL_station_687 : decode cL_station 687 = .ok (.iinc 8 1, 3) := by decide +kernel
theorem dL_station_690 : decode cL_station 690 = .ok (.goto (-299), 3) := by decide +kernel
theorem dL_station_693 : decode cL_station 693 = .ok (.aload_n 0, 1) := by decide +kernel
theorem dL_station_694 : decode cL_station 694 = .ok (.invokevirtual 56, 3) := by decide +kernel
theorem dL_station_697 : decode cL_station 697 = .ok (.istore 8, 2) := by decide +kernel
theorem dL_station_699 : decode cL_station 699 = .ok (.iload 7, 2) := by decide +kernel
theorem dL_station_701 : decode cL_station 701 = .ok (.ifCond .eq 109, 3) := by decide +kernel
theorem dL_station_704 : decode cL_station 704 = .ok (.iload_n 3, 1) := by decide +kernel
theorem dL_station_705 : decode cL_station 705 = .ok (.aload_n 0, 1) := by decide +kernel
theorem dL_station_706 : decode cL_station 706 = .ok (.iconst 3, 1) := by decide +kernel
theorem dL_station_707 : decode cL_station 707 = .ok (.invokevirtual 35, 3) := by decide +kernel
theorem dL_station_710 : decode cL_station 710 = .ok (.if_icmp .ne 100, 3) := by decide +kernel
theorem dL_station_713 : decode cL_station 713 = .ok (.iload 4, 2) := by decide +kernel
theorem dL_station_715 : decode cL_station 715 = .ok (.aload_n 0, 1) := by decide +kernel
theorem dL_station_716 : decode cL_station 716 = .ok (.iconst 4, 1) := by decide +kernel
theorem dL_station_717 : decode cL_station 717 = .ok (.invokevirtual 35, 3) := by decide +kernel
theorem dL_station_720 : decode cL_station 720 = .ok (.if_icmp .ne 90, 3) := by decide +kernel
theorem dL_station_723 : decode cL_station 723 = .ok (.iload 5, 2) := by decide +kernel
theorem dL_station_725 : decode cL_station 725 = .ok (.aload_n 0, 1) := by decide +kernel
theorem dL_station_726 : decode cL_station 726 = .ok (.iconst 5, 1) := by decide +kernel
theorem dL_station_727 : decode cL_station 727 = .ok (.invokevirtual 35, 3) := by decide +kernel
theorem dL_station_730 : decode cL_station 730 = .ok (.if_icmp .ne 80, 3) := by decide +kernel
theorem dL_station_733 : decode cL_station 733 = .ok (.iload 6, 2) := by decide +kernel
theorem dL_station_735 : decode cL_station 735 = .ok (.aload_n 0, 1) := by decide +kernel
theorem dL_station_736 : decode cL_station 736 = .ok (.bipush 6, 2) := by decide +kernel
theorem dL_station_738 : decode cL_station 738 = .ok (.invokevirtual 35, 3) := by decide +kernel
theorem dL_station_741 : decode cL_station 741 = .ok (.if_icmp .ne 69, 3) := by decide +kernel
theorem dL_station_744 : decode cL_station 744 = .ok (.iload 8, 2) := by decide +kernel
theorem dL_station_746 : decode cL_station 746 = .ok (.iconst (-1), 1) := by decide +kernel
theorem dL_station_747 : decode cL_station 747 = .ok (.if_icmp .ne 7, 3) := by decide +kernel
theorem dL_station_750 : decode cL_station 750 = .ok (.iconst 1, 1) := by decide +kernel
theorem dL_station_751 : decode cL_station 751 = .ok (.goto 4, 3) := by decide +kernel
theorem dL_station_754 : decode cL_station 754 = .ok (.iconst 0, 1) := by decide +kernel
theorem dL_station_755 : decode cL_station 755 = .ok (.iload 4, 2) := by decide +kernel
theorem dL_station_757 : decode cL_station 757 = .ok (.ifCond .ne 7, 3) := by decide +kernel
theorem dL_station_760 : decode cL_station 760 = .ok (.iconst 1, 1) := by decide +kernel
theorem dL_station_761 : decode cL_station 761 = .ok (.goto 4, 3) := by decide +kernel
theorem dL_station_764 : decode cL_station 764 = .ok (.iconst 0, 1) := by decide +kernel
theorem dL_station_765 : decode cL_station 765 = .ok (.if_icmp .ne 45, 3) := by decide +kernel
theorem dL_station_768 : decode cL_station 768 = .ok (.iload 8, 2) := by decide +kernel
theorem dL_station_770 : decode cL_station 770 = .ok (.ifCond .eq 40, 3) := by decide +kernel
theorem dL_station_773 : decode cL_station 773 = .ok (.iload_n 1, 1) := by decide +kernel
theorem dL_station_774 : decode cL_station 774 = .ok (.iload_n 3, 1) := by decide +kernel
theorem dL_station_775 : decode cL_station 775 = .ok (.if_icmp .ne 15, 3) := by decide +kernel
theorem dL_station_778 : decode cL_station 778 = .ok (.aload_n 0, 1) := by decide +kernel
theorem dL_station_779 : decode cL_station 779 = .ok (.invokevirtual 59, 3) := by decide +kernel
theorem dL_station_782 : decode cL_station 782 = .ok (.dconst 1, 1) := by decide +kernel
theorem dL_station_783 : decode cL_station 783 = .ok (.dcmp .l, 1) := by decide +kernel
theorem dL_station_784 : decode cL_station 784 = .ok (.ifCond .ne 26, 3) := by decide +kernel
theorem dL_station_787 : decode cL_station 787 = .ok (.goto 19, 3) := by decide +kernel
theorem dL_station_790 : decode cL_station 790 = .ok (.aload_n 0, 1) := by decide +kernel
theorem dL_station_791 : decode cL_station 791 = .ok (.invokevirtual 59, 3) := by decide +kernel
theorem dL_station_794 : decode cL_station 794 = .ok (.iload 4, 2) := by decide +kernel
theorem dL_station_796 : decode cL_station 796 = .ok (.i2d, 1) := by decide +kernel
theorem dL_station_797 : decode cL_station 797 = .ok (.iload_n 1, 1) := by decide +kernel
theorem dL_station_798 : decode cL_station 798 = .ok (.iload_n 3, 1) := by decide +kernel
theorem dL_station_799 : decode cL_station 799 = .ok (.isub, 1) := by decide +kernel
theorem dL_station_800 : decode cL_station 800 = .ok (.i2d, 1) := by decide +kernel
theorem dL_station_801 : decode cL_station 801 = .ok (.ddiv, 1) := by decide +kernel
theorem dL_station_802 : decode cL_station 802 = .ok (.dcmp .l, 1) := by decide +kernel
theorem dL_station_803 : decode cL_station 803 = .ok (.ifCond .ne 7, 3) := by decide +kernel
theorem dL_station_806 : decode cL_station 806 = .ok (.iconst 1, 1) := by decide +kernel
theorem dL_station_807 : decode cL_station 807 = .ok (.goto 4, 3) := by decide +kernel
theorem dL_station_810 : decode cL_station 810 = .ok (.iconst 0, 1) := by decide +kernel
theorem dL_station_811 : decode cL_station 811 = .ok (.ireturn, 1) := by decide +kernel
theorem dL_act_0 : decode cL_act 0 = .ok (.aload_n 1, 1) := by decide +kernel
theorem dL_act_1 : decode cL_act 1 = .ok (.iload_n 2, 1) := by decide +kernel
theorem dL_act_2 : decode cL_act 2 = .ok (.iconst 1, 1) := by decide +kernel
theorem dL_act_3 : decode cL_act 3 = .ok (.iadd, 1) := by decide +kernel
theorem dL_act_4 : decode cL_act 4 = .ok (.invokestatic 63, 3) := by decide +kernel
theorem dL_act_7 : decode cL_act 7 = .ok (.istore_n 3, 1) := by decide +kernel
theorem dL_act_8 : decode cL_act 8 = .ok (.aload_n 1, 1) := by decide +kernel
theorem dL_act_9 : decode cL_act 9 = .ok (.iload_n 2, 1) := by decide +kernel
theorem dL_act_10 : decode cL_act 10 = .ok (.iconst 2, 1) := by decide +kernel
theorem dL_act_11 : decode cL_act 11 = .ok (.iadd, 1) := by decide +kernel
theorem dL_act_12 : decode cL_act 12 = .ok (.invokestatic 63, 3) := by decide +kernel
theorem dL_act_15 : decode cL_act 15 = .ok (.istore 4, 2) := by decide +kernel
theorem dL_act_17 : decode cL_act 17 = .ok (.aload_n 0, 1) := by decide +kernel
theorem dL_act_18 : decode cL_act 18 = .ok (.iconst 2, 1) := by decide +kernel
theorem dL_act_19 : decode cL_act 19 = .ok (.invokevirtual 35, 3) := by decide +kernel
theorem dL_act_22 : decode cL_act 22 = .ok (.istore 5, 2) := by decide +kernel
theorem dL_act_24 : decode cL_act 24 = .ok (.iload 5, 2) := by decide +kernel
theorem dL_act_26 : decode cL_act 26 = .ok (.ifCond .ne 7, 3) := by decide +kernel
theorem dL_act_29 : decode cL_act 29 = .ok (.iconst 0, 1) := by decide +kernel
theorem dL_act_30 : decode cL_act 30 = .ok (.goto 9, 3) := by decide +kernel
theorem dL_act_33 : decode cL_act 33 = .ok (.iload_n 3, 1) := by decide +kernel
theorem dL_act_34 : decode cL_act 34 = .ok (.iload 5, 2) := by decide +kernel
theorem dL_act_36 : decode cL_act 36 = .ok (.invokestatic 69, 3) := by decide +kernel
theorem dL_act_39 : decode cL_act 39 = .ok (.istore 6, 2) := by decide +kernel
theorem dL_act_41 : decode cL_act 41 = .ok (.aload_n 1, 1) := by decide +kernel
theorem dL_act_42 : decode cL_act 42 = .ok (.iload_n 2, 1) := by decide +kernel
theorem dL_act_43 : decode cL_act 43 = .ok (.invokestatic 63, 3) := by decide +kernel
theorem dL_act_46 : decode cL_act 46 = .ok (.bipush 20, 2) := by decide +kernel
theorem dL_act_48 : decode cL_act 48 = .ok (.invokestatic 69, 3) := by decide +kernel
theorem dL_act_51 : decode cL_act 51 = .ok (.tableswitch 290 0 18 #[89, 89, 89, 89, 116, 133, 133, 133, 156, 182, 182, 182, 182, 208, 225, 263, 277, 277, 277], 89) := by decide +kernel
theorem dL_act_140 : decode cL_act 140 = .ok (.aload_n 0, 1) := by decide +kernel
theorem dL_act_141 : decode cL_act 141 = .ok (.iload_n 3, 1) := by decide +kernel
theorem dL_act_142 : decode cL_act 142 = .ok (.iconst 3, 1) := by decide +kernel
theorem dL_act_143 : decode cL_act 143 = .ok (.invokestatic 69, 3) := by decide +kernel
theorem dL_act_146 : decode cL_act 146 = .ok (.iconst 5, 1) := by decide +kernel
theorem dL_act_147 : decode cL_act 147 = .ok (.iload 4, 2) := by decide +kernel
theorem dL_act_149 : decode cL_act 149 = .ok (.bipush 20, 2) := by decide +kernel
theorem dL_act_151 : decode cL_act 151 = .ok (.invokestatic 69, 3) := by decide +kernel
theorem dL_act_154 : decode cL_act 154 = .ok (.iadd, 1) := by decide +kernel
theorem dL_act_155 : decode cL_act 155 = .ok (.iload 4, 2) := by decide +kernel
theorem dL_act_157 : decode cL_act 157 = .ok (.iconst 5, 1) := by decide +kernel
theorem dL_act_158 : decode cL_act 158 = .ok (.ishr, 1) := by decide +kernel
theorem dL_act_159 : decode cL_act 159 = .ok (.iconst 3, 1) := by decide +kernel
theorem dL_act_160 : decode cL_act 160 = .ok (.invokestatic 69, 3) := by decide +kernel
theorem dL_act_163 : decode cL_act 163 = .ok (.invokestatic 72, 3) := by decide +kernel
theorem dL_act_166 : decode cL_act 166 = .ok (.ireturn, 1) := by decide +kernel
theorem dL_act_167 : decode cL_act 167 = .ok (.iload 5, 2) := by decide +kernel
theorem dL_act_169 : decode cL_act 169 = .ok (.ifCond .ne 8, 3) := by decide +kernel
theorem dL_act_172 : decode cL_act 172 = .ok (.bipush (-3), 2) := by decide +kernel
theorem dL_act_174 : decode cL_act 174 = .ok (.goto 9, 3) := by decide +kernel
theorem dL_act_177 : decode cL_act 177 = .ok (.aload_n 0, 1) := by decide +kernel
theorem dL_act_178 : decode cL_act 178 = .ok (.iload 6, 2) := by decide +kernel
theorem dL_act_180 : decode cL_act 180 = .ok (.invokestatic 75, 3) := by decide +kernel
theorem dL_act_183 : decode cL_act 183 = .ok (.ireturn, 1) := by decide +kernel
theorem dL_act_184 : decode cL_act 184 = .ok (.iload 5, 2) := by decide +kernel
theorem dL_act_186 : decode cL_act 186 = .ok (.ifCond .ne 8, 3) := by decide +kernel
theorem dL_act_189 : decode cL_act 189 = .ok (.bipush (-3), 2) := by decide +kernel
theorem dL_act_191 : decode cL_act 191 = .ok (.goto 15, 3) := by decide +kernel
theorem dL_act_194 : decode cL_act 194 = .ok (.aload_n 0, 1) := by decide +kernel
theorem dL_act_195 : decode cL_act 195 = .ok (.iload 6, 2) := by decide +kernel
theorem dL_act_197 : decode cL_act 197 = .ok (.iload 4, 2) := by decide +kernel
theorem dL_act_199 : decode cL_act 199 = .ok (.iconst 4, 1) := by decide +kernel
theorem dL_act_200 : decode cL_act 200 = .ok (.invokestatic 69, 3) := by decide +kernel
theorem dL_act_203 : decode cL_act 203 = .ok (.invokestatic 78, 3) := by decide +kernel
theorem dL_act_206 : decode cL_act 206 = .ok (.ireturn, 1) := by decide +kernel
theorem dL_act_207 : decode cL_act 207 = .ok (.iload 5, 2) := by decide +kernel
theorem dL_act_209 : decode cL_act 209 = .ok (.ifCond .ne 8, 3) := by decide +kernel
theorem dL_act_212 : decode cL_act 212 = .ok (.bipush (-3), 2) := by decide +kernel
theorem dL_act_214 : decode cL_act 214 = .ok (.goto 18, 3) := by decide +kernel
theorem dL_act_217 : decode cL_act 217 = .ok (.aload_n 0, 1) := by decide +kernel
theorem dL_act_218 : decode cL_act 218 = .ok (.iload 6, 2) := by decide +kernel
theorem dL_act_220 : decode cL_act 220 = .ok (.iconst 1, 1) := by decide +kernel
theorem dL_act_221 : decode cL_act 221 = .ok (.iload 4, 2) := by decide +kernel
theorem dL_act_223 : decode cL_act 223 = .ok (.bipush 40, 2) := by decide +kernel
theorem dL_act_225 : decode cL_act 225 = .ok (.invokestatic 69, 3) := by decide +kernel
theorem dL_act_228 : decode cL_act 228 = .ok (.iadd, 1) := by decide +kernel
theorem dL_act_229 : decode cL_act 229 = .ok (.invokestatic 81, 3) := by decide +kernel
theorem dL_act_232 : decode cL_act 232 = .ok (.ireturn, 1) := by decide +kernel
theorem dL_act_233 : decode cL_act 233 = .ok (.iload 5, 2) := by decide +kernel
theorem dL_act_235 : decode cL_act 235 = .ok (.ifCond .ne 8, 3) := by decide +kernel
theorem dL_act_238 : decode cL_act 238 = .ok (.bipush (-3), 2) := by decide +kernel
theorem dL_act_240 : decode cL_act 240 = .ok (.goto 18, 3) := by decide +kernel
theorem dL_act_243 : decode cL_act 243 = .ok (.aload_n 0, 1) := by decide +kernel
theorem dL_act_244 : decode cL_act 244 = .ok (.iload 6, 2) := by decide +kernel
theorem dL_act_246 : decode cL_act 246 = .ok (.iconst 4, 1) := by decide +kernel
theorem dL_act_247 : decode cL_act 247 = .ok (.iload 4, 2) := by decide +kernel
theorem dL_act_249 : decode cL_act 249 = .ok (.bipush 21, 2) := by decide +kernel
theorem dL_act_251 : decode cL_act 251 = .ok (.invokestatic 69, 3) := by decide +kernel
theorem dL_act_254 : decode cL_act 254 = .ok (.iadd, 1) := by decide +kernel
theorem dL_act_255 : decode cL_act 255 = .ok (.invokestatic 83, 3) := by decide +kernel
theorem dL_act_258 : decode cL_act 258 = .ok (.ireturn, 1) := by decide +kernel
theorem dL_act_259 : decode cL_act 259 = .ok (.aload_n 0, 1) := by decide +kernel
theorem dL_act_260 : decode cL_act 260 = .ok (.iload_n 3, 1) := by decide +kernel
theorem dL_act_261 : decode cL_act 261 = .ok (.iconst 3, 1) := by decide +kernel
theorem dL_act_262 : decode cL_act 262 = .ok (.invokestatic 69, 3) := by decide +kernel
theorem dL_act_265 : decode cL_act 265 = .ok (.iload 4, 2) := by decide +kernel
theorem dL_act_267 : decode cL_act 267 = .ok (.bipush 120, 2) := by decide +kernel
theorem dL_act_269 : decode cL_act 269 = .ok (.invokestatic 69, 3) := by decide +kernel
theorem dL_act_272 : decode cL_act 272 = .ok (.invokevirtual 85, 3) := by decide +kernel
theorem dL_act_275 : decode cL_act 275 = .ok (.ireturn, 1) := by decide +kernel
theorem dL_act_276 : decode cL_act 276 = .ok (.iload_n 3, 1) := by decide +kernel
theorem dL_act_277 : decode cL_act 277 = .ok (.iconst 2, 1) := by decide +kernel
theorem dL_act_278 : decode cL_act 278 = .ok (.invokestatic 69, 3) := by decide +kernel
theorem dL_act_281 : decode cL_act 281 = .ok (.ifCond .ne 20, 3) := by decide +kernel
theorem dL_act_284 : decode cL_act 284 = .ok (.aload_n 0, 1) := by decide +kernel
theorem dL_act_285 : decode cL_act 285 = .ok (.iconst 0, 1) := by decide +kernel
theorem dL_act_286 : decode cL_act 286 = .ok (.iconst 4, 1) := by decide +kernel
theorem dL_act_287 : decode cL_act 287 = .ok (.iload 4, 2) := by decide +kernel
theorem dL_act_289 : decode cL_act 289 = .ok (.bipush 21, 2) := by decide +kernel
theorem dL_act_291 : decode cL_act 291 = .ok (.invokestatic 69, 3) := by decide +kernel
theorem dL_act_294 : decode cL_act 294 = .ok (.iadd, 1) := by decide +kernel
theorem dL_act_295 : decode cL_act 295 = .ok (.invokevirtual 88, 3) := by decide +kernel
theorem dL_act_298 : decode cL_act 298 = .ok (.goto 15, 3) := by decide +kernel
theorem dL_act_301 : decode cL_act 301 = .ok (.aload_n 0, 1) := by decide +kernel
theorem dL_act_302 : decode cL_act 302 = .ok (.iconst 1, 1) := by decide +kernel
theorem dL_act_303 : decode cL_act 303 = .ok (.iload 4, 2) := by decide +kernel
theorem dL_act_305 : decode cL_act 305 = .ok (.bipush 6, 2) := by decide +kernel
theorem dL_act_307 : decode cL_act 307 = .ok (.invokestatic 69, 3) := by decide +kernel
theorem dL_act_310 : decode cL_act 310 = .ok (.invokevirtual 88, 3) := by decide +kernel
theorem dL_act_313 : decode cL_act 313 = .ok (.ireturn, 1) := by decide +kernel
theorem dL_act_314 : decode cL_act 314 = .ok (.aload_n 0, 1) := by decide +kernel
theorem dL_act_315 : decode cL_act 315 = .ok (.iconst 2, 1) := by decide +kernel
theorem dL_act_316 : decode cL_act 316 = .ok (.iload 4, 2) := by decide +kernel
theorem dL_act_318 : decode cL_act 318 = .ok (.sipush 201, 3) := by decide +kernel
theorem dL_act_321 : decode cL_act 321 = .ok (.invokestatic 69, 3) := by decide +kernel
theorem dL_act_324 : decode cL_act 324 = .ok (.invokevirtual 88, 3) := by decide +kernel
theorem dL_act_327 : decode cL_act 327 = .ok (.ireturn, 1) := by decide +kernel
theorem dL_act_328 : decode cL_act 328 = .ok (.aload_n 0, 1) := by decide +kernel
theorem dL_act_329 : decode cL_act 329 = .ok (.iconst 1, 1) := by decide +kernel
theorem dL_act_330 : decode cL_act 330 = .ok (.iload_n 3, 1) := by decide +kernel
theorem dL_act_331 : decode cL_act 331 = .ok (.bipush 40, 2) := by decide +kernel
theorem dL_act_333 : decode cL_act 333 = .ok (.invokestatic 69, 3) := by decide +kernel
theorem dL_act_336 : decode cL_act 336 = .ok (.iadd, 1) := by decide +kernel
theorem dL_act_337 : decode cL_act 337 = .ok (.invokevirtual 91, 3) := by decide +kernel
theorem dL_act_340 : decode cL_act 340 = .ok (.ireturn, 1) := by decide +kernel
theorem dL_act_341 : decode cL_act 341 = .ok (.aload_n 0, 1) := by decide +kernel
theorem dL_act_342 : decode cL_act 342 = .ok (.invokestatic 94, 3) := by decide +kernel
theorem dL_act_345 : decode cL_act 345 = .ok (.ireturn, 1) := by decide +kernel
theorem dL_law_0 : decode cL_law 0 = .ok (.new 10, 3) := by decide +kernel
theorem dL_law_3 : decode cL_law 3 = .ok (.dup, 1) := by decide +kernel
theorem dL_law_4 : decode cL_law 4 = .ok (.invokespecial 97, 3) := by decide +kernel
theorem dL_law_7 : decode cL_law 7 = .ok (.astore_n 1, 1) := by decide +kernel
theorem dL_law_8 : decode cL_law 8 = .ok (.iconst 1, 1) := by decide +kernel
theorem dL_law_9 : decode cL_law 9 = .ok (.istore_n 2, 1) := by decide +kernel
theorem dL_law_10 : decode cL_law 10 = .ok (.aload_n 0, 1) := by decide +kernel
theorem dL_law_11 : decode cL_law 11 = .ok (.arraylength, 1) := by decide +kernel
theorem dL_law_12 : decode cL_law 12 = .ok (.iconst 3, 1) := by decide +kernel
theorem dL_law_13 : decode cL_law 13 = .ok (.idiv, 1) := by decide +kernel
theorem dL_law_14 : decode cL_law 14 = .ok (.bipush 44, 2) := by decide +kernel
theorem dL_law_16 : decode cL_law 16 = .ok (.if_icmp .le 8, 3) := by decide +kernel
theorem dL_law_19 : decode cL_law 19 = .ok (.bipush 44, 2) := by decide +kernel
theorem dL_law_21 : decode cL_law 21 = .ok (.goto 7, 3) := by decide +kernel
theorem dL_law_24 : decode cL_law 24 = .ok (.aload_n 0, 1) := by decide +kernel
theorem dL_law_25 : decode cL_law 25 = .ok (.arraylength, 1) := by decide +kernel
theorem dL_law_26 : decode cL_law 26 = .ok (.iconst 3, 1) := by decide +kernel
theorem dL_law_27 : decode cL_law 27 = .ok (.idiv, 1) := by decide +kernel
theorem dL_law_28 : decode cL_law 28 = .ok (.istore_n 3, 1) := by decide +kernel
theorem dL_law_29 : decode cL_law 29 = .ok (.iconst 0, 1) := by decide +kernel
theorem dL_law_30 : decode cL_law 30 = .ok (.istore 4, 2) := by decide +kernel
theorem dL_law_32 : decode cL_law 32 = .ok (.iload 4, 2) := by decide +kernel
theorem dL_law_34 : decode cL_law 34 = .ok (.iload_n 3, 1) := by decide +kernel
theorem dL_law_35 : decode cL_law 35 = .ok (.if_icmp .ge 443, 3) := by decide +kernel
theorem dL_law_38 : decode cL_law 38 = .ok (.iload_n 2, 1) := by decide +kernel
theorem dL_law_39 : decode cL_law 39 = .ok (.ifCond .eq 439, 3) := by decide +kernel
theorem dL_law_42 : decode cL_law 42 = .ok (.aload_n 1, 1) := by decide +kernel
theorem dL_law_43 : decode cL_law 43 = .ok (.bipush 10, 2) := by decide +kernel
theorem dL_law_45 : decode cL_law 45 = .ok (.invokevirtual 35, 3) := by decide +kernel
theorem dL_law_48 : decode cL_law 48 = .ok (.istore 5, 2) := by decide +kernel
theorem dL_law_50 : decode cL_law 50 = .ok (.aload_n 1, 1) := by decide +kernel
theorem dL_law_51 : decode cL_law 51 = .ok (.iconst 0, 1) := by decide +kernel
theorem dL_law_52 : decode cL_law 52 = .ok (.invokevirtual 35, 3) := by decide +kernel
theorem dL_law_55 : decode cL_law 55 = .ok (.istore 6, 2) := by decide +kernel
theorem dL_law_57 : decode cL_law 57 = .ok (.aload_n 1, 1) := by decide +kernel
theorem dL_law_58 : decode cL_law 58 = .ok (.iconst 1, 1) := by decide +kernel
theorem dL_law_59 : decode cL_law 59 = .ok (.invokevirtual 35, 3) := by decide +kernel
theorem dL_law_62 : decode cL_law 62 = .ok (.istore 7, 2) := by decide +kernel
theorem dL_law_64 : decode cL_law 64 = .ok (.aload_n 1, 1) := by decide +kernel
theorem dL_law_65 : decode cL_law 65 = .ok (.iconst 2, 1) := by decide +kernel
theorem dL_law_66 : decode cL_law 66 = .ok (.invokevirtual 35, 3) := by decide +kernel
theorem dL_law_69 : decode cL_law 69 = .ok (.istore 8, 2) := by decide +kernel
theorem dL_law_71 : decode cL_law 71 = .ok (.aload_n 1, 1) := by decide +kernel
theorem dL_law_72 : decode cL_law 72 = .ok (.bipush 7, 2) := by decide +kernel
theorem dL_law_74 : decode cL_law 74 = .ok (.invokevirtual 35, 3) := by decide +kernel
theorem dL_law_77 : decode cL_law 77 = .ok (.istore 9, 2) := by decide +kernel
theorem dL_law_79 : decode cL_law 79 = .ok (.aload_n 1, 1) := by decide +kernel
theorem dL_law_80 : decode cL_law 80 = .ok (.bipush 9, 2) := by decide +kernel
theorem dL_law_82 : decode cL_law 82 = .ok (.invokevirtual 35, 3) := by decide +kernel
theorem dL_law_85 : decode cL_law 85 = .ok (.istore 10, 2) := by decide +kernel
theorem dL_law_87 : decode cL_law 87 = .ok (.aload_n 0, 1) := by decide +kernel
theorem dL_law_88 : decode cL_law 88 = .ok (.iconst 3, 1) := by decide +kernel
theorem dL_law_89 : decode cL_law 89 = .ok (.iload 4, 2) := by decide +kernel
theorem dL_law_91 : decode cL_law 91 = .ok (.imul, 1) := by decide +kernel
theorem dL_law_92 : decode cL_law 92 = .ok (.invokestatic 63, 3) := by decide +kernel
theorem dL_law_95 : decode cL_law 95 = .ok (.bipush 20, 2) := by decide +kernel
theorem dL_law_97 : decode cL_law 97 = .ok (.invokestatic 69, 3) := by decide +kernel
theorem dL_law_100 : decode cL_law 100 = .ok (.istore 11, 2) := by decide +kernel
theorem dL_law_102 : decode cL_law 102 = .ok (.iload 8, 2) := by decide +kernel
theorem dL_law_104 : decode cL_law 104 = .ok (.ifCond .ne 7, 3) := by decide +kernel
theorem dL_law_107 : decode cL_law 107 = .ok (.iconst 0, 1) := by decide +kernel
theorem dL_law_108 : decode cL_law 108 = .ok (.goto 18, 3) := by decide +kernel
theorem dL_law_111 : decode cL_law 111 = .ok (.aload_n 0, 1) := by decide +kernel
theorem dL_law_112 : decode cL_law 112 = .ok (.iconst 3, 1) := by decide +kernel
theorem dL_law_113 : decode cL_law 113 = .ok (.iload 4, 2) := by decide +kernel
theorem dL_law_115 : decode cL_law 115 = .ok (.imul, 1) := by decide +kernel
theorem dL_law_116 : decode cL_law 116 = .ok (.iconst 1, 1) := by decide +kernel
theorem dL_law_117 : decode cL_law 117 = .ok (.iadd, 1) := by decide +kernel
theorem dL_law_118 : decode cL_law 118 = .ok (.invokestatic 63, 3) := by decide +kernel
theorem dL_law_121 : decode cL_law 121 = .ok (.iload 8, 2) := by decide +kernel
theorem dL_law_123 : decode cL_law 123 = .ok (.invokestatic 69, 3) := by decide +kernel
theorem dL_law_126 : decode cL_law 126 = .ok (.istore 12, 2) := by decide +kernel
theorem dL_law_128 : decode cL_law 128 = .ok (.iconst 4, 1) := by decide +kernel
theorem dL_law_129 : decode cL_law 129 = .ok (.aload_n 0, 1) := by decide +kernel
theorem dL_law_130 : decode cL_law 130 = .ok (.iconst 3, 1) := by decide +kernel
theorem dL_law_131 : decode cL_law 131 = .ok (.iload 4, 2) := by decide +kernel
theorem dL_law_133 : decode cL_law 133 = .ok (.imul, 1) := by decide +kernel
theorem dL_law_134 : decode cL_law 134 = .ok (.iconst 2, 1) := by decide +kernel
theorem dL_law_135 : decode cL_law 135 = .ok (.iadd, 1) := by decide +kernel
theorem dL_law_136 : decode cL_law 136 = .ok (.invokestatic 63, 3) := by decide +kernel
theorem dL_law_139 : decode cL_law 139 = .ok (.bipush 21, 2) := by decide +kernel
theorem dL_law_141 : decode cL_law 141 = .ok (.invokestatic 69, 3) := by decide +kernel
theorem dL_law_144 : decode cL_law 144 = .ok (.iadd, 1) := by decide +kernel
theorem dL_law_145 : decode cL_law 145 = .ok (.istore 13, 2) := by decide +kernel
theorem dL_law_147 : decode cL_law 147 = .ok (.iload 8, 2) := by decide +kernel
theorem dL_law_149 : decode cL_law 149 = .ok (.ifCond .ne 7, 3) := by decide +kernel
theorem dL_law_152 : decode cL_law 152 = .ok (.iconst (-1), 1) := by decide +kernel
theorem dL_law_153 : decode cL_law 153 = .ok (.goto 11, 3) := by decide +kernel
theorem dL_law_156 : decode cL_law 156 = .ok (.aload_n 1, 1) := by decide +kernel
theorem dL_law_157 : decode cL_law 157 = .ok (.iload 12, 2) := by decide +kernel
theorem dL_law_159 : decode cL_law 159 = .ok (.iload 13, 2) := by decide +kernel
theorem dL_law_161 : decode cL_law 161 = .ok (.invokevirtual 44, 3) := by decide +kernel
theorem dL_law_164 : decode cL_law 164 = .ok (.istore 14, 2) := by decide +kernel
theorem dL_law_166 : decode cL_law 166 = .ok (.iload 8, 2) := by decide +kernel
theorem dL_law_168 : decode cL_law 168 = .ok (.ifCond .ne 7, 3) := by decide +kernel
theorem dL_law_171 : decode cL_law 171 = .ok (.iconst 0, 1) := by decide +kernel
theorem dL_law_172 : decode cL_law 172 = .ok (.goto 10, 3) := by decide +kernel
theorem dL_law_175 : decode cL_law 175 = .ok (.aload_n 1, 1) := by decide +kernel
theorem dL_law_176 : decode cL_law 176 = .ok (.iload 12, 2) := by decide +kernel
theorem dL_law_178 : decode cL_law 178 = .ok (.iconst 4, 1) := by decide +kernel
theorem dL_law_179 : decode cL_law 179 = .ok (.invokevirtual 38, 3) := by decide +kernel
theorem dL_law_182 : decode cL_law 182 = .ok (.istore 15, 2) := by decide +kernel
theorem dL_law_184 : decode cL_law 184 = .ok (.aload_n 1, 1) := by decide +kernel
theorem dL_law_185 : decode cL_law 185 = .ok (.aload_n 0, 1) := by decide +kernel
theorem dL_law_186 : decode cL_law 186 = .ok (.iconst 3, 1) := by decide +kernel
theorem dL_law_187 : decode cL_law 187 = .ok (.iload 4, 2) := by decide +kernel
theorem dL_law_189 : decode cL_law 189 = .ok (.imul, 1) := by decide +kernel
theorem dL_law_190 : decode cL_law 190 = .ok (.invokestatic 98, 3) := by decide +kernel
theorem dL_law_193 : decode cL_law 193 = .ok (.istore 16, 2) := by decide +kernel
theorem dL_law_195 : decode cL_law 195 = .ok (.iload 16, 2) := by decide +kernel
theorem dL_law_197 : decode cL_law 197 = .ok (.ifCond .ge 55, 3) := by decide +kernel
theorem dL_law_200 : decode cL_law 200 = .ok (.aload_n 1, 1) := by decide +kernel
theorem dL_law_201 : decode cL_law 201 = .ok (.bipush 10, 2) := by decide +kernel
theorem dL_law_203 : decode cL_law 203 = .ok (.invokevirtual 35, 3) := by decide +kernel
theorem dL_law_206 : decode cL_law 206 = .ok (.iload 5, 2) := by decide +kernel
theorem dL_law_208 : decode cL_law 208 = .ok (.if_icmp .ne 48, 3) := by decide +kernel
theorem dL_law_211 : decode cL_law 211 = .ok (.aload_n 1, 1) := by decide +kernel
theorem dL_law_212 : decode cL_law 212 = .ok (.iconst 0, 1) := by decide +kernel
theorem dL_law_213 : decode cL_law 213 = .ok (.invokevirtual 35, 3) := by decide +kernel
theorem dL_law_216 : decode cL_law 216 = .ok (.iload 6, 2) := by decide +kernel
theorem dL_law_218 : decode cL_law 218 = .ok (.if_icmp .ne 38, 3) := by decide +kernel
theorem dL_law_221 : decode cL_law 221 = .ok (.aload_n 1, 1) := by decide +kernel
theorem dL_law_222 : decode cL_law 222 = .ok (.iconst 1, 1) := by decide +kernel
theorem dL_law_223 : decode cL_law 223 = .ok (.invokevirtual 35, 3) := by decide +kernel
theorem dL_law_226 : decode cL_law 226 = .ok (.iload 7, 2) := by decide +kernel
theorem dL_law_228 : decode cL_law 228 = .ok (.if_icmp .ne 28, 3) := by decide +kernel
theorem dL_law_231 : decode cL_law 231 = .ok (.aload_n 1, 1) := by decide +kernel
theorem dL_law_232 : decode cL_law 232 = .ok (.iconst 2, 1) := by decide +kernel
theorem dL_law_233 : decode cL_law 233 = .ok (.invokevirtual 35, 3) := by decide +kernel
theorem dL_law_236 : decode cL_law 236 = .ok (.iload 8, 2) := by decide +kernel
theorem dL_law_238 : decode cL_law 238 = .ok (.if_icmp .ne 18, 3) := by decide +kernel
theorem dL_law_241 : decode cL_law 241 = .ok (.aload_n 1, 1) := by decide +kernel
theorem dL_law_242 : decode cL_law 242 = .ok (.bipush 7, 2) := by decide +kernel
theorem dL_law_244 : decode cL_law 244 = .ok (.invokevirtual 35, 3) := by decide +kernel
theorem dL_law_247 : decode cL_law 247 = .ok (.iload 9, 2) := by decide +kernel
theorem dL_law_249 : decode cL_law 249 = .ok (.if_icmp .ne 7, 3) := by decide +kernel
theorem dL_law_252 : decode cL_law 252 = .ok (.iconst 1, 1) := by decide +kernel
theorem dL_law_253 : decode cL_law 253 = .ok (.goto 4, 3) := by decide +kernel
theorem dL_law_256 : decode cL_law 256 = .ok (.iconst 0, 1) := by decide +kernel
theorem dL_law_257 : decode cL_law 257 = .ok (.istore_n 2, 1) := by decide +kernel
theorem dL_law_258 : decode cL_law 258 = .ok (.iload_n 2, 1) := by decide +kernel
theorem dL_law_259 : decode cL_law 259 = .ok (.ifCond .eq 211, 3) := by decide +kernel
theorem dL_law_262 : decode cL_law 262 = .ok (.iload 11, 2) := by decide +kernel
theorem dL_law_264 : decode cL_law 264 = .ok (.iconst 4, 1) := by decide +kernel
theorem dL_law_265 : decode cL_law 265 = .ok (.if_icmp .gt 46, 3) := by decide +kernel
theorem dL_law_268 : decode cL_law 268 = .ok (.iload 16, 2) := by decide +kernel
theorem dL_law_270 : decode cL_law 270 = .ok (.ifCond .lt 41, 3) := by decide +kernel
theorem dL_law_273 : decode cL_law 273 = .ok (.iload 16, 2) := by decide +kernel
theorem dL_law_275 : decode cL_law 275 = .ok (.iload 8, 2) := by decide +kernel
theorem dL_law_277 : decode cL_law 277 = .ok (.if_icmp .ne 193, 3) := by decide +kernel
theorem dL_law_280 : decode cL_law 280 = .ok (.iload 7, 2) := by decide +kernel
theorem dL_law_282 : decode cL_law 282 = .ok (.aload_n 1, 1) := by decide +kernel
theorem dL_law_283 : decode cL_law 283 = .ok (.iconst 1, 1) := by decide +kernel
theorem dL_law_284 : decode cL_law 284 = .ok (.invokevirtual 35, 3) := by decide +kernel
theorem dL_law_287 : decode cL_law 287 = .ok (.isub, 1) := by decide +kernel
theorem dL_law_288 : decode cL_law 288 = .ok (.aload_n 1, 1) := by decide +kernel
theorem dL_law_289 : decode cL_law 289 = .ok (.bipush 9, 2) := by decide +kernel
theorem dL_law_291 : decode cL_law 291 = .ok (.invokevirtual 35, 3) := by decide +kernel
theorem dL_law_294 : decode cL_law 294 = .ok (.iload 10, 2) := by decide +kernel
theorem dL_law_296 : decode cL_law 296 = .ok (.isub, 1) := by decide +kernel
theorem dL_law_297 : decode cL_law 297 = .ok (.if_icmp .ne 173, 3) := by decide +kernel
theorem dL_law_300 : decode cL_law 300 = .ok (.aload_n 1, 1) := by decide +kernel
theorem dL_law_301 : decode cL_law 301 = .ok (.bipush 9, 2) := by decide +kernel
theorem dL_law_303 : decode cL_law 303 = .ok (.invokevirtual 35, 3) := by decide +kernel
theorem dL_law_306 : decode cL_law 306 = .ok (.iload 10, 2) := by decide +kernel
theorem dL_law_308 : decode cL_law 308 = .ok (.if_icmp .le 162, 3) := by decide +kernel
theorem dL_law_311 : decode cL_law 311 = .ok (.iload 11, 2) := by decide +kernel
theorem dL_law_313 : decode cL_law 313 = .ok (.bipush 9, 2) := by decide +kernel
theorem dL_law_315 : decode cL_law 315 = .ok (.if_icmp .lt 113, 3) := by decide +kernel
theorem dL_law_318 : decode cL_law 318 = .ok (.iload 11, 2) := by decide +kernel
theorem dL_law_320 : decode cL_law 320 = .ok (.bipush 12, 2) := by decide +kernel
theorem dL_law_322 : decode cL_law 322 = .ok (.if_icmp .gt 106, 3) := by decide +kernel
theorem dL_law_325 : decode cL_law 325 = .ok (.iload 16, 2) := by decide +kernel
theorem dL_law_327 : decode cL_law 327 = .ok (.ifCond .lt 101, 3) := by decide +kernel
theorem dL_law_330 : decode cL_law 330 = .ok (.iload 16, 2) := by decide +kernel
theorem dL_law_332 : decode cL_law 332 = .ok (.iload 14, 2) := by decide +kernel
theorem dL_law_334 : decode cL_law 334 = .ok (.if_icmp .ne 136, 3) := by decide +kernel
theorem dL_law_337 : decode cL_law 337 = .ok (.aload_n 1, 1) := by decide +kernel
theorem dL_law_338 : decode cL_law 338 = .ok (.bipush 7, 2) := by decide +kernel
theorem dL_law_340 : decode cL_law 340 = .ok (.invokevirtual 35, 3) := by decide +kernel
theorem dL_law_343 : decode cL_law 343 = .ok (.iload 9, 2) := by decide +kernel
theorem dL_law_345 : decode cL_law 345 = .ok (.iconst 1, 1) := by decide +kernel
theorem dL_law_346 : decode cL_law 346 = .ok (.iadd, 1) := by decide +kernel
theorem dL_law_347 : decode cL_law 347 = .ok (.if_icmp .ne 123, 3) := by decide +kernel
theorem dL_law_350 : decode cL_law 350 = .ok (.iload 16, 2) := by decide +kernel
theorem dL_law_352 : decode cL_law 352 = .ok (.bipush 100, 2) := by decide +kernel
theorem dL_law_354 : decode cL_law 354 = .ok (.if_icmp .ge 62, 3) := by decide +kernel
theorem dL_law_357 : decode cL_law 357 = .ok (.aload_n 1, 1) := by decide +kernel
theorem dL_law_358 : decode cL_law 358 = .ok (.iload 12, 2) := by decide +kernel
theorem dL_law_360 : decode cL_law 360 = .ok (.iconst 4, 1) := by decide +kernel
theorem dL_law_361 : decode cL_law 361 = .ok (.invokevirtual 38, 3) := by decide +kernel
theorem dL_law_364 : decode cL_law 364 = .ok (.iload 15, 2) := by decide +kernel
theorem dL_law_366 : decode cL_law 366 = .ok (.iload 16, 2) := by decide +kernel
theorem dL_law_368 : decode cL_law 368 = .ok (.iadd, 1) := by decide +kernel
theorem dL_law_369 : decode cL_law 369 = .ok (.bipush 99, 2) := by decide +kernel
theorem dL_law_371 : decode cL_law 371 = .ok (.if_icmp .le 8, 3) := by decide +kernel
theorem dL_law_374 : decode cL_law 374 = .ok (.bipush 99, 2) := by decide +kernel
theorem dL_law_376 : decode cL_law 376 = .ok (.goto 8, 3) := by decide +kernel
theorem dL_law_379 : decode cL_law 379 = .ok (.iload 15, 2) := by decide +kernel
theorem dL_law_381 : decode cL_law 381 = .ok (.iload 16, 2) := by decide +kernel
theorem dL_law_383 : decode cL_law 383 = .ok (.iadd, 1) := by decide +kernel
theorem dL_law_384 : decode cL_law 384 = .ok (.if_icmp .ne 86, 3) := by decide +kernel
theorem dL_law_387 : decode cL_law 387 = .ok (.iload 13, 2) := by decide +kernel
theorem dL_law_389 : decode cL_law 389 = .ok (.aload_n 1, 1) := by decide +kernel
theorem dL_law_390 : decode cL_law 390 = .ok (.iconst 0, 1) := by decide +kernel
theorem dL_law_391 : decode cL_law 391 = .ok (.invokevirtual 53, 3) := by decide +kernel
theorem dL_law_394 : decode cL_law 394 = .ok (.if_icmp .lt 34, 3) := by decide +kernel
theorem dL_law_397 : decode cL_law 397 = .ok (.aload_n 1, 1) := by decide +kernel
theorem dL_law_398 : decode cL_law 398 = .ok (.iload 12, 2) := by decide +kernel
theorem dL_law_400 : decode cL_law 400 = .ok (.bipush 6, 2) := by decide +kernel
theorem dL_law_402 : decode cL_law 402 = .ok (.invokevirtual 38, 3) := by decide +kernel
theorem dL_law_405 : decode cL_law 405 = .ok (.iload 6, 2) := by decide +kernel
theorem dL_law_407 : decode cL_law 407 = .ok (.bipush 100, 2) := by decide +kernel
theorem dL_law_409 : decode cL_law 409 = .ok (.iadd, 1) := by decide +kernel
theorem dL_law_410 : decode cL_law 410 = .ok (.if_icmp .lt 60, 3) := by decide +kernel
theorem dL_law_413 : decode cL_law 413 = .ok (.goto 15, 3) := by decide +kernel
theorem dL_law_416 : decode cL_law 416 = .ok (.aload_n 1, 1) := by decide +kernel
theorem dL_law_417 : decode cL_law 417 = .ok (.iload 12, 2) := by decide +kernel
theorem dL_law_419 : decode cL_law 419 = .ok (.bipush 7, 2) := by decide +kernel
theorem dL_law_421 : decode cL_law 421 = .ok (.invokevirtual 38, 3) := by decide +kernel
theorem dL_law_424 : decode cL_law 424 = .ok (.iconst (-1), 1) := by decide +kernel
theorem dL_law_425 : decode cL_law 425 = .ok (.if_icmp .ne 45, 3) := by decide +kernel
theorem dL_law_428 : decode cL_law 428 = .ok (.iload 11, 2) := by decide +kernel
theorem dL_law_430 : decode cL_law 430 = .ok (.bipush 16, 2) := by decide +kernel
theorem dL_law_432 : decode cL_law 432 = .ok (.if_icmp .lt 27, 3) := by decide +kernel
theorem dL_law_435 : decode cL_law 435 = .ok (.iload 11, 2) := by decide +kernel
theorem dL_law_437 : decode cL_law 437 = .ok (.bipush 18, 2) := by decide +kernel
theorem dL_law_439 : decode cL_law 439 = .ok (.if_icmp .gt 20, 3) := by decide +kernel
theorem dL_law_442 : decode cL_law 442 = .ok (.iload 16, 2) := by decide +kernel
theorem dL_law_444 : decode cL_law 444 = .ok (.aload_n 1, 1) := by decide +kernel
theorem dL_law_445 : decode cL_law 445 = .ok (.iconst 0, 1) := by decide +kernel
theorem dL_law_446 : decode cL_law 446 = .ok (.invokevirtual 35, 3) := by decide +kernel
theorem dL_law_449 : decode cL_law 449 = .ok (.if_icmp .ne 21, 3) := by decide +kernel
theorem dL_law_452 : decode cL_law 452 = .ok (.iload 16, 2) := by decide +kernel
theorem dL_law_454 : decode cL_law 454 = .ok (.iload 6, 2) := by decide +kernel
theorem dL_law_456 : decode cL_law 456 = .ok (.if_icmp .le 14, 3) := by decide +kernel
theorem dL_law_459 : decode cL_law 459 = .ok (.aload_n 1, 1) := by decide +kernel
theorem dL_law_460 : decode cL_law 460 = .ok (.invokestatic 102, 3) := by decide +kernel
theorem dL_law_463 : decode cL_law 463 = .ok (.ifCond .eq 7, 3) := by decide +kernel
theorem dL_law_466 : decode cL_law 466 = .ok (.iconst 1, 1) := by decide +kernel
theorem dL_law_467 : decode cL_law 467 = .ok (.goto 4, 3) := by decide +kernel
theorem dL_law_470 : decode cL_law 470 = .ok (.iconst 0, 1) := by decide +kernel
theorem dL_law_471 : decode cL_law 471 = .ok (.istore_n 2, 1) := by decide +kernel
theorem dL_law_472 : decode cL_law 472 = .ok (.iinc 4 1, 3) := by decide +kernel
theorem dL_law_475 : decode cL_law 475 = .ok (.goto (-443), 3) := by decide +kernel
theorem dL_law_478 : decode cL_law 478 = .ok (.iload_n 2, 1) := by decide +kernel
theorem dL_law_479 : decode cL_law 479 = .ok (.ireturn, 1) := by decide +kernel
