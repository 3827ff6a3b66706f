theorem dX0_init_0 : decode cX0_init 0 = .ok (.aload_n 0, 1) := by decide +kernel
theorem dX0_init_1 : decode cX0_init 1 = .ok (.invokespecial 1, 3) := by decide +kernel
theorem dX0_init_4 : decode cX0_init 4 = .ok (.aload_n 0, 1) := by decide +kernel
theorem dX0_init_5 : decode cX0_init 5 = .ok (.bipush 50, 2) := by decide +kernel
theorem dX0_init_7 : decode cX0_init 7 = .ok (.putfield 7, 3) := by decide +kernel
theorem dX0_init_10 : decode cX0_init 10 = .ok (.aload_n 0, 1) := by decide +kernel
theorem dX0_init_11 : decode cX0_init 11 = .ok (.iconst 0, 1) := by decide +kernel
theorem dX0_init_12 : decode cX0_init 12 = .ok (.putfield 13, 3) := by decide +kernel
theorem dX0_init_15 : decode cX0_init 15 = .ok (.aload_n 0, 1) := by decide +kernel
theorem dX0_init_16 : decode cX0_init 16 = .ok (.bipush 50, 2) := by decide +kernel
theorem dX0_init_18 : decode cX0_init 18 = .ok (.putfield 16, 3) := by decide +kernel
theorem dX0_init_21 : decode cX0_init 21 = .ok (.aload_n 0, 1) := by decide +kernel
theorem dX0_init_22 : decode cX0_init 22 = .ok (.iconst 0, 1) := by decide +kernel
theorem dX0_init_23 : decode cX0_init 23 = .ok (.putfield 19, 3) := by decide +kernel
theorem dX0_init_26 : decode cX0_init 26 = .ok (.aload_n 0, 1) := by decide +kernel
theorem dX0_init_27 : decode cX0_init 27 = .ok (.iconst 0, 1) := by decide +kernel
theorem dX0_init_28 : decode cX0_init 28 = .ok (.putfield 22, 3) := by decide +kernel
theorem dX0_init_31 : decode cX0_init 31 = .ok (.aload_n 0, 1) := by decide +kernel
theorem dX0_init_32 : decode cX0_init 32 = .ok (.iload_n 1, 1) := by decide +kernel
theorem dX0_init_33 : decode cX0_init 33 = .ok (.putfield 25, 3) := by decide +kernel
theorem dX0_init_36 : decode cX0_init 36 = .ok (.aload_n 0, 1) := by decide +kernel
theorem dX0_init_37 : decode cX0_init 37 = .ok (.iload_n 2, 1) := by decide +kernel
theorem dX0_init_38 : decode cX0_init 38 = .ok (.putfield 28, 3) := by decide +kernel
theorem dX0_init_41 : decode cX0_init 41 = .ok (.aload_n 0, 1) := by decide +kernel
theorem dX0_init_42 : decode cX0_init 42 = .ok (.iload_n 3, 1) := by decide +kernel
theorem dX0_init_43 : decode cX0_init 43 = .ok (.putfield 31, 3) := by decide +kernel
theorem dX0_init_46 : decode cX0_init 46 = .ok (.aload_n 0, 1) := by decide +kernel
theorem dX0_init_47 : decode cX0_init 47 = .ok (.iload 4, 2) := by decide +kernel
theorem dX0_init_49 : decode cX0_init 49 = .ok (.putfield 34, 3) := by decide +kernel
theorem dX0_init_52 : decode cX0_init 52 = .ok (.return_, 1) := by decide +kernel
theorem dX0_ownersOf_0 : decode cX0_ownersOf 0 = .ok (.aload_n 0, 1) := by decide +kernel
theorem dX0_ownersOf_1 : decode cX0_ownersOf 1 = .ok (.getfield 7, 3) := by decide +kernel
theorem dX0_ownersOf_4 : decode cX0_ownersOf 4 = .ok (.iload_n 2, 1) := by decide +kernel
theorem dX0_ownersOf_5 : decode cX0_ownersOf 5 = .ok (.aload_n 0, 1) := by decide +kernel
theorem dX0_ownersOf_6 : decode cX0_ownersOf 6 = .ok (.getfield 13, 3) := by decide +kernel
theorem dX0_ownersOf_9 : decode cX0_ownersOf 9 = .ok (.imul, 1) := by decide +kernel
theorem dX0_ownersOf_10 : decode cX0_ownersOf 10 = .ok (.isub, 1) := by decide +kernel
theorem dX0_ownersOf_11 : decode cX0_ownersOf 11 = .ok (.aload_n 0, 1) := by decide +kernel
theorem dX0_ownersOf_12 : decode cX0_ownersOf 12 = .ok (.getfield 16, 3) := by decide +kernel
theorem dX0_ownersOf_15 : decode cX0_ownersOf 15 = .ok (.invokestatic 37, 3) := by decide +kernel
theorem dX0_ownersOf_18 : decode cX0_ownersOf 18 = .ok (.istore_n 3, 1) := by decide +kernel
theorem dX0_ownersOf_19 : decode cX0_ownersOf 19 = .ok (.iload_n 1, 1) := by decide +kernel
theorem dX0_ownersOf_20 : decode cX0_ownersOf 20 = .ok (.aload_n 0, 1) := by decide +kernel
theorem dX0_ownersOf_21 : decode cX0_ownersOf 21 = .ok (.getfield 19, 3) := by decide +kernel
theorem dX0_ownersOf_24 : decode cX0_ownersOf 24 = .ok (.isub, 1) := by decide +kernel
theorem dX0_ownersOf_25 : decode cX0_ownersOf 25 = .ok (.iconst 0, 1) := by decide +kernel
theorem dX0_ownersOf_26 : decode cX0_ownersOf 26 = .ok (.invokestatic 37, 3) := by decide +kernel
theorem dX0_ownersOf_29 : decode cX0_ownersOf 29 = .ok (.istore 4, 2) := by decide +kernel
theorem dX0_ownersOf_31 : decode cX0_ownersOf 31 = .ok (.iload_n 3, 1) := by decide +kernel
theorem dX0_ownersOf_32 : decode cX0_ownersOf 32 = .ok (.iload 4, 2) := by decide +kernel
theorem dX0_ownersOf_34 : decode cX0_ownersOf 34 = .ok (.imul, 1) := by decide +kernel
theorem dX0_ownersOf_35 : decode cX0_ownersOf 35 = .ok (.bipush 100, 2) := by decide +kernel
theorem dX0_ownersOf_37 : decode cX0_ownersOf 37 = .ok (.idiv, 1) := by decide +kernel
theorem dX0_ownersOf_38 : decode cX0_ownersOf 38 = .ok (.aload_n 0, 1) := by decide +kernel
theorem dX0_ownersOf_39 : decode cX0_ownersOf 39 = .ok (.getfield 16, 3) := by decide +kernel
theorem dX0_ownersOf_42 : decode cX0_ownersOf 42 = .ok (.iload_n 1, 1) := by decide +kernel
theorem dX0_ownersOf_43 : decode cX0_ownersOf 43 = .ok (.imul, 1) := by decide +kernel
theorem dX0_ownersOf_44 : decode cX0_ownersOf 44 = .ok (.bipush 100, 2) := by decide +kernel
theorem dX0_ownersOf_46 : decode cX0_ownersOf 46 = .ok (.idiv, 1) := by decide +kernel
theorem dX0_ownersOf_47 : decode cX0_ownersOf 47 = .ok (.invokestatic 37, 3) := by decide +kernel
theorem dX0_ownersOf_50 : decode cX0_ownersOf 50 = .ok (.ireturn, 1) := by decide +kernel
theorem dX1_init_0 : decode cX1_init 0 = .ok (.aload_n 0, 1) := by decide +kernel
theorem dX1_init_1 : decode cX1_init 1 = .ok (.invokespecial 1, 3) := by decide +kernel
theorem dX1_init_4 : decode cX1_init 4 = .ok (.aload_n 0, 1) := by decide +kernel
theorem dX1_init_5 : decode cX1_init 5 = .ok (.iconst 0, 1) := by decide +kernel
theorem dX1_init_6 : decode cX1_init 6 = .ok (.putfield 7, 3) := by decide +kernel
theorem dX1_init_9 : decode cX1_init 9 = .ok (.aload_n 0, 1) := by decide +kernel
theorem dX1_init_10 : decode cX1_init 10 = .ok (.sipush 5000, 3) := by decide +kernel
theorem dX1_init_13 : decode cX1_init 13 = .ok (.putfield 13, 3) := by decide +kernel
theorem dX1_init_16 : decode cX1_init 16 = .ok (.aload_n 0, 1) := by decide +kernel
theorem dX1_init_17 : decode cX1_init 17 = .ok (.iload_n 1, 1) := by decide +kernel
theorem dX1_init_18 : decode cX1_init 18 = .ok (.putfield 16, 3) := by decide +kernel
theorem dX1_init_21 : decode cX1_init 21 = .ok (.aload_n 0, 1) := by decide +kernel
theorem dX1_init_22 : decode cX1_init 22 = .ok (.iload_n 2, 1) := by decide +kernel
theorem dX1_init_23 : decode cX1_init 23 = .ok (.putfield 19, 3) := by decide +kernel
theorem dX1_init_26 : decode cX1_init 26 = .ok (.aload_n 0, 1) := by decide +kernel
theorem dX1_init_27 : decode cX1_init 27 = .ok (.iload_n 3, 1) := by decide +kernel
theorem dX1_init_28 : decode cX1_init 28 = .ok (.putfield 22, 3) := by decide +kernel
theorem dX1_init_31 : decode cX1_init 31 = .ok (.return_, 1) := by decide +kernel
theorem dX2_init_0 : decode cX2_init 0 = .ok (.aload_n 0, 1) := by decide +kernel
theorem dX2_init_1 : decode cX2_init 1 = .ok (.invokespecial 1, 3) := by decide +kernel
theorem dX2_init_4 : decode cX2_init 4 = .ok (.aload_n 0, 1) := by decide +kernel
theorem dX2_init_5 : decode cX2_init 5 = .ok (.iconst 0, 1) := by decide +kernel
theorem dX2_init_6 : decode cX2_init 6 = .ok (.putfield 7, 3) := by decide +kernel
theorem dX2_init_9 : decode cX2_init 9 = .ok (.aload_n 0, 1) := by decide +kernel
theorem dX2_init_10 : decode cX2_init 10 = .ok (.aload_n 1, 1) := by decide +kernel
theorem dX2_init_11 : decode cX2_init 11 = .ok (.putfield 13, 3) := by decide +kernel
theorem dX2_init_14 : decode cX2_init 14 = .ok (.aload_n 0, 1) := by decide +kernel
theorem dX2_init_15 : decode cX2_init 15 = .ok (.iload_n 2, 1) := by decide +kernel
theorem dX2_init_16 : decode cX2_init 16 = .ok (.putfield 17, 3) := by decide +kernel
theorem dX2_init_19 : decode cX2_init 19 = .ok (.aload_n 0, 1) := by decide +kernel
theorem dX2_init_20 : decode cX2_init 20 = .ok (.iload_n 3, 1) := by decide +kernel
theorem dX2_init_21 : decode cX2_init 21 = .ok (.putfield 21, 3) := by decide +kernel
theorem dX2_init_24 : decode cX2_init 24 = .ok (.return_, 1) := by decide +kernel
theorem dX3_init_0 : decode cX3_init 0 = .ok (.aload_n 0, 1) := by decide +kernel
theorem dX3_init_1 : decode cX3_init 1 = .ok (.invokespecial 1, 3) := by decide +kernel
theorem dX3_init_4 : decode cX3_init 4 = .ok (.aload_n 0, 1) := by decide +kernel
theorem dX3_init_5 : decode cX3_init 5 = .ok (.iload_n 1, 1) := by decide +kernel
theorem dX3_init_6 : decode cX3_init 6 = .ok (.putfield 7, 3) := by decide +kernel
theorem dX3_init_9 : decode cX3_init 9 = .ok (.aload_n 0, 1) := by decide +kernel
theorem dX3_init_10 : decode cX3_init 10 = .ok (.iload_n 2, 1) := by decide +kernel
theorem dX3_init_11 : decode cX3_init 11 = .ok (.putfield 13, 3) := by decide +kernel
theorem dX3_init_14 : decode cX3_init 14 = .ok (.aload_n 0, 1) := by decide +kernel
theorem dX3_init_15 : decode cX3_init 15 = .ok (.iload_n 3, 1) := by decide +kernel
theorem dX3_init_16 : decode cX3_init 16 = .ok (.putfield 16, 3) := by decide +kernel
theorem dX3_init_19 : decode cX3_init 19 = .ok (.aload_n 0, 1) := by decide +kernel
theorem dX3_init_20 : decode cX3_init 20 = .ok (.iload 4, 2) := by decide +kernel
theorem dX3_init_22 : decode cX3_init 22 = .ok (.putfield 19, 3) := by decide +kernel
theorem dX3_init_25 : decode cX3_init 25 = .ok (.return_, 1) := by decide +kernel
theorem dX4_init_0 : decode cX4_init 0 = .ok (.aload_n 0, 1) := by decide +kernel
theorem dX4_init_1 : decode cX4_init 1 = .ok (.invokespecial 3, 3) := by decide +kernel
theorem dX4_init_4 : decode cX4_init 4 = .ok (.aload_n 0, 1) := by decide +kernel
theorem dX4_init_5 : decode cX4_init 5 = .ok (.bipush 40, 2) := by decide +kernel
theorem dX4_init_7 : decode cX4_init 7 = .ok (.newarray .int, 2) := by decide +kernel
theorem dX4_init_9 : decode cX4_init 9 = .ok (.putfield 9, 3) := by decide +kernel
theorem dX4_init_12 : decode cX4_init 12 = .ok (.aload_n 0, 1) := by decide +kernel
theorem dX4_init_13 : decode cX4_init 13 = .ok (.iconst 0, 1) := by decide +kernel
theorem dX4_init_14 : decode cX4_init 14 = .ok (.putfield 15, 3) := by decide +kernel
theorem dX4_init_17 : decode cX4_init 17 = .ok (.aload_n 0, 1) := by decide +kernel
theorem dX4_init_18 : decode cX4_init 18 = .ok (.iconst 0, 1) := by decide +kernel
theorem dX4_init_19 : decode cX4_init 19 = .ok (.putfield 19, 3) := by decide +kernel
theorem dX4_init_22 : decode cX4_init 22 = .ok (.return_, 1) := by decide +kernel
theorem dX4_comeIn_0 : decode cX4_comeIn 0 = .ok (.iload_n 2, 1) := by decide +kernel
theorem dX4_comeIn_1 : decode cX4_comeIn 1 = .ok (.ifCond .eq 10, 3) := by decide +kernel
theorem dX4_comeIn_4 : decode cX4_comeIn 4 = .ok (.aload_n 0, 1) := by decide +kernel
theorem dX4_comeIn_5 : decode cX4_comeIn 5 = .ok (.getfield 15, 3) := by decide +kernel
theorem dX4_comeIn_8 : decode cX4_comeIn 8 = .ok (.goto 7, 3) := by decide +kernel
theorem dX4_comeIn_11 : decode cX4_comeIn 11 = .ok (.aload_n 0, 1) := by decide +kernel
theorem dX4_comeIn_12 : decode cX4_comeIn 12 = .ok (.getfield 19, 3) := by decide +kernel
theorem dX4_comeIn_15 : decode cX4_comeIn 15 = .ok (.istore_n 3, 1) := by decide +kernel
theorem dX4_comeIn_16 : decode cX4_comeIn 16 = .ok (.aload_n 0, 1) := by decide +kernel
theorem dX4_comeIn_17 : decode cX4_comeIn 17 = .ok (.getfield 19, 3) := by decide +kernel
theorem dX4_comeIn_20 : decode cX4_comeIn 20 = .ok (.aload_n 0, 1) := by decide +kernel
theorem dX4_comeIn_21 : decode cX4_comeIn 21 = .ok (.getfield 9, 3) := by decide +kernel
theorem dX4_comeIn_24 : decode cX4_comeIn 24 = .ok (.arraylength, 1) := by decide +kernel
theorem dX4_comeIn_25 : decode cX4_comeIn 25 = .ok (.if_icmp .ge 11, 3) := by decide +kernel
theorem dX4_comeIn_28 : decode cX4_comeIn 28 = .ok (.iload_n 3, 1) := by decide +kernel
theorem dX4_comeIn_29 : decode cX4_comeIn 29 = .ok (.aload_n 0, 1) := by decide +kernel
theorem dX4_comeIn_30 : decode cX4_comeIn 30 = .ok (.getfield 19, 3) := by decide +kernel
theorem dX4_comeIn_33 : decode cX4_comeIn 33 = .ok (.if_icmp .le 5, 3) := by decide +kernel
theorem dX4_comeIn_36 : decode cX4_comeIn 36 = .ok (.iconst (-1), 1) := by decide +kernel
theorem dX4_comeIn_37 : decode cX4_comeIn 37 = .ok (.ireturn, 1) := by decide +kernel
theorem dX4_comeIn_38 : decode cX4_comeIn 38 = .ok (.aload_n 0, 1) := by decide +kernel
theorem dX4_comeIn_39 : decode cX4_comeIn 39 = .ok (.getfield 19, 3) := by decide +kernel
theorem dX4_comeIn_42 : decode cX4_comeIn 42 = .ok (.istore 4, 2) := by decide +kernel
theorem dX4_comeIn_44 : decode cX4_comeIn 44 = .ok (.iload 4, 2) := by decide +kernel
theorem dX4_comeIn_46 : decode cX4_comeIn 46 = .ok (.iload_n 3, 1) := by decide +kernel
theorem dX4_comeIn_47 : decode cX4_comeIn 47 = .ok (.if_icmp .le 25, 3) := by decide +kernel
theorem dX4_comeIn_50 : decode cX4_comeIn 50 = .ok (.aload_n 0, 1) := by decide +kernel
theorem dX4_comeIn_51 : decode cX4_comeIn 51 = .ok (.getfield 9, 3) := by decide +kernel
theorem dX4_comeIn_54 : decode cX4_comeIn 54 = .ok (.iload 4, 2) := by decide +kernel
theorem dX4_comeIn_56 : decode cX4_comeIn 56 = .ok (.aload_n 0, 1) := by decide +kernel
theorem dX4_comeIn_57 : decode cX4_comeIn 57 = .ok (.getfield 9, 3) := by decide +kernel
theorem dX4_comeIn_60 : decode cX4_comeIn 60 = .ok (.iload 4, 2) := by decide +kernel
theorem dX4_comeIn_62 : decode cX4_comeIn 62 = .ok (.iconst 1, 1) := by decide +kernel
theorem dX4_comeIn_63 : decode cX4_comeIn 63 = .ok (.isub, 1) := by decide +kernel
theorem dX4_comeIn_64 : decode cX4_comeIn 64 = .ok (.iaload, 1) := by decide +kernel
theorem dX4_comeIn_65 : decode cX4_comeIn 65 = .ok (.iastore, 1) := by decide +kernel
theorem dX4_comeIn_66 : decode cX4_comeIn 66 = .ok (.iinc 4 (-1), 3) := by decide +kernel
theorem dX4_comeIn_69 : decode cX4_comeIn 69 = .ok (.goto (-25), 3) := by decide +kernel
theorem dX4_comeIn_72 : decode cX4_comeIn 72 = .ok (.aload_n 0, 1) := by decide +kernel
theorem dX4_comeIn_73 : decode cX4_comeIn 73 = .ok (.getfield 9, 3) := by decide +kernel
theorem dX4_comeIn_76 : decode cX4_comeIn 76 = .ok (.iload_n 3, 1) := by decide +kernel
theorem dX4_comeIn_77 : decode cX4_comeIn 77 = .ok (.iload_n 1, 1) := by decide +kernel
theorem dX4_comeIn_78 : decode cX4_comeIn 78 = .ok (.iastore, 1) := by decide +kernel
theorem dX4_comeIn_79 : decode cX4_comeIn 79 = .ok (.aload_n 0, 1) := by decide +kernel
theorem dX4_comeIn_80 : decode cX4_comeIn 80 = .ok (.dup, 1) := by decide +kernel
theorem dX4_comeIn_81 : decode cX4_comeIn 81 = .ok (.getfield 19, 3) := by decide +kernel
theorem dX4_comeIn_84 : decode cX4_comeIn 84 = .ok (.iconst 1, 1) := by decide +kernel
theorem dX4_comeIn_85 : decode cX4_comeIn 85 = .ok (.iadd, 1) := by decide +kernel
theorem dX4_comeIn_86 : decode cX4_comeIn 86 = .ok (.putfield 19, 3) := by decide +kernel
theorem dX4_comeIn_89 : decode cX4_comeIn 89 = .ok (.iload_n 2, 1) := by decide +kernel
theorem dX4_comeIn_90 : decode cX4_comeIn 90 = .ok (.ifCond .eq 13, 3) := by decide +kernel
theorem dX4_comeIn_93 : decode cX4_comeIn 93 = .ok (.aload_n 0, 1) := by decide +kernel
theorem dX4_comeIn_94 : decode cX4_comeIn 94 = .ok (.dup, 1) := by decide +kernel
theorem dX4_comeIn_95 : decode cX4_comeIn 95 = .ok (.getfield 15, 3) := by decide +kernel
theorem dX4_comeIn_98 : decode cX4_comeIn 98 = .ok (.iconst 1, 1) := by decide +kernel
theorem dX4_comeIn_99 : decode cX4_comeIn 99 = .ok (.iadd, 1) := by decide +kernel
theorem dX4_comeIn_100 : decode cX4_comeIn 100 = .ok (.putfield 15, 3) := by decide +kernel
theorem dX4_comeIn_103 : decode cX4_comeIn 103 = .ok (.iload_n 3, 1) := by decide +kernel
theorem dX4_comeIn_104 : decode cX4_comeIn 104 = .ok (.ireturn, 1) := by decide +kernel
theorem dX4_takeFirst_0 : decode cX4_takeFirst 0 = .ok (.aload_n 0, 1) := by decide +kernel
theorem dX4_takeFirst_1 : decode cX4_takeFirst 1 = .ok (.getfield 19, 3) := by decide +kernel
theorem dX4_takeFirst_4 : decode cX4_takeFirst 4 = .ok (.ifCond .gt 5, 3) := by decide +kernel
theorem dX4_takeFirst_7 : decode cX4_takeFirst 7 = .ok (.iconst (-1), 1) := by decide +kernel
theorem dX4_takeFirst_8 : decode cX4_takeFirst 8 = .ok (.ireturn, 1) := by decide +kernel
theorem dX4_takeFirst_9 : decode cX4_takeFirst 9 = .ok (.aload_n 0, 1) := by decide +kernel
theorem dX4_takeFirst_10 : decode cX4_takeFirst 10 = .ok (.getfield 9, 3) := by decide +kernel
theorem dX4_takeFirst_13 : decode cX4_takeFirst 13 = .ok (.iconst 0, 1) := by decide +kernel
theorem dX4_takeFirst_14 : decode cX4_takeFirst 14 = .ok (.iaload, 1) := by decide +kernel
theorem dX4_takeFirst_15 : decode cX4_takeFirst 15 = .ok (.istore_n 1, 1) := by decide +kernel
theorem dX4_takeFirst_16 : decode cX4_takeFirst 16 = .ok (.aload_n 0, 1) := by decide +kernel
theorem dX4_takeFirst_17 : decode cX4_takeFirst 17 = .ok (.dup, 1) := by decide +kernel
theorem dX4_takeFirst_18 : decode cX4_takeFirst 18 = .ok (.getfield 19, 3) := by decide +kernel
theorem dX4_takeFirst_21 : decode cX4_takeFirst 21 = .ok (.iconst 1, 1) := by decide +kernel
theorem dX4_takeFirst_22 : decode cX4_takeFirst 22 = .ok (.isub, 1) := by decide +kernel
theorem dX4_takeFirst_23 : decode cX4_takeFirst 23 = .ok (.putfield 19, 3) := by decide +kernel
theorem dX4_takeFirst_26 : decode cX4_takeFirst 26 = .ok (.iconst 0, 1) := by decide +kernel
theorem dX4_takeFirst_27 : decode cX4_takeFirst 27 = .ok (.istore_n 2, 1) := by decide +kernel
theorem dX4_takeFirst_28 : decode cX4_takeFirst 28 = .ok (.iload_n 2, 1) := by decide +kernel
theorem dX4_takeFirst_29 : decode cX4_takeFirst 29 = .ok (.aload_n 0, 1) := by decide +kernel
theorem dX4_takeFirst_30 : decode cX4_takeFirst 30 = .ok (.getfield 19, 3) := by decide +kernel
theorem dX4_takeFirst_33 : decode cX4_takeFirst 33 = .ok (.if_icmp .ge 23, 3) := by decide +kernel
theorem dX4_takeFirst_36 : decode cX4_takeFirst 36 = .ok (.aload_n 0, 1) := by decide +kernel
theorem dX4_takeFirst_37 : decode cX4_takeFirst 37 = .ok (.getfield 9, 3) := by decide +kernel
theorem dX4_takeFirst_40 : decode cX4_takeFirst 40 = .ok (.iload_n 2, 1) := by decide +kernel
theorem dX4_takeFirst_41 : decode cX4_takeFirst 41 = .ok (.aload_n 0, 1) := by decide +kernel
theorem dX4_takeFirst_42 : decode cX4_takeFirst 42 = .ok (.getfield 9, 3) := by decide +kernel
theorem dX4_takeFirst_45 : decode cX4_takeFirst 45 = .ok (.iload_n 2, 1) := by decide +kernel
theorem dX4_takeFirst_46 : decode cX4_takeFirst 46 = .ok (.iconst 1, 1) := by decide +kernel
theorem dX4_takeFirst_47 : decode cX4_takeFirst 47 = .ok (.iadd, 1) := by decide +kernel
theorem dX4_takeFirst_48 : decode cX4_takeFirst 48 = .ok (.iaload, 1) := by decide +kernel
theorem dX4_takeFirst_49 : decode cX4_takeFirst 49 = .ok (.iastore, 1) := by decide +kernel
theorem dX4_takeFirst_50 : decode cX4_takeFirst 50 = .ok (.iinc 2 1, 3) := by decide +kernel
theorem dX4_takeFirst_53 : decode cX4_takeFirst 53 = .ok (.goto (-25), 3) := by decide +kernel
theorem dX4_takeFirst_56 : decode cX4_takeFirst 56 = .ok (.aload_n 0, 1) := by decide +kernel
theorem dX4_takeFirst_57 : decode cX4_takeFirst 57 = .ok (.aload_n 0, 1) := by decide +kernel
theorem dX4_takeFirst_58 : decode cX4_takeFirst 58 = .ok (.getfield 15, 3) := by decide +kernel
theorem dX4_takeFirst_61 : decode cX4_takeFirst 61 = .ok (.iconst 1, 1) := by decide +kernel
theorem dX4_takeFirst_62 : decode cX4_takeFirst 62 = .ok (.isub, 1) := by decide +kernel
theorem dX4_takeFirst_63 : decode cX4_takeFirst 63 = .ok (.iconst 0, 1) := by decide +kernel
theorem dX4_takeFirst_64 : decode cX4_takeFirst 64 = .ok (.invokestatic 22, 3) := by decide +kernel
theorem dX4_takeFirst_67 : decode cX4_takeFirst 67 = .ok (.putfield 15, 3) := by decide +kernel
theorem dX4_takeFirst_70 : decode cX4_takeFirst 70 = .ok (.iload_n 1, 1) := by decide +kernel
theorem dX4_takeFirst_71 : decode cX4_takeFirst 71 = .ok (.ireturn, 1) := by decide +kernel
theorem dX4_clearAway_0 : decode cX4_clearAway 0 = .ok (.aload_n 0, 1) := by decide +kernel
theorem dX4_clearAway_1 : decode cX4_clearAway 1 = .ok (.iconst 0, 1) := by decide +kernel
theorem dX4_clearAway_2 : decode cX4_clearAway 2 = .ok (.putfield 19, 3) := by decide +kernel
theorem dX4_clearAway_5 : decode cX4_clearAway 5 = .ok (.aload_n 0, 1) := by decide +kernel
theorem dX4_clearAway_6 : decode cX4_clearAway 6 = .ok (.iconst 0, 1) := by decide +kernel
theorem dX4_clearAway_7 : decode cX4_clearAway 7 = .ok (.putfield 15, 3) := by decide +kernel
theorem dX4_clearAway_10 : decode cX4_clearAway 10 = .ok (.return_, 1) := by decide +kernel
theorem dX5_init_0 : decode cX5_init 0 = .ok (.aload_n 0, 1) := by decide +kernel
theorem dX5_init_1 : decode cX5_init 1 = .ok (.invokespecial 3, 3) := by decide +kernel
theorem dX5_init_4 : decode cX5_init 4 = .ok (.aload_n 0, 1) := by decide +kernel
theorem dX5_init_5 : decode cX5_init 5 = .ok (.new 9, 3) := by decide +kernel
theorem dX5_init_8 : decode cX5_init 8 = .ok (.dup, 1) := by decide +kernel
theorem dX5_init_9 : decode cX5_init 9 = .ok (.invokespecial 11, 3) := by decide +kernel
theorem dX5_init_12 : decode cX5_init 12 = .ok (.putfield 12, 3) := by decide +kernel
theorem dX5_init_15 : decode cX5_init 15 = .ok (.aload_n 0, 1) := by decide +kernel
theorem dX5_init_16 : decode cX5_init 16 = .ok (.iconst 0, 1) := by decide +kernel
theorem dX5_init_17 : decode cX5_init 17 = .ok (.putfield 18, 3) := by decide +kernel
theorem dX5_init_20 : decode cX5_init 20 = .ok (.aload_n 0, 1) := by decide +kernel
theorem dX5_init_21 : decode cX5_init 21 = .ok (.iconst 0, 1) := by decide +kernel
theorem dX5_init_22 : decode cX5_init 22 = .ok (.putfield 22, 3) := by decide +kernel
theorem dX5_init_25 : decode cX5_init 25 = .ok (.aload_n 0, 1) := by decide +kernel
theorem dX5_init_26 : decode cX5_init 26 = .ok (.iload_n 1, 1) := by decide +kernel
theorem dX5_init_27 : decode cX5_init 27 = .ok (.putfield 25, 3) := by decide +kernel
theorem dX5_init_30 : decode cX5_init 30 = .ok (.aload_n 0, 1) := by decide +kernel
theorem dX5_init_31 : decode cX5_init 31 = .ok (.aload_n 2, 1) := by decide +kernel
theorem dX5_init_32 : decode cX5_init 32 = .ok (.putfield 28, 3) := by decide +kernel
theorem dX5_init_35 : decode cX5_init 35 = .ok (.aload_n 0, 1) := by decide +kernel
theorem dX5_init_36 : decode cX5_init 36 = .ok (.aload_n 3, 1) := by decide +kernel
theorem dX5_init_37 : decode cX5_init 37 = .ok (.putfield 32, 3) := by decide +kernel
theorem dX5_init_40 : decode cX5_init 40 = .ok (.aload_n 0, 1) := by decide +kernel
theorem dX5_init_41 : decode cX5_init 41 = .ok (.iload 4, 2) := by decide +kernel
theorem dX5_init_43 : decode cX5_init 43 = .ok (.putfield 36, 3) := by decide +kernel
theorem dX5_init_46 : decode cX5_init 46 = .ok (.aload_n 3, 1) := by decide +kernel
theorem dX5_init_47 : decode cX5_init 47 = .ok (.getfield 39, 3) := by decide +kernel
theorem dX5_init_50 : decode cX5_init 50 = .ok (.aload_n 3, 1) := by decide +kernel
theorem dX5_init_51 : decode cX5_init 51 = .ok (.getfield 44, 3) := by decide +kernel
theorem dX5_init_54 : decode cX5_init 54 = .ok (.imul, 1) := by decide +kernel
theorem dX5_init_55 : decode cX5_init 55 = .ok (.newarray .int, 2) := by decide +kernel
theorem dX5_init_57 : decode cX5_init 57 = .ok (.astore 5, 2) := by decide +kernel
theorem dX5_init_59 : decode cX5_init 59 = .ok (.aload 5, 2) := by decide +kernel
theorem dX5_init_61 : decode cX5_init 61 = .ok (.iconst (-1), 1) := by decide +kernel
theorem dX5_init_62 : decode cX5_init 62 = .ok (.invokestatic 47, 3) := by decide +kernel
theorem dX5_init_65 : decode cX5_init 65 = .ok (.aload_n 0, 1) := by decide +kernel
theorem dX5_init_66 : decode cX5_init 66 = .ok (.aload 5, 2) := by decide +kernel
theorem dX5_init_68 : decode cX5_init 68 = .ok (.putfield 53, 3) := by decide +kernel
theorem dX5_init_71 : decode cX5_init 71 = .ok (.return_, 1) := by decide +kernel
theorem dX5_end_0 : decode cX5_end 0 = .ok (.aload_n 0, 1) := by decide +kernel
theorem dX5_end_1 : decode cX5_end 1 = .ok (.getfield 36, 3) := by decide +kernel
theorem dX5_end_4 : decode cX5_end 4 = .ok (.aload_n 0, 1) := by decide +kernel
theorem dX5_end_5 : decode cX5_end 5 = .ok (.getfield 28, 3) := by decide +kernel
theorem dX5_end_8 : decode cX5_end 8 = .ok (.getfield 57, 3) := by decide +kernel
theorem dX5_end_11 : decode cX5_end 11 = .ok (.iadd, 1) := by decide +kernel
theorem dX5_end_12 : decode cX5_end 12 = .ok (.ireturn, 1) := by decide +kernel
theorem dX5_week_0 : decode cX5_week 0 = .ok (.aload_n 0, 1) := by decide +kernel
theorem dX5_week_1 : decode cX5_week 1 = .ok (.getfield 36, 3) := by decide +kernel
theorem dX5_week_4 : decode cX5_week 4 = .ok (.sipush 10080, 3) := by decide +kernel
theorem dX5_week_7 : decode cX5_week 7 = .ok (.idiv, 1) := by decide +kernel
theorem dX5_week_8 : decode cX5_week 8 = .ok (.ireturn, 1) := by decide +kernel
theorem dX5_isToCome_0 : decode cX5_isToCome 0 = .ok (.aload_n 0, 1) := by decide +kernel
theorem dX5_isToCome_1 : decode cX5_isToCome 1 = .ok (.getfield 18, 3) := by decide +kernel
theorem dX5_isToCome_4 : decode cX5_isToCome 4 = .ok (.ifCond .eq 11, 3) := by decide +kernel
theorem dX5_isToCome_7 : decode cX5_isToCome 7 = .ok (.aload_n 0, 1) := by decide +kernel
theorem dX5_isToCome_8 : decode cX5_isToCome 8 = .ok (.getfield 18, 3) := by decide +kernel
theorem dX5_isToCome_11 : decode cX5_isToCome 11 = .ok (.iconst 1, 1) := by decide +kernel
theorem dX5_isToCome_12 : decode cX5_isToCome 12 = .ok (.if_icmp .ne 7, 3) := by decide +kernel
theorem dX5_isToCome_15 : decode cX5_isToCome 15 = .ok (.iconst 1, 1) := by decide +kernel
theorem dX5_isToCome_16 : decode cX5_isToCome 16 = .ok (.goto 4, 3) := by decide +kernel
theorem dX5_isToCome_19 : decode cX5_isToCome 19 = .ok (.iconst 0, 1) := by decide +kernel
theorem dX5_isToCome_20 : decode cX5_isToCome 20 = .ok (.ireturn, 1) := by decide +kernel
theorem dX5_priceFor_0 : decode cX5_priceFor 0 = .ok (.aload_n 0, 1) := by decide +kernel
theorem dX5_priceFor_1 : decode cX5_priceFor 1 = .ok (.getfield 28, 3) := by decide +kernel
theorem dX5_priceFor_4 : decode cX5_priceFor 4 = .ok (.getfield 62, 3) := by decide +kernel
theorem dX5_priceFor_7 : decode cX5_priceFor 7 = .ok (.istore_n 2, 1) := by decide +kernel
theorem dX5_priceFor_8 : decode cX5_priceFor 8 = .ok (.aload_n 0, 1) := by decide +kernel
theorem dX5_priceFor_9 : decode cX5_priceFor 9 = .ok (.getfield 36, 3) := by decide +kernel
theorem dX5_priceFor_12 : decode cX5_priceFor 12 = .ok (.sipush 1440, 3) := by decide +kernel
theorem dX5_priceFor_15 : decode cX5_priceFor 15 = .ok (.irem, 1) := by decide +kernel
theorem dX5_priceFor_16 : decode cX5_priceFor 16 = .ok (.sipush 1080, 3) := by decide +kernel
theorem dX5_priceFor_19 : decode cX5_priceFor 19 = .ok (.if_icmp .ge 9, 3) := by decide +kernel
theorem dX5_priceFor_22 : decode cX5_priceFor 22 = .ok (.iload_n 2, 1) := by decide +kernel
theorem dX5_priceFor_23 : decode cX5_priceFor 23 = .ok (.iconst 3, 1) := by decide +kernel
theorem dX5_priceFor_24 : decode cX5_priceFor 24 = .ok (.imul, 1) := by decide +kernel
theorem dX5_priceFor_25 : decode cX5_priceFor 25 = .ok (.iconst 4, 1) := by decide +kernel
theorem dX5_priceFor_26 : decode cX5_priceFor 26 = .ok (.idiv, 1) := by decide +kernel
theorem dX5_priceFor_27 : decode cX5_priceFor 27 = .ok (.istore_n 2, 1) := by decide +kernel
theorem dX5_priceFor_28 : decode cX5_priceFor 28 = .ok (.iload_n 1, 1) := by decide +kernel
theorem dX5_priceFor_29 : decode cX5_priceFor 29 = .ok (.bipush 12, 2) := by decide +kernel
theorem dX5_priceFor_31 : decode cX5_priceFor 31 = .ok (.if_icmp .ge 9, 3) := by decide +kernel
theorem dX5_priceFor_34 : decode cX5_priceFor 34 = .ok (.iload_n 2, 1) := by decide +kernel
theorem dX5_priceFor_35 : decode cX5_priceFor 35 = .ok (.iconst 2, 1) := by decide +kernel
theorem dX5_priceFor_36 : decode cX5_priceFor 36 = .ok (.idiv, 1) := by decide +kernel
theorem dX5_priceFor_37 : decode cX5_priceFor 37 = .ok (.goto 4, 3) := by decide +kernel
theorem dX5_priceFor_40 : decode cX5_priceFor 40 = .ok (.iload_n 2, 1) := by decide +kernel
theorem dX5_priceFor_41 : decode cX5_priceFor 41 = .ok (.ireturn, 1) := by decide +kernel
theorem dX5_rowOf_0 : decode cX5_rowOf 0 = .ok (.iload_n 1, 1) := by decide +kernel
theorem dX5_rowOf_1 : decode cX5_rowOf 1 = .ok (.aload_n 0, 1) := by decide +kernel
theorem dX5_rowOf_2 : decode cX5_rowOf 2 = .ok (.getfield 32, 3) := by decide +kernel
theorem dX5_rowOf_5 : decode cX5_rowOf 5 = .ok (.getfield 44, 3) := by decide +kernel
theorem dX5_rowOf_8 : decode cX5_rowOf 8 = .ok (.iconst 1, 1) := by decide +kernel
theorem dX5_rowOf_9 : decode cX5_rowOf 9 = .ok (.invokestatic 65, 3) := by decide +kernel
theorem dX5_rowOf_12 : decode cX5_rowOf 12 = .ok (.idiv, 1) := by decide +kernel
theorem dX5_rowOf_13 : decode cX5_rowOf 13 = .ok (.ireturn, 1) := by decide +kernel
theorem dX5_seatOf_0 : decode cX5_seatOf 0 = .ok (.iload_n 1, 1) := by decide +kernel
theorem dX5_seatOf_1 : decode cX5_seatOf 1 = .ok (.aload_n 0, 1) := by decide +kernel
theorem dX5_seatOf_2 : decode cX5_seatOf 2 = .ok (.getfield 32, 3) := by decide +kernel
theorem dX5_seatOf_5 : decode cX5_seatOf 5 = .ok (.getfield 44, 3) := by decide +kernel
theorem dX5_seatOf_8 : decode cX5_seatOf 8 = .ok (.iconst 1, 1) := by decide +kernel
theorem dX5_seatOf_9 : decode cX5_seatOf 9 = .ok (.invokestatic 65, 3) := by decide +kernel
theorem dX5_seatOf_12 : decode cX5_seatOf 12 = .ok (.irem, 1) := by decide +kernel
theorem dX5_seatOf_13 : decode cX5_seatOf 13 = .ok (.ireturn, 1) := by decide +kernel
theorem dX5_countFree_0 : decode cX5_countFree 0 = .ok (.iconst 0, 1) := by decide +kernel
theorem dX5_countFree_1 : decode cX5_countFree 1 = .ok (.istore_n 1, 1) := by decide +kernel
theorem dX5_countFree_2 : decode cX5_countFree 2 = .ok (.iconst 0, 1) := by decide +kernel
theorem dX5_countFree_3 : decode cX5_countFree 3 = .ok (.istore_n 2, 1) := by decide +kernel
theorem dX5_countFree_4 : decode cX5_countFree 4 = .ok (.iload_n 2, 1) := by decide +kernel
theorem dX5_countFree_5 : decode cX5_countFree 5 = .ok (.aload_n 0, 1) := by decide +kernel
theorem dX5_countFree_6 : decode cX5_countFree 6 = .ok (.getfield 53, 3) := by decide +kernel
theorem dX5_countFree_9 : decode cX5_countFree 9 = .ok (.arraylength, 1) := by decide +kernel
theorem dX5_countFree_10 : decode cX5_countFree 10 = .ok (.if_icmp .ge 22, 3) := by decide +kernel
theorem dX5_countFree_13 : decode cX5_countFree 13 = .ok (.aload_n 0, 1) := by decide +kernel
theorem dX5_countFree_14 : decode cX5_countFree 14 = .ok (.getfield 53, 3) := by decide +kernel
theorem dX5_countFree_17 : decode cX5_countFree 17 = .ok (.iload_n 2, 1) := by decide +kernel
theorem dX5_countFree_18 : decode cX5_countFree 18 = .ok (.iaload, 1) := by decide +kernel
theorem dX5_countFree_19 : decode cX5_countFree 19 = .ok (.iconst (-1), 1) := by decide +kernel
theorem dX5_countFree_20 : decode cX5_countFree 20 = .ok (.if_icmp .ne 6, 3) := by decide +kernel
theorem dX5_countFree_23 : decode cX5_countFree 23 = .ok (.iinc 1 1, 3) := by decide +kernel
theorem dX5_countFree_26 : decode cX5_countFree 26 = .ok (.iinc 2 1, 3) := by decide +kernel
theorem dX5_countFree_29 : decode cX5_countFree 29 = .ok (.goto (-25), 3) := by decide +kernel
theorem dX5_countFree_32 : decode cX5_countFree 32 = .ok (.iload_n 1, 1) := by decide +kernel
theorem dX5_countFree_33 : decode cX5_countFree 33 = .ok (.ireturn, 1) := by decide +kernel
theorem dX5_countHeld_0 : decode cX5_countHeld 0 = .ok (.iconst 0, 1) := by decide +kernel
theorem dX5_countHeld_1 : decode cX5_countHeld 1 = .ok (.istore_n 1, 1) := by decide +kernel
theorem dX5_countHeld_2 : decode cX5_countHeld 2 = .ok (.iconst 0, 1) := by decide +kernel
theorem dX5_countHeld_3 : decode cX5_countHeld 3 = .ok (.istore_n 2, 1) := by decide +kernel
theorem dX5_countHeld_4 : decode cX5_countHeld 4 = .ok (.iload_n 2, 1) := by decide +kernel
theorem dX5_countHeld_5 : decode cX5_countHeld 5 = .ok (.aload_n 0, 1) := by decide +kernel
theorem dX5_countHeld_6 : decode cX5_countHeld 6 = .ok (.getfield 53, 3) := by decide +kernel
theorem dX5_countHeld_9 : decode cX5_countHeld 9 = .ok (.arraylength, 1) := by decide +kernel
theorem dX5_countHeld_10 : decode cX5_countHeld 10 = .ok (.if_icmp .ge 24, 3) := by decide +kernel
theorem dX5_countHeld_13 : decode cX5_countHeld 13 = .ok (.aload_n 0, 1) := by decide +kernel
theorem dX5_countHeld_14 : decode cX5_countHeld 14 = .ok (.getfield 53, 3) := by decide +kernel
theorem dX5_countHeld_17 : decode cX5_countHeld 17 = .ok (.iload_n 2, 1) := by decide +kernel
theorem dX5_countHeld_18 : decode cX5_countHeld 18 = .ok (.iaload, 1) := by decide +kernel
theorem dX5_countHeld_19 : decode cX5_countHeld 19 = .ok (.sipush 1000, 3) := by decide +kernel
theorem dX5_countHeld_22 : decode cX5_countHeld 22 = .ok (.if_icmp .lt 6, 3) := by decide +kernel
theorem dX5_countHeld_25 : decode cX5_countHeld 25 = .ok (.iinc 1 1, 3) := by decide +kernel
theorem dX5_countHeld_28 : decode cX5_countHeld 28 = .ok (.iinc 2 1, 3) := by decide +kernel
theorem dX5_countHeld_31 : decode cX5_countHeld 31 = .ok (.goto (-27), 3) := by decide +kernel
theorem dX5_countHeld_34 : decode cX5_countHeld 34 = .ok (.iload_n 1, 1) := by decide +kernel
theorem dX5_countHeld_35 : decode cX5_countHeld 35 = .ok (.ireturn, 1) := by decide +kernel
theorem dX5_countSold_0 : decode cX5_countSold 0 = .ok (.aload_n 0, 1) := by decide +kernel
theorem dX5_countSold_1 : decode cX5_countSold 1 = .ok (.getfield 53, 3) := by decide +kernel
theorem dX5_countSold_4 : decode cX5_countSold 4 = .ok (.arraylength, 1) := by decide +kernel
theorem dX5_countSold_5 : decode cX5_countSold 5 = .ok (.aload_n 0, 1) := by decide +kernel
theorem dX5_countSold_6 : decode cX5_countSold 6 = .ok (.invokevirtual 71, 3) := by decide +kernel
theorem dX5_countSold_9 : decode cX5_countSold 9 = .ok (.isub, 1) := by decide +kernel
theorem dX5_countSold_10 : decode cX5_countSold 10 = .ok (.aload_n 0, 1) := by decide +kernel
theorem dX5_countSold_11 : decode cX5_countSold 11 = .ok (.invokevirtual 75, 3) := by decide +kernel
theorem dX5_countSold_14 : decode cX5_countSold 14 = .ok (.isub, 1) := by decide +kernel
theorem dX5_countSold_15 : decode cX5_countSold 15 = .ok (.ireturn, 1) := by decide +kernel
theorem dX5_clearPlaces_0 : decode cX5_clearPlaces 0 = .ok (.aload_n 0, 1) := by decide +kernel
theorem dX5_clearPlaces_1 : decode cX5_clearPlaces 1 = .ok (.getfield 53, 3) := by decide +kernel
theorem dX5_clearPlaces_4 : decode cX5_clearPlaces 4 = .ok (.iconst (-1), 1) := by decide +kernel
theorem dX5_clearPlaces_5 : decode cX5_clearPlaces 5 = .ok (.invokestatic 47, 3) := by decide +kernel
theorem dX5_clearPlaces_8 : decode cX5_clearPlaces 8 = .ok (.return_, 1) := by decide +kernel
theorem dX5_placeForGroup_0 : decode cX5_placeForGroup 0 = .ok (.iconst 0, 1) := by decide +kernel
theorem dX5_placeForGroup_1 : decode cX5_placeForGroup 1 = .ok (.istore_n 2, 1) := by decide +kernel
theorem dX5_placeForGroup_2 : decode cX5_placeForGroup 2 = .ok (.iload_n 2, 1) := by decide +kernel
theorem dX5_placeForGroup_3 : decode cX5_placeForGroup 3 = .ok (.aload_n 0, 1) := by decide +kernel
theorem dX5_placeForGroup_4 : decode cX5_placeForGroup 4 = .ok (.getfield 32, 3) := by decide +kernel
theorem dX5_placeForGroup_7 : decode cX5_placeForGroup 7 = .ok (.getfield 39, 3) := by decide +kernel
theorem dX5_placeForGroup_10 : decode cX5_placeForGroup 10 = .ok (.if_icmp .ge 33, 3) := by decide +kernel
theorem dX5_placeForGroup_13 : decode cX5_placeForGroup 13 = .ok (.aload_n 0, 1) := by decide +kernel
theorem dX5_placeForGroup_14 : decode cX5_placeForGroup 14 = .ok (.iload_n 2, 1) := by decide +kernel
theorem dX5_placeForGroup_15 : decode cX5_placeForGroup 15 = .ok (.iload_n 1, 1) := by decide +kernel
theorem dX5_placeForGroup_16 : decode cX5_placeForGroup 16 = .ok (.invokevirtual 78, 3) := by decide +kernel
theorem dX5_placeForGroup_19 : decode cX5_placeForGroup 19 = .ok (.istore_n 3, 1) := by decide +kernel
theorem dX5_placeForGroup_20 : decode cX5_placeForGroup 20 = .ok (.iload_n 3, 1) := by decide +kernel
theorem dX5_placeForGroup_21 : decode cX5_placeForGroup 21 = .ok (.iconst (-1), 1) := by decide +kernel
theorem dX5_placeForGroup_22 : decode cX5_placeForGroup 22 = .ok (.if_icmp .eq 15, 3) := by decide +kernel
theorem dX5_placeForGroup_25 : decode cX5_placeForGroup 25 = .ok (.iload_n 2, 1) := by decide +kernel
theorem dX5_placeForGroup_26 : decode cX5_placeForGroup 26 = .ok (.aload_n 0, 1) := by decide +kernel
theorem dX5_placeForGroup_27 : decode cX5_placeForGroup 27 = .ok (.getfield 32, 3) := by decide +kernel
theorem dX5_placeForGroup_30 : decode cX5_placeForGroup 30 = .ok (.getfield 44, 3) := by decide +kernel
theorem dX5_placeForGroup_33 : decode cX5_placeForGroup 33 = .ok (.imul, 1) := by decide +kernel
theorem dX5_placeForGroup_34 : decode cX5_placeForGroup 34 = .ok (.iload_n 3, 1) := by decide +kernel
theorem dX5_placeForGroup_35 : decode cX5_placeForGroup 35 = .ok (.iadd, 1) := by decide +kernel
theorem dX5_placeForGroup_36 : decode cX5_placeForGroup 36 = .ok (.ireturn, 1) := by decide +kernel
theorem dX5_placeForGroup_37 : decode cX5_placeForGroup 37 = .ok (.iinc 2 1, 3) := by decide +kernel
theorem dX5_placeForGroup_40 : decode cX5_placeForGroup 40 = .ok (.goto (-38), 3) := by decide +kernel
theorem dX5_placeForGroup_43 : decode cX5_placeForGroup 43 = .ok (.iconst (-1), 1) := by decide +kernel
theorem dX5_placeForGroup_44 : decode cX5_placeForGroup 44 = .ok (.ireturn, 1) := by decide +kernel
theorem dX5_bestInRow_0 : decode cX5_bestInRow 0 = .ok (.iconst (-1), 1) := by decide +kernel
theorem dX5_bestInRow_1 : decode cX5_bestInRow 1 = .ok (.istore_n 3, 1) := by decide +kernel
theorem dX5_bestInRow_2 : decode cX5_bestInRow 2 = .ok (.iconst 0, 1) := by decide +kernel
theorem dX5_bestInRow_3 : decode cX5_bestInRow 3 = .ok (.istore 4, 2) := by decide +kernel
theorem dX5_bestInRow_5 : decode cX5_bestInRow 5 = .ok (.iconst 0, 1) := by decide +kernel
theorem dX5_bestInRow_6 : decode cX5_bestInRow 6 = .ok (.istore 5, 2) := by decide +kernel
theorem dX5_bestInRow_8 : decode cX5_bestInRow 8 = .ok (.iload 5, 2) := by decide +kernel
theorem dX5_bestInRow_10 : decode cX5_bestInRow 10 = .ok (.iload_n 2, 1) := by decide +kernel
theorem dX5_bestInRow_11 : decode cX5_bestInRow 11 = .ok (.iadd, 1) := by decide +kernel
theorem dX5_bestInRow_12 : decode cX5_bestInRow 12 = .ok (.aload_n 0, 1) := by decide +kernel
theorem dX5_bestInRow_13 : decode cX5_bestInRow 13 = .ok (.getfield 32, 3) := by decide +kernel
theorem dX5_bestInRow_16 : decode cX5_bestInRow 16 = .ok (.getfield 44, 3) := by decide +kernel
theorem dX5_bestInRow_19 : decode cX5_bestInRow 19 = .ok (.if_icmp .gt 67, 3) := by decide +kernel
theorem dX5_bestInRow_22 : decode cX5_bestInRow 22 = .ok (.iconst 2, 1) := by decide +kernel
theorem dX5_bestInRow_23 : decode cX5_bestInRow 23 = .ok (.iload 5, 2) := by decide +kernel
theorem dX5_bestInRow_25 : decode cX5_bestInRow 25 = .ok (.imul, 1) := by decide +kernel
theorem dX5_bestInRow_26 : decode cX5_bestInRow 26 = .ok (.iload_n 2, 1) := by decide +kernel
theorem dX5_bestInRow_27 : decode cX5_bestInRow 27 = .ok (.iadd, 1) := by decide +kernel
theorem dX5_bestInRow_28 : decode cX5_bestInRow 28 = .ok (.aload_n 0, 1) := by decide +kernel
theorem dX5_bestInRow_29 : decode cX5_bestInRow 29 = .ok (.getfield 32, 3) := by decide +kernel
theorem dX5_bestInRow_32 : decode cX5_bestInRow 32 = .ok (.getfield 44, 3) := by decide +kernel
theorem dX5_bestInRow_35 : decode cX5_bestInRow 35 = .ok (.isub, 1) := by decide +kernel
theorem dX5_bestInRow_36 : decode cX5_bestInRow 36 = .ok (.invokestatic 81, 3) := by decide +kernel
theorem dX5_bestInRow_39 : decode cX5_bestInRow 39 = .ok (.istore 6, 2) := by decide +kernel
theorem dX5_bestInRow_41 : decode cX5_bestInRow 41 = .ok (.aload_n 0, 1) := by decide +kernel
theorem dX5_bestInRow_42 : decode cX5_bestInRow 42 = .ok (.iload_n 1, 1) := by decide +kernel
theorem dX5_bestInRow_43 : decode cX5_bestInRow 43 = .ok (.aload_n 0, 1) := by decide +kernel
theorem dX5_bestInRow_44 : decode cX5_bestInRow 44 = .ok (.getfield 32, 3) := by decide +kernel
theorem dX5_bestInRow_47 : decode cX5_bestInRow 47 = .ok (.getfield 44, 3) := by decide +kernel
theorem dX5_bestInRow_50 : decode cX5_bestInRow 50 = .ok (.imul, 1) := by decide +kernel
theorem dX5_bestInRow_51 : decode cX5_bestInRow 51 = .ok (.iload 5, 2) := by decide +kernel
theorem dX5_bestInRow_53 : decode cX5_bestInRow 53 = .ok (.iadd, 1) := by decide +kernel
theorem dX5_bestInRow_54 : decode cX5_bestInRow 54 = .ok (.iload_n 2, 1) := by decide +kernel
theorem dX5_bestInRow_55 : decode cX5_bestInRow 55 = .ok (.invokevirtual 85, 3) := by decide +kernel
theorem dX5_bestInRow_58 : decode cX5_bestInRow 58 = .ok (.ifCond .eq 22, 3) := by decide +kernel
theorem dX5_bestInRow_61 : decode cX5_bestInRow 61 = .ok (.iload_n 3, 1) := by decide +kernel
theorem dX5_bestInRow_62 : decode cX5_bestInRow 62 = .ok (.iconst (-1), 1) := by decide +kernel
theorem dX5_bestInRow_63 : decode cX5_bestInRow 63 = .ok (.if_icmp .eq 10, 3) := by decide +kernel
theorem dX5_bestInRow_66 : decode cX5_bestInRow 66 = .ok (.iload 6, 2) := by decide +kernel
theorem dX5_bestInRow_68 : decode cX5_bestInRow 68 = .ok (.iload 4, 2) := by decide +kernel
theorem dX5_bestInRow_70 : decode cX5_bestInRow 70 = .ok (.if_icmp .ge 10, 3) := by decide +kernel
theorem dX5_bestInRow_73 : decode cX5_bestInRow 73 = .ok (.iload 5, 2) := by decide +kernel
theorem dX5_bestInRow_75 : decode cX5_bestInRow 75 = .ok (.istore_n 3, 1) := by decide +kernel
theorem dX5_bestInRow_76 : decode cX5_bestInRow 76 = .ok (.iload 6, 2) := by decide +kernel
theorem dX5_bestInRow_78 : decode cX5_bestInRow 78 = .ok (.istore 4, 2) := by decide +kernel
theorem dX5_bestInRow_80 : decode cX5_bestInRow 80 = .ok (.iinc 5 1, 3) := by decide +kernel
theorem dX5_bestInRow_83 : decode cX5_bestInRow 83 = .ok (.goto (-75), 3) := by decide +kernel
theorem dX5_bestInRow_86 : decode cX5_bestInRow 86 = .ok (.iload_n 3, 1) := by decide +kernel
theorem dX5_bestInRow_87 : decode cX5_bestInRow 87 = .ok (.ireturn, 1) := by decide +kernel
theorem dX5_areFree_0 : decode cX5_areFree 0 = .ok (.iload_n 1, 1) := by decide +kernel
theorem dX5_areFree_1 : decode cX5_areFree 1 = .ok (.istore_n 3, 1) := by decide +kernel
theorem dX5_areFree_2 : decode cX5_areFree 2 = .ok (.iload_n 3, 1) := by decide +kernel
theorem dX5_areFree_3 : decode cX5_areFree 3 = .ok (.iload_n 1, 1) := by decide +kernel
theorem dX5_areFree_4 : decode cX5_areFree 4 = .ok (.iload_n 2, 1) := by decide +kernel
theorem dX5_areFree_5 : decode cX5_areFree 5 = .ok (.iadd, 1) := by decide +kernel
theorem dX5_areFree_6 : decode cX5_areFree 6 = .ok (.if_icmp .ge 30, 3) := by decide +kernel
theorem dX5_areFree_9 : decode cX5_areFree 9 = .ok (.iload_n 3, 1) := by decide +kernel
theorem dX5_areFree_10 : decode cX5_areFree 10 = .ok (.aload_n 0, 1) := by decide +kernel
theorem dX5_areFree_11 : decode cX5_areFree 11 = .ok (.getfield 53, 3) := by decide +kernel
theorem dX5_areFree_14 : decode cX5_areFree 14 = .ok (.arraylength, 1) := by decide +kernel
theorem dX5_areFree_15 : decode cX5_areFree 15 = .ok (.if_icmp .ge 13, 3) := by decide +kernel
theorem dX5_areFree_18 : decode cX5_areFree 18 = .ok (.aload_n 0, 1) := by decide +kernel
theorem dX5_areFree_19 : decode cX5_areFree 19 = .ok (.getfield 53, 3) := by decide +kernel
theorem dX5_areFree_22 : decode cX5_areFree 22 = .ok (.iload_n 3, 1) := by decide +kernel
theorem dX5_areFree_23 : decode cX5_areFree 23 = .ok (.iaload, 1) := by decide +kernel
theorem dX5_areFree_24 : decode cX5_areFree 24 = .ok (.iconst (-1), 1) := by decide +kernel
theorem dX5_areFree_25 : decode cX5_areFree 25 = .ok (.if_icmp .eq 5, 3) := by decide +kernel
theorem dX5_areFree_28 : decode cX5_areFree 28 = .ok (.iconst 0, 1) := by decide +kernel
theorem dX5_areFree_29 : decode cX5_areFree 29 = .ok (.ireturn, 1) := by decide +kernel
theorem dX5_areFree_30 : decode cX5_areFree 30 = .ok (.iinc 3 1, 3) := by decide +kernel
theorem dX5_areFree_33 : decode cX5_areFree 33 = .ok (.goto (-31), 3) := by decide +kernel
theorem dX5_areFree_36 : decode cX5_areFree 36 = .ok (.iconst 1, 1) := by decide +kernel
theorem dX5_areFree_37 : decode cX5_areFree 37 = .ok (.ireturn, 1) := by decide +kernel
theorem dX6_init_0 : decode cX6_init 0 = .ok (.aload_n 0, 1) := by decide +kernel
theorem dX6_init_1 : decode cX6_init 1 = .ok (.invokespecial 1, 3) := by decide +kernel
theorem dX6_init_4 : decode cX6_init 4 = .ok (.aload_n 0, 1) := by decide +kernel
theorem dX6_init_5 : decode cX6_init 5 = .ok (.iconst 0, 1) := by decide +kernel
theorem dX6_init_6 : decode cX6_init 6 = .ok (.putfield 7, 3) := by decide +kernel
theorem dX6_init_9 : decode cX6_init 9 = .ok (.aload_n 0, 1) := by decide +kernel
theorem dX6_init_10 : decode cX6_init 10 = .ok (.aload_n 1, 1) := by decide +kernel
theorem dX6_init_11 : decode cX6_init 11 = .ok (.putfield 13, 3) := by decide +kernel
theorem dX6_init_14 : decode cX6_init 14 = .ok (.aload_n 0, 1) := by decide +kernel
theorem dX6_init_15 : decode cX6_init 15 = .ok (.iload_n 2, 1) := by decide +kernel
theorem dX6_init_16 : decode cX6_init 16 = .ok (.putfield 17, 3) := by decide +kernel
theorem dX6_init_19 : decode cX6_init 19 = .ok (.aload_n 0, 1) := by decide +kernel
theorem dX6_init_20 : decode cX6_init 20 = .ok (.iload_n 3, 1) := by decide +kernel
theorem dX6_init_21 : decode cX6_init 21 = .ok (.putfield 21, 3) := by decide +kernel
theorem dX6_init_24 : decode cX6_init 24 = .ok (.aload_n 0, 1) := by decide +kernel
theorem dX6_init_25 : decode cX6_init 25 = .ok (.iload 4, 2) := by decide +kernel
theorem dX6_init_27 : decode cX6_init 27 = .ok (.putfield 24, 3) := by decide +kernel
theorem dX6_init_30 : decode cX6_init 30 = .ok (.return_, 1) := by decide +kernel
theorem dX6_payBack_0 : decode cX6_payBack 0 = .ok (.aload_n 0, 1) := by decide +kernel
theorem dX6_payBack_1 : decode cX6_payBack 1 = .ok (.dup, 1) := by decide +kernel
theorem dX6_payBack_2 : decode cX6_payBack 2 = .ok (.getfield 24, 3) := by decide +kernel
theorem dX6_payBack_5 : decode cX6_payBack 5 = .ok (.iload_n 1, 1) := by decide +kernel
theorem dX6_payBack_6 : decode cX6_payBack 6 = .ok (.isub, 1) := by decide +kernel
theorem dX6_payBack_7 : decode cX6_payBack 7 = .ok (.putfield 24, 3) := by decide +kernel
theorem dX6_payBack_10 : decode cX6_payBack 10 = .ok (.aload_n 0, 1) := by decide +kernel
theorem dX6_payBack_11 : decode cX6_payBack 11 = .ok (.getfield 13, 3) := by decide +kernel
theorem dX6_payBack_14 : decode cX6_payBack 14 = .ok (.dup, 1) := by decide +kernel
theorem dX6_payBack_15 : decode cX6_payBack 15 = .ok (.getfield 27, 3) := by decide +kernel
theorem dX6_payBack_18 : decode cX6_payBack 18 = .ok (.iload_n 1, 1) := by decide +kernel
theorem dX6_payBack_19 : decode cX6_payBack 19 = .ok (.isub, 1) := by decide +kernel
theorem dX6_payBack_20 : decode cX6_payBack 20 = .ok (.putfield 27, 3) := by decide +kernel
theorem dX6_payBack_23 : decode cX6_payBack 23 = .ok (.iload_n 1, 1) := by decide +kernel
theorem dX6_payBack_24 : decode cX6_payBack 24 = .ok (.ireturn, 1) := by decide +kernel
theorem dX7_init_0 : decode cX7_init 0 = .ok (.aload_n 0, 1) := by decide +kernel
theorem dX7_init_1 : decode cX7_init 1 = .ok (.invokespecial 1, 3) := by decide +kernel
theorem dX7_init_4 : decode cX7_init 4 = .ok (.aload_n 0, 1) := by decide +kernel
theorem dX7_init_5 : decode cX7_init 5 = .ok (.new 7, 3) := by decide +kernel
theorem dX7_init_8 : decode cX7_init 8 = .ok (.dup, 1) := by decide +kernel
theorem dX7_init_9 : decode cX7_init 9 = .ok (.invokespecial 9, 3) := by decide +kernel
theorem dX7_init_12 : decode cX7_init 12 = .ok (.putfield 10, 3) := by decide +kernel
theorem dX7_init_15 : decode cX7_init 15 = .ok (.aload_n 0, 1) := by decide +kernel
theorem dX7_init_16 : decode cX7_init 16 = .ok (.new 7, 3) := by decide +kernel
theorem dX7_init_19 : decode cX7_init 19 = .ok (.dup, 1) := by decide +kernel
theorem dX7_init_20 : decode cX7_init 20 = .ok (.invokespecial 9, 3) := by decide +kernel
theorem dX7_init_23 : decode cX7_init 23 = .ok (.putfield 16, 3) := by decide +kernel
theorem dX7_init_26 : decode cX7_init 26 = .ok (.aload_n 0, 1) := by decide +kernel
theorem dX7_init_27 : decode cX7_init 27 = .ok (.new 7, 3) := by decide +kernel
theorem dX7_init_30 : decode cX7_init 30 = .ok (.dup, 1) := by decide +kernel
theorem dX7_init_31 : decode cX7_init 31 = .ok (.invokespecial 9, 3) := by decide +kernel
theorem dX7_init_34 : decode cX7_init 34 = .ok (.putfield 19, 3) := by decide +kernel
theorem dX7_init_37 : decode cX7_init 37 = .ok (.aload_n 0, 1) := by decide +kernel
theorem dX7_init_38 : decode cX7_init 38 = .ok (.new 7, 3) := by decide +kernel
theorem dX7_init_41 : decode cX7_init 41 = .ok (.dup, 1) := by decide +kernel
theorem dX7_init_42 : decode cX7_init 42 = .ok (.invokespecial 9, 3) := by decide +kernel
theorem dX7_init_45 : decode cX7_init 45 = .ok (.putfield 22, 3) := by decide +kernel
theorem dX7_init_48 : decode cX7_init 48 = .ok (.aload_n 0, 1) := by decide +kernel
theorem dX7_init_49 : decode cX7_init 49 = .ok (.new 7, 3) := by decide +kernel
theorem dX7_init_52 : decode cX7_init 52 = .ok (.dup, 1) := by decide +kernel
theorem dX7_init_53 : decode cX7_init 53 = .ok (.invokespecial 9, 3) := by decide +kernel
theorem dX7_init_56 : decode cX7_init 56 = .ok (.putfield 25, 3) := by decide +kernel
theorem dX7_init_59 : decode cX7_init 59 = .ok (.aload_n 0, 1) := by decide +kernel
theorem dX7_init_60 : decode cX7_init 60 = .ok (.new 7, 3) := by decide +kernel
theorem dX7_init_63 : decode cX7_init 63 = .ok (.dup, 1) := by decide +kernel
theorem dX7_init_64 : decode cX7_init 64 = .ok (.invokespecial 9, 3) := by decide +kernel
theorem dX7_init_67 : decode cX7_init 67 = .ok (.putfield 28, 3) := by decide +kernel
theorem dX7_init_70 : decode cX7_init 70 = .ok (.aload_n 0, 1) := by decide +kernel
theorem dX7_init_71 : decode cX7_init 71 = .ok (.iconst 0, 1) := by decide +kernel
theorem dX7_init_72 : decode cX7_init 72 = .ok (.putfield 31, 3) := by decide +kernel
theorem dX7_init_75 : decode cX7_init 75 = .ok (.aload_n 0, 1) := by decide +kernel
theorem dX7_init_76 : decode cX7_init 76 = .ok (.bipush 10, 2) := by decide +kernel
theorem dX7_init_78 : decode cX7_init 78 = .ok (.putfield 35, 3) := by decide +kernel
theorem dX7_init_81 : decode cX7_init 81 = .ok (.return_, 1) := by decide +kernel
theorem dX7_hall_0 : decode cX7_hall 0 = .ok (.iload_n 1, 1) := by decide +kernel
theorem dX7_hall_1 : decode cX7_hall 1 = .ok (.iconst 1, 1) := by decide +kernel
theorem dX7_hall_2 : decode cX7_hall 2 = .ok (.bipush 6, 2) := by decide +kernel
theorem dX7_hall_4 : decode cX7_hall 4 = .ok (.invokestatic 38, 3) := by decide +kernel
theorem dX7_hall_7 : decode cX7_hall 7 = .ok (.iload_n 2, 1) := by decide +kernel
theorem dX7_hall_8 : decode cX7_hall 8 = .ok (.iconst 1, 1) := by decide +kernel
theorem dX7_hall_9 : decode cX7_hall 9 = .ok (.bipush 8, 2) := by decide +kernel
theorem dX7_hall_11 : decode cX7_hall 11 = .ok (.invokestatic 38, 3) := by decide +kernel
theorem dX7_hall_14 : decode cX7_hall 14 = .ok (.aload_n 0, 1) := by decide +kernel
theorem dX7_hall_15 : decode cX7_hall 15 = .ok (.getfield 10, 3) := by decide +kernel
theorem dX7_hall_18 : decode cX7_hall 18 = .ok (.invokevirtual 42, 3) := by decide +kernel
theorem dX7_hall_21 : decode cX7_hall 21 = .ok (.iconst 4, 1) := by decide +kernel
theorem dX7_hall_22 : decode cX7_hall 22 = .ok (.if_icmp .lt 13, 3) := by decide +kernel
theorem dX7_hall_25 : decode cX7_hall 25 = .ok (.new 46, 3) := by decide +kernel
theorem dX7_hall_28 : decode cX7_hall 28 = .ok (.dup, 1) := by decide +kernel
theorem dX7_hall_29 : decode cX7_hall 29 = .ok (.ldc 48, 2) := by decide +kernel
theorem dX7_hall_31 : decode cX7_hall 31 = .ok (.invokespecial 50, 3) := by decide +kernel
theorem dX7_hall_34 : decode cX7_hall 34 = .ok (.athrow, 1) := by decide +kernel
theorem dX7_hall_35 : decode cX7_hall 35 = .ok (.aload_n 0, 1) := by decide +kernel
theorem dX7_hall_36 : decode cX7_hall 36 = .ok (.getfield 10, 3) := by decide +kernel
theorem dX7_hall_39 : decode cX7_hall 39 = .ok (.new 53, 3) := by decide +kernel
theorem dX7_hall_42 : decode cX7_hall 42 = .ok (.dup, 1) := by decide +kernel
theorem dX7_hall_43 : decode cX7_hall 43 = .ok (.aload_n 0, 1) := by decide +kernel
theorem dX7_hall_44 : decode cX7_hall 44 = .ok (.getfield 10, 3) := by decide +kernel
theorem dX7_hall_47 : decode cX7_hall 47 = .ok (.invokevirtual 42, 3) := by decide +kernel
theorem dX7_hall_50 : decode cX7_hall 50 = .ok (.iload_n 1, 1) := by decide +kernel
theorem dX7_hall_51 : decode cX7_hall 51 = .ok (.iload_n 2, 1) := by decide +kernel
theorem dX7_hall_52 : decode cX7_hall 52 = .ok (.invokespecial 55, 3) := by decide +kernel
theorem dX7_hall_55 : decode cX7_hall 55 = .ok (.invokevirtual 57, 3) := by decide +kernel
theorem dX7_hall_58 : decode cX7_hall 58 = .ok (.pop, 1) := by decide +kernel
theorem dX7_hall_59 : decode cX7_hall 59 = .ok (.aload_n 0, 1) := by decide +kernel
theorem dX7_hall_60 : decode cX7_hall 60 = .ok (.getfield 10, 3) := by decide +kernel
theorem dX7_hall_63 : decode cX7_hall 63 = .ok (.invokevirtual 42, 3) := by decide +kernel
theorem dX7_hall_66 : decode cX7_hall 66 = .ok (.iconst 1, 1) := by decide +kernel
theorem dX7_hall_67 : decode cX7_hall 67 = .ok (.isub, 1) := by decide +kernel
theorem dX7_hall_68 : decode cX7_hall 68 = .ok (.ireturn, 1) := by decide +kernel
theorem dX7_lamp_0 : decode cX7_lamp 0 = .ok (.aload_n 0, 1) := by decide +kernel
theorem dX7_lamp_1 : decode cX7_lamp 1 = .ok (.iload_n 1, 1) := by decide +kernel
theorem dX7_lamp_2 : decode cX7_lamp 2 = .ok (.invokevirtual 61, 3) := by decide +kernel
theorem dX7_lamp_5 : decode cX7_lamp 5 = .ok (.astore 4, 2) := by decide +kernel
theorem dX7_lamp_7 : decode cX7_lamp 7 = .ok (.iload_n 2, 1) := by decide +kernel
theorem dX7_lamp_8 : decode cX7_lamp 8 = .ok (.iconst 1, 1) := by decide +kernel
theorem dX7_lamp_9 : decode cX7_lamp 9 = .ok (.ldc 65, 2) := by decide +kernel
theorem dX7_lamp_11 : decode cX7_lamp 11 = .ok (.invokestatic 38, 3) := by decide +kernel
theorem dX7_lamp_14 : decode cX7_lamp 14 = .ok (.aload 4, 2) := by decide +kernel
theorem dX7_lamp_16 : decode cX7_lamp 16 = .ok (.getfield 66, 3) := by decide +kernel
theorem dX7_lamp_19 : decode cX7_lamp 19 = .ok (.istore 5, 2) := by decide +kernel
theorem dX7_lamp_21 : decode cX7_lamp 21 = .ok (.aload 4, 2) := by decide +kernel
theorem dX7_lamp_23 : decode cX7_lamp 23 = .ok (.iload_n 2, 1) := by decide +kernel
theorem dX7_lamp_24 : decode cX7_lamp 24 = .ok (.putfield 69, 3) := by decide +kernel
theorem dX7_lamp_27 : decode cX7_lamp 27 = .ok (.iload_n 3, 1) := by decide +kernel
theorem dX7_lamp_28 : decode cX7_lamp 28 = .ok (.ifCond .eq 9, 3) := by decide +kernel
theorem dX7_lamp_31 : decode cX7_lamp 31 = .ok (.aload 4, 2) := by decide +kernel
theorem dX7_lamp_33 : decode cX7_lamp 33 = .ok (.iconst 0, 1) := by decide +kernel
theorem dX7_lamp_34 : decode cX7_lamp 34 = .ok (.putfield 66, 3) := by decide +kernel
theorem dX7_lamp_37 : decode cX7_lamp 37 = .ok (.iload 5, 2) := by decide +kernel
theorem dX7_lamp_39 : decode cX7_lamp 39 = .ok (.ireturn, 1) := by decide +kernel
theorem dX7_film_0 : decode cX7_film 0 = .ok (.iload_n 1, 1) := by decide +kernel
theorem dX7_film_1 : decode cX7_film 1 = .ok (.bipush 30, 2) := by decide +kernel
theorem dX7_film_3 : decode cX7_film 3 = .ok (.sipush 240, 3) := by decide +kernel
theorem dX7_film_6 : decode cX7_film 6 = .ok (.invokestatic 38, 3) := by decide +kernel
theorem dX7_film_9 : decode cX7_film 9 = .ok (.iload_n 2, 1) := by decide +kernel
theorem dX7_film_10 : decode cX7_film 10 = .ok (.iconst 0, 1) := by decide +kernel
theorem dX7_film_11 : decode cX7_film 11 = .ok (.bipush 18, 2) := by decide +kernel
theorem dX7_film_13 : decode cX7_film 13 = .ok (.invokestatic 38, 3) := by decide +kernel
theorem dX7_film_16 : decode cX7_film 16 = .ok (.iload_n 3, 1) := by decide +kernel
theorem dX7_film_17 : decode cX7_film 17 = .ok (.iconst 1, 1) := by decide +kernel
theorem dX7_film_18 : decode cX7_film 18 = .ok (.sipush 999, 3) := by decide +kernel
theorem dX7_film_21 : decode cX7_film 21 = .ok (.invokestatic 38, 3) := by decide +kernel
theorem dX7_film_24 : decode cX7_film 24 = .ok (.aload_n 0, 1) := by decide +kernel
theorem dX7_film_25 : decode cX7_film 25 = .ok (.getfield 16, 3) := by decide +kernel
theorem dX7_film_28 : decode cX7_film 28 = .ok (.invokevirtual 42, 3) := by decide +kernel
theorem dX7_film_31 : decode cX7_film 31 = .ok (.bipush 8, 2) := by decide +kernel
theorem dX7_film_33 : decode cX7_film 33 = .ok (.if_icmp .lt 13, 3) := by decide +kernel
theorem dX7_film_36 : decode cX7_film 36 = .ok (.new 46, 3) := by decide +kernel
theorem dX7_film_39 : decode cX7_film 39 = .ok (.dup, 1) := by decide +kernel
theorem dX7_film_40 : decode cX7_film 40 = .ok (.ldc 72, 2) := by decide +kernel
theorem dX7_film_42 : decode cX7_film 42 = .ok (.invokespecial 50, 3) := by decide +kernel
theorem dX7_film_45 : decode cX7_film 45 = .ok (.athrow, 1) := by decide +kernel
theorem dX7_film_46 : decode cX7_film 46 = .ok (.aload_n 0, 1) := by decide +kernel
theorem dX7_film_47 : decode cX7_film 47 = .ok (.getfield 16, 3) := by decide +kernel
theorem dX7_film_50 : decode cX7_film 50 = .ok (.new 74, 3) := by decide +kernel
theorem dX7_film_53 : decode cX7_film 53 = .ok (.dup, 1) := by decide +kernel
theorem dX7_film_54 : decode cX7_film 54 = .ok (.aload_n 0, 1) := by decide +kernel
theorem dX7_film_55 : decode cX7_film 55 = .ok (.getfield 16, 3) := by decide +kernel
theorem dX7_film_58 : decode cX7_film 58 = .ok (.invokevirtual 42, 3) := by decide +kernel
theorem dX7_film_61 : decode cX7_film 61 = .ok (.iload_n 1, 1) := by decide +kernel
theorem dX7_film_62 : decode cX7_film 62 = .ok (.iload_n 2, 1) := by decide +kernel
theorem dX7_film_63 : decode cX7_film 63 = .ok (.iload_n 3, 1) := by decide +kernel
theorem dX7_film_64 : decode cX7_film 64 = .ok (.invokespecial 76, 3) := by decide +kernel
theorem dX7_film_67 : decode cX7_film 67 = .ok (.invokevirtual 57, 3) := by decide +kernel
theorem dX7_film_70 : decode cX7_film 70 = .ok (.pop, 1) := by decide +kernel
theorem dX7_film_71 : decode cX7_film 71 = .ok (.aload_n 0, 1) := by decide +kernel
theorem dX7_film_72 : decode cX7_film 72 = .ok (.getfield 16, 3) := by decide +kernel
theorem dX7_film_75 : decode cX7_film 75 = .ok (.invokevirtual 42, 3) := by decide +kernel
theorem dX7_film_78 : decode cX7_film 78 = .ok (.iconst 1, 1) := by decide +kernel
theorem dX7_film_79 : decode cX7_film 79 = .ok (.isub, 1) := by decide +kernel
theorem dX7_film_80 : decode cX7_film 80 = .ok (.ireturn, 1) := by decide +kernel
theorem dX7_terms_0 : decode cX7_terms 0 = .ok (.aload_n 0, 1) := by decide +kernel
theorem dX7_terms_1 : decode cX7_terms 1 = .ok (.iload_n 1, 1) := by decide +kernel
theorem dX7_terms_2 : decode cX7_terms 2 = .ok (.invokevirtual 79, 3) := by decide +kernel
theorem dX7_terms_5 : decode cX7_terms 5 = .ok (.astore 7, 2) := by decide +kernel
theorem dX7_terms_7 : decode cX7_terms 7 = .ok (.iload_n 2, 1) := by decide +kernel
theorem dX7_terms_8 : decode cX7_terms 8 = .ok (.iconst 0, 1) := by decide +kernel
theorem dX7_terms_9 : decode cX7_terms 9 = .ok (.bipush 100, 2) := by decide +kernel
theorem dX7_terms_11 : decode cX7_terms 11 = .ok (.invokestatic 38, 3) := by decide +kernel
theorem dX7_terms_14 : decode cX7_terms 14 = .ok (.iload_n 3, 1) := by decide +kernel
theorem dX7_terms_15 : decode cX7_terms 15 = .ok (.iconst 0, 1) := by decide +kernel
theorem dX7_terms_16 : decode cX7_terms 16 = .ok (.bipush 100, 2) := by decide +kernel
theorem dX7_terms_18 : decode cX7_terms 18 = .ok (.invokestatic 38, 3) := by decide +kernel
theorem dX7_terms_21 : decode cX7_terms 21 = .ok (.iload 4, 2) := by decide +kernel
theorem dX7_terms_23 : decode cX7_terms 23 = .ok (.iconst 0, 1) := by decide +kernel
theorem dX7_terms_24 : decode cX7_terms 24 = .ok (.bipush 100, 2) := by decide +kernel
theorem dX7_terms_26 : decode cX7_terms 26 = .ok (.invokestatic 38, 3) := by decide +kernel
theorem dX7_terms_29 : decode cX7_terms 29 = .ok (.iload 5, 2) := by decide +kernel
theorem dX7_terms_31 : decode cX7_terms 31 = .ok (.iconst 0, 1) := by decide +kernel
theorem dX7_terms_32 : decode cX7_terms 32 = .ok (.ldc 65, 2) := by decide +kernel
theorem dX7_terms_34 : decode cX7_terms 34 = .ok (.invokestatic 38, 3) := by decide +kernel
theorem dX7_terms_37 : decode cX7_terms 37 = .ok (.iload 6, 2) := by decide +kernel
theorem dX7_terms_39 : decode cX7_terms 39 = .ok (.iconst 0, 1) := by decide +kernel
theorem dX7_terms_40 : decode cX7_terms 40 = .ok (.ldc 65, 2) := by decide +kernel
theorem dX7_terms_42 : decode cX7_terms 42 = .ok (.invokestatic 38, 3) := by decide +kernel
theorem dX7_terms_45 : decode cX7_terms 45 = .ok (.aload 7, 2) := by decide +kernel
theorem dX7_terms_47 : decode cX7_terms 47 = .ok (.iload_n 2, 1) := by decide +kernel
theorem dX7_terms_48 : decode cX7_terms 48 = .ok (.putfield 83, 3) := by decide +kernel
theorem dX7_terms_51 : decode cX7_terms 51 = .ok (.aload 7, 2) := by decide +kernel
theorem dX7_terms_53 : decode cX7_terms 53 = .ok (.iload_n 3, 1) := by decide +kernel
theorem dX7_terms_54 : decode cX7_terms 54 = .ok (.putfield 86, 3) := by decide +kernel
theorem dX7_terms_57 : decode cX7_terms 57 = .ok (.aload 7, 2) := by decide +kernel
theorem dX7_terms_59 : decode cX7_terms 59 = .ok (.iload 4, 2) := by decide +kernel
theorem dX7_terms_61 : decode cX7_terms 61 = .ok (.putfield 89, 3) := by decide +kernel
theorem dX7_terms_64 : decode cX7_terms 64 = .ok (.aload 7, 2) := by decide +kernel
theorem dX7_terms_66 : decode cX7_terms 66 = .ok (.iload 5, 2) := by decide +kernel
theorem dX7_terms_68 : decode cX7_terms 68 = .ok (.putfield 92, 3) := by decide +kernel
theorem dX7_terms_71 : decode cX7_terms 71 = .ok (.aload 7, 2) := by decide +kernel
theorem dX7_terms_73 : decode cX7_terms 73 = .ok (.iload 6, 2) := by decide +kernel
theorem dX7_terms_75 : decode cX7_terms 75 = .ok (.putfield 95, 3) := by decide +kernel
theorem dX7_terms_78 : decode cX7_terms 78 = .ok (.return_, 1) := by decide +kernel
theorem dX7_key_0 : decode cX7_key 0 = .ok (.aload_n 0, 1) := by decide +kernel
theorem dX7_key_1 : decode cX7_key 1 = .ok (.iload_n 1, 1) := by decide +kernel
theorem dX7_key_2 : decode cX7_key 2 = .ok (.invokevirtual 79, 3) := by decide +kernel
theorem dX7_key_5 : decode cX7_key 5 = .ok (.astore 5, 2) := by decide +kernel
theorem dX7_key_7 : decode cX7_key 7 = .ok (.aload_n 0, 1) := by decide +kernel
theorem dX7_key_8 : decode cX7_key 8 = .ok (.iload_n 2, 1) := by decide +kernel
theorem dX7_key_9 : decode cX7_key 9 = .ok (.invokevirtual 61, 3) := by decide +kernel
theorem dX7_key_12 : decode cX7_key 12 = .ok (.astore 6, 2) := by decide +kernel
theorem dX7_key_14 : decode cX7_key 14 = .ok (.iload_n 3, 1) := by decide +kernel
theorem dX7_key_15 : decode cX7_key 15 = .ok (.iconst 0, 1) := by decide +kernel
theorem dX7_key_16 : decode cX7_key 16 = .ok (.ldc 65, 2) := by decide +kernel
theorem dX7_key_18 : decode cX7_key 18 = .ok (.invokestatic 38, 3) := by decide +kernel
theorem dX7_key_21 : decode cX7_key 21 = .ok (.iload 4, 2) := by decide +kernel
theorem dX7_key_23 : decode cX7_key 23 = .ok (.iload_n 3, 1) := by decide +kernel
theorem dX7_key_24 : decode cX7_key 24 = .ok (.iconst 1, 1) := by decide +kernel
theorem dX7_key_25 : decode cX7_key 25 = .ok (.iadd, 1) := by decide +kernel
theorem dX7_key_26 : decode cX7_key 26 = .ok (.ldc 98, 2) := by decide +kernel
theorem dX7_key_28 : decode cX7_key 28 = .ok (.invokestatic 38, 3) := by decide +kernel
theorem dX7_key_31 : decode cX7_key 31 = .ok (.aload_n 0, 1) := by decide +kernel
theorem dX7_key_32 : decode cX7_key 32 = .ok (.getfield 19, 3) := by decide +kernel
theorem dX7_key_35 : decode cX7_key 35 = .ok (.invokevirtual 42, 3) := by decide +kernel
theorem dX7_key_38 : decode cX7_key 38 = .ok (.bipush 30, 2) := by decide +kernel
theorem dX7_key_40 : decode cX7_key 40 = .ok (.if_icmp .lt 13, 3) := by decide +kernel
theorem dX7_key_43 : decode cX7_key 43 = .ok (.new 46, 3) := by decide +kernel
theorem dX7_key_46 : decode cX7_key 46 = .ok (.dup, 1) := by decide +kernel
theorem dX7_key_47 : decode cX7_key 47 = .ok (.ldc 99, 2) := by decide +kernel
theorem dX7_key_49 : decode cX7_key 49 = .ok (.invokespecial 50, 3) := by decide +kernel
theorem dX7_key_52 : decode cX7_key 52 = .ok (.athrow, 1) := by decide +kernel
theorem dX7_key_53 : decode cX7_key 53 = .ok (.aload_n 0, 1) := by decide +kernel
theorem dX7_key_54 : decode cX7_key 54 = .ok (.getfield 19, 3) := by decide +kernel
theorem dX7_key_57 : decode cX7_key 57 = .ok (.new 101, 3) := by decide +kernel
theorem dX7_key_60 : decode cX7_key 60 = .ok (.dup, 1) := by decide +kernel
theorem dX7_key_61 : decode cX7_key 61 = .ok (.aload 5, 2) := by decide +kernel
theorem dX7_key_63 : decode cX7_key 63 = .ok (.getfield 103, 3) := by decide +kernel
theorem dX7_key_66 : decode cX7_key 66 = .ok (.aload 6, 2) := by decide +kernel
theorem dX7_key_68 : decode cX7_key 68 = .ok (.getfield 106, 3) := by decide +kernel
theorem dX7_key_71 : decode cX7_key 71 = .ok (.iload_n 3, 1) := by decide +kernel
theorem dX7_key_72 : decode cX7_key 72 = .ok (.iload 4, 2) := by decide +kernel
theorem dX7_key_74 : decode cX7_key 74 = .ok (.invokespecial 107, 3) := by decide +kernel
theorem dX7_key_77 : decode cX7_key 77 = .ok (.invokevirtual 57, 3) := by decide +kernel
theorem dX7_key_80 : decode cX7_key 80 = .ok (.pop, 1) := by decide +kernel
theorem dX7_key_81 : decode cX7_key 81 = .ok (.aload_n 0, 1) := by decide +kernel
theorem dX7_key_82 : decode cX7_key 82 = .ok (.getfield 19, 3) := by decide +kernel
theorem dX7_key_85 : decode cX7_key 85 = .ok (.invokevirtual 42, 3) := by decide +kernel
theorem dX7_key_88 : decode cX7_key 88 = .ok (.iconst 1, 1) := by decide +kernel
theorem dX7_key_89 : decode cX7_key 89 = .ok (.isub, 1) := by decide +kernel
theorem dX7_key_90 : decode cX7_key 90 = .ok (.ireturn, 1) := by decide +kernel
theorem dX7_spread_0 : decode cX7_spread 0 = .ok (.iload_n 1, 1) := by decide +kernel
theorem dX7_spread_1 : decode cX7_spread 1 = .ok (.iconst 0, 1) := by decide +kernel
theorem dX7_spread_2 : decode cX7_spread 2 = .ok (.bipush 60, 2) := by decide +kernel
theorem dX7_spread_4 : decode cX7_spread 4 = .ok (.invokestatic 38, 3) := by decide +kernel
theorem dX7_spread_7 : decode cX7_spread 7 = .ok (.aload_n 0, 1) := by decide +kernel
theorem dX7_spread_8 : decode cX7_spread 8 = .ok (.getfield 35, 3) := by decide +kernel
theorem dX7_spread_11 : decode cX7_spread 11 = .ok (.istore_n 2, 1) := by decide +kernel
theorem dX7_spread_12 : decode cX7_spread 12 = .ok (.aload_n 0, 1) := by decide +kernel
theorem dX7_spread_13 : decode cX7_spread 13 = .ok (.iload_n 1, 1) := by decide +kernel
theorem dX7_spread_14 : decode cX7_spread 14 = .ok (.putfield 35, 3) := by decide +kernel
theorem dX7_spread_17 : decode cX7_spread 17 = .ok (.iload_n 2, 1) := by decide +kernel
theorem dX7_spread_18 : decode cX7_spread 18 = .ok (.ireturn, 1) := by decide +kernel
theorem dX7_show_0 : decode cX7_show 0 = .ok (.aload_n 0, 1) := by decide +kernel
theorem dX7_show_1 : decode cX7_show 1 = .ok (.iload_n 1, 1) := by decide +kernel
theorem dX7_show_2 : decode cX7_show 2 = .ok (.invokevirtual 79, 3) := by decide +kernel
theorem dX7_show_5 : decode cX7_show 5 = .ok (.astore 4, 2) := by decide +kernel
theorem dX7_show_7 : decode cX7_show 7 = .ok (.aload_n 0, 1) := by decide +kernel
theorem dX7_show_8 : decode cX7_show 8 = .ok (.iload_n 2, 1) := by decide +kernel
theorem dX7_show_9 : decode cX7_show 9 = .ok (.invokevirtual 61, 3) := by decide +kernel
theorem dX7_show_12 : decode cX7_show 12 = .ok (.astore 5, 2) := by decide +kernel
theorem dX7_show_14 : decode cX7_show 14 = .ok (.iload_n 3, 1) := by decide +kernel
theorem dX7_show_15 : decode cX7_show 15 = .ok (.aload_n 0, 1) := by decide +kernel
theorem dX7_show_16 : decode cX7_show 16 = .ok (.getfield 31, 3) := by decide +kernel
theorem dX7_show_19 : decode cX7_show 19 = .ok (.iconst 1, 1) := by decide +kernel
theorem dX7_show_20 : decode cX7_show 20 = .ok (.iadd, 1) := by decide +kernel
theorem dX7_show_21 : decode cX7_show 21 = .ok (.ldc 65, 2) := by decide +kernel
theorem dX7_show_23 : decode cX7_show 23 = .ok (.invokestatic 38, 3) := by decide +kernel
theorem dX7_show_26 : decode cX7_show 26 = .ok (.aload_n 0, 1) := by decide +kernel
theorem dX7_show_27 : decode cX7_show 27 = .ok (.getfield 22, 3) := by decide +kernel
theorem dX7_show_30 : decode cX7_show 30 = .ok (.invokevirtual 42, 3) := by decide +kernel
theorem dX7_show_33 : decode cX7_show 33 = .ok (.bipush 30, 2) := by decide +kernel
theorem dX7_show_35 : decode cX7_show 35 = .ok (.if_icmp .lt 13, 3) := by decide +kernel
theorem dX7_show_38 : decode cX7_show 38 = .ok (.new 46, 3) := by decide +kernel
theorem dX7_show_41 : decode cX7_show 41 = .ok (.dup, 1) := by decide +kernel
theorem dX7_show_42 : decode cX7_show 42 = .ok (.ldc 108, 2) := by decide +kernel
theorem dX7_show_44 : decode cX7_show 44 = .ok (.invokespecial 50, 3) := by decide +kernel
theorem dX7_show_47 : decode cX7_show 47 = .ok (.athrow, 1) := by decide +kernel
theorem dX7_show_48 : decode cX7_show 48 = .ok (.aload_n 0, 1) := by decide +kernel
theorem dX7_show_49 : decode cX7_show 49 = .ok (.aload 4, 2) := by decide +kernel
theorem dX7_show_51 : decode cX7_show 51 = .ok (.aload 5, 2) := by decide +kernel
theorem dX7_show_53 : decode cX7_show 53 = .ok (.iload_n 3, 1) := by decide +kernel
theorem dX7_show_54 : decode cX7_show 54 = .ok (.invokevirtual 110, 3) := by decide +kernel
theorem dX7_show_57 : decode cX7_show 57 = .ok (.ifCond .eq 13, 3) := by decide +kernel
theorem dX7_show_60 : decode cX7_show 60 = .ok (.new 46, 3) := by decide +kernel
theorem dX7_show_63 : decode cX7_show 63 = .ok (.dup, 1) := by decide +kernel
theorem dX7_show_64 : decode cX7_show 64 = .ok (.ldc 114, 2) := by decide +kernel
theorem dX7_show_66 : decode cX7_show 66 = .ok (.invokespecial 50, 3) := by decide +kernel
theorem dX7_show_69 : decode cX7_show 69 = .ok (.athrow, 1) := by decide +kernel
theorem dX7_show_70 : decode cX7_show 70 = .ok (.aload_n 0, 1) := by decide +kernel
theorem dX7_show_71 : decode cX7_show 71 = .ok (.getfield 22, 3) := by decide +kernel
theorem dX7_show_74 : decode cX7_show 74 = .ok (.new 116, 3) := by decide +kernel
theorem dX7_show_77 : decode cX7_show 77 = .ok (.dup, 1) := by decide +kernel
theorem dX7_show_78 : decode cX7_show 78 = .ok (.aload_n 0, 1) := by decide +kernel
theorem dX7_show_79 : decode cX7_show 79 = .ok (.getfield 22, 3) := by decide +kernel
theorem dX7_show_82 : decode cX7_show 82 = .ok (.invokevirtual 42, 3) := by decide +kernel
theorem dX7_show_85 : decode cX7_show 85 = .ok (.aload 4, 2) := by decide +kernel
theorem dX7_show_87 : decode cX7_show 87 = .ok (.aload 5, 2) := by decide +kernel
theorem dX7_show_89 : decode cX7_show 89 = .ok (.iload_n 3, 1) := by decide +kernel
theorem dX7_show_90 : decode cX7_show 90 = .ok (.invokespecial 118, 3) := by decide +kernel
theorem dX7_show_93 : decode cX7_show 93 = .ok (.invokevirtual 57, 3) := by decide +kernel
theorem dX7_show_96 : decode cX7_show 96 = .ok (.pop, 1) := by decide +kernel
theorem dX7_show_97 : decode cX7_show 97 = .ok (.aload_n 0, 1) := by decide +kernel
theorem dX7_show_98 : decode cX7_show 98 = .ok (.getfield 22, 3) := by decide +kernel
theorem dX7_show_101 : decode cX7_show 101 = .ok (.invokevirtual 42, 3) := by decide +kernel
theorem dX7_show_104 : decode cX7_show 104 = .ok (.iconst 1, 1) := by decide +kernel
theorem dX7_show_105 : decode cX7_show 105 = .ok (.isub, 1) := by decide +kernel
theorem dX7_show_106 : decode cX7_show 106 = .ok (.ireturn, 1) := by decide +kernel
theorem dX7_cancel_0 : decode cX7_cancel 0 = .ok (.aload_n 0, 1) := by decide +kernel
theorem dX7_cancel_1 : decode cX7_cancel 1 = .ok (.iload_n 1, 1) := by decide +kernel
theorem dX7_cancel_2 : decode cX7_cancel 2 = .ok (.invokevirtual 121, 3) := by decide +kernel
theorem dX7_cancel_5 : decode cX7_cancel 5 = .ok (.astore_n 2, 1) := by decide +kernel
theorem dX7_cancel_6 : decode cX7_cancel 6 = .ok (.aload_n 2, 1) := by decide +kernel
theorem dX7_cancel_7 : decode cX7_cancel 7 = .ok (.invokestatic 125, 3) := by decide +kernel
theorem dX7_cancel_10 : decode cX7_cancel 10 = .ok (.iconst 0, 1) := by decide +kernel
theorem dX7_cancel_11 : decode cX7_cancel 11 = .ok (.istore_n 3, 1) := by decide +kernel
theorem dX7_cancel_12 : decode cX7_cancel 12 = .ok (.iconst 0, 1) := by decide +kernel
theorem dX7_cancel_13 : decode cX7_cancel 13 = .ok (.istore 4, 2) := by decide +kernel
theorem dX7_cancel_15 : decode cX7_cancel 15 = .ok (.iload 4, 2) := by decide +kernel
theorem dX7_cancel_17 : decode cX7_cancel 17 = .ok (.aload_n 0, 1) := by decide +kernel
theorem dX7_cancel_18 : decode cX7_cancel 18 = .ok (.getfield 28, 3) := by decide +kernel
theorem dX7_cancel_21 : decode cX7_cancel 21 = .ok (.invokevirtual 42, 3) := by decide +kernel
theorem dX7_cancel_24 : decode cX7_cancel 24 = .ok (.if_icmp .ge 62, 3) := by decide +kernel
theorem dX7_cancel_27 : decode cX7_cancel 27 = .ok (.aload_n 0, 1) := by decide +kernel
theorem dX7_cancel_28 : decode cX7_cancel 28 = .ok (.getfield 28, 3) := by decide +kernel
theorem dX7_cancel_31 : decode cX7_cancel 31 = .ok (.iload 4, 2) := by decide +kernel
theorem dX7_cancel_33 : decode cX7_cancel 33 = .ok (.invokevirtual 129, 3) := by decide +kernel
theorem dX7_cancel_36 : decode cX7_cancel 36 = .ok (.checkcast 133, 3) := by decide +kernel
theorem dX7_cancel_39 : decode cX7_cancel 39 = .ok (.astore 5, 2) := by decide +kernel
theorem dX7_cancel_41 : decode cX7_cancel 41 = .ok (.aload 5, 2) := by decide +kernel
theorem dX7_cancel_43 : decode cX7_cancel 43 = .ok (.getfield 135, 3) := by decide +kernel
theorem dX7_cancel_46 : decode cX7_cancel 46 = .ok (.getfield 139, 3) := by decide +kernel
theorem dX7_cancel_49 : decode cX7_cancel 49 = .ok (.iload_n 1, 1) := by decide +kernel
theorem dX7_cancel_50 : decode cX7_cancel 50 = .ok (.if_icmp .ne 30, 3) := by decide +kernel
theorem dX7_cancel_53 : decode cX7_cancel 53 = .ok (.aload 5, 2) := by decide +kernel
theorem dX7_cancel_55 : decode cX7_cancel 55 = .ok (.getfield 140, 3) := by decide +kernel
theorem dX7_cancel_58 : decode cX7_cancel 58 = .ok (.ifCond .ne 22, 3) := by decide +kernel
theorem dX7_cancel_61 : decode cX7_cancel 61 = .ok (.aload 5, 2) := by decide +kernel
theorem dX7_cancel_63 : decode cX7_cancel 63 = .ok (.iconst 1, 1) := by decide +kernel
theorem dX7_cancel_64 : decode cX7_cancel 64 = .ok (.putfield 140, 3) := by decide +kernel
theorem dX7_cancel_67 : decode cX7_cancel 67 = .ok (.iload_n 3, 1) := by decide +kernel
theorem dX7_cancel_68 : decode cX7_cancel 68 = .ok (.aload 5, 2) := by decide +kernel
theorem dX7_cancel_70 : decode cX7_cancel 70 = .ok (.aload 5, 2) := by decide +kernel
theorem dX7_cancel_72 : decode cX7_cancel 72 = .ok (.getfield 144, 3) := by decide +kernel
theorem dX7_cancel_75 : decode cX7_cancel 75 = .ok (.invokevirtual 147, 3) := by decide +kernel
theorem dX7_cancel_78 : decode cX7_cancel 78 = .ok (.iadd, 1) := by decide +kernel
theorem dX7_cancel_79 : decode cX7_cancel 79 = .ok (.istore_n 3, 1) := by decide +kernel
theorem dX7_cancel_80 : decode cX7_cancel 80 = .ok (.iinc 4 1, 3) := by decide +kernel
theorem dX7_cancel_83 : decode cX7_cancel 83 = .ok (.goto (-68), 3) := by decide +kernel
theorem dX7_cancel_86 : decode cX7_cancel 86 = .ok (.iconst 0, 1) := by decide +kernel
theorem dX7_cancel_87 : decode cX7_cancel 87 = .ok (.istore 4, 2) := by decide +kernel
theorem dX7_cancel_89 : decode cX7_cancel 89 = .ok (.iload 4, 2) := by decide +kernel
theorem dX7_cancel_91 : decode cX7_cancel 91 = .ok (.aload_n 0, 1) := by decide +kernel
theorem dX7_cancel_92 : decode cX7_cancel 92 = .ok (.getfield 25, 3) := by decide +kernel
theorem dX7_cancel_95 : decode cX7_cancel 95 = .ok (.invokevirtual 42, 3) := by decide +kernel
theorem dX7_cancel_98 : decode cX7_cancel 98 = .ok (.if_icmp .ge 41, 3) := by decide +kernel
theorem dX7_cancel_101 : decode cX7_cancel 101 = .ok (.aload_n 0, 1) := by decide +kernel
theorem dX7_cancel_102 : decode cX7_cancel 102 = .ok (.getfield 25, 3) := by decide +kernel
theorem dX7_cancel_105 : decode cX7_cancel 105 = .ok (.iload 4, 2) := by decide +kernel
theorem dX7_cancel_107 : decode cX7_cancel 107 = .ok (.invokevirtual 129, 3) := by decide +kernel
theorem dX7_cancel_110 : decode cX7_cancel 110 = .ok (.checkcast 151, 3) := by decide +kernel
theorem dX7_cancel_113 : decode cX7_cancel 113 = .ok (.astore 5, 2) := by decide +kernel
theorem dX7_cancel_115 : decode cX7_cancel 115 = .ok (.aload 5, 2) := by decide +kernel
theorem dX7_cancel_117 : decode cX7_cancel 117 = .ok (.getfield 153, 3) := by decide +kernel
theorem dX7_cancel_120 : decode cX7_cancel 120 = .ok (.getfield 139, 3) := by decide +kernel
theorem dX7_cancel_123 : decode cX7_cancel 123 = .ok (.iload_n 1, 1) := by decide +kernel
theorem dX7_cancel_124 : decode cX7_cancel 124 = .ok (.if_icmp .ne 9, 3) := by decide +kernel
theorem dX7_cancel_127 : decode cX7_cancel 127 = .ok (.aload 5, 2) := by decide +kernel
theorem dX7_cancel_129 : decode cX7_cancel 129 = .ok (.iconst 1, 1) := by decide +kernel
theorem dX7_cancel_130 : decode cX7_cancel 130 = .ok (.putfield 154, 3) := by decide +kernel
theorem dX7_cancel_133 : decode cX7_cancel 133 = .ok (.iinc 4 1, 3) := by decide +kernel
theorem dX7_cancel_136 : decode cX7_cancel 136 = .ok (.goto (-47), 3) := by decide +kernel
theorem dX7_cancel_139 : decode cX7_cancel 139 = .ok (.aload_n 2, 1) := by decide +kernel
theorem dX7_cancel_140 : decode cX7_cancel 140 = .ok (.invokevirtual 157, 3) := by decide +kernel
theorem dX7_cancel_143 : decode cX7_cancel 143 = .ok (.aload_n 2, 1) := by decide +kernel
theorem dX7_cancel_144 : decode cX7_cancel 144 = .ok (.getfield 160, 3) := by decide +kernel
theorem dX7_cancel_147 : decode cX7_cancel 147 = .ok (.invokevirtual 164, 3) := by decide +kernel
theorem dX7_cancel_150 : decode cX7_cancel 150 = .ok (.aload_n 2, 1) := by decide +kernel
theorem dX7_cancel_151 : decode cX7_cancel 151 = .ok (.iconst 4, 1) := by decide +kernel
theorem dX7_cancel_152 : decode cX7_cancel 152 = .ok (.putfield 169, 3) := by decide +kernel
theorem dX7_cancel_155 : decode cX7_cancel 155 = .ok (.iload_n 3, 1) := by decide +kernel
theorem dX7_cancel_156 : decode cX7_cancel 156 = .ok (.ireturn, 1) := by decide +kernel
theorem dX7_breaks_0 : decode cX7_breaks 0 = .ok (.aload_n 0, 1) := by decide +kernel
theorem dX7_breaks_1 : decode cX7_breaks 1 = .ok (.iload_n 1, 1) := by decide +kernel
theorem dX7_breaks_2 : decode cX7_breaks 2 = .ok (.invokevirtual 121, 3) := by decide +kernel
theorem dX7_breaks_5 : decode cX7_breaks 5 = .ok (.astore_n 2, 1) := by decide +kernel
theorem dX7_breaks_6 : decode cX7_breaks 6 = .ok (.aload_n 2, 1) := by decide +kernel
theorem dX7_breaks_7 : decode cX7_breaks 7 = .ok (.getfield 169, 3) := by decide +kernel
theorem dX7_breaks_10 : decode cX7_breaks 10 = .ok (.iconst 1, 1) := by decide +kernel
theorem dX7_breaks_11 : decode cX7_breaks 11 = .ok (.if_icmp .eq 13, 3) := by decide +kernel
theorem dX7_breaks_14 : decode cX7_breaks 14 = .ok (.new 46, 3) := by decide +kernel
theorem dX7_breaks_17 : decode cX7_breaks 17 = .ok (.dup, 1) := by decide +kernel
theorem dX7_breaks_18 : decode cX7_breaks 18 = .ok (.ldc 172, 2) := by decide +kernel
theorem dX7_breaks_20 : decode cX7_breaks 20 = .ok (.invokespecial 50, 3) := by decide +kernel
theorem dX7_breaks_23 : decode cX7_breaks 23 = .ok (.athrow, 1) := by decide +kernel
theorem dX7_breaks_24 : decode cX7_breaks 24 = .ok (.aload_n 0, 1) := by decide +kernel
theorem dX7_breaks_25 : decode cX7_breaks 25 = .ok (.getfield 31, 3) := by decide +kernel
theorem dX7_breaks_28 : decode cX7_breaks 28 = .ok (.aload_n 2, 1) := by decide +kernel
theorem dX7_breaks_29 : decode cX7_breaks 29 = .ok (.getfield 174, 3) := by decide +kernel
theorem dX7_breaks_32 : decode cX7_breaks 32 = .ok (.isub, 1) := by decide +kernel
theorem dX7_breaks_33 : decode cX7_breaks 33 = .ok (.istore_n 3, 1) := by decide +kernel
theorem dX7_breaks_34 : decode cX7_breaks 34 = .ok (.iconst 3, 1) := by decide +kernel
theorem dX7_breaks_35 : decode cX7_breaks 35 = .ok (.iload_n 3, 1) := by decide +kernel
theorem dX7_breaks_36 : decode cX7_breaks 36 = .ok (.imul, 1) := by decide +kernel
theorem dX7_breaks_37 : decode cX7_breaks 37 = .ok (.iconst 2, 1) := by decide +kernel
theorem dX7_breaks_38 : decode cX7_breaks 38 = .ok (.aload_n 2, 1) := by decide +kernel
theorem dX7_breaks_39 : decode cX7_breaks 39 = .ok (.getfield 177, 3) := by decide +kernel
theorem dX7_breaks_42 : decode cX7_breaks 42 = .ok (.getfield 181, 3) := by decide +kernel
theorem dX7_breaks_45 : decode cX7_breaks 45 = .ok (.imul, 1) := by decide +kernel
theorem dX7_breaks_46 : decode cX7_breaks 46 = .ok (.if_icmp .ge 7, 3) := by decide +kernel
theorem dX7_breaks_49 : decode cX7_breaks 49 = .ok (.iconst 1, 1) := by decide +kernel
theorem dX7_breaks_50 : decode cX7_breaks 50 = .ok (.goto 4, 3) := by decide +kernel
theorem dX7_breaks_53 : decode cX7_breaks 53 = .ok (.iconst 0, 1) := by decide +kernel
theorem dX7_breaks_54 : decode cX7_breaks 54 = .ok (.istore 4, 2) := by decide +kernel
theorem dX7_breaks_56 : decode cX7_breaks 56 = .ok (.iconst 0, 1) := by decide +kernel
theorem dX7_breaks_57 : decode cX7_breaks 57 = .ok (.istore 5, 2) := by decide +kernel
theorem dX7_breaks_59 : decode cX7_breaks 59 = .ok (.iconst 0, 1) := by decide +kernel
theorem dX7_breaks_60 : decode cX7_breaks 60 = .ok (.istore 6, 2) := by decide +kernel
theorem dX7_breaks_62 : decode cX7_breaks 62 = .ok (.iload 6, 2) := by decide +kernel
theorem dX7_breaks_64 : decode cX7_breaks 64 = .ok (.aload_n 0, 1) := by decide +kernel
theorem dX7_breaks_65 : decode cX7_breaks 65 = .ok (.getfield 28, 3) := by decide +kernel
theorem dX7_breaks_68 : decode cX7_breaks 68 = .ok (.invokevirtual 42, 3) := by decide +kernel
theorem dX7_breaks_71 : decode cX7_breaks 71 = .ok (.if_icmp .ge 73, 3) := by decide +kernel
theorem dX7_breaks_74 : decode cX7_breaks 74 = .ok (.aload_n 0, 1) := by decide +kernel
theorem dX7_breaks_75 : decode cX7_breaks 75 = .ok (.getfield 28, 3) := by decide +kernel
theorem dX7_breaks_78 : decode cX7_breaks 78 = .ok (.iload 6, 2) := by decide +kernel
theorem dX7_breaks_80 : decode cX7_breaks 80 = .ok (.invokevirtual 129, 3) := by decide +kernel
theorem dX7_breaks_83 : decode cX7_breaks 83 = .ok (.checkcast 133, 3) := by decide +kernel
theorem dX7_breaks_86 : decode cX7_breaks 86 = .ok (.astore 7, 2) := by decide +kernel
theorem dX7_breaks_88 : decode cX7_breaks 88 = .ok (.aload 7, 2) := by decide +kernel
theorem dX7_breaks_90 : decode cX7_breaks 90 = .ok (.getfield 135, 3) := by decide +kernel
theorem dX7_breaks_93 : decode cX7_breaks 93 = .ok (.getfield 139, 3) := by decide +kernel
theorem dX7_breaks_96 : decode cX7_breaks 96 = .ok (.iload_n 1, 1) := by decide +kernel
theorem dX7_breaks_97 : decode cX7_breaks 97 = .ok (.if_icmp .ne 41, 3) := by decide +kernel
theorem dX7_breaks_100 : decode cX7_breaks 100 = .ok (.aload 7, 2) := by decide +kernel
theorem dX7_breaks_102 : decode cX7_breaks 102 = .ok (.getfield 140, 3) := by decide +kernel
theorem dX7_breaks_105 : decode cX7_breaks 105 = .ok (.ifCond .ne 33, 3) := by decide +kernel
theorem dX7_breaks_108 : decode cX7_breaks 108 = .ok (.iload 5, 2) := by decide +kernel
theorem dX7_breaks_110 : decode cX7_breaks 110 = .ok (.aload 7, 2) := by decide +kernel
theorem dX7_breaks_112 : decode cX7_breaks 112 = .ok (.iload 4, 2) := by decide +kernel
theorem dX7_breaks_114 : decode cX7_breaks 114 = .ok (.ifCond .eq 11, 3) := by decide +kernel
theorem dX7_breaks_117 : decode cX7_breaks 117 = .ok (.aload 7, 2) := by decide +kernel
theorem dX7_breaks_119 : decode cX7_breaks 119 = .ok (.getfield 144, 3) := by decide +kernel
theorem dX7_breaks_122 : decode cX7_breaks 122 = .ok (.goto 10, 3) := by decide +kernel
theorem dX7_breaks_125 : decode cX7_breaks 125 = .ok (.aload 7, 2) := by decide +kernel
theorem dX7_breaks_127 : decode cX7_breaks 127 = .ok (.getfield 144, 3) := by decide +kernel
theorem dX7_breaks_130 : decode cX7_breaks 130 = .ok (.iconst 2, 1) := by decide +kernel
theorem dX7_breaks_131 : decode cX7_breaks 131 = .ok (.idiv, 1) := by decide +kernel
theorem dX7_breaks_132 : decode cX7_breaks 132 = .ok (.invokevirtual 147, 3) := by decide +kernel
theorem dX7_breaks_135 : decode cX7_breaks 135 = .ok (.iadd, 1) := by decide +kernel
theorem dX7_breaks_136 : decode cX7_breaks 136 = .ok (.istore 5, 2) := by decide +kernel
theorem dX7_breaks_138 : decode cX7_breaks 138 = .ok (.iinc 6 1, 3) := by decide +kernel
theorem dX7_breaks_141 : decode cX7_breaks 141 = .ok (.goto (-79), 3) := by decide +kernel
theorem dX7_breaks_144 : decode cX7_breaks 144 = .ok (.aload_n 2, 1) := by decide +kernel
theorem dX7_breaks_145 : decode cX7_breaks 145 = .ok (.getfield 184, 3) := by decide +kernel
theorem dX7_breaks_148 : decode cX7_breaks 148 = .ok (.dup, 1) := by decide +kernel
theorem dX7_breaks_149 : decode cX7_breaks 149 = .ok (.getfield 66, 3) := by decide +kernel
theorem dX7_breaks_152 : decode cX7_breaks 152 = .ok (.iload_n 3, 1) := by decide +kernel
theorem dX7_breaks_153 : decode cX7_breaks 153 = .ok (.iadd, 1) := by decide +kernel
theorem dX7_breaks_154 : decode cX7_breaks 154 = .ok (.putfield 66, 3) := by decide +kernel
theorem dX7_breaks_157 : decode cX7_breaks 157 = .ok (.aload_n 2, 1) := by decide +kernel
theorem dX7_breaks_158 : decode cX7_breaks 158 = .ok (.iconst 3, 1) := by decide +kernel
theorem dX7_breaks_159 : decode cX7_breaks 159 = .ok (.putfield 169, 3) := by decide +kernel
theorem dX7_breaks_162 : decode cX7_breaks 162 = .ok (.iload 5, 2) := by decide +kernel
theorem dX7_breaks_164 : decode cX7_breaks 164 = .ok (.ireturn, 1) := by decide +kernel
theorem dX7_pass_0 : decode cX7_pass 0 = .ok (.iload_n 1, 1) := by decide +kernel
theorem dX7_pass_1 : decode cX7_pass 1 = .ok (.iconst 1, 1) := by decide +kernel
theorem dX7_pass_2 : decode cX7_pass 2 = .ok (.sipush 5000, 3) := by decide +kernel
theorem dX7_pass_5 : decode cX7_pass 5 = .ok (.invokestatic 38, 3) := by decide +kernel
theorem dX7_pass_8 : decode cX7_pass 8 = .ok (.aload_n 0, 1) := by decide +kernel
theorem dX7_pass_9 : decode cX7_pass 9 = .ok (.getfield 31, 3) := by decide +kernel
theorem dX7_pass_12 : decode cX7_pass 12 = .ok (.iload_n 1, 1) := by decide +kernel
theorem dX7_pass_13 : decode cX7_pass 13 = .ok (.iadd, 1) := by decide +kernel
theorem dX7_pass_14 : decode cX7_pass 14 = .ok (.istore_n 2, 1) := by decide +kernel
theorem dX7_pass_15 : decode cX7_pass 15 = .ok (.iload_n 2, 1) := by decide +kernel
theorem dX7_pass_16 : decode cX7_pass 16 = .ok (.ldc 65, 2) := by decide +kernel
theorem dX7_pass_18 : decode cX7_pass 18 = .ok (.if_icmp .le 13, 3) := by decide +kernel
theorem dX7_pass_21 : decode cX7_pass 21 = .ok (.new 46, 3) := by decide +kernel
theorem dX7_pass_24 : decode cX7_pass 24 = .ok (.dup, 1) := by decide +kernel
theorem dX7_pass_25 : decode cX7_pass 25 = .ok (.ldc 188, 2) := by decide +kernel
theorem dX7_pass_27 : decode cX7_pass 27 = .ok (.invokespecial 50, 3) := by decide +kernel
theorem dX7_pass_30 : decode cX7_pass 30 = .ok (.athrow, 1) := by decide +kernel
theorem dX7_pass_31 : decode cX7_pass 31 = .ok (.iconst 0, 1) := by decide +kernel
theorem dX7_pass_32 : decode cX7_pass 32 = .ok (.istore_n 3, 1) := by decide +kernel
theorem dX7_pass_33 : decode cX7_pass 33 = .ok (.iload_n 3, 1) := by decide +kernel
theorem dX7_pass_34 : decode cX7_pass 34 = .ok (.iload_n 1, 1) := by decide +kernel
theorem dX7_pass_35 : decode cX7_pass 35 = .ok (.if_icmp .ge 38, 3) := by decide +kernel
theorem dX7_pass_38 : decode cX7_pass 38 = .ok (.aload_n 0, 1) := by decide +kernel
theorem dX7_pass_39 : decode cX7_pass 39 = .ok (.getfield 31, 3) := by decide +kernel
theorem dX7_pass_42 : decode cX7_pass 42 = .ok (.iload_n 2, 1) := by decide +kernel
theorem dX7_pass_43 : decode cX7_pass 43 = .ok (.if_icmp .ge 30, 3) := by decide +kernel
theorem dX7_pass_46 : decode cX7_pass 46 = .ok (.aload_n 0, 1) := by decide +kernel
theorem dX7_pass_47 : decode cX7_pass 47 = .ok (.aload_n 0, 1) := by decide +kernel
theorem dX7_pass_48 : decode cX7_pass 48 = .ok (.iload_n 2, 1) := by decide +kernel
theorem dX7_pass_49 : decode cX7_pass 49 = .ok (.invokevirtual 190, 3) := by decide +kernel
theorem dX7_pass_52 : decode cX7_pass 52 = .ok (.putfield 31, 3) := by decide +kernel
theorem dX7_pass_55 : decode cX7_pass 55 = .ok (.aload_n 0, 1) := by decide +kernel
theorem dX7_pass_56 : decode cX7_pass 56 = .ok (.invokevirtual 193, 3) := by decide +kernel
theorem dX7_pass_59 : decode cX7_pass 59 = .ok (.aload_n 0, 1) := by decide +kernel
theorem dX7_pass_60 : decode cX7_pass 60 = .ok (.invokevirtual 196, 3) := by decide +kernel
theorem dX7_pass_63 : decode cX7_pass 63 = .ok (.aload_n 0, 1) := by decide +kernel
theorem dX7_pass_64 : decode cX7_pass 64 = .ok (.invokevirtual 199, 3) := by decide +kernel
theorem dX7_pass_67 : decode cX7_pass 67 = .ok (.iinc 3 1, 3) := by decide +kernel
theorem dX7_pass_70 : decode cX7_pass 70 = .ok (.goto (-37), 3) := by decide +kernel
theorem dX7_pass_73 : decode cX7_pass 73 = .ok (.aload_n 0, 1) := by decide +kernel
theorem dX7_pass_74 : decode cX7_pass 74 = .ok (.getfield 31, 3) := by decide +kernel
theorem dX7_pass_77 : decode cX7_pass 77 = .ok (.ireturn, 1) := by decide +kernel
theorem dX7_hold_0 : decode cX7_hold 0 = .ok (.aload_n 0, 1) := by decide +kernel
theorem dX7_hold_1 : decode cX7_hold 1 = .ok (.iload_n 1, 1) := by decide +kernel
theorem dX7_hold_2 : decode cX7_hold 2 = .ok (.invokevirtual 121, 3) := by decide +kernel
theorem dX7_hold_5 : decode cX7_hold 5 = .ok (.astore 5, 2) := by decide +kernel
theorem dX7_hold_7 : decode cX7_hold 7 = .ok (.aload 5, 2) := by decide +kernel
theorem dX7_hold_9 : decode cX7_hold 9 = .ok (.iload_n 2, 1) := by decide +kernel
theorem dX7_hold_10 : decode cX7_hold 10 = .ok (.iload_n 3, 1) := by decide +kernel
theorem dX7_hold_11 : decode cX7_hold 11 = .ok (.invokestatic 202, 3) := by decide +kernel
theorem dX7_hold_14 : decode cX7_hold 14 = .ok (.istore 6, 2) := by decide +kernel
theorem dX7_hold_16 : decode cX7_hold 16 = .ok (.iload 4, 2) := by decide +kernel
theorem dX7_hold_18 : decode cX7_hold 18 = .ok (.iconst 1, 1) := by decide +kernel
theorem dX7_hold_19 : decode cX7_hold 19 = .ok (.sipush 5000, 3) := by decide +kernel
theorem dX7_hold_22 : decode cX7_hold 22 = .ok (.invokestatic 38, 3) := by decide +kernel
theorem dX7_hold_25 : decode cX7_hold 25 = .ok (.aload 5, 2) := by decide +kernel
theorem dX7_hold_27 : decode cX7_hold 27 = .ok (.iload 6, 2) := by decide +kernel
theorem dX7_hold_29 : decode cX7_hold 29 = .ok (.invokestatic 206, 3) := by decide +kernel
theorem dX7_hold_32 : decode cX7_hold 32 = .ok (.aload_n 0, 1) := by decide +kernel
theorem dX7_hold_33 : decode cX7_hold 33 = .ok (.getfield 25, 3) := by decide +kernel
theorem dX7_hold_36 : decode cX7_hold 36 = .ok (.invokevirtual 42, 3) := by decide +kernel
theorem dX7_hold_39 : decode cX7_hold 39 = .ok (.bipush 100, 2) := by decide +kernel
theorem dX7_hold_41 : decode cX7_hold 41 = .ok (.if_icmp .lt 13, 3) := by decide +kernel
theorem dX7_hold_44 : decode cX7_hold 44 = .ok (.new 46, 3) := by decide +kernel
theorem dX7_hold_47 : decode cX7_hold 47 = .ok (.dup, 1) := by decide +kernel
theorem dX7_hold_48 : decode cX7_hold 48 = .ok (.ldc 210, 2) := by decide +kernel
theorem dX7_hold_50 : decode cX7_hold 50 = .ok (.invokespecial 50, 3) := by decide +kernel
theorem dX7_hold_53 : decode cX7_hold 53 = .ok (.athrow, 1) := by decide +kernel
theorem dX7_hold_54 : decode cX7_hold 54 = .ok (.aload_n 0, 1) := by decide +kernel
theorem dX7_hold_55 : decode cX7_hold 55 = .ok (.getfield 25, 3) := by decide +kernel
theorem dX7_hold_58 : decode cX7_hold 58 = .ok (.invokevirtual 42, 3) := by decide +kernel
theorem dX7_hold_61 : decode cX7_hold 61 = .ok (.istore 7, 2) := by decide +kernel
theorem dX7_hold_63 : decode cX7_hold 63 = .ok (.aload_n 0, 1) := by decide +kernel
theorem dX7_hold_64 : decode cX7_hold 64 = .ok (.getfield 25, 3) := by decide +kernel
theorem dX7_hold_67 : decode cX7_hold 67 = .ok (.new 151, 3) := by decide +kernel
theorem dX7_hold_70 : decode cX7_hold 70 = .ok (.dup, 1) := by decide +kernel
theorem dX7_hold_71 : decode cX7_hold 71 = .ok (.aload 5, 2) := by decide +kernel
theorem dX7_hold_73 : decode cX7_hold 73 = .ok (.iload 6, 2) := by decide +kernel
theorem dX7_hold_75 : decode cX7_hold 75 = .ok (.aload_n 0, 1) := by decide +kernel
theorem dX7_hold_76 : decode cX7_hold 76 = .ok (.getfield 31, 3) := by decide +kernel
theorem dX7_hold_79 : decode cX7_hold 79 = .ok (.iload 4, 2) := by decide +kernel
theorem dX7_hold_81 : decode cX7_hold 81 = .ok (.iadd, 1) := by decide +kernel
theorem dX7_hold_82 : decode cX7_hold 82 = .ok (.aload 5, 2) := by decide +kernel
theorem dX7_hold_84 : decode cX7_hold 84 = .ok (.getfield 174, 3) := by decide +kernel
theorem dX7_hold_87 : decode cX7_hold 87 = .ok (.invokestatic 212, 3) := by decide +kernel
theorem dX7_hold_90 : decode cX7_hold 90 = .ok (.invokespecial 218, 3) := by decide +kernel
theorem dX7_hold_93 : decode cX7_hold 93 = .ok (.invokevirtual 57, 3) := by decide +kernel
theorem dX7_hold_96 : decode cX7_hold 96 = .ok (.pop, 1) := by decide +kernel
theorem dX7_hold_97 : decode cX7_hold 97 = .ok (.aload 5, 2) := by decide +kernel
theorem dX7_hold_99 : decode cX7_hold 99 = .ok (.getfield 221, 3) := by decide +kernel
theorem dX7_hold_102 : decode cX7_hold 102 = .ok (.iload 6, 2) := by decide +kernel
theorem dX7_hold_104 : decode cX7_hold 104 = .ok (.sipush 1000, 3) := by decide +kernel
theorem dX7_hold_107 : decode cX7_hold 107 = .ok (.iload 7, 2) := by decide +kernel
theorem dX7_hold_109 : decode cX7_hold 109 = .ok (.iadd, 1) := by decide +kernel
theorem dX7_hold_110 : decode cX7_hold 110 = .ok (.iastore, 1) := by decide +kernel
theorem dX7_hold_111 : decode cX7_hold 111 = .ok (.iload 7, 2) := by decide +kernel
theorem dX7_hold_113 : decode cX7_hold 113 = .ok (.ireturn, 1) := by decide +kernel
theorem dX7_letGo_0 : decode cX7_letGo 0 = .ok (.aload_n 0, 1) := by decide +kernel
theorem dX7_letGo_1 : decode cX7_letGo 1 = .ok (.aload_n 0, 1) := by decide +kernel
theorem dX7_letGo_2 : decode cX7_letGo 2 = .ok (.iload_n 1, 1) := by decide +kernel
theorem dX7_letGo_3 : decode cX7_letGo 3 = .ok (.invokevirtual 225, 3) := by decide +kernel
theorem dX7_letGo_6 : decode cX7_letGo 6 = .ok (.invokevirtual 229, 3) := by decide +kernel
theorem dX7_letGo_9 : decode cX7_letGo 9 = .ok (.ireturn, 1) := by decide +kernel
theorem dX7_buy_0 : decode cX7_buy 0 = .ok (.aload_n 0, 1) := by decide +kernel
theorem dX7_buy_1 : decode cX7_buy 1 = .ok (.iload_n 1, 1) := by decide +kernel
theorem dX7_buy_2 : decode cX7_buy 2 = .ok (.invokevirtual 233, 3) := by decide +kernel
theorem dX7_buy_5 : decode cX7_buy 5 = .ok (.iload_n 2, 1) := by decide +kernel
theorem dX7_buy_6 : decode cX7_buy 6 = .ok (.iconst 0, 1) := by decide +kernel
theorem dX7_buy_7 : decode cX7_buy 7 = .ok (.bipush 120, 2) := by decide +kernel
theorem dX7_buy_9 : decode cX7_buy 9 = .ok (.invokestatic 38, 3) := by decide +kernel
theorem dX7_buy_12 : decode cX7_buy 12 = .ok (.aload_n 0, 1) := by decide +kernel
theorem dX7_buy_13 : decode cX7_buy 13 = .ok (.iload_n 1, 1) := by decide +kernel
theorem dX7_buy_14 : decode cX7_buy 14 = .ok (.invokevirtual 225, 3) := by decide +kernel
theorem dX7_buy_17 : decode cX7_buy 17 = .ok (.astore_n 3, 1) := by decide +kernel
theorem dX7_buy_18 : decode cX7_buy 18 = .ok (.aload_n 3, 1) := by decide +kernel
theorem dX7_buy_19 : decode cX7_buy 19 = .ok (.getfield 153, 3) := by decide +kernel
theorem dX7_buy_22 : decode cX7_buy 22 = .ok (.iload_n 2, 1) := by decide +kernel
theorem dX7_buy_23 : decode cX7_buy 23 = .ok (.invokestatic 237, 3) := by decide +kernel
theorem dX7_buy_26 : decode cX7_buy 26 = .ok (.aload_n 0, 1) := by decide +kernel
theorem dX7_buy_27 : decode cX7_buy 27 = .ok (.iconst 1, 1) := by decide +kernel
theorem dX7_buy_28 : decode cX7_buy 28 = .ok (.invokevirtual 240, 3) := by decide +kernel
theorem dX7_buy_31 : decode cX7_buy 31 = .ok (.aload_n 3, 1) := by decide +kernel
theorem dX7_buy_32 : decode cX7_buy 32 = .ok (.iconst 1, 1) := by decide +kernel
theorem dX7_buy_33 : decode cX7_buy 33 = .ok (.putfield 154, 3) := by decide +kernel
theorem dX7_buy_36 : decode cX7_buy 36 = .ok (.aload_n 0, 1) := by decide +kernel
theorem dX7_buy_37 : decode cX7_buy 37 = .ok (.aload_n 3, 1) := by decide +kernel
theorem dX7_buy_38 : decode cX7_buy 38 = .ok (.getfield 153, 3) := by decide +kernel
theorem dX7_buy_41 : decode cX7_buy 41 = .ok (.aload_n 3, 1) := by decide +kernel
theorem dX7_buy_42 : decode cX7_buy 42 = .ok (.getfield 243, 3) := by decide +kernel
theorem dX7_buy_45 : decode cX7_buy 45 = .ok (.iload_n 2, 1) := by decide +kernel
theorem dX7_buy_46 : decode cX7_buy 46 = .ok (.invokevirtual 246, 3) := by decide +kernel
theorem dX7_buy_49 : decode cX7_buy 49 = .ok (.ireturn, 1) := by decide +kernel
theorem dX7_sell_0 : decode cX7_sell 0 = .ok (.aload_n 0, 1) := by decide +kernel
theorem dX7_sell_1 : decode cX7_sell 1 = .ok (.iload_n 1, 1) := by decide +kernel
theorem dX7_sell_2 : decode cX7_sell 2 = .ok (.invokevirtual 121, 3) := by decide +kernel
theorem dX7_sell_5 : decode cX7_sell 5 = .ok (.astore 5, 2) := by decide +kernel
theorem dX7_sell_7 : decode cX7_sell 7 = .ok (.aload 5, 2) := by decide +kernel
theorem dX7_sell_9 : decode cX7_sell 9 = .ok (.iload_n 2, 1) := by decide +kernel
theorem dX7_sell_10 : decode cX7_sell 10 = .ok (.iload_n 3, 1) := by decide +kernel
theorem dX7_sell_11 : decode cX7_sell 11 = .ok (.invokestatic 202, 3) := by decide +kernel
theorem dX7_sell_14 : decode cX7_sell 14 = .ok (.istore 6, 2) := by decide +kernel
theorem dX7_sell_16 : decode cX7_sell 16 = .ok (.iload 4, 2) := by decide +kernel
theorem dX7_sell_18 : decode cX7_sell 18 = .ok (.iconst 0, 1) := by decide +kernel
theorem dX7_sell_19 : decode cX7_sell 19 = .ok (.bipush 120, 2) := by decide +kernel
theorem dX7_sell_21 : decode cX7_sell 21 = .ok (.invokestatic 38, 3) := by decide +kernel
theorem dX7_sell_24 : decode cX7_sell 24 = .ok (.aload 5, 2) := by decide +kernel
theorem dX7_sell_26 : decode cX7_sell 26 = .ok (.iload 6, 2) := by decide +kernel
theorem dX7_sell_28 : decode cX7_sell 28 = .ok (.invokestatic 206, 3) := by decide +kernel
theorem dX7_sell_31 : decode cX7_sell 31 = .ok (.aload 5, 2) := by decide +kernel
theorem dX7_sell_33 : decode cX7_sell 33 = .ok (.iload 4, 2) := by decide +kernel
theorem dX7_sell_35 : decode cX7_sell 35 = .ok (.invokestatic 237, 3) := by decide +kernel
theorem dX7_sell_38 : decode cX7_sell 38 = .ok (.aload_n 0, 1) := by decide +kernel
theorem dX7_sell_39 : decode cX7_sell 39 = .ok (.iconst 1, 1) := by decide +kernel
theorem dX7_sell_40 : decode cX7_sell 40 = .ok (.invokevirtual 240, 3) := by decide +kernel
theorem dX7_sell_43 : decode cX7_sell 43 = .ok (.aload_n 0, 1) := by decide +kernel
theorem dX7_sell_44 : decode cX7_sell 44 = .ok (.aload 5, 2) := by decide +kernel
theorem dX7_sell_46 : decode cX7_sell 46 = .ok (.iload 6, 2) := by decide +kernel
theorem dX7_sell_48 : decode cX7_sell 48 = .ok (.iload 4, 2) := by decide +kernel
theorem dX7_sell_50 : decode cX7_sell 50 = .ok (.invokevirtual 246, 3) := by decide +kernel
theorem dX7_sell_53 : decode cX7_sell 53 = .ok (.ireturn, 1) := by decide +kernel
theorem dX7_group_0 : decode cX7_group 0 = .ok (.aload_n 0, 1) := by decide +kernel
theorem dX7_group_1 : decode cX7_group 1 = .ok (.iload_n 1, 1) := by decide +kernel
theorem dX7_group_2 : decode cX7_group 2 = .ok (.invokevirtual 121, 3) := by decide +kernel
theorem dX7_group_5 : decode cX7_group 5 = .ok (.astore 4, 2) := by decide +kernel
theorem dX7_group_7 : decode cX7_group 7 = .ok (.iload_n 2, 1) := by decide +kernel
theorem dX7_group_8 : decode cX7_group 8 = .ok (.iconst 2, 1) := by decide +kernel
theorem dX7_group_9 : decode cX7_group 9 = .ok (.bipush 8, 2) := by decide +kernel
theorem dX7_group_11 : decode cX7_group 11 = .ok (.invokestatic 38, 3) := by decide +kernel
theorem dX7_group_14 : decode cX7_group 14 = .ok (.iload_n 3, 1) := by decide +kernel
theorem dX7_group_15 : decode cX7_group 15 = .ok (.iconst 0, 1) := by decide +kernel
theorem dX7_group_16 : decode cX7_group 16 = .ok (.bipush 120, 2) := by decide +kernel
theorem dX7_group_18 : decode cX7_group 18 = .ok (.invokestatic 38, 3) := by decide +kernel
theorem dX7_group_21 : decode cX7_group 21 = .ok (.aload 4, 2) := by decide +kernel
theorem dX7_group_23 : decode cX7_group 23 = .ok (.invokestatic 125, 3) := by decide +kernel
theorem dX7_group_26 : decode cX7_group 26 = .ok (.aload 4, 2) := by decide +kernel
theorem dX7_group_28 : decode cX7_group 28 = .ok (.iload_n 3, 1) := by decide +kernel
theorem dX7_group_29 : decode cX7_group 29 = .ok (.invokestatic 237, 3) := by decide +kernel
theorem dX7_group_32 : decode cX7_group 32 = .ok (.aload_n 0, 1) := by decide +kernel
theorem dX7_group_33 : decode cX7_group 33 = .ok (.iload_n 2, 1) := by decide +kernel
theorem dX7_group_34 : decode cX7_group 34 = .ok (.invokevirtual 240, 3) := by decide +kernel
theorem dX7_group_37 : decode cX7_group 37 = .ok (.aload 4, 2) := by decide +kernel
theorem dX7_group_39 : decode cX7_group 39 = .ok (.iload_n 2, 1) := by decide +kernel
theorem dX7_group_40 : decode cX7_group 40 = .ok (.invokevirtual 249, 3) := by decide +kernel
theorem dX7_group_43 : decode cX7_group 43 = .ok (.istore 5, 2) := by decide +kernel
theorem dX7_group_45 : decode cX7_group 45 = .ok (.iload 5, 2) := by decide +kernel
theorem dX7_group_47 : decode cX7_group 47 = .ok (.iconst (-1), 1) := by decide +kernel
theorem dX7_group_48 : decode cX7_group 48 = .ok (.if_icmp .ne 13, 3) := by decide +kernel
theorem dX7_group_51 : decode cX7_group 51 = .ok (.new 46, 3) := by decide +kernel
theorem dX7_group_54 : decode cX7_group 54 = .ok (.dup, 1) := by decide +kernel
theorem dX7_group_55 : decode cX7_group 55 = .ok (.ldc 252, 2) := by decide +kernel
theorem dX7_group_57 : decode cX7_group 57 = .ok (.invokespecial 50, 3) := by decide +kernel
theorem dX7_group_60 : decode cX7_group 60 = .ok (.athrow, 1) := by decide +kernel
theorem dX7_group_61 : decode cX7_group 61 = .ok (.aload_n 0, 1) := by decide +kernel
theorem dX7_group_62 : decode cX7_group 62 = .ok (.getfield 28, 3) := by decide +kernel
theorem dX7_group_65 : decode cX7_group 65 = .ok (.invokevirtual 42, 3) := by decide +kernel
theorem dX7_group_68 : decode cX7_group 68 = .ok (.istore 6, 2) := by decide +kernel
theorem dX7_group_70 : decode cX7_group 70 = .ok (.iconst 0, 1) := by decide +kernel
theorem dX7_group_71 : decode cX7_group 71 = .ok (.istore 7, 2) := by decide +kernel
theorem dX7_group_73 : decode cX7_group 73 = .ok (.iload 7, 2) := by decide +kernel
theorem dX7_group_75 : decode cX7_group 75 = .ok (.iload_n 2, 1) := by decide +kernel
theorem dX7_group_76 : decode cX7_group 76 = .ok (.if_icmp .ge 22, 3) := by decide +kernel
theorem dX7_group_79 : decode cX7_group 79 = .ok (.aload_n 0, 1) := by decide +kernel
theorem dX7_group_80 : decode cX7_group 80 = .ok (.aload 4, 2) := by decide +kernel
theorem dX7_group_82 : decode cX7_group 82 = .ok (.iload 5, 2) := by decide +kernel
theorem dX7_group_84 : decode cX7_group 84 = .ok (.iload 7, 2) := by decide +kernel
theorem dX7_group_86 : decode cX7_group 86 = .ok (.iadd, 1) := by decide +kernel
theorem dX7_group_87 : decode cX7_group 87 = .ok (.iload_n 3, 1) := by decide +kernel
theorem dX7_group_88 : decode cX7_group 88 = .ok (.invokevirtual 246, 3) := by decide +kernel
theorem dX7_group_91 : decode cX7_group 91 = .ok (.pop, 1) := by decide +kernel
theorem dX7_group_92 : decode cX7_group 92 = .ok (.iinc 7 1, 3) := by decide +kernel
theorem dX7_group_95 : decode cX7_group 95 = .ok (.goto (-22), 3) := by decide +kernel
theorem dX7_group_98 : decode cX7_group 98 = .ok (.iload 6, 2) := by decide +kernel
theorem dX7_group_100 : decode cX7_group 100 = .ok (.ireturn, 1) := by decide +kernel
theorem dX7_giveBack_0 : decode cX7_giveBack 0 = .ok (.aload_n 0, 1) := by decide +kernel
theorem dX7_giveBack_1 : decode cX7_giveBack 1 = .ok (.iload_n 1, 1) := by decide +kernel
theorem dX7_giveBack_2 : decode cX7_giveBack 2 = .ok (.invokevirtual 254, 3) := by decide +kernel
theorem dX7_giveBack_5 : decode cX7_giveBack 5 = .ok (.astore_n 2, 1) := by decide +kernel
theorem dX7_giveBack_6 : decode cX7_giveBack 6 = .ok (.aload_n 2, 1) := by decide +kernel
theorem dX7_giveBack_7 : decode cX7_giveBack 7 = .ok (.getfield 135, 3) := by decide +kernel
theorem dX7_giveBack_10 : decode cX7_giveBack 10 = .ok (.invokestatic 125, 3) := by decide +kernel
theorem dX7_giveBack_13 : decode cX7_giveBack 13 = .ok (.aload_n 2, 1) := by decide +kernel
theorem dX7_giveBack_14 : decode cX7_giveBack 14 = .ok (.getfield 140, 3) := by decide +kernel
theorem dX7_giveBack_17 : decode cX7_giveBack 17 = .ok (.ifCond .eq 14, 3) := by decide +kernel
theorem dX7_giveBack_20 : decode cX7_giveBack 20 = .ok (.new 46, 3) := by decide +kernel
theorem dX7_giveBack_23 : decode cX7_giveBack 23 = .ok (.dup, 1) := by decide +kernel
theorem dX7_giveBack_24 : decode cX7_giveBack 24 = .ok (.ldc_w 258, 3) := by decide +kernel
theorem dX7_giveBack_27 : decode cX7_giveBack 27 = .ok (.invokespecial 50, 3) := by decide +kernel
theorem dX7_giveBack_30 : decode cX7_giveBack 30 = .ok (.athrow, 1) := by decide +kernel
theorem dX7_giveBack_31 : decode cX7_giveBack 31 = .ok (.aload_n 2, 1) := by decide +kernel
theorem dX7_giveBack_32 : decode cX7_giveBack 32 = .ok (.iconst 1, 1) := by decide +kernel
theorem dX7_giveBack_33 : decode cX7_giveBack 33 = .ok (.putfield 140, 3) := by decide +kernel
theorem dX7_giveBack_36 : decode cX7_giveBack 36 = .ok (.aload_n 2, 1) := by decide +kernel
theorem dX7_giveBack_37 : decode cX7_giveBack 37 = .ok (.aload_n 2, 1) := by decide +kernel
theorem dX7_giveBack_38 : decode cX7_giveBack 38 = .ok (.getfield 144, 3) := by decide +kernel
theorem dX7_giveBack_41 : decode cX7_giveBack 41 = .ok (.invokevirtual 147, 3) := by decide +kernel
theorem dX7_giveBack_44 : decode cX7_giveBack 44 = .ok (.istore_n 3, 1) := by decide +kernel
theorem dX7_giveBack_45 : decode cX7_giveBack 45 = .ok (.aload_n 0, 1) := by decide +kernel
theorem dX7_giveBack_46 : decode cX7_giveBack 46 = .ok (.aload_n 2, 1) := by decide +kernel
theorem dX7_giveBack_47 : decode cX7_giveBack 47 = .ok (.getfield 135, 3) := by decide +kernel
theorem dX7_giveBack_50 : decode cX7_giveBack 50 = .ok (.aload_n 2, 1) := by decide +kernel
theorem dX7_giveBack_51 : decode cX7_giveBack 51 = .ok (.getfield 260, 3) := by decide +kernel
theorem dX7_giveBack_54 : decode cX7_giveBack 54 = .ok (.invokevirtual 261, 3) := by decide +kernel
theorem dX7_giveBack_57 : decode cX7_giveBack 57 = .ok (.pop, 1) := by decide +kernel
theorem dX7_giveBack_58 : decode cX7_giveBack 58 = .ok (.iload_n 3, 1) := by decide +kernel
theorem dX7_giveBack_59 : decode cX7_giveBack 59 = .ok (.ireturn, 1) := by decide +kernel
theorem dX7_join_0 : decode cX7_join 0 = .ok (.aload_n 0, 1) := by decide +kernel
theorem dX7_join_1 : decode cX7_join 1 = .ok (.iload_n 1, 1) := by decide +kernel
theorem dX7_join_2 : decode cX7_join 2 = .ok (.invokevirtual 121, 3) := by decide +kernel
theorem dX7_join_5 : decode cX7_join 5 = .ok (.astore 4, 2) := by decide +kernel
theorem dX7_join_7 : decode cX7_join 7 = .ok (.iload_n 2, 1) := by decide +kernel
theorem dX7_join_8 : decode cX7_join 8 = .ok (.iconst 0, 1) := by decide +kernel
theorem dX7_join_9 : decode cX7_join 9 = .ok (.bipush 120, 2) := by decide +kernel
theorem dX7_join_11 : decode cX7_join 11 = .ok (.invokestatic 38, 3) := by decide +kernel
theorem dX7_join_14 : decode cX7_join 14 = .ok (.aload 4, 2) := by decide +kernel
theorem dX7_join_16 : decode cX7_join 16 = .ok (.invokestatic 125, 3) := by decide +kernel
theorem dX7_join_19 : decode cX7_join 19 = .ok (.aload 4, 2) := by decide +kernel
theorem dX7_join_21 : decode cX7_join 21 = .ok (.invokevirtual 265, 3) := by decide +kernel
theorem dX7_join_24 : decode cX7_join 24 = .ok (.ifCond .le 14, 3) := by decide +kernel
theorem dX7_join_27 : decode cX7_join 27 = .ok (.new 46, 3) := by decide +kernel
theorem dX7_join_30 : decode cX7_join 30 = .ok (.dup, 1) := by decide +kernel
theorem dX7_join_31 : decode cX7_join 31 = .ok (.ldc_w 268, 3) := by decide +kernel
theorem dX7_join_34 : decode cX7_join 34 = .ok (.invokespecial 50, 3) := by decide +kernel
theorem dX7_join_37 : decode cX7_join 37 = .ok (.athrow, 1) := by decide +kernel
theorem dX7_join_38 : decode cX7_join 38 = .ok (.aload 4, 2) := by decide +kernel
theorem dX7_join_40 : decode cX7_join 40 = .ok (.iload_n 2, 1) := by decide +kernel
theorem dX7_join_41 : decode cX7_join 41 = .ok (.invokestatic 237, 3) := by decide +kernel
theorem dX7_join_44 : decode cX7_join 44 = .ok (.aload 4, 2) := by decide +kernel
theorem dX7_join_46 : decode cX7_join 46 = .ok (.getfield 160, 3) := by decide +kernel
theorem dX7_join_49 : decode cX7_join 49 = .ok (.getfield 270, 3) := by decide +kernel
theorem dX7_join_52 : decode cX7_join 52 = .ok (.bipush 40, 2) := by decide +kernel
theorem dX7_join_54 : decode cX7_join 54 = .ok (.if_icmp .lt 14, 3) := by decide +kernel
theorem dX7_join_57 : decode cX7_join 57 = .ok (.new 46, 3) := by decide +kernel
theorem dX7_join_60 : decode cX7_join 60 = .ok (.dup, 1) := by decide +kernel
theorem dX7_join_61 : decode cX7_join 61 = .ok (.ldc_w 272, 3) := by decide +kernel
theorem dX7_join_64 : decode cX7_join 64 = .ok (.invokespecial 50, 3) := by decide +kernel
theorem dX7_join_67 : decode cX7_join 67 = .ok (.athrow, 1) := by decide +kernel
theorem dX7_join_68 : decode cX7_join 68 = .ok (.aload 4, 2) := by decide +kernel
theorem dX7_join_70 : decode cX7_join 70 = .ok (.getfield 160, 3) := by decide +kernel
theorem dX7_join_73 : decode cX7_join 73 = .ok (.iload_n 2, 1) := by decide +kernel
theorem dX7_join_74 : decode cX7_join 74 = .ok (.iload_n 3, 1) := by decide +kernel
theorem dX7_join_75 : decode cX7_join 75 = .ok (.invokevirtual 274, 3) := by decide +kernel
theorem dX7_join_78 : decode cX7_join 78 = .ok (.ireturn, 1) := by decide +kernel
theorem dX7_fits_0 : decode cX7_fits 0 = .ok (.aload_n 0, 1) := by decide +kernel
theorem dX7_fits_1 : decode cX7_fits 1 = .ok (.iload_n 1, 1) := by decide +kernel
theorem dX7_fits_2 : decode cX7_fits 2 = .ok (.invokevirtual 79, 3) := by decide +kernel
theorem dX7_fits_5 : decode cX7_fits 5 = .ok (.astore 4, 2) := by decide +kernel
theorem dX7_fits_7 : decode cX7_fits 7 = .ok (.aload_n 0, 1) := by decide +kernel
theorem dX7_fits_8 : decode cX7_fits 8 = .ok (.iload_n 2, 1) := by decide +kernel
theorem dX7_fits_9 : decode cX7_fits 9 = .ok (.invokevirtual 61, 3) := by decide +kernel
theorem dX7_fits_12 : decode cX7_fits 12 = .ok (.astore 5, 2) := by decide +kernel
theorem dX7_fits_14 : decode cX7_fits 14 = .ok (.iload_n 3, 1) := by decide +kernel
theorem dX7_fits_15 : decode cX7_fits 15 = .ok (.aload_n 0, 1) := by decide +kernel
theorem dX7_fits_16 : decode cX7_fits 16 = .ok (.getfield 31, 3) := by decide +kernel
theorem dX7_fits_19 : decode cX7_fits 19 = .ok (.iconst 1, 1) := by decide +kernel
theorem dX7_fits_20 : decode cX7_fits 20 = .ok (.iadd, 1) := by decide +kernel
theorem dX7_fits_21 : decode cX7_fits 21 = .ok (.ldc 65, 2) := by decide +kernel
theorem dX7_fits_23 : decode cX7_fits 23 = .ok (.invokestatic 38, 3) := by decide +kernel
theorem dX7_fits_26 : decode cX7_fits 26 = .ok (.aload_n 0, 1) := by decide +kernel
theorem dX7_fits_27 : decode cX7_fits 27 = .ok (.aload 4, 2) := by decide +kernel
theorem dX7_fits_29 : decode cX7_fits 29 = .ok (.aload 5, 2) := by decide +kernel
theorem dX7_fits_31 : decode cX7_fits 31 = .ok (.iload_n 3, 1) := by decide +kernel
theorem dX7_fits_32 : decode cX7_fits 32 = .ok (.invokevirtual 110, 3) := by decide +kernel
theorem dX7_fits_35 : decode cX7_fits 35 = .ok (.ireturn, 1) := by decide +kernel
theorem dX7_first_0 : decode cX7_first 0 = .ok (.aload_n 0, 1) := by decide +kernel
theorem dX7_first_1 : decode cX7_first 1 = .ok (.iload_n 1, 1) := by decide +kernel
theorem dX7_first_2 : decode cX7_first 2 = .ok (.invokevirtual 79, 3) := by decide +kernel
theorem dX7_first_5 : decode cX7_first 5 = .ok (.astore 4, 2) := by decide +kernel
theorem dX7_first_7 : decode cX7_first 7 = .ok (.aload_n 0, 1) := by decide +kernel
theorem dX7_first_8 : decode cX7_first 8 = .ok (.iload_n 2, 1) := by decide +kernel
theorem dX7_first_9 : decode cX7_first 9 = .ok (.invokevirtual 61, 3) := by decide +kernel
theorem dX7_first_12 : decode cX7_first 12 = .ok (.astore 5, 2) := by decide +kernel
theorem dX7_first_14 : decode cX7_first 14 = .ok (.iload_n 3, 1) := by decide +kernel
theorem dX7_first_15 : decode cX7_first 15 = .ok (.aload_n 0, 1) := by decide +kernel
theorem dX7_first_16 : decode cX7_first 16 = .ok (.getfield 31, 3) := by decide +kernel
theorem dX7_first_19 : decode cX7_first 19 = .ok (.iconst 1, 1) := by decide +kernel
theorem dX7_first_20 : decode cX7_first 20 = .ok (.iadd, 1) := by decide +kernel
theorem dX7_first_21 : decode cX7_first 21 = .ok (.ldc 65, 2) := by decide +kernel
theorem dX7_first_23 : decode cX7_first 23 = .ok (.invokestatic 38, 3) := by decide +kernel
theorem dX7_first_26 : decode cX7_first 26 = .ok (.iload_n 3, 1) := by decide +kernel
theorem dX7_first_27 : decode cX7_first 27 = .ok (.sipush 10080, 3) := by decide +kernel
theorem dX7_first_30 : decode cX7_first 30 = .ok (.iadd, 1) := by decide +kernel
theorem dX7_first_31 : decode cX7_first 31 = .ok (.ldc 65, 2) := by decide +kernel
theorem dX7_first_33 : decode cX7_first 33 = .ok (.invokestatic 212, 3) := by decide +kernel
theorem dX7_first_36 : decode cX7_first 36 = .ok (.istore 6, 2) := by decide +kernel
theorem dX7_first_38 : decode cX7_first 38 = .ok (.iload_n 3, 1) := by decide +kernel
theorem dX7_first_39 : decode cX7_first 39 = .ok (.istore 7, 2) := by decide +kernel
theorem dX7_first_41 : decode cX7_first 41 = .ok (.iconst 0, 1) := by decide +kernel
theorem dX7_first_42 : decode cX7_first 42 = .ok (.istore 8, 2) := by decide +kernel
theorem dX7_first_44 : decode cX7_first 44 = .ok (.iload 8, 2) := by decide +kernel
theorem dX7_first_46 : decode cX7_first 46 = .ok (.sipush 10080, 3) := by decide +kernel
theorem dX7_first_49 : decode cX7_first 49 = .ok (.if_icmp .gt 40, 3) := by decide +kernel
theorem dX7_first_52 : decode cX7_first 52 = .ok (.iload 7, 2) := by decide +kernel
theorem dX7_first_54 : decode cX7_first 54 = .ok (.iload 6, 2) := by decide +kernel
theorem dX7_first_56 : decode cX7_first 56 = .ok (.if_icmp .gt 33, 3) := by decide +kernel
theorem dX7_first_59 : decode cX7_first 59 = .ok (.aload_n 0, 1) := by decide +kernel
theorem dX7_first_60 : decode cX7_first 60 = .ok (.aload 4, 2) := by decide +kernel
theorem dX7_first_62 : decode cX7_first 62 = .ok (.aload 5, 2) := by decide +kernel
theorem dX7_first_64 : decode cX7_first 64 = .ok (.iload 7, 2) := by decide +kernel
theorem dX7_first_66 : decode cX7_first 66 = .ok (.invokevirtual 110, 3) := by decide +kernel
theorem dX7_first_69 : decode cX7_first 69 = .ok (.ifCond .ne 6, 3) := by decide +kernel
theorem dX7_first_72 : decode cX7_first 72 = .ok (.iload 7, 2) := by decide +kernel
theorem dX7_first_74 : decode cX7_first 74 = .ok (.ireturn, 1) := by decide +kernel
theorem dX7_first_75 : decode cX7_first 75 = .ok (.aload_n 0, 1) := by decide +kernel
theorem dX7_first_76 : decode cX7_first 76 = .ok (.iload 7, 2) := by decide +kernel
theorem dX7_first_78 : decode cX7_first 78 = .ok (.invokevirtual 278, 3) := by decide +kernel
theorem dX7_first_81 : decode cX7_first 81 = .ok (.istore 7, 2) := by decide +kernel
theorem dX7_first_83 : decode cX7_first 83 = .ok (.iinc 8 1, 3) := by decide +kernel
theorem dX7_first_86 : decode cX7_first 86 = .ok (.goto (-42), 3) := by decide +kernel
theorem dX7_first_89 : decode cX7_first 89 = .ok (.iconst (-1), 1) := by decide +kernel
theorem dX7_first_90 : decode cX7_first 90 = .ok (.ireturn, 1) := by decide +kernel
theorem dX7_price_0 : decode cX7_price 0 = .ok (.aload_n 0, 1) := by decide +kernel
theorem dX7_price_1 : decode cX7_price 1 = .ok (.iload_n 1, 1) := by decide +kernel
theorem dX7_price_2 : decode cX7_price 2 = .ok (.invokevirtual 121, 3) := by decide +kernel
theorem dX7_price_5 : decode cX7_price 5 = .ok (.astore_n 3, 1) := by decide +kernel
theorem dX7_price_6 : decode cX7_price 6 = .ok (.iload_n 2, 1) := by decide +kernel
theorem dX7_price_7 : decode cX7_price 7 = .ok (.iconst 0, 1) := by decide +kernel
theorem dX7_price_8 : decode cX7_price 8 = .ok (.bipush 120, 2) := by decide +kernel
theorem dX7_price_10 : decode cX7_price 10 = .ok (.invokestatic 38, 3) := by decide +kernel
theorem dX7_price_13 : decode cX7_price 13 = .ok (.aload_n 3, 1) := by decide +kernel
theorem dX7_price_14 : decode cX7_price 14 = .ok (.iload_n 2, 1) := by decide +kernel
theorem dX7_price_15 : decode cX7_price 15 = .ok (.invokevirtual 281, 3) := by decide +kernel
theorem dX7_price_18 : decode cX7_price 18 = .ok (.ireturn, 1) := by decide +kernel
theorem dX7_seat_0 : decode cX7_seat 0 = .ok (.aload_n 0, 1) := by decide +kernel
theorem dX7_seat_1 : decode cX7_seat 1 = .ok (.iload_n 1, 1) := by decide +kernel
theorem dX7_seat_2 : decode cX7_seat 2 = .ok (.invokevirtual 121, 3) := by decide +kernel
theorem dX7_seat_5 : decode cX7_seat 5 = .ok (.astore 4, 2) := by decide +kernel
theorem dX7_seat_7 : decode cX7_seat 7 = .ok (.aload 4, 2) := by decide +kernel
theorem dX7_seat_9 : decode cX7_seat 9 = .ok (.getfield 221, 3) := by decide +kernel
theorem dX7_seat_12 : decode cX7_seat 12 = .ok (.aload 4, 2) := by decide +kernel
theorem dX7_seat_14 : decode cX7_seat 14 = .ok (.iload_n 2, 1) := by decide +kernel
theorem dX7_seat_15 : decode cX7_seat 15 = .ok (.iload_n 3, 1) := by decide +kernel
theorem dX7_seat_16 : decode cX7_seat 16 = .ok (.invokestatic 202, 3) := by decide +kernel
theorem dX7_seat_19 : decode cX7_seat 19 = .ok (.iaload, 1) := by decide +kernel
theorem dX7_seat_20 : decode cX7_seat 20 = .ok (.ireturn, 1) := by decide +kernel
theorem dX7_ofShow_0 : decode cX7_ofShow 0 = .ok (.aload_n 0, 1) := by decide +kernel
theorem dX7_ofShow_1 : decode cX7_ofShow 1 = .ok (.iload_n 1, 1) := by decide +kernel
theorem dX7_ofShow_2 : decode cX7_ofShow 2 = .ok (.invokevirtual 121, 3) := by decide +kernel
theorem dX7_ofShow_5 : decode cX7_ofShow 5 = .ok (.astore_n 3, 1) := by decide +kernel
theorem dX7_ofShow_6 : decode cX7_ofShow 6 = .ok (.iload_n 2, 1) := by decide +kernel
theorem dX7_ofShow_7 : decode cX7_ofShow 7 = .ok (.tableswitch 94 0 7 #[45, 53, 61, 66, 71, 76, 81, 89], 45) := by decide +kernel
theorem dX7_ofShow_52 : decode cX7_ofShow 52 = .ok (.aload_n 3, 1) := by decide +kernel
theorem dX7_ofShow_53 : decode cX7_ofShow 53 = .ok (.getfield 177, 3) := by decide +kernel
theorem dX7_ofShow_56 : decode cX7_ofShow 56 = .ok (.getfield 103, 3) := by decide +kernel
theorem dX7_ofShow_59 : decode cX7_ofShow 59 = .ok (.ireturn, 1) := by decide +kernel
theorem dX7_ofShow_60 : decode cX7_ofShow 60 = .ok (.aload_n 3, 1) := by decide +kernel
theorem dX7_ofShow_61 : decode cX7_ofShow 61 = .ok (.getfield 184, 3) := by decide +kernel
theorem dX7_ofShow_64 : decode cX7_ofShow 64 = .ok (.getfield 106, 3) := by decide +kernel
theorem dX7_ofShow_67 : decode cX7_ofShow 67 = .ok (.ireturn, 1) := by decide +kernel
theorem dX7_ofShow_68 : decode cX7_ofShow 68 = .ok (.aload_n 3, 1) := by decide +kernel
theorem dX7_ofShow_69 : decode cX7_ofShow 69 = .ok (.getfield 174, 3) := by decide +kernel
theorem dX7_ofShow_72 : decode cX7_ofShow 72 = .ok (.ireturn, 1) := by decide +kernel
theorem dX7_ofShow_73 : decode cX7_ofShow 73 = .ok (.aload_n 3, 1) := by decide +kernel
theorem dX7_ofShow_74 : decode cX7_ofShow 74 = .ok (.getfield 169, 3) := by decide +kernel
theorem dX7_ofShow_77 : decode cX7_ofShow 77 = .ok (.ireturn, 1) := by decide +kernel
theorem dX7_ofShow_78 : decode cX7_ofShow 78 = .ok (.aload_n 3, 1) := by decide +kernel
theorem dX7_ofShow_79 : decode cX7_ofShow 79 = .ok (.invokevirtual 284, 3) := by decide +kernel
theorem dX7_ofShow_82 : decode cX7_ofShow 82 = .ok (.ireturn, 1) := by decide +kernel
theorem dX7_ofShow_83 : decode cX7_ofShow 83 = .ok (.aload_n 3, 1) := by decide +kernel
theorem dX7_ofShow_84 : decode cX7_ofShow 84 = .ok (.invokevirtual 287, 3) := by decide +kernel
theorem dX7_ofShow_87 : decode cX7_ofShow 87 = .ok (.ireturn, 1) := by decide +kernel
theorem dX7_ofShow_88 : decode cX7_ofShow 88 = .ok (.aload_n 3, 1) := by decide +kernel
theorem dX7_ofShow_89 : decode cX7_ofShow 89 = .ok (.getfield 160, 3) := by decide +kernel
theorem dX7_ofShow_92 : decode cX7_ofShow 92 = .ok (.getfield 270, 3) := by decide +kernel
theorem dX7_ofShow_95 : decode cX7_ofShow 95 = .ok (.ireturn, 1) := by decide +kernel
theorem dX7_ofShow_96 : decode cX7_ofShow 96 = .ok (.aload_n 3, 1) := by decide +kernel
theorem dX7_ofShow_97 : decode cX7_ofShow 97 = .ok (.getfield 290, 3) := by decide +kernel
theorem dX7_ofShow_100 : decode cX7_ofShow 100 = .ok (.ireturn, 1) := by decide +kernel
theorem dX7_ofShow_101 : decode cX7_ofShow 101 = .ok (.new 291, 3) := by decide +kernel
theorem dX7_ofShow_104 : decode cX7_ofShow 104 = .ok (.dup, 1) := by decide +kernel
theorem dX7_ofShow_105 : decode cX7_ofShow 105 = .ok (.ldc_w 293, 3) := by decide +kernel
theorem dX7_ofShow_108 : decode cX7_ofShow 108 = .ok (.invokespecial 295, 3) := by decide +kernel
theorem dX7_ofShow_111 : decode cX7_ofShow 111 = .ok (.athrow, 1) := by decide +kernel
theorem dX7_ofTicket_0 : decode cX7_ofTicket 0 = .ok (.aload_n 0, 1) := by decide +kernel
theorem dX7_ofTicket_1 : decode cX7_ofTicket 1 = .ok (.iload_n 1, 1) := by decide +kernel
theorem dX7_ofTicket_2 : decode cX7_ofTicket 2 = .ok (.invokevirtual 254, 3) := by decide +kernel
theorem dX7_ofTicket_5 : decode cX7_ofTicket 5 = .ok (.astore_n 3, 1) := by decide +kernel
theorem dX7_ofTicket_6 : decode cX7_ofTicket 6 = .ok (.iload_n 2, 1) := by decide +kernel
theorem dX7_ofTicket_7 : decode cX7_ofTicket 7 = .ok (.tableswitch 92 0 5 #[37, 45, 57, 69, 74, 79], 37) := by decide +kernel
theorem dX7_ofTicket_44 : decode cX7_ofTicket 44 = .ok (.aload_n 3, 1) := by decide +kernel
theorem dX7_ofTicket_45 : decode cX7_ofTicket 45 = .ok (.getfield 135, 3) := by decide +kernel
theorem dX7_ofTicket_48 : decode cX7_ofTicket 48 = .ok (.getfield 139, 3) := by decide +kernel
theorem dX7_ofTicket_51 : decode cX7_ofTicket 51 = .ok (.ireturn, 1) := by decide +kernel
theorem dX7_ofTicket_52 : decode cX7_ofTicket 52 = .ok (.aload_n 3, 1) := by decide +kernel
theorem dX7_ofTicket_53 : decode cX7_ofTicket 53 = .ok (.getfield 135, 3) := by decide +kernel
theorem dX7_ofTicket_56 : decode cX7_ofTicket 56 = .ok (.aload_n 3, 1) := by decide +kernel
theorem dX7_ofTicket_57 : decode cX7_ofTicket 57 = .ok (.getfield 260, 3) := by decide +kernel
theorem dX7_ofTicket_60 : decode cX7_ofTicket 60 = .ok (.invokevirtual 296, 3) := by decide +kernel
theorem dX7_ofTicket_63 : decode cX7_ofTicket 63 = .ok (.ireturn, 1) := by decide +kernel
theorem dX7_ofTicket_64 : decode cX7_ofTicket 64 = .ok (.aload_n 3, 1) := by decide +kernel
theorem dX7_ofTicket_65 : decode cX7_ofTicket 65 = .ok (.getfield 135, 3) := by decide +kernel
theorem dX7_ofTicket_68 : decode cX7_ofTicket 68 = .ok (.aload_n 3, 1) := by decide +kernel
theorem dX7_ofTicket_69 : decode cX7_ofTicket 69 = .ok (.getfield 260, 3) := by decide +kernel
theorem dX7_ofTicket_72 : decode cX7_ofTicket 72 = .ok (.invokevirtual 299, 3) := by decide +kernel
theorem dX7_ofTicket_75 : decode cX7_ofTicket 75 = .ok (.ireturn, 1) := by decide +kernel
theorem dX7_ofTicket_76 : decode cX7_ofTicket 76 = .ok (.aload_n 3, 1) := by decide +kernel
theorem dX7_ofTicket_77 : decode cX7_ofTicket 77 = .ok (.getfield 302, 3) := by decide +kernel
theorem dX7_ofTicket_80 : decode cX7_ofTicket 80 = .ok (.ireturn, 1) := by decide +kernel
theorem dX7_ofTicket_81 : decode cX7_ofTicket 81 = .ok (.aload_n 3, 1) := by decide +kernel
theorem dX7_ofTicket_82 : decode cX7_ofTicket 82 = .ok (.getfield 144, 3) := by decide +kernel
theorem dX7_ofTicket_85 : decode cX7_ofTicket 85 = .ok (.ireturn, 1) := by decide +kernel
theorem dX7_ofTicket_86 : decode cX7_ofTicket 86 = .ok (.aload_n 3, 1) := by decide +kernel
theorem dX7_ofTicket_87 : decode cX7_ofTicket 87 = .ok (.getfield 140, 3) := by decide +kernel
theorem dX7_ofTicket_90 : decode cX7_ofTicket 90 = .ok (.ifCond .eq 7, 3) := by decide +kernel
theorem dX7_ofTicket_93 : decode cX7_ofTicket 93 = .ok (.iconst 1, 1) := by decide +kernel
theorem dX7_ofTicket_94 : decode cX7_ofTicket 94 = .ok (.goto 4, 3) := by decide +kernel
theorem dX7_ofTicket_97 : decode cX7_ofTicket 97 = .ok (.iconst 0, 1) := by decide +kernel
theorem dX7_ofTicket_98 : decode cX7_ofTicket 98 = .ok (.ireturn, 1) := by decide +kernel
theorem dX7_ofTicket_99 : decode cX7_ofTicket 99 = .ok (.new 291, 3) := by decide +kernel
theorem dX7_ofTicket_102 : decode cX7_ofTicket 102 = .ok (.dup, 1) := by decide +kernel
theorem dX7_ofTicket_103 : decode cX7_ofTicket 103 = .ok (.ldc_w 293, 3) := by decide +kernel
theorem dX7_ofTicket_106 : decode cX7_ofTicket 106 = .ok (.invokespecial 295, 3) := by decide +kernel
theorem dX7_ofTicket_109 : decode cX7_ofTicket 109 = .ok (.athrow, 1) := by decide +kernel
theorem dX7_ofHall_0 : decode cX7_ofHall 0 = .ok (.aload_n 0, 1) := by decide +kernel
theorem dX7_ofHall_1 : decode cX7_ofHall 1 = .ok (.iload_n 1, 1) := by decide +kernel
theorem dX7_ofHall_2 : decode cX7_ofHall 2 = .ok (.invokevirtual 61, 3) := by decide +kernel
theorem dX7_ofHall_5 : decode cX7_ofHall 5 = .ok (.astore_n 3, 1) := by decide +kernel
theorem dX7_ofHall_6 : decode cX7_ofHall 6 = .ok (.iload_n 2, 1) := by decide +kernel
theorem dX7_ofHall_7 : decode cX7_ofHall 7 = .ok (.tableswitch 55 0 3 #[29, 39, 44, 49], 29) := by decide +kernel
theorem dX7_ofHall_36 : decode cX7_ofHall 36 = .ok (.aload_n 3, 1) := by decide +kernel
theorem dX7_ofHall_37 : decode cX7_ofHall 37 = .ok (.getfield 305, 3) := by decide +kernel
theorem dX7_ofHall_40 : decode cX7_ofHall 40 = .ok (.aload_n 3, 1) := by decide +kernel
theorem dX7_ofHall_41 : decode cX7_ofHall 41 = .ok (.getfield 308, 3) := by decide +kernel
theorem dX7_ofHall_44 : decode cX7_ofHall 44 = .ok (.imul, 1) := by decide +kernel
theorem dX7_ofHall_45 : decode cX7_ofHall 45 = .ok (.ireturn, 1) := by decide +kernel
theorem dX7_ofHall_46 : decode cX7_ofHall 46 = .ok (.aload_n 3, 1) := by decide +kernel
theorem dX7_ofHall_47 : decode cX7_ofHall 47 = .ok (.getfield 66, 3) := by decide +kernel
theorem dX7_ofHall_50 : decode cX7_ofHall 50 = .ok (.ireturn, 1) := by decide +kernel
theorem dX7_ofHall_51 : decode cX7_ofHall 51 = .ok (.aload_n 3, 1) := by decide +kernel
theorem dX7_ofHall_52 : decode cX7_ofHall 52 = .ok (.getfield 69, 3) := by decide +kernel
theorem dX7_ofHall_55 : decode cX7_ofHall 55 = .ok (.ireturn, 1) := by decide +kernel
theorem dX7_ofHall_56 : decode cX7_ofHall 56 = .ok (.aload_n 0, 1) := by decide +kernel
theorem dX7_ofHall_57 : decode cX7_ofHall 57 = .ok (.aload_n 3, 1) := by decide +kernel
theorem dX7_ofHall_58 : decode cX7_ofHall 58 = .ok (.invokevirtual 311, 3) := by decide +kernel
theorem dX7_ofHall_61 : decode cX7_ofHall 61 = .ok (.ireturn, 1) := by decide +kernel
theorem dX7_ofHall_62 : decode cX7_ofHall 62 = .ok (.new 291, 3) := by decide +kernel
theorem dX7_ofHall_65 : decode cX7_ofHall 65 = .ok (.dup, 1) := by decide +kernel
theorem dX7_ofHall_66 : decode cX7_ofHall 66 = .ok (.ldc_w 293, 3) := by decide +kernel
theorem dX7_ofHall_69 : decode cX7_ofHall 69 = .ok (.invokespecial 295, 3) := by decide +kernel
theorem dX7_ofHall_72 : decode cX7_ofHall 72 = .ok (.athrow, 1) := by decide +kernel
theorem dX7_takings_0 : decode cX7_takings 0 = .ok (.aload_n 0, 1) := by decide +kernel
theorem dX7_takings_1 : decode cX7_takings 1 = .ok (.iload_n 1, 1) := by decide +kernel
theorem dX7_takings_2 : decode cX7_takings 2 = .ok (.invokevirtual 79, 3) := by decide +kernel
theorem dX7_takings_5 : decode cX7_takings 5 = .ok (.astore_n 3, 1) := by decide +kernel
theorem dX7_takings_6 : decode cX7_takings 6 = .ok (.iload_n 2, 1) := by decide +kernel
theorem dX7_takings_7 : decode cX7_takings 7 = .ok (.iconst 0, 1) := by decide +kernel
theorem dX7_takings_8 : decode cX7_takings 8 = .ok (.bipush 9, 2) := by decide +kernel
theorem dX7_takings_10 : decode cX7_takings 10 = .ok (.invokestatic 38, 3) := by decide +kernel
theorem dX7_takings_13 : decode cX7_takings 13 = .ok (.aload_n 0, 1) := by decide +kernel
theorem dX7_takings_14 : decode cX7_takings 14 = .ok (.aload_n 3, 1) := by decide +kernel
theorem dX7_takings_15 : decode cX7_takings 15 = .ok (.iload_n 2, 1) := by decide +kernel
theorem dX7_takings_16 : decode cX7_takings 16 = .ok (.invokevirtual 315, 3) := by decide +kernel
theorem dX7_takings_19 : decode cX7_takings 19 = .ok (.ireturn, 1) := by decide +kernel
theorem dX7_takingsAnew_0 : decode cX7_takingsAnew 0 = .ok (.aload_n 0, 1) := by decide +kernel
theorem dX7_takingsAnew_1 : decode cX7_takingsAnew 1 = .ok (.iload_n 1, 1) := by decide +kernel
theorem dX7_takingsAnew_2 : decode cX7_takingsAnew 2 = .ok (.invokevirtual 79, 3) := by decide +kernel
theorem dX7_takingsAnew_5 : decode cX7_takingsAnew 5 = .ok (.astore_n 3, 1) := by decide +kernel
theorem dX7_takingsAnew_6 : decode cX7_takingsAnew 6 = .ok (.iload_n 2, 1) := by decide +kernel
theorem dX7_takingsAnew_7 : decode cX7_takingsAnew 7 = .ok (.iconst 0, 1) := by decide +kernel
theorem dX7_takingsAnew_8 : decode cX7_takingsAnew 8 = .ok (.bipush 9, 2) := by decide +kernel
theorem dX7_takingsAnew_10 : decode cX7_takingsAnew 10 = .ok (.invokestatic 38, 3) := by decide +kernel
theorem dX7_takingsAnew_13 : decode cX7_takingsAnew 13 = .ok (.aload_n 0, 1) := by decide +kernel
theorem dX7_takingsAnew_14 : decode cX7_takingsAnew 14 = .ok (.aload_n 3, 1) := by decide +kernel
theorem dX7_takingsAnew_15 : decode cX7_takingsAnew 15 = .ok (.invokevirtual 319, 3) := by decide +kernel
theorem dX7_takingsAnew_18 : decode cX7_takingsAnew 18 = .ok (.istore 4, 2) := by decide +kernel
theorem dX7_takingsAnew_20 : decode cX7_takingsAnew 20 = .ok (.iload 4, 2) := by decide +kernel
theorem dX7_takingsAnew_22 : decode cX7_takingsAnew 22 = .ok (.iconst (-1), 1) := by decide +kernel
theorem dX7_takingsAnew_23 : decode cX7_takingsAnew 23 = .ok (.if_icmp .ne 5, 3) := by decide +kernel
theorem dX7_takingsAnew_26 : decode cX7_takingsAnew 26 = .ok (.iconst 0, 1) := by decide +kernel
theorem dX7_takingsAnew_27 : decode cX7_takingsAnew 27 = .ok (.ireturn, 1) := by decide +kernel
theorem dX7_takingsAnew_28 : decode cX7_takingsAnew 28 = .ok (.iconst 0, 1) := by decide +kernel
theorem dX7_takingsAnew_29 : decode cX7_takingsAnew 29 = .ok (.istore 5, 2) := by decide +kernel
theorem dX7_takingsAnew_31 : decode cX7_takingsAnew 31 = .ok (.iconst 0, 1) := by decide +kernel
theorem dX7_takingsAnew_32 : decode cX7_takingsAnew 32 = .ok (.istore 6, 2) := by decide +kernel
theorem dX7_takingsAnew_34 : decode cX7_takingsAnew 34 = .ok (.iload 6, 2) := by decide +kernel
theorem dX7_takingsAnew_36 : decode cX7_takingsAnew 36 = .ok (.aload_n 0, 1) := by decide +kernel
theorem dX7_takingsAnew_37 : decode cX7_takingsAnew 37 = .ok (.getfield 28, 3) := by decide +kernel
theorem dX7_takingsAnew_40 : decode cX7_takingsAnew 40 = .ok (.invokevirtual 42, 3) := by decide +kernel
theorem dX7_takingsAnew_43 : decode cX7_takingsAnew 43 = .ok (.if_icmp .ge 63, 3) := by decide +kernel
theorem dX7_takingsAnew_46 : decode cX7_takingsAnew 46 = .ok (.aload_n 0, 1) := by decide +kernel
theorem dX7_takingsAnew_47 : decode cX7_takingsAnew 47 = .ok (.getfield 28, 3) := by decide +kernel
theorem dX7_takingsAnew_50 : decode cX7_takingsAnew 50 = .ok (.iload 6, 2) := by decide +kernel
theorem dX7_takingsAnew_52 : decode cX7_takingsAnew 52 = .ok (.invokevirtual 129, 3) := by decide +kernel
theorem dX7_takingsAnew_55 : decode cX7_takingsAnew 55 = .ok (.checkcast 133, 3) := by decide +kernel
theorem dX7_takingsAnew_58 : decode cX7_takingsAnew 58 = .ok (.astore 7, 2) := by decide +kernel
theorem dX7_takingsAnew_60 : decode cX7_takingsAnew 60 = .ok (.aload 7, 2) := by decide +kernel
theorem dX7_takingsAnew_62 : decode cX7_takingsAnew 62 = .ok (.getfield 135, 3) := by decide +kernel
theorem dX7_takingsAnew_65 : decode cX7_takingsAnew 65 = .ok (.getfield 177, 3) := by decide +kernel
theorem dX7_takingsAnew_68 : decode cX7_takingsAnew 68 = .ok (.getfield 103, 3) := by decide +kernel
theorem dX7_takingsAnew_71 : decode cX7_takingsAnew 71 = .ok (.iload_n 1, 1) := by decide +kernel
theorem dX7_takingsAnew_72 : decode cX7_takingsAnew 72 = .ok (.if_icmp .ne 28, 3) := by decide +kernel
theorem dX7_takingsAnew_75 : decode cX7_takingsAnew 75 = .ok (.aload 7, 2) := by decide +kernel
theorem dX7_takingsAnew_77 : decode cX7_takingsAnew 77 = .ok (.getfield 135, 3) := by decide +kernel
theorem dX7_takingsAnew_80 : decode cX7_takingsAnew 80 = .ok (.invokevirtual 323, 3) := by decide +kernel
theorem dX7_takingsAnew_83 : decode cX7_takingsAnew 83 = .ok (.iload 4, 2) := by decide +kernel
theorem dX7_takingsAnew_85 : decode cX7_takingsAnew 85 = .ok (.iload_n 2, 1) := by decide +kernel
theorem dX7_takingsAnew_86 : decode cX7_takingsAnew 86 = .ok (.iadd, 1) := by decide +kernel
theorem dX7_takingsAnew_87 : decode cX7_takingsAnew 87 = .ok (.if_icmp .ne 13, 3) := by decide +kernel
theorem dX7_takingsAnew_90 : decode cX7_takingsAnew 90 = .ok (.iload 5, 2) := by decide +kernel
theorem dX7_takingsAnew_92 : decode cX7_takingsAnew 92 = .ok (.aload 7, 2) := by decide +kernel
theorem dX7_takingsAnew_94 : decode cX7_takingsAnew 94 = .ok (.getfield 144, 3) := by decide +kernel
theorem dX7_takingsAnew_97 : decode cX7_takingsAnew 97 = .ok (.iadd, 1) := by decide +kernel
theorem dX7_takingsAnew_98 : decode cX7_takingsAnew 98 = .ok (.istore 5, 2) := by decide +kernel
theorem dX7_takingsAnew_100 : decode cX7_takingsAnew 100 = .ok (.iinc 6 1, 3) := by decide +kernel
theorem dX7_takingsAnew_103 : decode cX7_takingsAnew 103 = .ok (.goto (-69), 3) := by decide +kernel
theorem dX7_takingsAnew_106 : decode cX7_takingsAnew 106 = .ok (.iload 5, 2) := by decide +kernel
theorem dX7_takingsAnew_108 : decode cX7_takingsAnew 108 = .ok (.ireturn, 1) := by decide +kernel
theorem dX7_share_0 : decode cX7_share 0 = .ok (.aload_n 0, 1) := by decide +kernel
theorem dX7_share_1 : decode cX7_share 1 = .ok (.iload_n 1, 1) := by decide +kernel
theorem dX7_share_2 : decode cX7_share 2 = .ok (.invokevirtual 79, 3) := by decide +kernel
theorem dX7_share_5 : decode cX7_share 5 = .ok (.astore_n 3, 1) := by decide +kernel
theorem dX7_share_6 : decode cX7_share 6 = .ok (.iload_n 2, 1) := by decide +kernel
theorem dX7_share_7 : decode cX7_share 7 = .ok (.iconst 0, 1) := by decide +kernel
theorem dX7_share_8 : decode cX7_share 8 = .ok (.bipush 9, 2) := by decide +kernel
theorem dX7_share_10 : decode cX7_share 10 = .ok (.invokestatic 38, 3) := by decide +kernel
theorem dX7_share_13 : decode cX7_share 13 = .ok (.aload_n 3, 1) := by decide +kernel
theorem dX7_share_14 : decode cX7_share 14 = .ok (.aload_n 0, 1) := by decide +kernel
theorem dX7_share_15 : decode cX7_share 15 = .ok (.aload_n 3, 1) := by decide +kernel
theorem dX7_share_16 : decode cX7_share 16 = .ok (.iload_n 2, 1) := by decide +kernel
theorem dX7_share_17 : decode cX7_share 17 = .ok (.invokevirtual 315, 3) := by decide +kernel
theorem dX7_share_20 : decode cX7_share 20 = .ok (.iload_n 2, 1) := by decide +kernel
theorem dX7_share_21 : decode cX7_share 21 = .ok (.invokevirtual 326, 3) := by decide +kernel
theorem dX7_share_24 : decode cX7_share 24 = .ok (.ireturn, 1) := by decide +kernel
theorem dX7_mustStay_0 : decode cX7_mustStay 0 = .ok (.aload_n 0, 1) := by decide +kernel
theorem dX7_mustStay_1 : decode cX7_mustStay 1 = .ok (.iload_n 1, 1) := by decide +kernel
theorem dX7_mustStay_2 : decode cX7_mustStay 2 = .ok (.invokevirtual 79, 3) := by decide +kernel
theorem dX7_mustStay_5 : decode cX7_mustStay 5 = .ok (.astore_n 3, 1) := by decide +kernel
theorem dX7_mustStay_6 : decode cX7_mustStay 6 = .ok (.iload_n 2, 1) := by decide +kernel
theorem dX7_mustStay_7 : decode cX7_mustStay 7 = .ok (.iconst 0, 1) := by decide +kernel
theorem dX7_mustStay_8 : decode cX7_mustStay 8 = .ok (.bipush 9, 2) := by decide +kernel
theorem dX7_mustStay_10 : decode cX7_mustStay 10 = .ok (.invokestatic 38, 3) := by decide +kernel
theorem dX7_mustStay_13 : decode cX7_mustStay 13 = .ok (.aload_n 0, 1) := by decide +kernel
theorem dX7_mustStay_14 : decode cX7_mustStay 14 = .ok (.aload_n 3, 1) := by decide +kernel
theorem dX7_mustStay_15 : decode cX7_mustStay 15 = .ok (.invokevirtual 319, 3) := by decide +kernel
theorem dX7_mustStay_18 : decode cX7_mustStay 18 = .ok (.iconst (-1), 1) := by decide +kernel
theorem dX7_mustStay_19 : decode cX7_mustStay 19 = .ok (.if_icmp .eq 20, 3) := by decide +kernel
theorem dX7_mustStay_22 : decode cX7_mustStay 22 = .ok (.aload_n 0, 1) := by decide +kernel
theorem dX7_mustStay_23 : decode cX7_mustStay 23 = .ok (.aload_n 3, 1) := by decide +kernel
theorem dX7_mustStay_24 : decode cX7_mustStay 24 = .ok (.iload_n 2, 1) := by decide +kernel
theorem dX7_mustStay_25 : decode cX7_mustStay 25 = .ok (.invokevirtual 315, 3) := by decide +kernel
theorem dX7_mustStay_28 : decode cX7_mustStay 28 = .ok (.aload_n 3, 1) := by decide +kernel
theorem dX7_mustStay_29 : decode cX7_mustStay 29 = .ok (.getfield 95, 3) := by decide +kernel
theorem dX7_mustStay_32 : decode cX7_mustStay 32 = .ok (.if_icmp .lt 7, 3) := by decide +kernel
theorem dX7_mustStay_35 : decode cX7_mustStay 35 = .ok (.iconst 1, 1) := by decide +kernel
theorem dX7_mustStay_36 : decode cX7_mustStay 36 = .ok (.goto 4, 3) := by decide +kernel
theorem dX7_mustStay_39 : decode cX7_mustStay 39 = .ok (.iconst 0, 1) := by decide +kernel
theorem dX7_mustStay_40 : decode cX7_mustStay 40 = .ok (.ireturn, 1) := by decide +kernel
theorem dX7_audit_0 : decode cX7_audit 0 = .ok (.aload_n 0, 1) := by decide +kernel
theorem dX7_audit_1 : decode cX7_audit 1 = .ok (.iload_n 1, 1) := by decide +kernel
theorem dX7_audit_2 : decode cX7_audit 2 = .ok (.invokevirtual 329, 3) := by decide +kernel
theorem dX7_audit_5 : decode cX7_audit 5 = .ok (.aload_n 0, 1) := by decide +kernel
theorem dX7_audit_6 : decode cX7_audit 6 = .ok (.iload_n 2, 1) := by decide +kernel
theorem dX7_audit_7 : decode cX7_audit 7 = .ok (.invokevirtual 329, 3) := by decide +kernel
theorem dX7_audit_10 : decode cX7_audit 10 = .ok (.iload_n 2, 1) := by decide +kernel
theorem dX7_audit_11 : decode cX7_audit 11 = .ok (.iload_n 1, 1) := by decide +kernel
theorem dX7_audit_12 : decode cX7_audit 12 = .ok (.if_icmp .ge 14, 3) := by decide +kernel
theorem dX7_audit_15 : decode cX7_audit 15 = .ok (.new 332, 3) := by decide +kernel
theorem dX7_audit_18 : decode cX7_audit 18 = .ok (.dup, 1) := by decide +kernel
theorem dX7_audit_19 : decode cX7_audit 19 = .ok (.ldc_w 334, 3) := by decide +kernel
theorem dX7_audit_22 : decode cX7_audit 22 = .ok (.invokespecial 336, 3) := by decide +kernel
theorem dX7_audit_25 : decode cX7_audit 25 = .ok (.athrow, 1) := by decide +kernel
theorem dX7_audit_26 : decode cX7_audit 26 = .ok (.aload_n 0, 1) := by decide +kernel
theorem dX7_audit_27 : decode cX7_audit 27 = .ok (.iload_n 1, 1) := by decide +kernel
theorem dX7_audit_28 : decode cX7_audit 28 = .ok (.iload_n 2, 1) := by decide +kernel
theorem dX7_audit_29 : decode cX7_audit 29 = .ok (.invokevirtual 337, 3) := by decide +kernel
theorem dX7_audit_32 : decode cX7_audit 32 = .ok (.ireturn, 1) := by decide +kernel
theorem dX7_all_0 : decode cX7_all 0 = .ok (.iload_n 1, 1) := by decide +kernel
theorem dX7_all_1 : decode cX7_all 1 = .ok (.tableswitch 76 0 4 #[35, 40, 48, 56, 61], 35) := by decide +kernel
theorem dX7_all_36 : decode cX7_all 36 = .ok (.aload_n 0, 1) := by decide +kernel
theorem dX7_all_37 : decode cX7_all 37 = .ok (.getfield 31, 3) := by decide +kernel
theorem dX7_all_40 : decode cX7_all 40 = .ok (.ireturn, 1) := by decide +kernel
theorem dX7_all_41 : decode cX7_all 41 = .ok (.aload_n 0, 1) := by decide +kernel
theorem dX7_all_42 : decode cX7_all 42 = .ok (.getfield 22, 3) := by decide +kernel
theorem dX7_all_45 : decode cX7_all 45 = .ok (.invokevirtual 42, 3) := by decide +kernel
theorem dX7_all_48 : decode cX7_all 48 = .ok (.ireturn, 1) := by decide +kernel
theorem dX7_all_49 : decode cX7_all 49 = .ok (.aload_n 0, 1) := by decide +kernel
theorem dX7_all_50 : decode cX7_all 50 = .ok (.getfield 28, 3) := by decide +kernel
theorem dX7_all_53 : decode cX7_all 53 = .ok (.invokevirtual 42, 3) := by decide +kernel
theorem dX7_all_56 : decode cX7_all 56 = .ok (.ireturn, 1) := by decide +kernel
theorem dX7_all_57 : decode cX7_all 57 = .ok (.aload_n 0, 1) := by decide +kernel
theorem dX7_all_58 : decode cX7_all 58 = .ok (.invokevirtual 340, 3) := by decide +kernel
theorem dX7_all_61 : decode cX7_all 61 = .ok (.ireturn, 1) := by decide +kernel
theorem dX7_all_62 : decode cX7_all 62 = .ok (.aload_n 0, 1) := by decide +kernel
theorem dX7_all_63 : decode cX7_all 63 = .ok (.iconst 0, 1) := by decide +kernel
theorem dX7_all_64 : decode cX7_all 64 = .ok (.aload_n 0, 1) := by decide +kernel
theorem dX7_all_65 : decode cX7_all 65 = .ok (.getfield 28, 3) := by decide +kernel
theorem dX7_all_68 : decode cX7_all 68 = .ok (.invokevirtual 42, 3) := by decide +kernel
theorem dX7_all_71 : decode cX7_all 71 = .ok (.iconst 1, 1) := by decide +kernel
theorem dX7_all_72 : decode cX7_all 72 = .ok (.isub, 1) := by decide +kernel
theorem dX7_all_73 : decode cX7_all 73 = .ok (.invokevirtual 337, 3) := by decide +kernel
theorem dX7_all_76 : decode cX7_all 76 = .ok (.ireturn, 1) := by decide +kernel
theorem dX7_all_77 : decode cX7_all 77 = .ok (.new 291, 3) := by decide +kernel
theorem dX7_all_80 : decode cX7_all 80 = .ok (.dup, 1) := by decide +kernel
theorem dX7_all_81 : decode cX7_all 81 = .ok (.ldc_w 293, 3) := by decide +kernel
theorem dX7_all_84 : decode cX7_all 84 = .ok (.invokespecial 295, 3) := by decide +kernel
theorem dX7_all_87 : decode cX7_all 87 = .ok (.athrow, 1) := by decide +kernel
theorem dX7_needWithin_0 : decode cX7_needWithin 0 = .ok (.iload_n 0, 1) := by decide +kernel
theorem dX7_needWithin_1 : decode cX7_needWithin 1 = .ok (.iload_n 1, 1) := by decide +kernel
theorem dX7_needWithin_2 : decode cX7_needWithin 2 = .ok (.if_icmp .lt 8, 3) := by decide +kernel
theorem dX7_needWithin_5 : decode cX7_needWithin 5 = .ok (.iload_n 0, 1) := by decide +kernel
theorem dX7_needWithin_6 : decode cX7_needWithin 6 = .ok (.iload_n 2, 1) := by decide +kernel
theorem dX7_needWithin_7 : decode cX7_needWithin 7 = .ok (.if_icmp .le 14, 3) := by decide +kernel
theorem dX7_needWithin_10 : decode cX7_needWithin 10 = .ok (.new 332, 3) := by decide +kernel
theorem dX7_needWithin_13 : decode cX7_needWithin 13 = .ok (.dup, 1) := by decide +kernel
theorem dX7_needWithin_14 : decode cX7_needWithin 14 = .ok (.ldc_w 343, 3) := by decide +kernel
theorem dX7_needWithin_17 : decode cX7_needWithin 17 = .ok (.invokespecial 336, 3) := by decide +kernel
theorem dX7_needWithin_20 : decode cX7_needWithin 20 = .ok (.athrow, 1) := by decide +kernel
theorem dX7_needWithin_21 : decode cX7_needWithin 21 = .ok (.return_, 1) := by decide +kernel
theorem dX7_needPlanned_0 : decode cX7_needPlanned 0 = .ok (.aload_n 0, 1) := by decide +kernel
theorem dX7_needPlanned_1 : decode cX7_needPlanned 1 = .ok (.getfield 169, 3) := by decide +kernel
theorem dX7_needPlanned_4 : decode cX7_needPlanned 4 = .ok (.ifCond .eq 14, 3) := by decide +kernel
theorem dX7_needPlanned_7 : decode cX7_needPlanned 7 = .ok (.new 46, 3) := by decide +kernel
theorem dX7_needPlanned_10 : decode cX7_needPlanned 10 = .ok (.dup, 1) := by decide +kernel
theorem dX7_needPlanned_11 : decode cX7_needPlanned 11 = .ok (.ldc_w 345, 3) := by decide +kernel
theorem dX7_needPlanned_14 : decode cX7_needPlanned 14 = .ok (.invokespecial 50, 3) := by decide +kernel
theorem dX7_needPlanned_17 : decode cX7_needPlanned 17 = .ok (.athrow, 1) := by decide +kernel
theorem dX7_needPlanned_18 : decode cX7_needPlanned 18 = .ok (.return_, 1) := by decide +kernel
theorem dX7_needFree_0 : decode cX7_needFree 0 = .ok (.aload_n 0, 1) := by decide +kernel
theorem dX7_needFree_1 : decode cX7_needFree 1 = .ok (.invokestatic 125, 3) := by decide +kernel
theorem dX7_needFree_4 : decode cX7_needFree 4 = .ok (.aload_n 0, 1) := by decide +kernel
theorem dX7_needFree_5 : decode cX7_needFree 5 = .ok (.getfield 221, 3) := by decide +kernel
theorem dX7_needFree_8 : decode cX7_needFree 8 = .ok (.iload_n 1, 1) := by decide +kernel
theorem dX7_needFree_9 : decode cX7_needFree 9 = .ok (.iaload, 1) := by decide +kernel
theorem dX7_needFree_10 : decode cX7_needFree 10 = .ok (.iconst (-1), 1) := by decide +kernel
theorem dX7_needFree_11 : decode cX7_needFree 11 = .ok (.if_icmp .eq 14, 3) := by decide +kernel
theorem dX7_needFree_14 : decode cX7_needFree 14 = .ok (.new 46, 3) := by decide +kernel
theorem dX7_needFree_17 : decode cX7_needFree 17 = .ok (.dup, 1) := by decide +kernel
theorem dX7_needFree_18 : decode cX7_needFree 18 = .ok (.ldc_w 347, 3) := by decide +kernel
theorem dX7_needFree_21 : decode cX7_needFree 21 = .ok (.invokespecial 50, 3) := by decide +kernel
theorem dX7_needFree_24 : decode cX7_needFree 24 = .ok (.athrow, 1) := by decide +kernel
theorem dX7_needFree_25 : decode cX7_needFree 25 = .ok (.return_, 1) := by decide +kernel
theorem dX7_needOldEnough_0 : decode cX7_needOldEnough 0 = .ok (.iload_n 1, 1) := by decide +kernel
theorem dX7_needOldEnough_1 : decode cX7_needOldEnough 1 = .ok (.aload_n 0, 1) := by decide +kernel
theorem dX7_needOldEnough_2 : decode cX7_needOldEnough 2 = .ok (.getfield 177, 3) := by decide +kernel
theorem dX7_needOldEnough_5 : decode cX7_needOldEnough 5 = .ok (.getfield 349, 3) := by decide +kernel
theorem dX7_needOldEnough_8 : decode cX7_needOldEnough 8 = .ok (.if_icmp .ge 14, 3) := by decide +kernel
theorem dX7_needOldEnough_11 : decode cX7_needOldEnough 11 = .ok (.new 46, 3) := by decide +kernel
theorem dX7_needOldEnough_14 : decode cX7_needOldEnough 14 = .ok (.dup, 1) := by decide +kernel
theorem dX7_needOldEnough_15 : decode cX7_needOldEnough 15 = .ok (.ldc_w 350, 3) := by decide +kernel
theorem dX7_needOldEnough_18 : decode cX7_needOldEnough 18 = .ok (.invokespecial 50, 3) := by decide +kernel
theorem dX7_needOldEnough_21 : decode cX7_needOldEnough 21 = .ok (.athrow, 1) := by decide +kernel
theorem dX7_needOldEnough_22 : decode cX7_needOldEnough 22 = .ok (.return_, 1) := by decide +kernel
theorem dX7_needTickets_0 : decode cX7_needTickets 0 = .ok (.aload_n 0, 1) := by decide +kernel
theorem dX7_needTickets_1 : decode cX7_needTickets 1 = .ok (.getfield 28, 3) := by decide +kernel
theorem dX7_needTickets_4 : decode cX7_needTickets 4 = .ok (.invokevirtual 42, 3) := by decide +kernel
theorem dX7_needTickets_7 : decode cX7_needTickets 7 = .ok (.iload_n 1, 1) := by decide +kernel
theorem dX7_needTickets_8 : decode cX7_needTickets 8 = .ok (.iadd, 1) := by decide +kernel
theorem dX7_needTickets_9 : decode cX7_needTickets 9 = .ok (.sipush 400, 3) := by decide +kernel
theorem dX7_needTickets_12 : decode cX7_needTickets 12 = .ok (.if_icmp .le 14, 3) := by decide +kernel
theorem dX7_needTickets_15 : decode cX7_needTickets 15 = .ok (.new 46, 3) := by decide +kernel
theorem dX7_needTickets_18 : decode cX7_needTickets 18 = .ok (.dup, 1) := by decide +kernel
theorem dX7_needTickets_19 : decode cX7_needTickets 19 = .ok (.ldc_w 352, 3) := by decide +kernel
theorem dX7_needTickets_22 : decode cX7_needTickets 22 = .ok (.invokespecial 50, 3) := by decide +kernel
theorem dX7_needTickets_25 : decode cX7_needTickets 25 = .ok (.athrow, 1) := by decide +kernel
theorem dX7_needTickets_26 : decode cX7_needTickets 26 = .ok (.return_, 1) := by decide +kernel
theorem dX7_needTicket_0 : decode cX7_needTicket 0 = .ok (.iload_n 1, 1) := by decide +kernel
theorem dX7_needTicket_1 : decode cX7_needTicket 1 = .ok (.ifCond .lt 14, 3) := by decide +kernel
theorem dX7_needTicket_4 : decode cX7_needTicket 4 = .ok (.iload_n 1, 1) := by decide +kernel
theorem dX7_needTicket_5 : decode cX7_needTicket 5 = .ok (.aload_n 0, 1) := by decide +kernel
theorem dX7_needTicket_6 : decode cX7_needTicket 6 = .ok (.getfield 28, 3) := by decide +kernel
theorem dX7_needTicket_9 : decode cX7_needTicket 9 = .ok (.invokevirtual 42, 3) := by decide +kernel
theorem dX7_needTicket_12 : decode cX7_needTicket 12 = .ok (.if_icmp .lt 14, 3) := by decide +kernel
theorem dX7_needTicket_15 : decode cX7_needTicket 15 = .ok (.new 291, 3) := by decide +kernel
theorem dX7_needTicket_18 : decode cX7_needTicket 18 = .ok (.dup, 1) := by decide +kernel
theorem dX7_needTicket_19 : decode cX7_needTicket 19 = .ok (.ldc_w 354, 3) := by decide +kernel
theorem dX7_needTicket_22 : decode cX7_needTicket 22 = .ok (.invokespecial 295, 3) := by decide +kernel
theorem dX7_needTicket_25 : decode cX7_needTicket 25 = .ok (.athrow, 1) := by decide +kernel
theorem dX7_needTicket_26 : decode cX7_needTicket 26 = .ok (.return_, 1) := by decide +kernel
theorem dX7_needHold_0 : decode cX7_needHold 0 = .ok (.iload_n 1, 1) := by decide +kernel
theorem dX7_needHold_1 : decode cX7_needHold 1 = .ok (.ifCond .lt 14, 3) := by decide +kernel
theorem dX7_needHold_4 : decode cX7_needHold 4 = .ok (.iload_n 1, 1) := by decide +kernel
theorem dX7_needHold_5 : decode cX7_needHold 5 = .ok (.aload_n 0, 1) := by decide +kernel
theorem dX7_needHold_6 : decode cX7_needHold 6 = .ok (.getfield 25, 3) := by decide +kernel
theorem dX7_needHold_9 : decode cX7_needHold 9 = .ok (.invokevirtual 42, 3) := by decide +kernel
theorem dX7_needHold_12 : decode cX7_needHold 12 = .ok (.if_icmp .lt 14, 3) := by decide +kernel
theorem dX7_needHold_15 : decode cX7_needHold 15 = .ok (.new 291, 3) := by decide +kernel
theorem dX7_needHold_18 : decode cX7_needHold 18 = .ok (.dup, 1) := by decide +kernel
theorem dX7_needHold_19 : decode cX7_needHold 19 = .ok (.ldc_w 356, 3) := by decide +kernel
theorem dX7_needHold_22 : decode cX7_needHold 22 = .ok (.invokespecial 295, 3) := by decide +kernel
theorem dX7_needHold_25 : decode cX7_needHold 25 = .ok (.athrow, 1) := by decide +kernel
theorem dX7_needHold_26 : decode cX7_needHold 26 = .ok (.return_, 1) := by decide +kernel
theorem dX7_hallAt_0 : decode cX7_hallAt 0 = .ok (.iload_n 1, 1) := by decide +kernel
theorem dX7_hallAt_1 : decode cX7_hallAt 1 = .ok (.ifCond .lt 14, 3) := by decide +kernel
theorem dX7_hallAt_4 : decode cX7_hallAt 4 = .ok (.iload_n 1, 1) := by decide +kernel
theorem dX7_hallAt_5 : decode cX7_hallAt 5 = .ok (.aload_n 0, 1) := by decide +kernel
theorem dX7_hallAt_6 : decode cX7_hallAt 6 = .ok (.getfield 10, 3) := by decide +kernel
theorem dX7_hallAt_9 : decode cX7_hallAt 9 = .ok (.invokevirtual 42, 3) := by decide +kernel
theorem dX7_hallAt_12 : decode cX7_hallAt 12 = .ok (.if_icmp .lt 14, 3) := by decide +kernel
theorem dX7_hallAt_15 : decode cX7_hallAt 15 = .ok (.new 291, 3) := by decide +kernel
theorem dX7_hallAt_18 : decode cX7_hallAt 18 = .ok (.dup, 1) := by decide +kernel
theorem dX7_hallAt_19 : decode cX7_hallAt 19 = .ok (.ldc_w 358, 3) := by decide +kernel
theorem dX7_hallAt_22 : decode cX7_hallAt 22 = .ok (.invokespecial 295, 3) := by decide +kernel
theorem dX7_hallAt_25 : decode cX7_hallAt 25 = .ok (.athrow, 1) := by decide +kernel
theorem dX7_hallAt_26 : decode cX7_hallAt 26 = .ok (.aload_n 0, 1) := by decide +kernel
theorem dX7_hallAt_27 : decode cX7_hallAt 27 = .ok (.getfield 10, 3) := by decide +kernel
theorem dX7_hallAt_30 : decode cX7_hallAt 30 = .ok (.iload_n 1, 1) := by decide +kernel
theorem dX7_hallAt_31 : decode cX7_hallAt 31 = .ok (.invokevirtual 129, 3) := by decide +kernel
theorem dX7_hallAt_34 : decode cX7_hallAt 34 = .ok (.checkcast 53, 3) := by decide +kernel
theorem dX7_hallAt_37 : decode cX7_hallAt 37 = .ok (.areturn, 1) := by decide +kernel
theorem dX7_filmAt_0 : decode cX7_filmAt 0 = .ok (.iload_n 1, 1) := by decide +kernel
theorem dX7_filmAt_1 : decode cX7_filmAt 1 = .ok (.ifCond .lt 14, 3) := by decide +kernel
theorem dX7_filmAt_4 : decode cX7_filmAt 4 = .ok (.iload_n 1, 1) := by decide +kernel
theorem dX7_filmAt_5 : decode cX7_filmAt 5 = .ok (.aload_n 0, 1) := by decide +kernel
theorem dX7_filmAt_6 : decode cX7_filmAt 6 = .ok (.getfield 16, 3) := by decide +kernel
theorem dX7_filmAt_9 : decode cX7_filmAt 9 = .ok (.invokevirtual 42, 3) := by decide +kernel
theorem dX7_filmAt_12 : decode cX7_filmAt 12 = .ok (.if_icmp .lt 14, 3) := by decide +kernel
theorem dX7_filmAt_15 : decode cX7_filmAt 15 = .ok (.new 291, 3) := by decide +kernel
theorem dX7_filmAt_18 : decode cX7_filmAt 18 = .ok (.dup, 1) := by decide +kernel
theorem dX7_filmAt_19 : decode cX7_filmAt 19 = .ok (.ldc_w 360, 3) := by decide +kernel
theorem dX7_filmAt_22 : decode cX7_filmAt 22 = .ok (.invokespecial 295, 3) := by decide +kernel
theorem dX7_filmAt_25 : decode cX7_filmAt 25 = .ok (.athrow, 1) := by decide +kernel
theorem dX7_filmAt_26 : decode cX7_filmAt 26 = .ok (.aload_n 0, 1) := by decide +kernel
theorem dX7_filmAt_27 : decode cX7_filmAt 27 = .ok (.getfield 16, 3) := by decide +kernel
theorem dX7_filmAt_30 : decode cX7_filmAt 30 = .ok (.iload_n 1, 1) := by decide +kernel
theorem dX7_filmAt_31 : decode cX7_filmAt 31 = .ok (.invokevirtual 129, 3) := by decide +kernel
theorem dX7_filmAt_34 : decode cX7_filmAt 34 = .ok (.checkcast 74, 3) := by decide +kernel
theorem dX7_filmAt_37 : decode cX7_filmAt 37 = .ok (.areturn, 1) := by decide +kernel
theorem dX7_showAt_0 : decode cX7_showAt 0 = .ok (.iload_n 1, 1) := by decide +kernel
theorem dX7_showAt_1 : decode cX7_showAt 1 = .ok (.ifCond .lt 14, 3) := by decide +kernel
theorem dX7_showAt_4 : decode cX7_showAt 4 = .ok (.iload_n 1, 1) := by decide +kernel
theorem dX7_showAt_5 : decode cX7_showAt 5 = .ok (.aload_n 0, 1) := by decide +kernel
theorem dX7_showAt_6 : decode cX7_showAt 6 = .ok (.getfield 22, 3) := by decide +kernel
theorem dX7_showAt_9 : decode cX7_showAt 9 = .ok (.invokevirtual 42, 3) := by decide +kernel
theorem dX7_showAt_12 : decode cX7_showAt 12 = .ok (.if_icmp .lt 14, 3) := by decide +kernel
theorem dX7_showAt_15 : decode cX7_showAt 15 = .ok (.new 291, 3) := by decide +kernel
theorem dX7_showAt_18 : decode cX7_showAt 18 = .ok (.dup, 1) := by decide +kernel
theorem dX7_showAt_19 : decode cX7_showAt 19 = .ok (.ldc_w 362, 3) := by decide +kernel
theorem dX7_showAt_22 : decode cX7_showAt 22 = .ok (.invokespecial 295, 3) := by decide +kernel
theorem dX7_showAt_25 : decode cX7_showAt 25 = .ok (.athrow, 1) := by decide +kernel
theorem dX7_showAt_26 : decode cX7_showAt 26 = .ok (.aload_n 0, 1) := by decide +kernel
theorem dX7_showAt_27 : decode cX7_showAt 27 = .ok (.getfield 22, 3) := by decide +kernel
theorem dX7_showAt_30 : decode cX7_showAt 30 = .ok (.iload_n 1, 1) := by decide +kernel
theorem dX7_showAt_31 : decode cX7_showAt 31 = .ok (.invokevirtual 129, 3) := by decide +kernel
theorem dX7_showAt_34 : decode cX7_showAt 34 = .ok (.checkcast 116, 3) := by decide +kernel
theorem dX7_showAt_37 : decode cX7_showAt 37 = .ok (.areturn, 1) := by decide +kernel
theorem dX7_ticketAt_0 : decode cX7_ticketAt 0 = .ok (.aload_n 0, 1) := by decide +kernel
theorem dX7_ticketAt_1 : decode cX7_ticketAt 1 = .ok (.iload_n 1, 1) := by decide +kernel
theorem dX7_ticketAt_2 : decode cX7_ticketAt 2 = .ok (.invokevirtual 329, 3) := by decide +kernel
theorem dX7_ticketAt_5 : decode cX7_ticketAt 5 = .ok (.aload_n 0, 1) := by decide +kernel
theorem dX7_ticketAt_6 : decode cX7_ticketAt 6 = .ok (.getfield 28, 3) := by decide +kernel
theorem dX7_ticketAt_9 : decode cX7_ticketAt 9 = .ok (.iload_n 1, 1) := by decide +kernel
theorem dX7_ticketAt_10 : decode cX7_ticketAt 10 = .ok (.invokevirtual 129, 3) := by decide +kernel
theorem dX7_ticketAt_13 : decode cX7_ticketAt 13 = .ok (.checkcast 133, 3) := by decide +kernel
theorem dX7_ticketAt_16 : decode cX7_ticketAt 16 = .ok (.areturn, 1) := by decide +kernel
theorem dX7_openHoldAt_0 : decode cX7_openHoldAt 0 = .ok (.aload_n 0, 1) := by decide +kernel
theorem dX7_openHoldAt_1 : decode cX7_openHoldAt 1 = .ok (.iload_n 1, 1) := by decide +kernel
theorem dX7_openHoldAt_2 : decode cX7_openHoldAt 2 = .ok (.invokevirtual 233, 3) := by decide +kernel
theorem dX7_openHoldAt_5 : decode cX7_openHoldAt 5 = .ok (.aload_n 0, 1) := by decide +kernel
theorem dX7_openHoldAt_6 : decode cX7_openHoldAt 6 = .ok (.getfield 25, 3) := by decide +kernel
theorem dX7_openHoldAt_9 : decode cX7_openHoldAt 9 = .ok (.iload_n 1, 1) := by decide +kernel
theorem dX7_openHoldAt_10 : decode cX7_openHoldAt 10 = .ok (.invokevirtual 129, 3) := by decide +kernel
theorem dX7_openHoldAt_13 : decode cX7_openHoldAt 13 = .ok (.checkcast 151, 3) := by decide +kernel
theorem dX7_openHoldAt_16 : decode cX7_openHoldAt 16 = .ok (.astore_n 2, 1) := by decide +kernel
theorem dX7_openHoldAt_17 : decode cX7_openHoldAt 17 = .ok (.aload_n 2, 1) := by decide +kernel
theorem dX7_openHoldAt_18 : decode cX7_openHoldAt 18 = .ok (.getfield 154, 3) := by decide +kernel
theorem dX7_openHoldAt_21 : decode cX7_openHoldAt 21 = .ok (.ifCond .eq 14, 3) := by decide +kernel
theorem dX7_openHoldAt_24 : decode cX7_openHoldAt 24 = .ok (.new 46, 3) := by decide +kernel
theorem dX7_openHoldAt_27 : decode cX7_openHoldAt 27 = .ok (.dup, 1) := by decide +kernel
theorem dX7_openHoldAt_28 : decode cX7_openHoldAt 28 = .ok (.ldc_w 364, 3) := by decide +kernel
theorem dX7_openHoldAt_31 : decode cX7_openHoldAt 31 = .ok (.invokespecial 50, 3) := by decide +kernel
theorem dX7_openHoldAt_34 : decode cX7_openHoldAt 34 = .ok (.athrow, 1) := by decide +kernel
theorem dX7_openHoldAt_35 : decode cX7_openHoldAt 35 = .ok (.aload_n 2, 1) := by decide +kernel
theorem dX7_openHoldAt_36 : decode cX7_openHoldAt 36 = .ok (.areturn, 1) := by decide +kernel
theorem dX7_placeAt_0 : decode cX7_placeAt 0 = .ok (.iload_n 1, 1) := by decide +kernel
theorem dX7_placeAt_1 : decode cX7_placeAt 1 = .ok (.ifCond .lt 29, 3) := by decide +kernel
theorem dX7_placeAt_4 : decode cX7_placeAt 4 = .ok (.iload_n 1, 1) := by decide +kernel
theorem dX7_placeAt_5 : decode cX7_placeAt 5 = .ok (.aload_n 0, 1) := by decide +kernel
theorem dX7_placeAt_6 : decode cX7_placeAt 6 = .ok (.getfield 184, 3) := by decide +kernel
theorem dX7_placeAt_9 : decode cX7_placeAt 9 = .ok (.getfield 305, 3) := by decide +kernel
theorem dX7_placeAt_12 : decode cX7_placeAt 12 = .ok (.if_icmp .ge 18, 3) := by decide +kernel
theorem dX7_placeAt_15 : decode cX7_placeAt 15 = .ok (.iload_n 2, 1) := by decide +kernel
theorem dX7_placeAt_16 : decode cX7_placeAt 16 = .ok (.ifCond .lt 14, 3) := by decide +kernel
theorem dX7_placeAt_19 : decode cX7_placeAt 19 = .ok (.iload_n 2, 1) := by decide +kernel
theorem dX7_placeAt_20 : decode cX7_placeAt 20 = .ok (.aload_n 0, 1) := by decide +kernel
theorem dX7_placeAt_21 : decode cX7_placeAt 21 = .ok (.getfield 184, 3) := by decide +kernel
theorem dX7_placeAt_24 : decode cX7_placeAt 24 = .ok (.getfield 308, 3) := by decide +kernel
theorem dX7_placeAt_27 : decode cX7_placeAt 27 = .ok (.if_icmp .lt 14, 3) := by decide +kernel
theorem dX7_placeAt_30 : decode cX7_placeAt 30 = .ok (.new 291, 3) := by decide +kernel
theorem dX7_placeAt_33 : decode cX7_placeAt 33 = .ok (.dup, 1) := by decide +kernel
theorem dX7_placeAt_34 : decode cX7_placeAt 34 = .ok (.ldc_w 366, 3) := by decide +kernel
theorem dX7_placeAt_37 : decode cX7_placeAt 37 = .ok (.invokespecial 295, 3) := by decide +kernel
theorem dX7_placeAt_40 : decode cX7_placeAt 40 = .ok (.athrow, 1) := by decide +kernel
theorem dX7_placeAt_41 : decode cX7_placeAt 41 = .ok (.iload_n 1, 1) := by decide +kernel
theorem dX7_placeAt_42 : decode cX7_placeAt 42 = .ok (.aload_n 0, 1) := by decide +kernel
theorem dX7_placeAt_43 : decode cX7_placeAt 43 = .ok (.getfield 184, 3) := by decide +kernel
theorem dX7_placeAt_46 : decode cX7_placeAt 46 = .ok (.getfield 308, 3) := by decide +kernel
theorem dX7_placeAt_49 : decode cX7_placeAt 49 = .ok (.imul, 1) := by decide +kernel
theorem dX7_placeAt_50 : decode cX7_placeAt 50 = .ok (.iload_n 2, 1) := by decide +kernel
theorem dX7_placeAt_51 : decode cX7_placeAt 51 = .ok (.iadd, 1) := by decide +kernel
theorem dX7_placeAt_52 : decode cX7_placeAt 52 = .ok (.ireturn, 1) := by decide +kernel
theorem dX7_reasonAgainst_0 : decode cX7_reasonAgainst 0 = .ok (.aload_n 0, 1) := by decide +kernel
theorem dX7_reasonAgainst_1 : decode cX7_reasonAgainst 1 = .ok (.aload_n 1, 1) := by decide +kernel
theorem dX7_reasonAgainst_2 : decode cX7_reasonAgainst 2 = .ok (.aload_n 2, 1) := by decide +kernel
theorem dX7_reasonAgainst_3 : decode cX7_reasonAgainst 3 = .ok (.iload_n 3, 1) := by decide +kernel
theorem dX7_reasonAgainst_4 : decode cX7_reasonAgainst 4 = .ok (.invokevirtual 368, 3) := by decide +kernel
theorem dX7_reasonAgainst_7 : decode cX7_reasonAgainst 7 = .ok (.ifCond .ne 5, 3) := by decide +kernel
theorem dX7_reasonAgainst_10 : decode cX7_reasonAgainst 10 = .ok (.iconst 1, 1) := by decide +kernel
theorem dX7_reasonAgainst_11 : decode cX7_reasonAgainst 11 = .ok (.ireturn, 1) := by decide +kernel
theorem dX7_reasonAgainst_12 : decode cX7_reasonAgainst 12 = .ok (.aload_n 0, 1) := by decide +kernel
theorem dX7_reasonAgainst_13 : decode cX7_reasonAgainst 13 = .ok (.aload_n 1, 1) := by decide +kernel
theorem dX7_reasonAgainst_14 : decode cX7_reasonAgainst 14 = .ok (.aload_n 2, 1) := by decide +kernel
theorem dX7_reasonAgainst_15 : decode cX7_reasonAgainst 15 = .ok (.iload_n 3, 1) := by decide +kernel
theorem dX7_reasonAgainst_16 : decode cX7_reasonAgainst 16 = .ok (.invokevirtual 372, 3) := by decide +kernel
theorem dX7_reasonAgainst_19 : decode cX7_reasonAgainst 19 = .ok (.ifCond .eq 5, 3) := by decide +kernel
theorem dX7_reasonAgainst_22 : decode cX7_reasonAgainst 22 = .ok (.iconst 2, 1) := by decide +kernel
theorem dX7_reasonAgainst_23 : decode cX7_reasonAgainst 23 = .ok (.ireturn, 1) := by decide +kernel
theorem dX7_reasonAgainst_24 : decode cX7_reasonAgainst 24 = .ok (.aload_n 0, 1) := by decide +kernel
theorem dX7_reasonAgainst_25 : decode cX7_reasonAgainst 25 = .ok (.aload_n 2, 1) := by decide +kernel
theorem dX7_reasonAgainst_26 : decode cX7_reasonAgainst 26 = .ok (.iload_n 3, 1) := by decide +kernel
theorem dX7_reasonAgainst_27 : decode cX7_reasonAgainst 27 = .ok (.invokevirtual 375, 3) := by decide +kernel
theorem dX7_reasonAgainst_30 : decode cX7_reasonAgainst 30 = .ok (.ifCond .eq 5, 3) := by decide +kernel
theorem dX7_reasonAgainst_33 : decode cX7_reasonAgainst 33 = .ok (.iconst 3, 1) := by decide +kernel
theorem dX7_reasonAgainst_34 : decode cX7_reasonAgainst 34 = .ok (.ireturn, 1) := by decide +kernel
theorem dX7_reasonAgainst_35 : decode cX7_reasonAgainst 35 = .ok (.aload_n 0, 1) := by decide +kernel
theorem dX7_reasonAgainst_36 : decode cX7_reasonAgainst 36 = .ok (.aload_n 1, 1) := by decide +kernel
theorem dX7_reasonAgainst_37 : decode cX7_reasonAgainst 37 = .ok (.aload_n 2, 1) := by decide +kernel
theorem dX7_reasonAgainst_38 : decode cX7_reasonAgainst 38 = .ok (.invokevirtual 379, 3) := by decide +kernel
theorem dX7_reasonAgainst_41 : decode cX7_reasonAgainst 41 = .ok (.ifCond .eq 7, 3) := by decide +kernel
theorem dX7_reasonAgainst_44 : decode cX7_reasonAgainst 44 = .ok (.iconst 4, 1) := by decide +kernel
theorem dX7_reasonAgainst_45 : decode cX7_reasonAgainst 45 = .ok (.goto 4, 3) := by decide +kernel
theorem dX7_reasonAgainst_48 : decode cX7_reasonAgainst 48 = .ok (.iconst 0, 1) := by decide +kernel
theorem dX7_reasonAgainst_49 : decode cX7_reasonAgainst 49 = .ok (.ireturn, 1) := by decide +kernel
theorem dX7_isOpen_0 : decode cX7_isOpen 0 = .ok (.iconst 0, 1) := by decide +kernel
theorem dX7_isOpen_1 : decode cX7_isOpen 1 = .ok (.istore 4, 2) := by decide +kernel
theorem dX7_isOpen_3 : decode cX7_isOpen 3 = .ok (.iload 4, 2) := by decide +kernel
theorem dX7_isOpen_5 : decode cX7_isOpen 5 = .ok (.aload_n 0, 1) := by decide +kernel
theorem dX7_isOpen_6 : decode cX7_isOpen 6 = .ok (.getfield 19, 3) := by decide +kernel
theorem dX7_isOpen_9 : decode cX7_isOpen 9 = .ok (.invokevirtual 42, 3) := by decide +kernel
theorem dX7_isOpen_12 : decode cX7_isOpen 12 = .ok (.if_icmp .ge 72, 3) := by decide +kernel
theorem dX7_isOpen_15 : decode cX7_isOpen 15 = .ok (.aload_n 0, 1) := by decide +kernel
theorem dX7_isOpen_16 : decode cX7_isOpen 16 = .ok (.getfield 19, 3) := by decide +kernel
theorem dX7_isOpen_19 : decode cX7_isOpen 19 = .ok (.iload 4, 2) := by decide +kernel
theorem dX7_isOpen_21 : decode cX7_isOpen 21 = .ok (.invokevirtual 129, 3) := by decide +kernel
theorem dX7_isOpen_24 : decode cX7_isOpen 24 = .ok (.checkcast 101, 3) := by decide +kernel
theorem dX7_isOpen_27 : decode cX7_isOpen 27 = .ok (.astore 5, 2) := by decide +kernel
theorem dX7_isOpen_29 : decode cX7_isOpen 29 = .ok (.aload 5, 2) := by decide +kernel
theorem dX7_isOpen_31 : decode cX7_isOpen 31 = .ok (.getfield 383, 3) := by decide +kernel
theorem dX7_isOpen_34 : decode cX7_isOpen 34 = .ok (.aload_n 1, 1) := by decide +kernel
theorem dX7_isOpen_35 : decode cX7_isOpen 35 = .ok (.getfield 103, 3) := by decide +kernel
theorem dX7_isOpen_38 : decode cX7_isOpen 38 = .ok (.if_icmp .ne 40, 3) := by decide +kernel
theorem dX7_isOpen_41 : decode cX7_isOpen 41 = .ok (.aload 5, 2) := by decide +kernel
theorem dX7_isOpen_43 : decode cX7_isOpen 43 = .ok (.getfield 385, 3) := by decide +kernel
theorem dX7_isOpen_46 : decode cX7_isOpen 46 = .ok (.aload_n 2, 1) := by decide +kernel
theorem dX7_isOpen_47 : decode cX7_isOpen 47 = .ok (.getfield 106, 3) := by decide +kernel
theorem dX7_isOpen_50 : decode cX7_isOpen 50 = .ok (.if_icmp .ne 28, 3) := by decide +kernel
theorem dX7_isOpen_53 : decode cX7_isOpen 53 = .ok (.aload 5, 2) := by decide +kernel
theorem dX7_isOpen_55 : decode cX7_isOpen 55 = .ok (.getfield 387, 3) := by decide +kernel
theorem dX7_isOpen_58 : decode cX7_isOpen 58 = .ok (.iload_n 3, 1) := by decide +kernel
theorem dX7_isOpen_59 : decode cX7_isOpen 59 = .ok (.if_icmp .gt 19, 3) := by decide +kernel
theorem dX7_isOpen_62 : decode cX7_isOpen 62 = .ok (.aload 5, 2) := by decide +kernel
theorem dX7_isOpen_64 : decode cX7_isOpen 64 = .ok (.getfield 390, 3) := by decide +kernel
theorem dX7_isOpen_67 : decode cX7_isOpen 67 = .ok (.iload_n 3, 1) := by decide +kernel
theorem dX7_isOpen_68 : decode cX7_isOpen 68 = .ok (.aload_n 1, 1) := by decide +kernel
theorem dX7_isOpen_69 : decode cX7_isOpen 69 = .ok (.getfield 181, 3) := by decide +kernel
theorem dX7_isOpen_72 : decode cX7_isOpen 72 = .ok (.iadd, 1) := by decide +kernel
theorem dX7_isOpen_73 : decode cX7_isOpen 73 = .ok (.if_icmp .lt 5, 3) := by decide +kernel
theorem dX7_isOpen_76 : decode cX7_isOpen 76 = .ok (.iconst 1, 1) := by decide +kernel
theorem dX7_isOpen_77 : decode cX7_isOpen 77 = .ok (.ireturn, 1) := by decide +kernel
theorem dX7_isOpen_78 : decode cX7_isOpen 78 = .ok (.iinc 4 1, 3) := by decide +kernel
theorem dX7_isOpen_81 : decode cX7_isOpen 81 = .ok (.goto (-78), 3) := by decide +kernel
theorem dX7_isOpen_84 : decode cX7_isOpen 84 = .ok (.iconst 0, 1) := by decide +kernel
theorem dX7_isOpen_85 : decode cX7_isOpen 85 = .ok (.ireturn, 1) := by decide +kernel
theorem dX7_isHallTaken_0 : decode cX7_isHallTaken 0 = .ok (.iload_n 3, 1) := by decide +kernel
theorem dX7_isHallTaken_1 : decode cX7_isHallTaken 1 = .ok (.aload_n 1, 1) := by decide +kernel
theorem dX7_isHallTaken_2 : decode cX7_isHallTaken 2 = .ok (.getfield 181, 3) := by decide +kernel
theorem dX7_isHallTaken_5 : decode cX7_isHallTaken 5 = .ok (.iadd, 1) := by decide +kernel
theorem dX7_isHallTaken_6 : decode cX7_isHallTaken 6 = .ok (.istore 4, 2) := by decide +kernel
theorem dX7_isHallTaken_8 : decode cX7_isHallTaken 8 = .ok (.iconst 0, 1) := by decide +kernel
theorem dX7_isHallTaken_9 : decode cX7_isHallTaken 9 = .ok (.istore 5, 2) := by decide +kernel
theorem dX7_isHallTaken_11 : decode cX7_isHallTaken 11 = .ok (.iload 5, 2) := by decide +kernel
theorem dX7_isHallTaken_13 : decode cX7_isHallTaken 13 = .ok (.aload_n 0, 1) := by decide +kernel
theorem dX7_isHallTaken_14 : decode cX7_isHallTaken 14 = .ok (.getfield 22, 3) := by decide +kernel
theorem dX7_isHallTaken_17 : decode cX7_isHallTaken 17 = .ok (.invokevirtual 42, 3) := by decide +kernel
theorem dX7_isHallTaken_20 : decode cX7_isHallTaken 20 = .ok (.if_icmp .ge 73, 3) := by decide +kernel
theorem dX7_isHallTaken_23 : decode cX7_isHallTaken 23 = .ok (.aload_n 0, 1) := by decide +kernel
theorem dX7_isHallTaken_24 : decode cX7_isHallTaken 24 = .ok (.getfield 22, 3) := by decide +kernel
theorem dX7_isHallTaken_27 : decode cX7_isHallTaken 27 = .ok (.iload 5, 2) := by decide +kernel
theorem dX7_isHallTaken_29 : decode cX7_isHallTaken 29 = .ok (.invokevirtual 129, 3) := by decide +kernel
theorem dX7_isHallTaken_32 : decode cX7_isHallTaken 32 = .ok (.checkcast 116, 3) := by decide +kernel
theorem dX7_isHallTaken_35 : decode cX7_isHallTaken 35 = .ok (.astore 6, 2) := by decide +kernel
theorem dX7_isHallTaken_37 : decode cX7_isHallTaken 37 = .ok (.aload 6, 2) := by decide +kernel
theorem dX7_isHallTaken_39 : decode cX7_isHallTaken 39 = .ok (.getfield 184, 3) := by decide +kernel
theorem dX7_isHallTaken_42 : decode cX7_isHallTaken 42 = .ok (.getfield 106, 3) := by decide +kernel
theorem dX7_isHallTaken_45 : decode cX7_isHallTaken 45 = .ok (.aload_n 2, 1) := by decide +kernel
theorem dX7_isHallTaken_46 : decode cX7_isHallTaken 46 = .ok (.getfield 106, 3) := by decide +kernel
theorem dX7_isHallTaken_49 : decode cX7_isHallTaken 49 = .ok (.if_icmp .ne 38, 3) := by decide +kernel
theorem dX7_isHallTaken_52 : decode cX7_isHallTaken 52 = .ok (.aload 6, 2) := by decide +kernel
theorem dX7_isHallTaken_54 : decode cX7_isHallTaken 54 = .ok (.invokevirtual 393, 3) := by decide +kernel
theorem dX7_isHallTaken_57 : decode cX7_isHallTaken 57 = .ok (.ifCond .eq 30, 3) := by decide +kernel
theorem dX7_isHallTaken_60 : decode cX7_isHallTaken 60 = .ok (.aload 6, 2) := by decide +kernel
theorem dX7_isHallTaken_62 : decode cX7_isHallTaken 62 = .ok (.invokevirtual 397, 3) := by decide +kernel
theorem dX7_isHallTaken_65 : decode cX7_isHallTaken 65 = .ok (.bipush 20, 2) := by decide +kernel
theorem dX7_isHallTaken_67 : decode cX7_isHallTaken 67 = .ok (.iadd, 1) := by decide +kernel
theorem dX7_isHallTaken_68 : decode cX7_isHallTaken 68 = .ok (.iload_n 3, 1) := by decide +kernel
theorem dX7_isHallTaken_69 : decode cX7_isHallTaken 69 = .ok (.if_icmp .le 18, 3) := by decide +kernel
theorem dX7_isHallTaken_72 : decode cX7_isHallTaken 72 = .ok (.iload 4, 2) := by decide +kernel
theorem dX7_isHallTaken_74 : decode cX7_isHallTaken 74 = .ok (.bipush 20, 2) := by decide +kernel
theorem dX7_isHallTaken_76 : decode cX7_isHallTaken 76 = .ok (.iadd, 1) := by decide +kernel
theorem dX7_isHallTaken_77 : decode cX7_isHallTaken 77 = .ok (.aload 6, 2) := by decide +kernel
theorem dX7_isHallTaken_79 : decode cX7_isHallTaken 79 = .ok (.getfield 174, 3) := by decide +kernel
theorem dX7_isHallTaken_82 : decode cX7_isHallTaken 82 = .ok (.if_icmp .le 5, 3) := by decide +kernel
theorem dX7_isHallTaken_85 : decode cX7_isHallTaken 85 = .ok (.iconst 1, 1) := by decide +kernel
theorem dX7_isHallTaken_86 : decode cX7_isHallTaken 86 = .ok (.ireturn, 1) := by decide +kernel
theorem dX7_isHallTaken_87 : decode cX7_isHallTaken 87 = .ok (.iinc 5 1, 3) := by decide +kernel
theorem dX7_isHallTaken_90 : decode cX7_isHallTaken 90 = .ok (.goto (-79), 3) := by decide +kernel
theorem dX7_isHallTaken_93 : decode cX7_isHallTaken 93 = .ok (.iconst 0, 1) := by decide +kernel
theorem dX7_isHallTaken_94 : decode cX7_isHallTaken 94 = .ok (.ireturn, 1) := by decide +kernel
theorem dX7_isTooCloseToOthers_0 : decode cX7_isTooCloseToOthers 0 = .ok (.iconst 0, 1) := by decide +kernel
theorem dX7_isTooCloseToOthers_1 : decode cX7_isTooCloseToOthers 1 = .ok (.istore_n 3, 1) := by decide +kernel
theorem dX7_isTooCloseToOthers_2 : decode cX7_isTooCloseToOthers 2 = .ok (.iload_n 3, 1) := by decide +kernel
theorem dX7_isTooCloseToOthers_3 : decode cX7_isTooCloseToOthers 3 = .ok (.aload_n 0, 1) := by decide +kernel
theorem dX7_isTooCloseToOthers_4 : decode cX7_isTooCloseToOthers 4 = .ok (.getfield 22, 3) := by decide +kernel
theorem dX7_isTooCloseToOthers_7 : decode cX7_isTooCloseToOthers 7 = .ok (.invokevirtual 42, 3) := by decide +kernel
theorem dX7_isTooCloseToOthers_10 : decode cX7_isTooCloseToOthers 10 = .ok (.if_icmp .ge 64, 3) := by decide +kernel
theorem dX7_isTooCloseToOthers_13 : decode cX7_isTooCloseToOthers 13 = .ok (.aload_n 0, 1) := by decide +kernel
theorem dX7_isTooCloseToOthers_14 : decode cX7_isTooCloseToOthers 14 = .ok (.getfield 22, 3) := by decide +kernel
theorem dX7_isTooCloseToOthers_17 : decode cX7_isTooCloseToOthers 17 = .ok (.iload_n 3, 1) := by decide +kernel
theorem dX7_isTooCloseToOthers_18 : decode cX7_isTooCloseToOthers 18 = .ok (.invokevirtual 129, 3) := by decide +kernel
theorem dX7_isTooCloseToOthers_21 : decode cX7_isTooCloseToOthers 21 = .ok (.checkcast 116, 3) := by decide +kernel
theorem dX7_isTooCloseToOthers_24 : decode cX7_isTooCloseToOthers 24 = .ok (.astore 4, 2) := by decide +kernel
theorem dX7_isTooCloseToOthers_26 : decode cX7_isTooCloseToOthers 26 = .ok (.aload 4, 2) := by decide +kernel
theorem dX7_isTooCloseToOthers_28 : decode cX7_isTooCloseToOthers 28 = .ok (.getfield 184, 3) := by decide +kernel
theorem dX7_isTooCloseToOthers_31 : decode cX7_isTooCloseToOthers 31 = .ok (.getfield 106, 3) := by decide +kernel
theorem dX7_isTooCloseToOthers_34 : decode cX7_isTooCloseToOthers 34 = .ok (.aload_n 1, 1) := by decide +kernel
theorem dX7_isTooCloseToOthers_35 : decode cX7_isTooCloseToOthers 35 = .ok (.getfield 106, 3) := by decide +kernel
theorem dX7_isTooCloseToOthers_38 : decode cX7_isTooCloseToOthers 38 = .ok (.if_icmp .eq 30, 3) := by decide +kernel
theorem dX7_isTooCloseToOthers_41 : decode cX7_isTooCloseToOthers 41 = .ok (.aload 4, 2) := by decide +kernel
theorem dX7_isTooCloseToOthers_43 : decode cX7_isTooCloseToOthers 43 = .ok (.invokevirtual 393, 3) := by decide +kernel
theorem dX7_isTooCloseToOthers_46 : decode cX7_isTooCloseToOthers 46 = .ok (.ifCond .eq 22, 3) := by decide +kernel
theorem dX7_isTooCloseToOthers_49 : decode cX7_isTooCloseToOthers 49 = .ok (.aload 4, 2) := by decide +kernel
theorem dX7_isTooCloseToOthers_51 : decode cX7_isTooCloseToOthers 51 = .ok (.getfield 174, 3) := by decide +kernel
theorem dX7_isTooCloseToOthers_54 : decode cX7_isTooCloseToOthers 54 = .ok (.iload_n 2, 1) := by decide +kernel
theorem dX7_isTooCloseToOthers_55 : decode cX7_isTooCloseToOthers 55 = .ok (.isub, 1) := by decide +kernel
theorem dX7_isTooCloseToOthers_56 : decode cX7_isTooCloseToOthers 56 = .ok (.invokestatic 400, 3) := by decide +kernel
theorem dX7_isTooCloseToOthers_59 : decode cX7_isTooCloseToOthers 59 = .ok (.aload_n 0, 1) := by decide +kernel
theorem dX7_isTooCloseToOthers_60 : decode cX7_isTooCloseToOthers 60 = .ok (.getfield 35, 3) := by decide +kernel
theorem dX7_isTooCloseToOthers_63 : decode cX7_isTooCloseToOthers 63 = .ok (.if_icmp .ge 5, 3) := by decide +kernel
theorem dX7_isTooCloseToOthers_66 : decode cX7_isTooCloseToOthers 66 = .ok (.iconst 1, 1) := by decide +kernel
theorem dX7_isTooCloseToOthers_67 : decode cX7_isTooCloseToOthers 67 = .ok (.ireturn, 1) := by decide +kernel
theorem dX7_isTooCloseToOthers_68 : decode cX7_isTooCloseToOthers 68 = .ok (.iinc 3 1, 3) := by decide +kernel
theorem dX7_isTooCloseToOthers_71 : decode cX7_isTooCloseToOthers 71 = .ok (.goto (-69), 3) := by decide +kernel
theorem dX7_isTooCloseToOthers_74 : decode cX7_isTooCloseToOthers 74 = .ok (.iconst 0, 1) := by decide +kernel
theorem dX7_isTooCloseToOthers_75 : decode cX7_isTooCloseToOthers 75 = .ok (.ireturn, 1) := by decide +kernel
theorem dX7_isLampTooOld_0 : decode cX7_isLampTooOld 0 = .ok (.aload_n 2, 1) := by decide +kernel
theorem dX7_isLampTooOld_1 : decode cX7_isLampTooOld 1 = .ok (.getfield 66, 3) := by decide +kernel
theorem dX7_isLampTooOld_4 : decode cX7_isLampTooOld 4 = .ok (.aload_n 1, 1) := by decide +kernel
theorem dX7_isLampTooOld_5 : decode cX7_isLampTooOld 5 = .ok (.getfield 181, 3) := by decide +kernel
theorem dX7_isLampTooOld_8 : decode cX7_isLampTooOld 8 = .ok (.iadd, 1) := by decide +kernel
theorem dX7_isLampTooOld_9 : decode cX7_isLampTooOld 9 = .ok (.istore_n 3, 1) := by decide +kernel
theorem dX7_isLampTooOld_10 : decode cX7_isLampTooOld 10 = .ok (.iconst 0, 1) := by decide +kernel
theorem dX7_isLampTooOld_11 : decode cX7_isLampTooOld 11 = .ok (.istore 4, 2) := by decide +kernel
theorem dX7_isLampTooOld_13 : decode cX7_isLampTooOld 13 = .ok (.iload 4, 2) := by decide +kernel
theorem dX7_isLampTooOld_15 : decode cX7_isLampTooOld 15 = .ok (.aload_n 0, 1) := by decide +kernel
theorem dX7_isLampTooOld_16 : decode cX7_isLampTooOld 16 = .ok (.getfield 22, 3) := by decide +kernel
theorem dX7_isLampTooOld_19 : decode cX7_isLampTooOld 19 = .ok (.invokevirtual 42, 3) := by decide +kernel
theorem dX7_isLampTooOld_22 : decode cX7_isLampTooOld 22 = .ok (.if_icmp .ge 57, 3) := by decide +kernel
theorem dX7_isLampTooOld_25 : decode cX7_isLampTooOld 25 = .ok (.aload_n 0, 1) := by decide +kernel
theorem dX7_isLampTooOld_26 : decode cX7_isLampTooOld 26 = .ok (.getfield 22, 3) := by decide +kernel
theorem dX7_isLampTooOld_29 : decode cX7_isLampTooOld 29 = .ok (.iload 4, 2) := by decide +kernel
theorem dX7_isLampTooOld_31 : decode cX7_isLampTooOld 31 = .ok (.invokevirtual 129, 3) := by decide +kernel
theorem dX7_isLampTooOld_34 : decode cX7_isLampTooOld 34 = .ok (.checkcast 116, 3) := by decide +kernel
theorem dX7_isLampTooOld_37 : decode cX7_isLampTooOld 37 = .ok (.astore 5, 2) := by decide +kernel
theorem dX7_isLampTooOld_39 : decode cX7_isLampTooOld 39 = .ok (.aload 5, 2) := by decide +kernel
theorem dX7_isLampTooOld_41 : decode cX7_isLampTooOld 41 = .ok (.getfield 184, 3) := by decide +kernel
theorem dX7_isLampTooOld_44 : decode cX7_isLampTooOld 44 = .ok (.getfield 106, 3) := by decide +kernel
theorem dX7_isLampTooOld_47 : decode cX7_isLampTooOld 47 = .ok (.aload_n 2, 1) := by decide +kernel
theorem dX7_isLampTooOld_48 : decode cX7_isLampTooOld 48 = .ok (.getfield 106, 3) := by decide +kernel
theorem dX7_isLampTooOld_51 : decode cX7_isLampTooOld 51 = .ok (.if_icmp .ne 22, 3) := by decide +kernel
theorem dX7_isLampTooOld_54 : decode cX7_isLampTooOld 54 = .ok (.aload 5, 2) := by decide +kernel
theorem dX7_isLampTooOld_56 : decode cX7_isLampTooOld 56 = .ok (.invokevirtual 393, 3) := by decide +kernel
theorem dX7_isLampTooOld_59 : decode cX7_isLampTooOld 59 = .ok (.ifCond .eq 14, 3) := by decide +kernel
theorem dX7_isLampTooOld_62 : decode cX7_isLampTooOld 62 = .ok (.iload_n 3, 1) := by decide +kernel
theorem dX7_isLampTooOld_63 : decode cX7_isLampTooOld 63 = .ok (.aload 5, 2) := by decide +kernel
theorem dX7_isLampTooOld_65 : decode cX7_isLampTooOld 65 = .ok (.getfield 177, 3) := by decide +kernel
theorem dX7_isLampTooOld_68 : decode cX7_isLampTooOld 68 = .ok (.getfield 181, 3) := by decide +kernel
theorem dX7_isLampTooOld_71 : decode cX7_isLampTooOld 71 = .ok (.iadd, 1) := by decide +kernel
theorem dX7_isLampTooOld_72 : decode cX7_isLampTooOld 72 = .ok (.istore_n 3, 1) := by decide +kernel
theorem dX7_isLampTooOld_73 : decode cX7_isLampTooOld 73 = .ok (.iinc 4 1, 3) := by decide +kernel
theorem dX7_isLampTooOld_76 : decode cX7_isLampTooOld 76 = .ok (.goto (-63), 3) := by decide +kernel
theorem dX7_isLampTooOld_79 : decode cX7_isLampTooOld 79 = .ok (.iload_n 3, 1) := by decide +kernel
theorem dX7_isLampTooOld_80 : decode cX7_isLampTooOld 80 = .ok (.aload_n 2, 1) := by decide +kernel
theorem dX7_isLampTooOld_81 : decode cX7_isLampTooOld 81 = .ok (.getfield 69, 3) := by decide +kernel
theorem dX7_isLampTooOld_84 : decode cX7_isLampTooOld 84 = .ok (.if_icmp .le 7, 3) := by decide +kernel
theorem dX7_isLampTooOld_87 : decode cX7_isLampTooOld 87 = .ok (.iconst 1, 1) := by decide +kernel
theorem dX7_isLampTooOld_88 : decode cX7_isLampTooOld 88 = .ok (.goto 4, 3) := by decide +kernel
theorem dX7_isLampTooOld_91 : decode cX7_isLampTooOld 91 = .ok (.iconst 0, 1) := by decide +kernel
theorem dX7_isLampTooOld_92 : decode cX7_isLampTooOld 92 = .ok (.ireturn, 1) := by decide +kernel
theorem dX7_nextChance_0 : decode cX7_nextChance 0 = .ok (.ldc_w 403, 3) := by decide +kernel
theorem dX7_nextChance_3 : decode cX7_nextChance 3 = .ok (.istore_n 2, 1) := by decide +kernel
theorem dX7_nextChance_4 : decode cX7_nextChance 4 = .ok (.iconst 0, 1) := by decide +kernel
theorem dX7_nextChance_5 : decode cX7_nextChance 5 = .ok (.istore_n 3, 1) := by decide +kernel
theorem dX7_nextChance_6 : decode cX7_nextChance 6 = .ok (.iload_n 3, 1) := by decide +kernel
theorem dX7_nextChance_7 : decode cX7_nextChance 7 = .ok (.aload_n 0, 1) := by decide +kernel
theorem dX7_nextChance_8 : decode cX7_nextChance 8 = .ok (.getfield 19, 3) := by decide +kernel
theorem dX7_nextChance_11 : decode cX7_nextChance 11 = .ok (.invokevirtual 42, 3) := by decide +kernel
theorem dX7_nextChance_14 : decode cX7_nextChance 14 = .ok (.if_icmp .ge 29, 3) := by decide +kernel
theorem dX7_nextChance_17 : decode cX7_nextChance 17 = .ok (.iload_n 1, 1) := by decide +kernel
theorem dX7_nextChance_18 : decode cX7_nextChance 18 = .ok (.iload_n 2, 1) := by decide +kernel
theorem dX7_nextChance_19 : decode cX7_nextChance 19 = .ok (.aload_n 0, 1) := by decide +kernel
theorem dX7_nextChance_20 : decode cX7_nextChance 20 = .ok (.getfield 19, 3) := by decide +kernel
theorem dX7_nextChance_23 : decode cX7_nextChance 23 = .ok (.iload_n 3, 1) := by decide +kernel
theorem dX7_nextChance_24 : decode cX7_nextChance 24 = .ok (.invokevirtual 129, 3) := by decide +kernel
theorem dX7_nextChance_27 : decode cX7_nextChance 27 = .ok (.checkcast 101, 3) := by decide +kernel
theorem dX7_nextChance_30 : decode cX7_nextChance 30 = .ok (.getfield 387, 3) := by decide +kernel
theorem dX7_nextChance_33 : decode cX7_nextChance 33 = .ok (.invokestatic 404, 3) := by decide +kernel
theorem dX7_nextChance_36 : decode cX7_nextChance 36 = .ok (.istore_n 2, 1) := by decide +kernel
theorem dX7_nextChance_37 : decode cX7_nextChance 37 = .ok (.iinc 3 1, 3) := by decide +kernel
theorem dX7_nextChance_40 : decode cX7_nextChance 40 = .ok (.goto (-34), 3) := by decide +kernel
theorem dX7_nextChance_43 : decode cX7_nextChance 43 = .ok (.iconst 0, 1) := by decide +kernel
theorem dX7_nextChance_44 : decode cX7_nextChance 44 = .ok (.istore_n 3, 1) := by decide +kernel
theorem dX7_nextChance_45 : decode cX7_nextChance 45 = .ok (.iload_n 3, 1) := by decide +kernel
theorem dX7_nextChance_46 : decode cX7_nextChance 46 = .ok (.aload_n 0, 1) := by decide +kernel
theorem dX7_nextChance_47 : decode cX7_nextChance 47 = .ok (.getfield 22, 3) := by decide +kernel
theorem dX7_nextChance_50 : decode cX7_nextChance 50 = .ok (.invokevirtual 42, 3) := by decide +kernel
theorem dX7_nextChance_53 : decode cX7_nextChance 53 = .ok (.if_icmp .ge 52, 3) := by decide +kernel
theorem dX7_nextChance_56 : decode cX7_nextChance 56 = .ok (.aload_n 0, 1) := by decide +kernel
theorem dX7_nextChance_57 : decode cX7_nextChance 57 = .ok (.getfield 22, 3) := by decide +kernel
theorem dX7_nextChance_60 : decode cX7_nextChance 60 = .ok (.iload_n 3, 1) := by decide +kernel
theorem dX7_nextChance_61 : decode cX7_nextChance 61 = .ok (.invokevirtual 129, 3) := by decide +kernel
theorem dX7_nextChance_64 : decode cX7_nextChance 64 = .ok (.checkcast 116, 3) := by decide +kernel
theorem dX7_nextChance_67 : decode cX7_nextChance 67 = .ok (.astore 4, 2) := by decide +kernel
theorem dX7_nextChance_69 : decode cX7_nextChance 69 = .ok (.iload_n 1, 1) := by decide +kernel
theorem dX7_nextChance_70 : decode cX7_nextChance 70 = .ok (.iload_n 2, 1) := by decide +kernel
theorem dX7_nextChance_71 : decode cX7_nextChance 71 = .ok (.aload 4, 2) := by decide +kernel
theorem dX7_nextChance_73 : decode cX7_nextChance 73 = .ok (.invokevirtual 397, 3) := by decide +kernel
theorem dX7_nextChance_76 : decode cX7_nextChance 76 = .ok (.bipush 20, 2) := by decide +kernel
theorem dX7_nextChance_78 : decode cX7_nextChance 78 = .ok (.iadd, 1) := by decide +kernel
theorem dX7_nextChance_79 : decode cX7_nextChance 79 = .ok (.invokestatic 404, 3) := by decide +kernel
theorem dX7_nextChance_82 : decode cX7_nextChance 82 = .ok (.istore_n 2, 1) := by decide +kernel
theorem dX7_nextChance_83 : decode cX7_nextChance 83 = .ok (.iload_n 1, 1) := by decide +kernel
theorem dX7_nextChance_84 : decode cX7_nextChance 84 = .ok (.iload_n 2, 1) := by decide +kernel
theorem dX7_nextChance_85 : decode cX7_nextChance 85 = .ok (.aload 4, 2) := by decide +kernel
theorem dX7_nextChance_87 : decode cX7_nextChance 87 = .ok (.getfield 174, 3) := by decide +kernel
theorem dX7_nextChance_90 : decode cX7_nextChance 90 = .ok (.aload_n 0, 1) := by decide +kernel
theorem dX7_nextChance_91 : decode cX7_nextChance 91 = .ok (.getfield 35, 3) := by decide +kernel
theorem dX7_nextChance_94 : decode cX7_nextChance 94 = .ok (.iadd, 1) := by decide +kernel
theorem dX7_nextChance_95 : decode cX7_nextChance 95 = .ok (.invokestatic 404, 3) := by decide +kernel
theorem dX7_nextChance_98 : decode cX7_nextChance 98 = .ok (.istore_n 2, 1) := by decide +kernel
theorem dX7_nextChance_99 : decode cX7_nextChance 99 = .ok (.iinc 3 1, 3) := by decide +kernel
theorem dX7_nextChance_102 : decode cX7_nextChance 102 = .ok (.goto (-57), 3) := by decide +kernel
theorem dX7_nextChance_105 : decode cX7_nextChance 105 = .ok (.iload_n 2, 1) := by decide +kernel
theorem dX7_nextChance_106 : decode cX7_nextChance 106 = .ok (.ireturn, 1) := by decide +kernel
theorem dX7_nearerAhead_0 : decode cX7_nearerAhead 0 = .ok (.iload_n 2, 1) := by decide +kernel
theorem dX7_nearerAhead_1 : decode cX7_nearerAhead 1 = .ok (.iload_n 0, 1) := by decide +kernel
theorem dX7_nearerAhead_2 : decode cX7_nearerAhead 2 = .ok (.if_icmp .le 12, 3) := by decide +kernel
theorem dX7_nearerAhead_5 : decode cX7_nearerAhead 5 = .ok (.iload_n 2, 1) := by decide +kernel
theorem dX7_nearerAhead_6 : decode cX7_nearerAhead 6 = .ok (.iload_n 1, 1) := by decide +kernel
theorem dX7_nearerAhead_7 : decode cX7_nearerAhead 7 = .ok (.if_icmp .ge 7, 3) := by decide +kernel
theorem dX7_nearerAhead_10 : decode cX7_nearerAhead 10 = .ok (.iload_n 2, 1) := by decide +kernel
theorem dX7_nearerAhead_11 : decode cX7_nearerAhead 11 = .ok (.goto 4, 3) := by decide +kernel
theorem dX7_nearerAhead_14 : decode cX7_nearerAhead 14 = .ok (.iload_n 1, 1) := by decide +kernel
theorem dX7_nearerAhead_15 : decode cX7_nearerAhead 15 = .ok (.ireturn, 1) := by decide +kernel
theorem dX7_runningIn_0 : decode cX7_runningIn 0 = .ok (.iconst 0, 1) := by decide +kernel
theorem dX7_runningIn_1 : decode cX7_runningIn 1 = .ok (.istore_n 2, 1) := by decide +kernel
theorem dX7_runningIn_2 : decode cX7_runningIn 2 = .ok (.iload_n 2, 1) := by decide +kernel
theorem dX7_runningIn_3 : decode cX7_runningIn 3 = .ok (.aload_n 0, 1) := by decide +kernel
theorem dX7_runningIn_4 : decode cX7_runningIn 4 = .ok (.getfield 22, 3) := by decide +kernel
theorem dX7_runningIn_7 : decode cX7_runningIn 7 = .ok (.invokevirtual 42, 3) := by decide +kernel
theorem dX7_runningIn_10 : decode cX7_runningIn 10 = .ok (.if_icmp .ge 45, 3) := by decide +kernel
theorem dX7_runningIn_13 : decode cX7_runningIn 13 = .ok (.aload_n 0, 1) := by decide +kernel
theorem dX7_runningIn_14 : decode cX7_runningIn 14 = .ok (.getfield 22, 3) := by decide +kernel
theorem dX7_runningIn_17 : decode cX7_runningIn 17 = .ok (.iload_n 2, 1) := by decide +kernel
theorem dX7_runningIn_18 : decode cX7_runningIn 18 = .ok (.invokevirtual 129, 3) := by decide +kernel
theorem dX7_runningIn_21 : decode cX7_runningIn 21 = .ok (.checkcast 116, 3) := by decide +kernel
theorem dX7_runningIn_24 : decode cX7_runningIn 24 = .ok (.astore_n 3, 1) := by decide +kernel
theorem dX7_runningIn_25 : decode cX7_runningIn 25 = .ok (.aload_n 3, 1) := by decide +kernel
theorem dX7_runningIn_26 : decode cX7_runningIn 26 = .ok (.getfield 184, 3) := by decide +kernel
theorem dX7_runningIn_29 : decode cX7_runningIn 29 = .ok (.getfield 106, 3) := by decide +kernel
theorem dX7_runningIn_32 : decode cX7_runningIn 32 = .ok (.aload_n 1, 1) := by decide +kernel
theorem dX7_runningIn_33 : decode cX7_runningIn 33 = .ok (.getfield 106, 3) := by decide +kernel
theorem dX7_runningIn_36 : decode cX7_runningIn 36 = .ok (.if_icmp .ne 13, 3) := by decide +kernel
theorem dX7_runningIn_39 : decode cX7_runningIn 39 = .ok (.aload_n 3, 1) := by decide +kernel
theorem dX7_runningIn_40 : decode cX7_runningIn 40 = .ok (.getfield 169, 3) := by decide +kernel
theorem dX7_runningIn_43 : decode cX7_runningIn 43 = .ok (.iconst 1, 1) := by decide +kernel
theorem dX7_runningIn_44 : decode cX7_runningIn 44 = .ok (.if_icmp .ne 5, 3) := by decide +kernel
theorem dX7_runningIn_47 : decode cX7_runningIn 47 = .ok (.iload_n 2, 1) := by decide +kernel
theorem dX7_runningIn_48 : decode cX7_runningIn 48 = .ok (.ireturn, 1) := by decide +kernel
theorem dX7_runningIn_49 : decode cX7_runningIn 49 = .ok (.iinc 2 1, 3) := by decide +kernel
theorem dX7_runningIn_52 : decode cX7_runningIn 52 = .ok (.goto (-50), 3) := by decide +kernel
theorem dX7_runningIn_55 : decode cX7_runningIn 55 = .ok (.iconst (-1), 1) := by decide +kernel
theorem dX7_runningIn_56 : decode cX7_runningIn 56 = .ok (.ireturn, 1) := by decide +kernel
theorem dX7_nextChange_0 : decode cX7_nextChange 0 = .ok (.iload_n 1, 1) := by decide +kernel
theorem dX7_nextChange_1 : decode cX7_nextChange 1 = .ok (.istore_n 2, 1) := by decide +kernel
theorem dX7_nextChange_2 : decode cX7_nextChange 2 = .ok (.iconst 0, 1) := by decide +kernel
theorem dX7_nextChange_3 : decode cX7_nextChange 3 = .ok (.istore_n 3, 1) := by decide +kernel
theorem dX7_nextChange_4 : decode cX7_nextChange 4 = .ok (.iload_n 3, 1) := by decide +kernel
theorem dX7_nextChange_5 : decode cX7_nextChange 5 = .ok (.aload_n 0, 1) := by decide +kernel
theorem dX7_nextChange_6 : decode cX7_nextChange 6 = .ok (.getfield 25, 3) := by decide +kernel
theorem dX7_nextChange_9 : decode cX7_nextChange 9 = .ok (.invokevirtual 42, 3) := by decide +kernel
theorem dX7_nextChange_12 : decode cX7_nextChange 12 = .ok (.if_icmp .ge 44, 3) := by decide +kernel
theorem dX7_nextChange_15 : decode cX7_nextChange 15 = .ok (.aload_n 0, 1) := by decide +kernel
theorem dX7_nextChange_16 : decode cX7_nextChange 16 = .ok (.getfield 25, 3) := by decide +kernel
theorem dX7_nextChange_19 : decode cX7_nextChange 19 = .ok (.iload_n 3, 1) := by decide +kernel
theorem dX7_nextChange_20 : decode cX7_nextChange 20 = .ok (.invokevirtual 129, 3) := by decide +kernel
theorem dX7_nextChange_23 : decode cX7_nextChange 23 = .ok (.checkcast 151, 3) := by decide +kernel
theorem dX7_nextChange_26 : decode cX7_nextChange 26 = .ok (.astore 4, 2) := by decide +kernel
theorem dX7_nextChange_28 : decode cX7_nextChange 28 = .ok (.aload 4, 2) := by decide +kernel
theorem dX7_nextChange_30 : decode cX7_nextChange 30 = .ok (.getfield 154, 3) := by decide +kernel
theorem dX7_nextChange_33 : decode cX7_nextChange 33 = .ok (.ifCond .ne 17, 3) := by decide +kernel
theorem dX7_nextChange_36 : decode cX7_nextChange 36 = .ok (.aload_n 0, 1) := by decide +kernel
theorem dX7_nextChange_37 : decode cX7_nextChange 37 = .ok (.getfield 31, 3) := by decide +kernel
theorem dX7_nextChange_40 : decode cX7_nextChange 40 = .ok (.iload_n 2, 1) := by decide +kernel
theorem dX7_nextChange_41 : decode cX7_nextChange 41 = .ok (.aload 4, 2) := by decide +kernel
theorem dX7_nextChange_43 : decode cX7_nextChange 43 = .ok (.getfield 408, 3) := by decide +kernel
theorem dX7_nextChange_46 : decode cX7_nextChange 46 = .ok (.invokestatic 404, 3) := by decide +kernel
theorem dX7_nextChange_49 : decode cX7_nextChange 49 = .ok (.istore_n 2, 1) := by decide +kernel
theorem dX7_nextChange_50 : decode cX7_nextChange 50 = .ok (.iinc 3 1, 3) := by decide +kernel
theorem dX7_nextChange_53 : decode cX7_nextChange 53 = .ok (.goto (-49), 3) := by decide +kernel
theorem dX7_nextChange_56 : decode cX7_nextChange 56 = .ok (.iconst 0, 1) := by decide +kernel
theorem dX7_nextChange_57 : decode cX7_nextChange 57 = .ok (.istore_n 3, 1) := by decide +kernel
theorem dX7_nextChange_58 : decode cX7_nextChange 58 = .ok (.iload_n 3, 1) := by decide +kernel
theorem dX7_nextChange_59 : decode cX7_nextChange 59 = .ok (.aload_n 0, 1) := by decide +kernel
theorem dX7_nextChange_60 : decode cX7_nextChange 60 = .ok (.getfield 22, 3) := by decide +kernel
theorem dX7_nextChange_63 : decode cX7_nextChange 63 = .ok (.invokevirtual 42, 3) := by decide +kernel
theorem dX7_nextChange_66 : decode cX7_nextChange 66 = .ok (.if_icmp .ge 60, 3) := by decide +kernel
theorem dX7_nextChange_69 : decode cX7_nextChange 69 = .ok (.aload_n 0, 1) := by decide +kernel
theorem dX7_nextChange_70 : decode cX7_nextChange 70 = .ok (.getfield 22, 3) := by decide +kernel
theorem dX7_nextChange_73 : decode cX7_nextChange 73 = .ok (.iload_n 3, 1) := by decide +kernel
theorem dX7_nextChange_74 : decode cX7_nextChange 74 = .ok (.invokevirtual 129, 3) := by decide +kernel
theorem dX7_nextChange_77 : decode cX7_nextChange 77 = .ok (.checkcast 116, 3) := by decide +kernel
theorem dX7_nextChange_80 : decode cX7_nextChange 80 = .ok (.astore 4, 2) := by decide +kernel
theorem dX7_nextChange_82 : decode cX7_nextChange 82 = .ok (.aload 4, 2) := by decide +kernel
theorem dX7_nextChange_84 : decode cX7_nextChange 84 = .ok (.invokevirtual 393, 3) := by decide +kernel
theorem dX7_nextChange_87 : decode cX7_nextChange 87 = .ok (.ifCond .eq 33, 3) := by decide +kernel
theorem dX7_nextChange_90 : decode cX7_nextChange 90 = .ok (.aload_n 0, 1) := by decide +kernel
theorem dX7_nextChange_91 : decode cX7_nextChange 91 = .ok (.getfield 31, 3) := by decide +kernel
theorem dX7_nextChange_94 : decode cX7_nextChange 94 = .ok (.iload_n 2, 1) := by decide +kernel
theorem dX7_nextChange_95 : decode cX7_nextChange 95 = .ok (.aload 4, 2) := by decide +kernel
theorem dX7_nextChange_97 : decode cX7_nextChange 97 = .ok (.getfield 169, 3) := by decide +kernel
theorem dX7_nextChange_100 : decode cX7_nextChange 100 = .ok (.ifCond .ne 11, 3) := by decide +kernel
theorem dX7_nextChange_103 : decode cX7_nextChange 103 = .ok (.aload 4, 2) := by decide +kernel
theorem dX7_nextChange_105 : decode cX7_nextChange 105 = .ok (.getfield 174, 3) := by decide +kernel
theorem dX7_nextChange_108 : decode cX7_nextChange 108 = .ok (.goto 8, 3) := by decide +kernel
theorem dX7_nextChange_111 : decode cX7_nextChange 111 = .ok (.aload 4, 2) := by decide +kernel
theorem dX7_nextChange_113 : decode cX7_nextChange 113 = .ok (.invokevirtual 397, 3) := by decide +kernel
theorem dX7_nextChange_116 : decode cX7_nextChange 116 = .ok (.invokestatic 404, 3) := by decide +kernel
theorem dX7_nextChange_119 : decode cX7_nextChange 119 = .ok (.istore_n 2, 1) := by decide +kernel
theorem dX7_nextChange_120 : decode cX7_nextChange 120 = .ok (.iinc 3 1, 3) := by decide +kernel
theorem dX7_nextChange_123 : decode cX7_nextChange 123 = .ok (.goto (-65), 3) := by decide +kernel
theorem dX7_nextChange_126 : decode cX7_nextChange 126 = .ok (.iload_n 2, 1) := by decide +kernel
theorem dX7_nextChange_127 : decode cX7_nextChange 127 = .ok (.ireturn, 1) := by decide +kernel
theorem dX7_endHolds_0 : decode cX7_endHolds 0 = .ok (.iconst 0, 1) := by decide +kernel
theorem dX7_endHolds_1 : decode cX7_endHolds 1 = .ok (.istore_n 1, 1) := by decide +kernel
theorem dX7_endHolds_2 : decode cX7_endHolds 2 = .ok (.iload_n 1, 1) := by decide +kernel
theorem dX7_endHolds_3 : decode cX7_endHolds 3 = .ok (.aload_n 0, 1) := by decide +kernel
theorem dX7_endHolds_4 : decode cX7_endHolds 4 = .ok (.getfield 25, 3) := by decide +kernel
theorem dX7_endHolds_7 : decode cX7_endHolds 7 = .ok (.invokevirtual 42, 3) := by decide +kernel
theorem dX7_endHolds_10 : decode cX7_endHolds 10 = .ok (.if_icmp .ge 45, 3) := by decide +kernel
theorem dX7_endHolds_13 : decode cX7_endHolds 13 = .ok (.aload_n 0, 1) := by decide +kernel
theorem dX7_endHolds_14 : decode cX7_endHolds 14 = .ok (.getfield 25, 3) := by decide +kernel
theorem dX7_endHolds_17 : decode cX7_endHolds 17 = .ok (.iload_n 1, 1) := by decide +kernel
theorem dX7_endHolds_18 : decode cX7_endHolds 18 = .ok (.invokevirtual 129, 3) := by decide +kernel
theorem dX7_endHolds_21 : decode cX7_endHolds 21 = .ok (.checkcast 151, 3) := by decide +kernel
theorem dX7_endHolds_24 : decode cX7_endHolds 24 = .ok (.astore_n 2, 1) := by decide +kernel
theorem dX7_endHolds_25 : decode cX7_endHolds 25 = .ok (.aload_n 2, 1) := by decide +kernel
theorem dX7_endHolds_26 : decode cX7_endHolds 26 = .ok (.getfield 154, 3) := by decide +kernel
theorem dX7_endHolds_29 : decode cX7_endHolds 29 = .ok (.ifCond .ne 20, 3) := by decide +kernel
theorem dX7_endHolds_32 : decode cX7_endHolds 32 = .ok (.aload_n 2, 1) := by decide +kernel
theorem dX7_endHolds_33 : decode cX7_endHolds 33 = .ok (.getfield 408, 3) := by decide +kernel
theorem dX7_endHolds_36 : decode cX7_endHolds 36 = .ok (.aload_n 0, 1) := by decide +kernel
theorem dX7_endHolds_37 : decode cX7_endHolds 37 = .ok (.getfield 31, 3) := by decide +kernel
theorem dX7_endHolds_40 : decode cX7_endHolds 40 = .ok (.if_icmp .ne 9, 3) := by decide +kernel
theorem dX7_endHolds_43 : decode cX7_endHolds 43 = .ok (.aload_n 0, 1) := by decide +kernel
theorem dX7_endHolds_44 : decode cX7_endHolds 44 = .ok (.aload_n 2, 1) := by decide +kernel
theorem dX7_endHolds_45 : decode cX7_endHolds 45 = .ok (.invokevirtual 229, 3) := by decide +kernel
theorem dX7_endHolds_48 : decode cX7_endHolds 48 = .ok (.pop, 1) := by decide +kernel
theorem dX7_endHolds_49 : decode cX7_endHolds 49 = .ok (.iinc 1 1, 3) := by decide +kernel
theorem dX7_endHolds_52 : decode cX7_endHolds 52 = .ok (.goto (-50), 3) := by decide +kernel
theorem dX7_endHolds_55 : decode cX7_endHolds 55 = .ok (.return_, 1) := by decide +kernel
theorem dX7_endShows_0 : decode cX7_endShows 0 = .ok (.iconst 0, 1) := by decide +kernel
theorem dX7_endShows_1 : decode cX7_endShows 1 = .ok (.istore_n 1, 1) := by decide +kernel
theorem dX7_endShows_2 : decode cX7_endShows 2 = .ok (.iload_n 1, 1) := by decide +kernel
theorem dX7_endShows_3 : decode cX7_endShows 3 = .ok (.aload_n 0, 1) := by decide +kernel
theorem dX7_endShows_4 : decode cX7_endShows 4 = .ok (.getfield 22, 3) := by decide +kernel
theorem dX7_endShows_7 : decode cX7_endShows 7 = .ok (.invokevirtual 42, 3) := by decide +kernel
theorem dX7_endShows_10 : decode cX7_endShows 10 = .ok (.if_icmp .ge 64, 3) := by decide +kernel
theorem dX7_endShows_13 : decode cX7_endShows 13 = .ok (.aload_n 0, 1) := by decide +kernel
theorem dX7_endShows_14 : decode cX7_endShows 14 = .ok (.getfield 22, 3) := by decide +kernel
theorem dX7_endShows_17 : decode cX7_endShows 17 = .ok (.iload_n 1, 1) := by decide +kernel
theorem dX7_endShows_18 : decode cX7_endShows 18 = .ok (.invokevirtual 129, 3) := by decide +kernel
theorem dX7_endShows_21 : decode cX7_endShows 21 = .ok (.checkcast 116, 3) := by decide +kernel
theorem dX7_endShows_24 : decode cX7_endShows 24 = .ok (.astore_n 2, 1) := by decide +kernel
theorem dX7_endShows_25 : decode cX7_endShows 25 = .ok (.aload_n 2, 1) := by decide +kernel
theorem dX7_endShows_26 : decode cX7_endShows 26 = .ok (.getfield 169, 3) := by decide +kernel
theorem dX7_endShows_29 : decode cX7_endShows 29 = .ok (.iconst 1, 1) := by decide +kernel
theorem dX7_endShows_30 : decode cX7_endShows 30 = .ok (.if_icmp .ne 38, 3) := by decide +kernel
theorem dX7_endShows_33 : decode cX7_endShows 33 = .ok (.aload_n 2, 1) := by decide +kernel
theorem dX7_endShows_34 : decode cX7_endShows 34 = .ok (.invokevirtual 397, 3) := by decide +kernel
theorem dX7_endShows_37 : decode cX7_endShows 37 = .ok (.aload_n 0, 1) := by decide +kernel
theorem dX7_endShows_38 : decode cX7_endShows 38 = .ok (.getfield 31, 3) := by decide +kernel
theorem dX7_endShows_41 : decode cX7_endShows 41 = .ok (.if_icmp .ne 27, 3) := by decide +kernel
theorem dX7_endShows_44 : decode cX7_endShows 44 = .ok (.aload_n 2, 1) := by decide +kernel
theorem dX7_endShows_45 : decode cX7_endShows 45 = .ok (.getfield 184, 3) := by decide +kernel
theorem dX7_endShows_48 : decode cX7_endShows 48 = .ok (.dup, 1) := by decide +kernel
theorem dX7_endShows_49 : decode cX7_endShows 49 = .ok (.getfield 66, 3) := by decide +kernel
theorem dX7_endShows_52 : decode cX7_endShows 52 = .ok (.aload_n 2, 1) := by decide +kernel
theorem dX7_endShows_53 : decode cX7_endShows 53 = .ok (.getfield 177, 3) := by decide +kernel
theorem dX7_endShows_56 : decode cX7_endShows 56 = .ok (.getfield 181, 3) := by decide +kernel
theorem dX7_endShows_59 : decode cX7_endShows 59 = .ok (.iadd, 1) := by decide +kernel
theorem dX7_endShows_60 : decode cX7_endShows 60 = .ok (.putfield 66, 3) := by decide +kernel
theorem dX7_endShows_63 : decode cX7_endShows 63 = .ok (.aload_n 2, 1) := by decide +kernel
theorem dX7_endShows_64 : decode cX7_endShows 64 = .ok (.iconst 2, 1) := by decide +kernel
theorem dX7_endShows_65 : decode cX7_endShows 65 = .ok (.putfield 169, 3) := by decide +kernel
theorem dX7_endShows_68 : decode cX7_endShows 68 = .ok (.iinc 1 1, 3) := by decide +kernel
theorem dX7_endShows_71 : decode cX7_endShows 71 = .ok (.goto (-69), 3) := by decide +kernel
theorem dX7_endShows_74 : decode cX7_endShows 74 = .ok (.return_, 1) := by decide +kernel
theorem dX7_startShows_0 : decode cX7_startShows 0 = .ok (.iconst 0, 1) := by decide +kernel
theorem dX7_startShows_1 : decode cX7_startShows 1 = .ok (.istore_n 1, 1) := by decide +kernel
theorem dX7_startShows_2 : decode cX7_startShows 2 = .ok (.iload_n 1, 1) := by decide +kernel
theorem dX7_startShows_3 : decode cX7_startShows 3 = .ok (.aload_n 0, 1) := by decide +kernel
theorem dX7_startShows_4 : decode cX7_startShows 4 = .ok (.getfield 22, 3) := by decide +kernel
theorem dX7_startShows_7 : decode cX7_startShows 7 = .ok (.invokevirtual 42, 3) := by decide +kernel
theorem dX7_startShows_10 : decode cX7_startShows 10 = .ok (.if_icmp .ge 51, 3) := by decide +kernel
theorem dX7_startShows_13 : decode cX7_startShows 13 = .ok (.aload_n 0, 1) := by decide +kernel
theorem dX7_startShows_14 : decode cX7_startShows 14 = .ok (.getfield 22, 3) := by decide +kernel
theorem dX7_startShows_17 : decode cX7_startShows 17 = .ok (.iload_n 1, 1) := by decide +kernel
theorem dX7_startShows_18 : decode cX7_startShows 18 = .ok (.invokevirtual 129, 3) := by decide +kernel
theorem dX7_startShows_21 : decode cX7_startShows 21 = .ok (.checkcast 116, 3) := by decide +kernel
theorem dX7_startShows_24 : decode cX7_startShows 24 = .ok (.astore_n 2, 1) := by decide +kernel
theorem dX7_startShows_25 : decode cX7_startShows 25 = .ok (.aload_n 2, 1) := by decide +kernel
theorem dX7_startShows_26 : decode cX7_startShows 26 = .ok (.getfield 169, 3) := by decide +kernel
theorem dX7_startShows_29 : decode cX7_startShows 29 = .ok (.ifCond .ne 26, 3) := by decide +kernel
theorem dX7_startShows_32 : decode cX7_startShows 32 = .ok (.aload_n 2, 1) := by decide +kernel
theorem dX7_startShows_33 : decode cX7_startShows 33 = .ok (.getfield 174, 3) := by decide +kernel
theorem dX7_startShows_36 : decode cX7_startShows 36 = .ok (.aload_n 0, 1) := by decide +kernel
theorem dX7_startShows_37 : decode cX7_startShows 37 = .ok (.getfield 31, 3) := by decide +kernel
theorem dX7_startShows_40 : decode cX7_startShows 40 = .ok (.if_icmp .ne 15, 3) := by decide +kernel
theorem dX7_startShows_43 : decode cX7_startShows 43 = .ok (.aload_n 2, 1) := by decide +kernel
theorem dX7_startShows_44 : decode cX7_startShows 44 = .ok (.getfield 160, 3) := by decide +kernel
theorem dX7_startShows_47 : decode cX7_startShows 47 = .ok (.invokevirtual 164, 3) := by decide +kernel
theorem dX7_startShows_50 : decode cX7_startShows 50 = .ok (.aload_n 2, 1) := by decide +kernel
theorem dX7_startShows_51 : decode cX7_startShows 51 = .ok (.iconst 1, 1) := by decide +kernel
theorem dX7_startShows_52 : decode cX7_startShows 52 = .ok (.putfield 169, 3) := by decide +kernel
theorem dX7_startShows_55 : decode cX7_startShows 55 = .ok (.iinc 1 1, 3) := by decide +kernel
theorem dX7_startShows_58 : decode cX7_startShows 58 = .ok (.goto (-56), 3) := by decide +kernel
theorem dX7_startShows_61 : decode cX7_startShows 61 = .ok (.return_, 1) := by decide +kernel
theorem dX7_addTicket_0 : decode cX7_addTicket 0 = .ok (.aload_n 0, 1) := by decide +kernel
theorem dX7_addTicket_1 : decode cX7_addTicket 1 = .ok (.getfield 28, 3) := by decide +kernel
theorem dX7_addTicket_4 : decode cX7_addTicket 4 = .ok (.invokevirtual 42, 3) := by decide +kernel
theorem dX7_addTicket_7 : decode cX7_addTicket 7 = .ok (.istore 4, 2) := by decide +kernel
theorem dX7_addTicket_9 : decode cX7_addTicket 9 = .ok (.aload_n 1, 1) := by decide +kernel
theorem dX7_addTicket_10 : decode cX7_addTicket 10 = .ok (.iload_n 3, 1) := by decide +kernel
theorem dX7_addTicket_11 : decode cX7_addTicket 11 = .ok (.invokevirtual 281, 3) := by decide +kernel
theorem dX7_addTicket_14 : decode cX7_addTicket 14 = .ok (.istore 5, 2) := by decide +kernel
theorem dX7_addTicket_16 : decode cX7_addTicket 16 = .ok (.aload_n 0, 1) := by decide +kernel
theorem dX7_addTicket_17 : decode cX7_addTicket 17 = .ok (.getfield 28, 3) := by decide +kernel
theorem dX7_addTicket_20 : decode cX7_addTicket 20 = .ok (.new 133, 3) := by decide +kernel
theorem dX7_addTicket_23 : decode cX7_addTicket 23 = .ok (.dup, 1) := by decide +kernel
theorem dX7_addTicket_24 : decode cX7_addTicket 24 = .ok (.aload_n 1, 1) := by decide +kernel
theorem dX7_addTicket_25 : decode cX7_addTicket 25 = .ok (.iload_n 2, 1) := by decide +kernel
theorem dX7_addTicket_26 : decode cX7_addTicket 26 = .ok (.iload_n 3, 1) := by decide +kernel
theorem dX7_addTicket_27 : decode cX7_addTicket 27 = .ok (.iload 5, 2) := by decide +kernel
theorem dX7_addTicket_29 : decode cX7_addTicket 29 = .ok (.invokespecial 411, 3) := by decide +kernel
theorem dX7_addTicket_32 : decode cX7_addTicket 32 = .ok (.invokevirtual 57, 3) := by decide +kernel
theorem dX7_addTicket_35 : decode cX7_addTicket 35 = .ok (.pop, 1) := by decide +kernel
theorem dX7_addTicket_36 : decode cX7_addTicket 36 = .ok (.aload_n 1, 1) := by decide +kernel
theorem dX7_addTicket_37 : decode cX7_addTicket 37 = .ok (.getfield 221, 3) := by decide +kernel
theorem dX7_addTicket_40 : decode cX7_addTicket 40 = .ok (.iload_n 2, 1) := by decide +kernel
theorem dX7_addTicket_41 : decode cX7_addTicket 41 = .ok (.iload 4, 2) := by decide +kernel
theorem dX7_addTicket_43 : decode cX7_addTicket 43 = .ok (.iastore, 1) := by decide +kernel
theorem dX7_addTicket_44 : decode cX7_addTicket 44 = .ok (.aload_n 1, 1) := by decide +kernel
theorem dX7_addTicket_45 : decode cX7_addTicket 45 = .ok (.dup, 1) := by decide +kernel
theorem dX7_addTicket_46 : decode cX7_addTicket 46 = .ok (.getfield 290, 3) := by decide +kernel
theorem dX7_addTicket_49 : decode cX7_addTicket 49 = .ok (.iload 5, 2) := by decide +kernel
theorem dX7_addTicket_51 : decode cX7_addTicket 51 = .ok (.iadd, 1) := by decide +kernel
theorem dX7_addTicket_52 : decode cX7_addTicket 52 = .ok (.putfield 290, 3) := by decide +kernel
theorem dX7_addTicket_55 : decode cX7_addTicket 55 = .ok (.iload 4, 2) := by decide +kernel
theorem dX7_addTicket_57 : decode cX7_addTicket 57 = .ok (.ireturn, 1) := by decide +kernel
theorem dX7_endUnbought_0 : decode cX7_endUnbought 0 = .ok (.aload_n 1, 1) := by decide +kernel
theorem dX7_endUnbought_1 : decode cX7_endUnbought 1 = .ok (.iconst 1, 1) := by decide +kernel
theorem dX7_endUnbought_2 : decode cX7_endUnbought 2 = .ok (.putfield 154, 3) := by decide +kernel
theorem dX7_endUnbought_5 : decode cX7_endUnbought 5 = .ok (.aload_n 0, 1) := by decide +kernel
theorem dX7_endUnbought_6 : decode cX7_endUnbought 6 = .ok (.aload_n 1, 1) := by decide +kernel
theorem dX7_endUnbought_7 : decode cX7_endUnbought 7 = .ok (.getfield 153, 3) := by decide +kernel
theorem dX7_endUnbought_10 : decode cX7_endUnbought 10 = .ok (.aload_n 1, 1) := by decide +kernel
theorem dX7_endUnbought_11 : decode cX7_endUnbought 11 = .ok (.getfield 243, 3) := by decide +kernel
theorem dX7_endUnbought_14 : decode cX7_endUnbought 14 = .ok (.invokevirtual 261, 3) := by decide +kernel
theorem dX7_endUnbought_17 : decode cX7_endUnbought 17 = .ok (.ireturn, 1) := by decide +kernel
theorem dX7_freePlace_0 : decode cX7_freePlace 0 = .ok (.aload_n 1, 1) := by decide +kernel
theorem dX7_freePlace_1 : decode cX7_freePlace 1 = .ok (.getfield 221, 3) := by decide +kernel
theorem dX7_freePlace_4 : decode cX7_freePlace 4 = .ok (.iload_n 2, 1) := by decide +kernel
theorem dX7_freePlace_5 : decode cX7_freePlace 5 = .ok (.iconst (-1), 1) := by decide +kernel
theorem dX7_freePlace_6 : decode cX7_freePlace 6 = .ok (.iastore, 1) := by decide +kernel
theorem dX7_freePlace_7 : decode cX7_freePlace 7 = .ok (.aload_n 1, 1) := by decide +kernel
theorem dX7_freePlace_8 : decode cX7_freePlace 8 = .ok (.getfield 160, 3) := by decide +kernel
theorem dX7_freePlace_11 : decode cX7_freePlace 11 = .ok (.getfield 270, 3) := by decide +kernel
theorem dX7_freePlace_14 : decode cX7_freePlace 14 = .ok (.ifCond .eq 16, 3) := by decide +kernel
theorem dX7_freePlace_17 : decode cX7_freePlace 17 = .ok (.aload_n 0, 1) := by decide +kernel
theorem dX7_freePlace_18 : decode cX7_freePlace 18 = .ok (.getfield 28, 3) := by decide +kernel
theorem dX7_freePlace_21 : decode cX7_freePlace 21 = .ok (.invokevirtual 42, 3) := by decide +kernel
theorem dX7_freePlace_24 : decode cX7_freePlace 24 = .ok (.sipush 400, 3) := by decide +kernel
theorem dX7_freePlace_27 : decode cX7_freePlace 27 = .ok (.if_icmp .lt 5, 3) := by decide +kernel
theorem dX7_freePlace_30 : decode cX7_freePlace 30 = .ok (.iconst (-1), 1) := by decide +kernel
theorem dX7_freePlace_31 : decode cX7_freePlace 31 = .ok (.ireturn, 1) := by decide +kernel
theorem dX7_freePlace_32 : decode cX7_freePlace 32 = .ok (.aload_n 0, 1) := by decide +kernel
theorem dX7_freePlace_33 : decode cX7_freePlace 33 = .ok (.aload_n 1, 1) := by decide +kernel
theorem dX7_freePlace_34 : decode cX7_freePlace 34 = .ok (.iload_n 2, 1) := by decide +kernel
theorem dX7_freePlace_35 : decode cX7_freePlace 35 = .ok (.aload_n 1, 1) := by decide +kernel
theorem dX7_freePlace_36 : decode cX7_freePlace 36 = .ok (.getfield 160, 3) := by decide +kernel
theorem dX7_freePlace_39 : decode cX7_freePlace 39 = .ok (.invokevirtual 414, 3) := by decide +kernel
theorem dX7_freePlace_42 : decode cX7_freePlace 42 = .ok (.invokevirtual 246, 3) := by decide +kernel
theorem dX7_freePlace_45 : decode cX7_freePlace 45 = .ok (.ireturn, 1) := by decide +kernel
theorem dX7_countOpenHolds_0 : decode cX7_countOpenHolds 0 = .ok (.iconst 0, 1) := by decide +kernel
theorem dX7_countOpenHolds_1 : decode cX7_countOpenHolds 1 = .ok (.istore_n 1, 1) := by decide +kernel
theorem dX7_countOpenHolds_2 : decode cX7_countOpenHolds 2 = .ok (.iconst 0, 1) := by decide +kernel
theorem dX7_countOpenHolds_3 : decode cX7_countOpenHolds 3 = .ok (.istore_n 2, 1) := by decide +kernel
theorem dX7_countOpenHolds_4 : decode cX7_countOpenHolds 4 = .ok (.iload_n 2, 1) := by decide +kernel
theorem dX7_countOpenHolds_5 : decode cX7_countOpenHolds 5 = .ok (.aload_n 0, 1) := by decide +kernel
theorem dX7_countOpenHolds_6 : decode cX7_countOpenHolds 6 = .ok (.getfield 25, 3) := by decide +kernel
theorem dX7_countOpenHolds_9 : decode cX7_countOpenHolds 9 = .ok (.invokevirtual 42, 3) := by decide +kernel
theorem dX7_countOpenHolds_12 : decode cX7_countOpenHolds 12 = .ok (.if_icmp .ge 29, 3) := by decide +kernel
theorem dX7_countOpenHolds_15 : decode cX7_countOpenHolds 15 = .ok (.aload_n 0, 1) := by decide +kernel
theorem dX7_countOpenHolds_16 : decode cX7_countOpenHolds 16 = .ok (.getfield 25, 3) := by decide +kernel
theorem dX7_countOpenHolds_19 : decode cX7_countOpenHolds 19 = .ok (.iload_n 2, 1) := by decide +kernel
theorem dX7_countOpenHolds_20 : decode cX7_countOpenHolds 20 = .ok (.invokevirtual 129, 3) := by decide +kernel
theorem dX7_countOpenHolds_23 : decode cX7_countOpenHolds 23 = .ok (.checkcast 151, 3) := by decide +kernel
theorem dX7_countOpenHolds_26 : decode cX7_countOpenHolds 26 = .ok (.getfield 154, 3) := by decide +kernel
theorem dX7_countOpenHolds_29 : decode cX7_countOpenHolds 29 = .ok (.ifCond .ne 6, 3) := by decide +kernel
theorem dX7_countOpenHolds_32 : decode cX7_countOpenHolds 32 = .ok (.iinc 1 1, 3) := by decide +kernel
theorem dX7_countOpenHolds_35 : decode cX7_countOpenHolds 35 = .ok (.iinc 2 1, 3) := by decide +kernel
theorem dX7_countOpenHolds_38 : decode cX7_countOpenHolds 38 = .ok (.goto (-34), 3) := by decide +kernel
theorem dX7_countOpenHolds_41 : decode cX7_countOpenHolds 41 = .ok (.iload_n 1, 1) := by decide +kernel
theorem dX7_countOpenHolds_42 : decode cX7_countOpenHolds 42 = .ok (.ireturn, 1) := by decide +kernel
theorem dX7_paidFor_0 : decode cX7_paidFor 0 = .ok (.iconst 0, 1) := by decide +kernel
theorem dX7_paidFor_1 : decode cX7_paidFor 1 = .ok (.istore_n 3, 1) := by decide +kernel
theorem dX7_paidFor_2 : decode cX7_paidFor 2 = .ok (.iload_n 1, 1) := by decide +kernel
theorem dX7_paidFor_3 : decode cX7_paidFor 3 = .ok (.iconst 0, 1) := by decide +kernel
theorem dX7_paidFor_4 : decode cX7_paidFor 4 = .ok (.invokestatic 417, 3) := by decide +kernel
theorem dX7_paidFor_7 : decode cX7_paidFor 7 = .ok (.istore 4, 2) := by decide +kernel
theorem dX7_paidFor_9 : decode cX7_paidFor 9 = .ok (.iload 4, 2) := by decide +kernel
theorem dX7_paidFor_11 : decode cX7_paidFor 11 = .ok (.iload_n 2, 1) := by decide +kernel
theorem dX7_paidFor_12 : decode cX7_paidFor 12 = .ok (.if_icmp .gt 39, 3) := by decide +kernel
theorem dX7_paidFor_15 : decode cX7_paidFor 15 = .ok (.iload 4, 2) := by decide +kernel
theorem dX7_paidFor_17 : decode cX7_paidFor 17 = .ok (.aload_n 0, 1) := by decide +kernel
theorem dX7_paidFor_18 : decode cX7_paidFor 18 = .ok (.getfield 28, 3) := by decide +kernel
theorem dX7_paidFor_21 : decode cX7_paidFor 21 = .ok (.invokevirtual 42, 3) := by decide +kernel
theorem dX7_paidFor_24 : decode cX7_paidFor 24 = .ok (.if_icmp .ge 27, 3) := by decide +kernel
theorem dX7_paidFor_27 : decode cX7_paidFor 27 = .ok (.iload_n 3, 1) := by decide +kernel
theorem dX7_paidFor_28 : decode cX7_paidFor 28 = .ok (.aload_n 0, 1) := by decide +kernel
theorem dX7_paidFor_29 : decode cX7_paidFor 29 = .ok (.getfield 28, 3) := by decide +kernel
theorem dX7_paidFor_32 : decode cX7_paidFor 32 = .ok (.iload 4, 2) := by decide +kernel
theorem dX7_paidFor_34 : decode cX7_paidFor 34 = .ok (.invokevirtual 129, 3) := by decide +kernel
theorem dX7_paidFor_37 : decode cX7_paidFor 37 = .ok (.checkcast 133, 3) := by decide +kernel
theorem dX7_paidFor_40 : decode cX7_paidFor 40 = .ok (.getfield 144, 3) := by decide +kernel
theorem dX7_paidFor_43 : decode cX7_paidFor 43 = .ok (.iadd, 1) := by decide +kernel
theorem dX7_paidFor_44 : decode cX7_paidFor 44 = .ok (.istore_n 3, 1) := by decide +kernel
theorem dX7_paidFor_45 : decode cX7_paidFor 45 = .ok (.iinc 4 1, 3) := by decide +kernel
theorem dX7_paidFor_48 : decode cX7_paidFor 48 = .ok (.goto (-39), 3) := by decide +kernel
theorem dX7_paidFor_51 : decode cX7_paidFor 51 = .ok (.iload_n 3, 1) := by decide +kernel
theorem dX7_paidFor_52 : decode cX7_paidFor 52 = .ok (.ireturn, 1) := by decide +kernel
theorem dX7_openingOf_0 : decode cX7_openingOf 0 = .ok (.iconst (-1), 1) := by decide +kernel
theorem dX7_openingOf_1 : decode cX7_openingOf 1 = .ok (.istore_n 2, 1) := by decide +kernel
theorem dX7_openingOf_2 : decode cX7_openingOf 2 = .ok (.iconst 0, 1) := by decide +kernel
theorem dX7_openingOf_3 : decode cX7_openingOf 3 = .ok (.istore_n 3, 1) := by decide +kernel
theorem dX7_openingOf_4 : decode cX7_openingOf 4 = .ok (.iload_n 3, 1) := by decide +kernel
theorem dX7_openingOf_5 : decode cX7_openingOf 5 = .ok (.aload_n 0, 1) := by decide +kernel
theorem dX7_openingOf_6 : decode cX7_openingOf 6 = .ok (.getfield 22, 3) := by decide +kernel
theorem dX7_openingOf_9 : decode cX7_openingOf 9 = .ok (.invokevirtual 42, 3) := by decide +kernel
theorem dX7_openingOf_12 : decode cX7_openingOf 12 = .ok (.if_icmp .ge 66, 3) := by decide +kernel
theorem dX7_openingOf_15 : decode cX7_openingOf 15 = .ok (.aload_n 0, 1) := by decide +kernel
theorem dX7_openingOf_16 : decode cX7_openingOf 16 = .ok (.getfield 22, 3) := by decide +kernel
theorem dX7_openingOf_19 : decode cX7_openingOf 19 = .ok (.iload_n 3, 1) := by decide +kernel
theorem dX7_openingOf_20 : decode cX7_openingOf 20 = .ok (.invokevirtual 129, 3) := by decide +kernel
theorem dX7_openingOf_23 : decode cX7_openingOf 23 = .ok (.checkcast 116, 3) := by decide +kernel
theorem dX7_openingOf_26 : decode cX7_openingOf 26 = .ok (.astore 4, 2) := by decide +kernel
theorem dX7_openingOf_28 : decode cX7_openingOf 28 = .ok (.aload 4, 2) := by decide +kernel
theorem dX7_openingOf_30 : decode cX7_openingOf 30 = .ok (.getfield 177, 3) := by decide +kernel
theorem dX7_openingOf_33 : decode cX7_openingOf 33 = .ok (.getfield 103, 3) := by decide +kernel
theorem dX7_openingOf_36 : decode cX7_openingOf 36 = .ok (.aload_n 1, 1) := by decide +kernel
theorem dX7_openingOf_37 : decode cX7_openingOf 37 = .ok (.getfield 103, 3) := by decide +kernel
theorem dX7_openingOf_40 : decode cX7_openingOf 40 = .ok (.if_icmp .ne 32, 3) := by decide +kernel
theorem dX7_openingOf_43 : decode cX7_openingOf 43 = .ok (.aload 4, 2) := by decide +kernel
theorem dX7_openingOf_45 : decode cX7_openingOf 45 = .ok (.getfield 169, 3) := by decide +kernel
theorem dX7_openingOf_48 : decode cX7_openingOf 48 = .ok (.iconst 4, 1) := by decide +kernel
theorem dX7_openingOf_49 : decode cX7_openingOf 49 = .ok (.if_icmp .eq 23, 3) := by decide +kernel
theorem dX7_openingOf_52 : decode cX7_openingOf 52 = .ok (.iload_n 2, 1) := by decide +kernel
theorem dX7_openingOf_53 : decode cX7_openingOf 53 = .ok (.iconst (-1), 1) := by decide +kernel
theorem dX7_openingOf_54 : decode cX7_openingOf 54 = .ok (.if_icmp .eq 12, 3) := by decide +kernel
theorem dX7_openingOf_57 : decode cX7_openingOf 57 = .ok (.aload 4, 2) := by decide +kernel
theorem dX7_openingOf_59 : decode cX7_openingOf 59 = .ok (.invokevirtual 323, 3) := by decide +kernel
theorem dX7_openingOf_62 : decode cX7_openingOf 62 = .ok (.iload_n 2, 1) := by decide +kernel
theorem dX7_openingOf_63 : decode cX7_openingOf 63 = .ok (.if_icmp .ge 9, 3) := by decide +kernel
theorem dX7_openingOf_66 : decode cX7_openingOf 66 = .ok (.aload 4, 2) := by decide +kernel
theorem dX7_openingOf_68 : decode cX7_openingOf 68 = .ok (.invokevirtual 323, 3) := by decide +kernel
theorem dX7_openingOf_71 : decode cX7_openingOf 71 = .ok (.istore_n 2, 1) := by decide +kernel
theorem dX7_openingOf_72 : decode cX7_openingOf 72 = .ok (.iinc 3 1, 3) := by decide +kernel
theorem dX7_openingOf_75 : decode cX7_openingOf 75 = .ok (.goto (-71), 3) := by decide +kernel
theorem dX7_openingOf_78 : decode cX7_openingOf 78 = .ok (.iload_n 2, 1) := by decide +kernel
theorem dX7_openingOf_79 : decode cX7_openingOf 79 = .ok (.ireturn, 1) := by decide +kernel
theorem dX7_takenIn_0 : decode cX7_takenIn 0 = .ok (.aload_n 0, 1) := by decide +kernel
theorem dX7_takenIn_1 : decode cX7_takenIn 1 = .ok (.aload_n 1, 1) := by decide +kernel
theorem dX7_takenIn_2 : decode cX7_takenIn 2 = .ok (.invokevirtual 319, 3) := by decide +kernel
theorem dX7_takenIn_5 : decode cX7_takenIn 5 = .ok (.istore_n 3, 1) := by decide +kernel
theorem dX7_takenIn_6 : decode cX7_takenIn 6 = .ok (.iload_n 3, 1) := by decide +kernel
theorem dX7_takenIn_7 : decode cX7_takenIn 7 = .ok (.iconst (-1), 1) := by decide +kernel
theorem dX7_takenIn_8 : decode cX7_takenIn 8 = .ok (.if_icmp .ne 5, 3) := by decide +kernel
theorem dX7_takenIn_11 : decode cX7_takenIn 11 = .ok (.iconst 0, 1) := by decide +kernel
theorem dX7_takenIn_12 : decode cX7_takenIn 12 = .ok (.ireturn, 1) := by decide +kernel
theorem dX7_takenIn_13 : decode cX7_takenIn 13 = .ok (.iconst 0, 1) := by decide +kernel
theorem dX7_takenIn_14 : decode cX7_takenIn 14 = .ok (.istore 4, 2) := by decide +kernel
theorem dX7_takenIn_16 : decode cX7_takenIn 16 = .ok (.iconst 0, 1) := by decide +kernel
theorem dX7_takenIn_17 : decode cX7_takenIn 17 = .ok (.istore 5, 2) := by decide +kernel
theorem dX7_takenIn_19 : decode cX7_takenIn 19 = .ok (.iload 5, 2) := by decide +kernel
theorem dX7_takenIn_21 : decode cX7_takenIn 21 = .ok (.aload_n 0, 1) := by decide +kernel
theorem dX7_takenIn_22 : decode cX7_takenIn 22 = .ok (.getfield 22, 3) := by decide +kernel
theorem dX7_takenIn_25 : decode cX7_takenIn 25 = .ok (.invokevirtual 42, 3) := by decide +kernel
theorem dX7_takenIn_28 : decode cX7_takenIn 28 = .ok (.if_icmp .ge 59, 3) := by decide +kernel
theorem dX7_takenIn_31 : decode cX7_takenIn 31 = .ok (.aload_n 0, 1) := by decide +kernel
theorem dX7_takenIn_32 : decode cX7_takenIn 32 = .ok (.getfield 22, 3) := by decide +kernel
theorem dX7_takenIn_35 : decode cX7_takenIn 35 = .ok (.iload 5, 2) := by decide +kernel
theorem dX7_takenIn_37 : decode cX7_takenIn 37 = .ok (.invokevirtual 129, 3) := by decide +kernel
theorem dX7_takenIn_40 : decode cX7_takenIn 40 = .ok (.checkcast 116, 3) := by decide +kernel
theorem dX7_takenIn_43 : decode cX7_takenIn 43 = .ok (.astore 6, 2) := by decide +kernel
theorem dX7_takenIn_45 : decode cX7_takenIn 45 = .ok (.aload 6, 2) := by decide +kernel
theorem dX7_takenIn_47 : decode cX7_takenIn 47 = .ok (.getfield 177, 3) := by decide +kernel
theorem dX7_takenIn_50 : decode cX7_takenIn 50 = .ok (.getfield 103, 3) := by decide +kernel
theorem dX7_takenIn_53 : decode cX7_takenIn 53 = .ok (.aload_n 1, 1) := by decide +kernel
theorem dX7_takenIn_54 : decode cX7_takenIn 54 = .ok (.getfield 103, 3) := by decide +kernel
theorem dX7_takenIn_57 : decode cX7_takenIn 57 = .ok (.if_icmp .ne 24, 3) := by decide +kernel
theorem dX7_takenIn_60 : decode cX7_takenIn 60 = .ok (.aload 6, 2) := by decide +kernel
theorem dX7_takenIn_62 : decode cX7_takenIn 62 = .ok (.invokevirtual 323, 3) := by decide +kernel
theorem dX7_takenIn_65 : decode cX7_takenIn 65 = .ok (.iload_n 3, 1) := by decide +kernel
theorem dX7_takenIn_66 : decode cX7_takenIn 66 = .ok (.iload_n 2, 1) := by decide +kernel
theorem dX7_takenIn_67 : decode cX7_takenIn 67 = .ok (.iadd, 1) := by decide +kernel
theorem dX7_takenIn_68 : decode cX7_takenIn 68 = .ok (.if_icmp .ne 13, 3) := by decide +kernel
theorem dX7_takenIn_71 : decode cX7_takenIn 71 = .ok (.iload 4, 2) := by decide +kernel
theorem dX7_takenIn_73 : decode cX7_takenIn 73 = .ok (.aload 6, 2) := by decide +kernel
theorem dX7_takenIn_75 : decode cX7_takenIn 75 = .ok (.getfield 290, 3) := by decide +kernel
theorem dX7_takenIn_78 : decode cX7_takenIn 78 = .ok (.iadd, 1) := by decide +kernel
theorem dX7_takenIn_79 : decode cX7_takenIn 79 = .ok (.istore 4, 2) := by decide +kernel
theorem dX7_takenIn_81 : decode cX7_takenIn 81 = .ok (.iinc 5 1, 3) := by decide +kernel
theorem dX7_takenIn_84 : decode cX7_takenIn 84 = .ok (.goto (-65), 3) := by decide +kernel
theorem dX7_takenIn_87 : decode cX7_takenIn 87 = .ok (.iload 4, 2) := by decide +kernel
theorem dX7_takenIn_89 : decode cX7_takenIn 89 = .ok (.ireturn, 1) := by decide +kernel
theorem dJ9_abs_0f7a4_0 : decode cJ9_abs_0f7a4 0 = .ok (.iload_n 0, 1) := by decide +kernel
theorem dJ9_abs_0f7a4_1 : decode cJ9_abs_0f7a4 1 = .ok (.ifCond .ge 8, 3) := by decide +kernel
theorem dJ9_abs_0f7a4_4 : decode cJ9_abs_0f7a4 4 = .ok (.iload_n 0, 1) := by decide +kernel
theorem dJ9_abs_0f7a4_5 : decode cJ9_abs_0f7a4 5 = .ok (.ineg, 1) := by decide +kernel
theorem dJ9_abs_0f7a4_6 : decode cJ9_abs_0f7a4 6 = .ok (.goto 4, 3) := by decide +kernel
theorem dJ9_abs_0f7a4_9 : decode cJ9_abs_0f7a4 9 = .ok (.iload_n 0, 1) := by decide +kernel
theorem dJ9_abs_0f7a4_10 : decode cJ9_abs_0f7a4 10 = .ok (.ireturn, 1) := by decide +kernel
theorem dJ9_max_7cf53_0 : decode cJ9_max_7cf53 0 = .ok (.iload_n 0, 1) := by decide +kernel
theorem dJ9_max_7cf53_1 : decode cJ9_max_7cf53 1 = .ok (.iload_n 1, 1) := by decide +kernel
theorem dJ9_max_7cf53_2 : decode cJ9_max_7cf53 2 = .ok (.if_icmp .lt 7, 3) := by decide +kernel
theorem dJ9_max_7cf53_5 : decode cJ9_max_7cf53 5 = .ok (.iload_n 0, 1) := by decide +kernel
theorem dJ9_max_7cf53_6 : decode cJ9_max_7cf53 6 = .ok (.goto 4, 3) := by decide +kernel
theorem dJ9_max_7cf53_9 : decode cJ9_max_7cf53 9 = .ok (.iload_n 1, 1) := by decide +kernel
theorem dJ9_max_7cf53_10 : decode cJ9_max_7cf53 10 = .ok (.ireturn, 1) := by decide +kernel
theorem dJ9_min_7cf53_0 : decode cJ9_min_7cf53 0 = .ok (.iload_n 0, 1) := by decide +kernel
theorem dJ9_min_7cf53_1 : decode cJ9_min_7cf53 1 = .ok (.iload_n 1, 1) := by decide +kernel
theorem dJ9_min_7cf53_2 : decode cJ9_min_7cf53 2 = .ok (.if_icmp .gt 7, 3) := by decide +kernel
theorem dJ9_min_7cf53_5 : decode cJ9_min_7cf53 5 = .ok (.iload_n 0, 1) := by decide +kernel
theorem dJ9_min_7cf53_6 : decode cJ9_min_7cf53 6 = .ok (.goto 4, 3) := by decide +kernel
theorem dJ9_min_7cf53_9 : decode cJ9_min_7cf53 9 = .ok (.iload_n 1, 1) := by decide +kernel
theorem dJ9_min_7cf53_10 : decode cJ9_min_7cf53 10 = .ok (.ireturn, 1) := by decide +kernel
theorem dJxa1e45_init_da8c8_0 : decode cJxa1e45_init_da8c8 0 = .ok (.aload_n 0, 1) := by decide +kernel
theorem dJxa1e45_init_da8c8_1 : decode cJxa1e45_init_da8c8 1 = .ok (.invokespecial 1, 3) := by decide +kernel
theorem dJxa1e45_init_da8c8_4 : decode cJxa1e45_init_da8c8 4 = .ok (.return_, 1) := by decide +kernel
theorem dJxc12de_init_da8c8_0 : decode cJxc12de_init_da8c8 0 = .ok (.aload_n 0, 1) := by decide +kernel
theorem dJxc12de_init_da8c8_1 : decode cJxc12de_init_da8c8 1 = .ok (.invokespecial 1, 3) := by decide +kernel
theorem dJxc12de_init_da8c8_4 : decode cJxc12de_init_da8c8 4 = .ok (.aload_n 0, 1) := by decide +kernel
theorem dJxc12de_init_da8c8_5 : decode cJxc12de_init_da8c8 5 = .ok (.iconst 0, 1) := by decide +kernel
theorem dJxc12de_init_da8c8_6 : decode cJxc12de_init_da8c8 6 = .ok (.putfield 7, 3) := by decide +kernel
theorem dJxc12de_init_da8c8_9 : decode cJxc12de_init_da8c8 9 = .ok (.return_, 1) := by decide +kernel
theorem dJx4a65c_init_da8c8_0 : decode cJx4a65c_init_da8c8 0 = .ok (.aload_n 0, 1) := by decide +kernel
theorem dJx4a65c_init_da8c8_1 : decode cJx4a65c_init_da8c8 1 = .ok (.invokespecial 1, 3) := by decide +kernel
theorem dJx4a65c_init_da8c8_4 : decode cJx4a65c_init_da8c8 4 = .ok (.aload_n 0, 1) := by decide +kernel
theorem dJx4a65c_init_da8c8_5 : decode cJx4a65c_init_da8c8 5 = .ok (.getstatic 39, 3) := by decide +kernel
theorem dJx4a65c_init_da8c8_8 : decode cJx4a65c_init_da8c8 8 = .ok (.putfield 9, 3) := by decide +kernel
theorem dJx4a65c_init_da8c8_11 : decode cJx4a65c_init_da8c8 11 = .ok (.return_, 1) := by decide +kernel
theorem dJx4a65c_grow_92f84_0 : decode cJx4a65c_grow_92f84 0 = .ok (.aload_n 0, 1) := by decide +kernel
theorem dJx4a65c_grow_92f84_1 : decode cJx4a65c_grow_92f84 1 = .ok (.getfield 9, 3) := by decide +kernel
theorem dJx4a65c_grow_92f84_4 : decode cJx4a65c_grow_92f84 4 = .ok (.arraylength, 1) := by decide +kernel
theorem dJx4a65c_grow_92f84_5 : decode cJx4a65c_grow_92f84 5 = .ok (.istore_n 2, 1) := by decide +kernel
theorem dJx4a65c_grow_92f84_6 : decode cJx4a65c_grow_92f84 6 = .ok (.iload_n 2, 1) := by decide +kernel
theorem dJx4a65c_grow_92f84_7 : decode cJx4a65c_grow_92f84 7 = .ok (.ifCond .gt 13, 3) := by decide +kernel
theorem dJx4a65c_grow_92f84_10 : decode cJx4a65c_grow_92f84 10 = .ok (.aload_n 0, 1) := by decide +kernel
theorem dJx4a65c_grow_92f84_11 : decode cJx4a65c_grow_92f84 11 = .ok (.getfield 9, 3) := by decide +kernel
theorem dJx4a65c_grow_92f84_14 : decode cJx4a65c_grow_92f84 14 = .ok (.getstatic 39, 3) := by decide +kernel
theorem dJx4a65c_grow_92f84_17 : decode cJx4a65c_grow_92f84 17 = .ok (.if_acmp .eq 28, 3) := by decide +kernel
theorem dJx4a65c_grow_92f84_20 : decode cJx4a65c_grow_92f84 20 = .ok (.iload_n 2, 1) := by decide +kernel
theorem dJx4a65c_grow_92f84_21 : decode cJx4a65c_grow_92f84 21 = .ok (.iload_n 1, 1) := by decide +kernel
theorem dJx4a65c_grow_92f84_22 : decode cJx4a65c_grow_92f84 22 = .ok (.iload_n 2, 1) := by decide +kernel
theorem dJx4a65c_grow_92f84_23 : decode cJx4a65c_grow_92f84 23 = .ok (.isub, 1) := by decide +kernel
theorem dJx4a65c_grow_92f84_24 : decode cJx4a65c_grow_92f84 24 = .ok (.iload_n 2, 1) := by decide +kernel
theorem dJx4a65c_grow_92f84_25 : decode cJx4a65c_grow_92f84 25 = .ok (.iconst 1, 1) := by decide +kernel
theorem dJx4a65c_grow_92f84_26 : decode cJx4a65c_grow_92f84 26 = .ok (.ishr, 1) := by decide +kernel
theorem dJx4a65c_grow_92f84_27 : decode cJx4a65c_grow_92f84 27 = .ok (.invokestatic 73, 3) := by decide +kernel
theorem dJx4a65c_grow_92f84_30 : decode cJx4a65c_grow_92f84 30 = .ok (.istore_n 3, 1) := by decide +kernel
theorem dJx4a65c_grow_92f84_31 : decode cJx4a65c_grow_92f84 31 = .ok (.aload_n 0, 1) := by decide +kernel
theorem dJx4a65c_grow_92f84_32 : decode cJx4a65c_grow_92f84 32 = .ok (.aload_n 0, 1) := by decide +kernel
theorem dJx4a65c_grow_92f84_33 : decode cJx4a65c_grow_92f84 33 = .ok (.getfield 9, 3) := by decide +kernel
theorem dJx4a65c_grow_92f84_36 : decode cJx4a65c_grow_92f84 36 = .ok (.iload_n 3, 1) := by decide +kernel
theorem dJx4a65c_grow_92f84_37 : decode cJx4a65c_grow_92f84 37 = .ok (.invokestatic 66, 3) := by decide +kernel
theorem dJx4a65c_grow_92f84_40 : decode cJx4a65c_grow_92f84 40 = .ok (.dup_x1, 1) := by decide +kernel
theorem dJx4a65c_grow_92f84_41 : decode cJx4a65c_grow_92f84 41 = .ok (.putfield 9, 3) := by decide +kernel
theorem dJx4a65c_grow_92f84_44 : decode cJx4a65c_grow_92f84 44 = .ok (.areturn, 1) := by decide +kernel
theorem dJx4a65c_grow_92f84_45 : decode cJx4a65c_grow_92f84 45 = .ok (.aload_n 0, 1) := by decide +kernel
theorem dJx4a65c_grow_92f84_46 : decode cJx4a65c_grow_92f84 46 = .ok (.bipush 10, 2) := by decide +kernel
theorem dJx4a65c_grow_92f84_48 : decode cJx4a65c_grow_92f84 48 = .ok (.iload_n 1, 1) := by decide +kernel
theorem dJx4a65c_grow_92f84_49 : decode cJx4a65c_grow_92f84 49 = .ok (.invokestatic 79, 3) := by decide +kernel
theorem dJx4a65c_grow_92f84_52 : decode cJx4a65c_grow_92f84 52 = .ok (.anewarray 7, 3) := by decide +kernel
theorem dJx4a65c_grow_92f84_55 : decode cJx4a65c_grow_92f84 55 = .ok (.dup_x1, 1) := by decide +kernel
theorem dJx4a65c_grow_92f84_56 : decode cJx4a65c_grow_92f84 56 = .ok (.putfield 9, 3) := by decide +kernel
theorem dJx4a65c_grow_92f84_59 : decode cJx4a65c_grow_92f84 59 = .ok (.areturn, 1) := by decide +kernel
theorem dJx4a65c_grow_d5877_0 : decode cJx4a65c_grow_d5877 0 = .ok (.aload_n 0, 1) := by decide +kernel
theorem dJx4a65c_grow_d5877_1 : decode cJx4a65c_grow_d5877 1 = .ok (.aload_n 0, 1) := by decide +kernel
theorem dJx4a65c_grow_d5877_2 : decode cJx4a65c_grow_d5877 2 = .ok (.getfield 48, 3) := by decide +kernel
theorem dJx4a65c_grow_d5877_5 : decode cJx4a65c_grow_d5877 5 = .ok (.iconst 1, 1) := by decide +kernel
theorem dJx4a65c_grow_d5877_6 : decode cJx4a65c_grow_d5877 6 = .ok (.iadd, 1) := by decide +kernel
theorem dJx4a65c_grow_d5877_7 : decode cJx4a65c_grow_d5877 7 = .ok (.invokevirtual 69, 3) := by decide +kernel
theorem dJx4a65c_grow_d5877_10 : decode cJx4a65c_grow_d5877 10 = .ok (.areturn, 1) := by decide +kernel
theorem dJx4a65c_size_8abf5_0 : decode cJx4a65c_size_8abf5 0 = .ok (.aload_n 0, 1) := by decide +kernel
theorem dJx4a65c_size_8abf5_1 : decode cJx4a65c_size_8abf5 1 = .ok (.getfield 48, 3) := by decide +kernel
theorem dJx4a65c_size_8abf5_4 : decode cJx4a65c_size_8abf5 4 = .ok (.ireturn, 1) := by decide +kernel
theorem dJx4a65c_elementData_915e3_0 : decode cJx4a65c_elementData_915e3 0 = .ok (.aload_n 0, 1) := by decide +kernel
theorem dJx4a65c_elementData_915e3_1 : decode cJx4a65c_elementData_915e3 1 = .ok (.getfield 9, 3) := by decide +kernel
theorem dJx4a65c_elementData_915e3_4 : decode cJx4a65c_elementData_915e3 4 = .ok (.iload_n 1, 1) := by decide +kernel
theorem dJx4a65c_elementData_915e3_5 : decode cJx4a65c_elementData_915e3 5 = .ok (.aaload, 1) := by decide +kernel
theorem dJx4a65c_elementData_915e3_6 : decode cJx4a65c_elementData_915e3 6 = .ok (.areturn, 1) := by decide +kernel
theorem dJx4a65c_get_915e3_0 : decode cJx4a65c_get_915e3 0 = .ok (.iload_n 1, 1) := by decide +kernel
theorem dJx4a65c_get_915e3_1 : decode cJx4a65c_get_915e3 1 = .ok (.aload_n 0, 1) := by decide +kernel
theorem dJx4a65c_get_915e3_2 : decode cJx4a65c_get_915e3 2 = .ok (.getfield 48, 3) := by decide +kernel
theorem dJx4a65c_get_915e3_5 : decode cJx4a65c_get_915e3 5 = .ok (.invokestatic 118, 3) := by decide +kernel
theorem dJx4a65c_get_915e3_8 : decode cJx4a65c_get_915e3 8 = .ok (.pop, 1) := by decide +kernel
theorem dJx4a65c_get_915e3_9 : decode cJx4a65c_get_915e3 9 = .ok (.aload_n 0, 1) := by decide +kernel
theorem dJx4a65c_get_915e3_10 : decode cJx4a65c_get_915e3 10 = .ok (.iload_n 1, 1) := by decide +kernel
theorem dJx4a65c_get_915e3_11 : decode cJx4a65c_get_915e3 11 = .ok (.invokevirtual 123, 3) := by decide +kernel
theorem dJx4a65c_get_915e3_14 : decode cJx4a65c_get_915e3 14 = .ok (.areturn, 1) := by decide +kernel
theorem dJx4a65c_add_72be8_0 : decode cJx4a65c_add_72be8 0 = .ok (.iload_n 3, 1) := by decide +kernel
theorem dJx4a65c_add_72be8_1 : decode cJx4a65c_add_72be8 1 = .ok (.aload_n 2, 1) := by decide +kernel
theorem dJx4a65c_add_72be8_2 : decode cJx4a65c_add_72be8 2 = .ok (.arraylength, 1) := by decide +kernel
theorem dJx4a65c_add_72be8_3 : decode cJx4a65c_add_72be8 3 = .ok (.if_icmp .ne 8, 3) := by decide +kernel
theorem dJx4a65c_add_72be8_6 : decode cJx4a65c_add_72be8 6 = .ok (.aload_n 0, 1) := by decide +kernel
theorem dJx4a65c_add_72be8_7 : decode cJx4a65c_add_72be8 7 = .ok (.invokevirtual 129, 3) := by decide +kernel
theorem dJx4a65c_add_72be8_10 : decode cJx4a65c_add_72be8 10 = .ok (.astore_n 2, 1) := by decide +kernel
theorem dJx4a65c_add_72be8_11 : decode cJx4a65c_add_72be8 11 = .ok (.aload_n 2, 1) := by decide +kernel
theorem dJx4a65c_add_72be8_12 : decode cJx4a65c_add_72be8 12 = .ok (.iload_n 3, 1) := by decide +kernel
theorem dJx4a65c_add_72be8_13 : decode cJx4a65c_add_72be8 13 = .ok (.aload_n 1, 1) := by decide +kernel
theorem dJx4a65c_add_72be8_14 : decode cJx4a65c_add_72be8 14 = .ok (.aastore, 1) := by decide +kernel
theorem dJx4a65c_add_72be8_15 : decode cJx4a65c_add_72be8 15 = .ok (.aload_n 0, 1) := by decide +kernel
theorem dJx4a65c_add_72be8_16 : decode cJx4a65c_add_72be8 16 = .ok (.iload_n 3, 1) := by decide +kernel
theorem dJx4a65c_add_72be8_17 : decode cJx4a65c_add_72be8 17 = .ok (.iconst 1, 1) := by decide +kernel
theorem dJx4a65c_add_72be8_18 : decode cJx4a65c_add_72be8 18 = .ok (.iadd, 1) := by decide +kernel
theorem dJx4a65c_add_72be8_19 : decode cJx4a65c_add_72be8 19 = .ok (.putfield 48, 3) := by decide +kernel
theorem dJx4a65c_add_72be8_22 : decode cJx4a65c_add_72be8 22 = .ok (.return_, 1) := by decide +kernel
theorem dJx4a65c_add_9ea2d_0 : decode cJx4a65c_add_9ea2d 0 = .ok (.aload_n 0, 1) := by decide +kernel
theorem dJx4a65c_add_9ea2d_1 : decode cJx4a65c_add_9ea2d 1 = .ok (.dup, 1) := by decide +kernel
theorem dJx4a65c_add_9ea2d_2 : decode cJx4a65c_add_9ea2d 2 = .ok (.getfield 63, 3) := by decide +kernel
theorem dJx4a65c_add_9ea2d_5 : decode cJx4a65c_add_9ea2d 5 = .ok (.iconst 1, 1) := by decide +kernel
theorem dJx4a65c_add_9ea2d_6 : decode cJx4a65c_add_9ea2d 6 = .ok (.iadd, 1) := by decide +kernel
theorem dJx4a65c_add_9ea2d_7 : decode cJx4a65c_add_9ea2d 7 = .ok (.putfield 63, 3) := by decide +kernel
theorem dJx4a65c_add_9ea2d_10 : decode cJx4a65c_add_9ea2d 10 = .ok (.aload_n 0, 1) := by decide +kernel
theorem dJx4a65c_add_9ea2d_11 : decode cJx4a65c_add_9ea2d 11 = .ok (.aload_n 1, 1) := by decide +kernel
theorem dJx4a65c_add_9ea2d_12 : decode cJx4a65c_add_9ea2d 12 = .ok (.aload_n 0, 1) := by decide +kernel
theorem dJx4a65c_add_9ea2d_13 : decode cJx4a65c_add_9ea2d 13 = .ok (.getfield 9, 3) := by decide +kernel
theorem dJx4a65c_add_9ea2d_16 : decode cJx4a65c_add_9ea2d 16 = .ok (.aload_n 0, 1) := by decide +kernel
theorem dJx4a65c_add_9ea2d_17 : decode cJx4a65c_add_9ea2d 17 = .ok (.getfield 48, 3) := by decide +kernel
theorem dJx4a65c_add_9ea2d_20 : decode cJx4a65c_add_9ea2d 20 = .ok (.invokevirtual 131, 3) := by decide +kernel
theorem dJx4a65c_add_9ea2d_23 : decode cJx4a65c_add_9ea2d 23 = .ok (.iconst 1, 1) := by decide +kernel
theorem dJx4a65c_add_9ea2d_24 : decode cJx4a65c_add_9ea2d 24 = .ok (.ireturn, 1) := by decide +kernel
theorem dJ7_fill_53178_0 : decode cJ7_fill_53178 0 = .ok (.iconst 0, 1) := by decide +kernel
theorem dJ7_fill_53178_1 : decode cJ7_fill_53178 1 = .ok (.istore_n 2, 1) := by decide +kernel
theorem dJ7_fill_53178_2 : decode cJ7_fill_53178 2 = .ok (.aload_n 0, 1) := by decide +kernel
theorem dJ7_fill_53178_3 : decode cJ7_fill_53178 3 = .ok (.arraylength, 1) := by decide +kernel
theorem dJ7_fill_53178_4 : decode cJ7_fill_53178 4 = .ok (.istore_n 3, 1) := by decide +kernel
theorem dJ7_fill_53178_5 : decode cJ7_fill_53178 5 = .ok (.iload_n 2, 1) := by decide +kernel
theorem dJ7_fill_53178_6 : decode cJ7_fill_53178 6 = .ok (.iload_n 3, 1) := by decide +kernel
theorem dJ7_fill_53178_7 : decode cJ7_fill_53178 7 = .ok (.if_icmp .ge 13, 3) := by decide +kernel
theorem dJ7_fill_53178_10 : decode cJ7_fill_53178 10 = .ok (.aload_n 0, 1) := by decide +kernel
theorem dJ7_fill_53178_11 : decode cJ7_fill_53178 11 = .ok (.iload_n 2, 1) := by decide +kernel
theorem dJ7_fill_53178_12 : decode cJ7_fill_53178 12 = .ok (.iload_n 1, 1) := by decide +kernel
theorem dJ7_fill_53178_13 : decode cJ7_fill_53178 13 = .ok (.iastore, 1) := by decide +kernel
theorem dJ7_fill_53178_14 : decode cJ7_fill_53178 14 = .ok (.iinc 2 1, 3) := by decide +kernel
theorem dJ7_fill_53178_17 : decode cJ7_fill_53178 17 = .ok (.goto (-12), 3) := by decide +kernel
theorem dJ7_fill_53178_20 : decode cJ7_fill_53178 20 = .ok (.return_, 1) := by decide +kernel
theorem dJ7_copyOf_1904c_0 : decode cJ7_copyOf_1904c 0 = .ok (.aload_n 0, 1) := by decide +kernel
theorem dJ7_copyOf_1904c_1 : decode cJ7_copyOf_1904c 1 = .ok (.iload_n 1, 1) := by decide +kernel
theorem dJ7_copyOf_1904c_2 : decode cJ7_copyOf_1904c 2 = .ok (.aload_n 0, 1) := by decide +kernel
theorem dJ7_copyOf_1904c_3 : decode cJ7_copyOf_1904c 3 = .ok (.invokevirtual 86, 3) := by decide +kernel
theorem dJ7_copyOf_1904c_6 : decode cJ7_copyOf_1904c 6 = .ok (.invokestatic 300, 3) := by decide +kernel
theorem dJ7_copyOf_1904c_9 : decode cJ7_copyOf_1904c 9 = .ok (.areturn, 1) := by decide +kernel
theorem dJ7_copyOf_6403c_0 : decode cJ7_copyOf_6403c 0 = .ok (.aload_n 2, 1) := by decide +kernel
theorem dJ7_copyOf_6403c_1 : decode cJ7_copyOf_6403c 1 = .ok (.ldc 110, 2) := by decide +kernel
theorem dJ7_copyOf_6403c_3 : decode cJ7_copyOf_6403c 3 = .ok (.if_acmp .ne 10, 3) := by decide +kernel
theorem dJ7_copyOf_6403c_6 : decode cJ7_copyOf_6403c 6 = .ok (.iload_n 1, 1) := by decide +kernel
theorem dJ7_copyOf_6403c_7 : decode cJ7_copyOf_6403c 7 = .ok (.anewarray 2, 3) := by decide +kernel
theorem dJ7_copyOf_6403c_10 : decode cJ7_copyOf_6403c 10 = .ok (.goto 14, 3) := by decide +kernel
theorem dJ7_copyOf_6403c_13 : decode cJ7_copyOf_6403c 13 = .ok (.aload_n 2, 1) := by decide +kernel
theorem dJ7_copyOf_6403c_14 : decode cJ7_copyOf_6403c 14 = .ok (.invokevirtual 90, 3) := by decide +kernel
theorem dJ7_copyOf_6403c_17 : decode cJ7_copyOf_6403c 17 = .ok (.iload_n 1, 1) := by decide +kernel
theorem dJ7_copyOf_6403c_18 : decode cJ7_copyOf_6403c 18 = .ok (.invokestatic 95, 3) := by decide +kernel
theorem dJ7_copyOf_6403c_21 : decode cJ7_copyOf_6403c 21 = .ok (.checkcast 110, 3) := by decide +kernel
theorem dJ7_copyOf_6403c_24 : decode cJ7_copyOf_6403c 24 = .ok (.astore_n 3, 1) := by decide +kernel
theorem dJ7_copyOf_6403c_25 : decode cJ7_copyOf_6403c 25 = .ok (.aload_n 0, 1) := by decide +kernel
theorem dJ7_copyOf_6403c_26 : decode cJ7_copyOf_6403c 26 = .ok (.iconst 0, 1) := by decide +kernel
theorem dJ7_copyOf_6403c_27 : decode cJ7_copyOf_6403c 27 = .ok (.aload_n 3, 1) := by decide +kernel
theorem dJ7_copyOf_6403c_28 : decode cJ7_copyOf_6403c 28 = .ok (.iconst 0, 1) := by decide +kernel
theorem dJ7_copyOf_6403c_29 : decode cJ7_copyOf_6403c 29 = .ok (.aload_n 0, 1) := by decide +kernel
theorem dJ7_copyOf_6403c_30 : decode cJ7_copyOf_6403c 30 = .ok (.arraylength, 1) := by decide +kernel
theorem dJ7_copyOf_6403c_31 : decode cJ7_copyOf_6403c 31 = .ok (.iload_n 1, 1) := by decide +kernel
theorem dJ7_copyOf_6403c_32 : decode cJ7_copyOf_6403c 32 = .ok (.invokestatic 304, 3) := by decide +kernel
theorem dJ7_copyOf_6403c_35 : decode cJ7_copyOf_6403c 35 = .ok (.invokestatic 150, 3) := by decide +kernel
theorem dJ7_copyOf_6403c_38 : decode cJ7_copyOf_6403c 38 = .ok (.aload_n 3, 1) := by decide +kernel
theorem dJ7_copyOf_6403c_39 : decode cJ7_copyOf_6403c 39 = .ok (.areturn, 1) := by decide +kernel
theorem dJ15_checkIndex_7cf53_0 : decode cJ15_checkIndex_7cf53 0 = .ok (.iload_n 0, 1) := by decide +kernel
theorem dJ15_checkIndex_7cf53_1 : decode cJ15_checkIndex_7cf53 1 = .ok (.iload_n 1, 1) := by decide +kernel
theorem dJ15_checkIndex_7cf53_2 : decode cJ15_checkIndex_7cf53 2 = .ok (.aconst_null, 1) := by decide +kernel
theorem dJ15_checkIndex_7cf53_3 : decode cJ15_checkIndex_7cf53 3 = .ok (.invokestatic 105, 3) := by decide +kernel
theorem dJ15_checkIndex_7cf53_6 : decode cJ15_checkIndex_7cf53 6 = .ok (.ireturn, 1) := by decide +kernel
theorem dJ8_newLength_cabcc_0 : decode cJ8_newLength_cabcc 0 = .ok (.iload_n 0, 1) := by decide +kernel
theorem dJ8_newLength_cabcc_1 : decode cJ8_newLength_cabcc 1 = .ok (.iload_n 1, 1) := by decide +kernel
theorem dJ8_newLength_cabcc_2 : decode cJ8_newLength_cabcc 2 = .ok (.iload_n 2, 1) := by decide +kernel
theorem dJ8_newLength_cabcc_3 : decode cJ8_newLength_cabcc 3 = .ok (.invokestatic 194, 3) := by decide +kernel
theorem dJ8_newLength_cabcc_6 : decode cJ8_newLength_cabcc 6 = .ok (.iadd, 1) := by decide +kernel
theorem dJ8_newLength_cabcc_7 : decode cJ8_newLength_cabcc 7 = .ok (.istore_n 3, 1) := by decide +kernel
theorem dJ8_newLength_cabcc_8 : decode cJ8_newLength_cabcc 8 = .ok (.iconst 0, 1) := by decide +kernel
theorem dJ8_newLength_cabcc_9 : decode cJ8_newLength_cabcc 9 = .ok (.iload_n 3, 1) := by decide +kernel
theorem dJ8_newLength_cabcc_10 : decode cJ8_newLength_cabcc 10 = .ok (.if_icmp .ge 11, 3) := by decide +kernel
theorem dJ8_newLength_cabcc_13 : decode cJ8_newLength_cabcc 13 = .ok (.iload_n 3, 1) := by decide +kernel
theorem dJ8_newLength_cabcc_14 : decode cJ8_newLength_cabcc 14 = .ok (.ldc 200, 2) := by decide +kernel
theorem dJ8_newLength_cabcc_16 : decode cJ8_newLength_cabcc 16 = .ok (.if_icmp .gt 5, 3) := by decide +kernel
theorem dJ8_newLength_cabcc_19 : decode cJ8_newLength_cabcc 19 = .ok (.iload_n 3, 1) := by decide +kernel
theorem dJ8_newLength_cabcc_20 : decode cJ8_newLength_cabcc 20 = .ok (.ireturn, 1) := by decide +kernel
theorem dJ8_newLength_cabcc_21 : decode cJ8_newLength_cabcc 21 = .ok (.iload_n 0, 1) := by decide +kernel
theorem dJ8_newLength_cabcc_22 : decode cJ8_newLength_cabcc 22 = .ok (.iload_n 1, 1) := by decide +kernel
theorem dJ8_newLength_cabcc_23 : decode cJ8_newLength_cabcc 23 = .ok (.invokestatic 201, 3) := by decide +kernel
theorem dJ8_newLength_cabcc_26 : decode cJ8_newLength_cabcc 26 = .ok (.ireturn, 1) := by decide +kernel
theorem dJ8_hugeLength_7cf53_0 : decode cJ8_hugeLength_7cf53 0 = .ok (.iload_n 0, 1) := by decide +kernel
theorem dJ8_hugeLength_7cf53_1 : decode cJ8_hugeLength_7cf53 1 = .ok (.iload_n 1, 1) := by decide +kernel
theorem dJ8_hugeLength_7cf53_2 : decode cJ8_hugeLength_7cf53 2 = .ok (.iadd, 1) := by decide +kernel
theorem dJ8_hugeLength_7cf53_3 : decode cJ8_hugeLength_7cf53 3 = .ok (.istore_n 2, 1) := by decide +kernel
theorem dJ8_hugeLength_7cf53_4 : decode cJ8_hugeLength_7cf53 4 = .ok (.iload_n 2, 1) := by decide +kernel
theorem dJ8_hugeLength_7cf53_5 : decode cJ8_hugeLength_7cf53 5 = .ok (.ifCond .ge 44, 3) := by decide +kernel
theorem dJ8_hugeLength_7cf53_8 : decode cJ8_hugeLength_7cf53 8 = .ok (.new 204, 3) := by decide +kernel
theorem dJ8_hugeLength_7cf53_11 : decode cJ8_hugeLength_7cf53 11 = .ok (.dup, 1) := by decide +kernel
theorem dJ8_hugeLength_7cf53_12 : decode cJ8_hugeLength_7cf53 12 = .ok (.new 89, 3) := by decide +kernel
theorem dJ8_hugeLength_7cf53_15 : decode cJ8_hugeLength_7cf53 15 = .ok (.dup, 1) := by decide +kernel
theorem dJ8_hugeLength_7cf53_16 : decode cJ8_hugeLength_7cf53 16 = .ok (.invokespecial 91, 3) := by decide +kernel
theorem dJ8_hugeLength_7cf53_19 : decode cJ8_hugeLength_7cf53 19 = .ok (.ldc 206, 2) := by decide +kernel
theorem dJ8_hugeLength_7cf53_21 : decode cJ8_hugeLength_7cf53 21 = .ok (.invokevirtual 94, 3) := by decide +kernel
theorem dJ8_hugeLength_7cf53_24 : decode cJ8_hugeLength_7cf53 24 = .ok (.iload_n 0, 1) := by decide +kernel
theorem dJ8_hugeLength_7cf53_25 : decode cJ8_hugeLength_7cf53 25 = .ok (.invokevirtual 98, 3) := by decide +kernel
theorem dJ8_hugeLength_7cf53_28 : decode cJ8_hugeLength_7cf53 28 = .ok (.ldc 208, 2) := by decide +kernel
theorem dJ8_hugeLength_7cf53_30 : decode cJ8_hugeLength_7cf53 30 = .ok (.invokevirtual 94, 3) := by decide +kernel
theorem dJ8_hugeLength_7cf53_33 : decode cJ8_hugeLength_7cf53 33 = .ok (.iload_n 1, 1) := by decide +kernel
theorem dJ8_hugeLength_7cf53_34 : decode cJ8_hugeLength_7cf53 34 = .ok (.invokevirtual 98, 3) := by decide +kernel
theorem dJ8_hugeLength_7cf53_37 : decode cJ8_hugeLength_7cf53 37 = .ok (.ldc 210, 2) := by decide +kernel
theorem dJ8_hugeLength_7cf53_39 : decode cJ8_hugeLength_7cf53 39 = .ok (.invokevirtual 94, 3) := by decide +kernel
theorem dJ8_hugeLength_7cf53_42 : decode cJ8_hugeLength_7cf53 42 = .ok (.invokevirtual 101, 3) := by decide +kernel
theorem dJ8_hugeLength_7cf53_45 : decode cJ8_hugeLength_7cf53 45 = .ok (.invokespecial 212, 3) := by decide +kernel
theorem dJ8_hugeLength_7cf53_48 : decode cJ8_hugeLength_7cf53 48 = .ok (.athrow, 1) := by decide +kernel
theorem dJ8_hugeLength_7cf53_49 : decode cJ8_hugeLength_7cf53 49 = .ok (.iload_n 2, 1) := by decide +kernel
theorem dJ8_hugeLength_7cf53_50 : decode cJ8_hugeLength_7cf53 50 = .ok (.ldc 200, 2) := by decide +kernel
theorem dJ8_hugeLength_7cf53_52 : decode cJ8_hugeLength_7cf53 52 = .ok (.if_icmp .gt 6, 3) := by decide +kernel
theorem dJ8_hugeLength_7cf53_55 : decode cJ8_hugeLength_7cf53 55 = .ok (.ldc 200, 2) := by decide +kernel
theorem dJ8_hugeLength_7cf53_57 : decode cJ8_hugeLength_7cf53 57 = .ok (.ireturn, 1) := by decide +kernel
theorem dJ8_hugeLength_7cf53_58 : decode cJ8_hugeLength_7cf53 58 = .ok (.iload_n 2, 1) := by decide +kernel
theorem dJ8_hugeLength_7cf53_59 : decode cJ8_hugeLength_7cf53 59 = .ok (.ireturn, 1) := by decide +kernel
theorem dJ3_checkIndex_8e157_0 : decode cJ3_checkIndex_8e157 0 = .ok (.iload_n 0, 1) := by decide +kernel
theorem dJ3_checkIndex_8e157_1 : decode cJ3_checkIndex_8e157 1 = .ok (.ifCond .lt 8, 3) := by decide +kernel
theorem dJ3_checkIndex_8e157_4 : decode cJ3_checkIndex_8e157 4 = .ok (.iload_n 0, 1) := by decide +kernel
theorem dJ3_checkIndex_8e157_5 : decode cJ3_checkIndex_8e157 5 = .ok (.iload_n 1, 1) := by decide +kernel
theorem dJ3_checkIndex_8e157_6 : decode cJ3_checkIndex_8e157 6 = .ok (.if_icmp .lt 10, 3) := by decide +kernel
theorem dJ3_checkIndex_8e157_9 : decode cJ3_checkIndex_8e157 9 = .ok (.aload_n 2, 1) := by decide +kernel
theorem dJ3_checkIndex_8e157_10 : decode cJ3_checkIndex_8e157 10 = .ok (.iload_n 0, 1) := by decide +kernel
theorem dJ3_checkIndex_8e157_11 : decode cJ3_checkIndex_8e157 11 = .ok (.iload_n 1, 1) := by decide +kernel
theorem dJ3_checkIndex_8e157_12 : decode cJ3_checkIndex_8e157 12 = .ok (.invokestatic 95, 3) := by decide +kernel
theorem dJ3_checkIndex_8e157_15 : decode cJ3_checkIndex_8e157 15 = .ok (.athrow, 1) := by decide +kernel
theorem dJ3_checkIndex_8e157_16 : decode cJ3_checkIndex_8e157 16 = .ok (.iload_n 0, 1) := by decide +kernel
theorem dJ3_checkIndex_8e157_17 : decode cJ3_checkIndex_8e157 17 = .ok (.ireturn, 1) := by decide +kernel
