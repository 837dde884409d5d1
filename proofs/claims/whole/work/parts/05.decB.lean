theorem dX5_init_0 : decode cX5_init 0 = .ok (.aload_n 0, 1) := by decide +kernel
theorem dX5_init_1 : decode cX5_init 1 = .ok (.invokespecial 3, 3) := by decide +kernel
theorem dX5_init_4 : decode cX5_init 4 = .ok (.aload_n 0, 1) := by decide +kernel
theorem dX5_init_5 : decode cX5_init 5 = .ok (.bipush 36, 2) := by decide +kernel
theorem dX5_init_7 : decode cX5_init 7 = .ok (.newarray .long, 2) := by decide +kernel
theorem dX5_init_9 : decode cX5_init 9 = .ok (.putfield 9, 3) := by decide +kernel
theorem dX5_init_12 : decode cX5_init 12 = .ok (.aload_n 0, 1) := by decide +kernel
theorem dX5_init_13 : decode cX5_init 13 = .ok (.sipush 2257, 3) := by decide +kernel
theorem dX5_init_16 : decode cX5_init 16 = .ok (.newarray .long, 2) := by decide +kernel
theorem dX5_init_18 : decode cX5_init 18 = .ok (.putfield 15, 3) := by decide +kernel
theorem dX5_init_21 : decode cX5_init 21 = .ok (.aload_n 0, 1) := by decide +kernel
theorem dX5_init_22 : decode cX5_init 22 = .ok (.bipush 81, 2) := by decide +kernel
theorem dX5_init_24 : decode cX5_init 24 = .ok (.newarray .long, 2) := by decide +kernel
theorem dX5_init_26 : decode cX5_init 26 = .ok (.putfield 18, 3) := by decide +kernel
theorem dX5_init_29 : decode cX5_init 29 = .ok (.aload_n 0, 1) := by decide +kernel
theorem dX5_init_30 : decode cX5_init 30 = .ok (.bipush 61, 2) := by decide +kernel
theorem dX5_init_32 : decode cX5_init 32 = .ok (.newarray .long, 2) := by decide +kernel
theorem dX5_init_34 : decode cX5_init 34 = .ok (.putfield 21, 3) := by decide +kernel
theorem dX5_init_37 : decode cX5_init 37 = .ok (.aload_n 0, 1) := by decide +kernel
theorem dX5_init_38 : decode cX5_init 38 = .ok (.bipush 61, 2) := by decide +kernel
theorem dX5_init_40 : decode cX5_init 40 = .ok (.newarray .long, 2) := by decide +kernel
theorem dX5_init_42 : decode cX5_init 42 = .ok (.putfield 24, 3) := by decide +kernel
theorem dX5_init_45 : decode cX5_init 45 = .ok (.return_, 1) := by decide +kernel
theorem dX5_sumPrices_0 : decode cX5_sumPrices 0 = .ok (.aload_n 0, 1) := by decide +kernel
theorem dX5_sumPrices_1 : decode cX5_sumPrices 1 = .ok (.iload_n 2, 1) := by decide +kernel
theorem dX5_sumPrices_2 : decode cX5_sumPrices 2 = .ok (.invokestatic 27, 3) := by decide +kernel
theorem dX5_sumPrices_5 : decode cX5_sumPrices 5 = .ok (.putfield 33, 3) := by decide +kernel
theorem dX5_sumPrices_8 : decode cX5_sumPrices 8 = .ok (.aload_n 0, 1) := by decide +kernel
theorem dX5_sumPrices_9 : decode cX5_sumPrices 9 = .ok (.getfield 9, 3) := by decide +kernel
theorem dX5_sumPrices_12 : decode cX5_sumPrices 12 = .ok (.lconst 0, 1) := by decide +kernel
theorem dX5_sumPrices_13 : decode cX5_sumPrices 13 = .ok (.invokestatic 37, 3) := by decide +kernel
theorem dX5_sumPrices_16 : decode cX5_sumPrices 16 = .ok (.iconst 0, 1) := by decide +kernel
theorem dX5_sumPrices_17 : decode cX5_sumPrices 17 = .ok (.istore_n 3, 1) := by decide +kernel
theorem dX5_sumPrices_18 : decode cX5_sumPrices 18 = .ok (.iload_n 3, 1) := by decide +kernel
theorem dX5_sumPrices_19 : decode cX5_sumPrices 19 = .ok (.aload_n 1, 1) := by decide +kernel
theorem dX5_sumPrices_20 : decode cX5_sumPrices 20 = .ok (.arraylength, 1) := by decide +kernel
theorem dX5_sumPrices_21 : decode cX5_sumPrices 21 = .ok (.if_icmp .ge 52, 3) := by decide +kernel
theorem dX5_sumPrices_24 : decode cX5_sumPrices 24 = .ok (.iconst 0, 1) := by decide +kernel
theorem dX5_sumPrices_25 : decode cX5_sumPrices 25 = .ok (.istore 4, 2) := by decide +kernel
theorem dX5_sumPrices_27 : decode cX5_sumPrices 27 = .ok (.iload 4, 2) := by decide +kernel
theorem dX5_sumPrices_29 : decode cX5_sumPrices 29 = .ok (.bipush 36, 2) := by decide +kernel
theorem dX5_sumPrices_31 : decode cX5_sumPrices 31 = .ok (.if_icmp .ge 36, 3) := by decide +kernel
theorem dX5_sumPrices_34 : decode cX5_sumPrices 34 = .ok (.iload_n 2, 1) := by decide +kernel
theorem dX5_sumPrices_35 : decode cX5_sumPrices 35 = .ok (.iload_n 3, 1) := by decide +kernel
theorem dX5_sumPrices_36 : decode cX5_sumPrices 36 = .ok (.invokestatic 43, 3) := by decide +kernel
theorem dX5_sumPrices_39 : decode cX5_sumPrices 39 = .ok (.ifCond .eq 28, 3) := by decide +kernel
theorem dX5_sumPrices_42 : decode cX5_sumPrices 42 = .ok (.aload_n 0, 1) := by decide +kernel
theorem dX5_sumPrices_43 : decode cX5_sumPrices 43 = .ok (.getfield 9, 3) := by decide +kernel
theorem dX5_sumPrices_46 : decode cX5_sumPrices 46 = .ok (.iload 4, 2) := by decide +kernel
theorem dX5_sumPrices_48 : decode cX5_sumPrices 48 = .ok (.dup2, 1) := by decide +kernel
theorem dX5_sumPrices_49 : decode cX5_sumPrices 49 = .ok (.laload, 1) := by decide +kernel
theorem dX5_sumPrices_50 : decode cX5_sumPrices 50 = .ok (.aload_n 1, 1) := by decide +kernel
theorem dX5_sumPrices_51 : decode cX5_sumPrices 51 = .ok (.iload_n 3, 1) := by decide +kernel
theorem dX5_sumPrices_52 : decode cX5_sumPrices 52 = .ok (.aaload, 1) := by decide +kernel
theorem dX5_sumPrices_53 : decode cX5_sumPrices 53 = .ok (.iload 4, 2) := by decide +kernel
theorem dX5_sumPrices_55 : decode cX5_sumPrices 55 = .ok (.invokevirtual 47, 3) := by decide +kernel
theorem dX5_sumPrices_58 : decode cX5_sumPrices 58 = .ok (.i2l, 1) := by decide +kernel
theorem dX5_sumPrices_59 : decode cX5_sumPrices 59 = .ok (.ladd, 1) := by decide +kernel
theorem dX5_sumPrices_60 : decode cX5_sumPrices 60 = .ok (.lastore, 1) := by decide +kernel
theorem dX5_sumPrices_61 : decode cX5_sumPrices 61 = .ok (.iinc 4 1, 3) := by decide +kernel
theorem dX5_sumPrices_64 : decode cX5_sumPrices 64 = .ok (.goto (-37), 3) := by decide +kernel
theorem dX5_sumPrices_67 : decode cX5_sumPrices 67 = .ok (.iinc 3 1, 3) := by decide +kernel
theorem dX5_sumPrices_70 : decode cX5_sumPrices 70 = .ok (.goto (-52), 3) := by decide +kernel
theorem dX5_sumPrices_73 : decode cX5_sumPrices 73 = .ok (.return_, 1) := by decide +kernel
theorem dX5_worthOf_0 : decode cX5_worthOf 0 = .ok (.aload_n 0, 1) := by decide +kernel
theorem dX5_worthOf_1 : decode cX5_worthOf 1 = .ok (.getfield 15, 3) := by decide +kernel
theorem dX5_worthOf_4 : decode cX5_worthOf 4 = .ok (.iload_n 1, 1) := by decide +kernel
theorem dX5_worthOf_5 : decode cX5_worthOf 5 = .ok (.bipush 61, 2) := by decide +kernel
theorem dX5_worthOf_7 : decode cX5_worthOf 7 = .ok (.imul, 1) := by decide +kernel
theorem dX5_worthOf_8 : decode cX5_worthOf 8 = .ok (.iload_n 2, 1) := by decide +kernel
theorem dX5_worthOf_9 : decode cX5_worthOf 9 = .ok (.iadd, 1) := by decide +kernel
theorem dX5_worthOf_10 : decode cX5_worthOf 10 = .ok (.laload, 1) := by decide +kernel
theorem dX5_worthOf_11 : decode cX5_worthOf 11 = .ok (.lreturn, 1) := by decide +kernel
theorem dX5_solve_0 : decode cX5_solve 0 = .ok (.iconst 0, 1) := by decide +kernel
theorem dX5_solve_1 : decode cX5_solve 1 = .ok (.istore 4, 2) := by decide +kernel
theorem dX5_solve_3 : decode cX5_solve 3 = .ok (.iload 4, 2) := by decide +kernel
theorem dX5_solve_5 : decode cX5_solve 5 = .ok (.bipush 61, 2) := by decide +kernel
theorem dX5_solve_7 : decode cX5_solve 7 = .ok (.if_icmp .ge 40, 3) := by decide +kernel
theorem dX5_solve_10 : decode cX5_solve 10 = .ok (.aload_n 0, 1) := by decide +kernel
theorem dX5_solve_11 : decode cX5_solve 11 = .ok (.getfield 15, 3) := by decide +kernel
theorem dX5_solve_14 : decode cX5_solve 14 = .ok (.aload_n 1, 1) := by decide +kernel
theorem dX5_solve_15 : decode cX5_solve 15 = .ok (.getfield 52, 3) := by decide +kernel
theorem dX5_solve_18 : decode cX5_solve 18 = .ok (.bipush 61, 2) := by decide +kernel
theorem dX5_solve_20 : decode cX5_solve 20 = .ok (.imul, 1) := by decide +kernel
theorem dX5_solve_21 : decode cX5_solve 21 = .ok (.iload 4, 2) := by decide +kernel
theorem dX5_solve_23 : decode cX5_solve 23 = .ok (.iadd, 1) := by decide +kernel
theorem dX5_solve_24 : decode cX5_solve 24 = .ok (.iload 4, 2) := by decide +kernel
theorem dX5_solve_26 : decode cX5_solve 26 = .ok (.aload_n 2, 1) := by decide +kernel
theorem dX5_solve_27 : decode cX5_solve 27 = .ok (.getfield 57, 3) := by decide +kernel
theorem dX5_solve_30 : decode cX5_solve 30 = .ok (.if_icmp .ge 9, 3) := by decide +kernel
theorem dX5_solve_33 : decode cX5_solve 33 = .ok (.ldc2_w 62, 3) := by decide +kernel
theorem dX5_solve_36 : decode cX5_solve 36 = .ok (.goto 4, 3) := by decide +kernel
theorem dX5_solve_39 : decode cX5_solve 39 = .ok (.lconst 0, 1) := by decide +kernel
theorem dX5_solve_40 : decode cX5_solve 40 = .ok (.lastore, 1) := by decide +kernel
theorem dX5_solve_41 : decode cX5_solve 41 = .ok (.iinc 4 1, 3) := by decide +kernel
theorem dX5_solve_44 : decode cX5_solve 44 = .ok (.goto (-41), 3) := by decide +kernel
theorem dX5_solve_47 : decode cX5_solve 47 = .ok (.aload_n 1, 1) := by decide +kernel
theorem dX5_solve_48 : decode cX5_solve 48 = .ok (.getfield 52, 3) := by decide +kernel
theorem dX5_solve_51 : decode cX5_solve 51 = .ok (.iconst 1, 1) := by decide +kernel
theorem dX5_solve_52 : decode cX5_solve 52 = .ok (.isub, 1) := by decide +kernel
theorem dX5_solve_53 : decode cX5_solve 53 = .ok (.istore 4, 2) := by decide +kernel
theorem dX5_solve_55 : decode cX5_solve 55 = .ok (.iload 4, 2) := by decide +kernel
theorem dX5_solve_57 : decode cX5_solve 57 = .ok (.iload_n 3, 1) := by decide +kernel
theorem dX5_solve_58 : decode cX5_solve 58 = .ok (.if_icmp .lt 56, 3) := by decide +kernel
theorem dX5_solve_61 : decode cX5_solve 61 = .ok (.aload_n 0, 1) := by decide +kernel
theorem dX5_solve_62 : decode cX5_solve 62 = .ok (.aload_n 1, 1) := by decide +kernel
theorem dX5_solve_63 : decode cX5_solve 63 = .ok (.aload_n 2, 1) := by decide +kernel
theorem dX5_solve_64 : decode cX5_solve 64 = .ok (.iload 4, 2) := by decide +kernel
theorem dX5_solve_66 : decode cX5_solve 66 = .ok (.invokevirtual 64, 3) := by decide +kernel
theorem dX5_solve_69 : decode cX5_solve 69 = .ok (.iconst 0, 1) := by decide +kernel
theorem dX5_solve_70 : decode cX5_solve 70 = .ok (.istore 5, 2) := by decide +kernel
theorem dX5_solve_72 : decode cX5_solve 72 = .ok (.iload 5, 2) := by decide +kernel
theorem dX5_solve_74 : decode cX5_solve 74 = .ok (.aload_n 2, 1) := by decide +kernel
theorem dX5_solve_75 : decode cX5_solve 75 = .ok (.getfield 68, 3) := by decide +kernel
theorem dX5_solve_78 : decode cX5_solve 78 = .ok (.if_icmp .gt 30, 3) := by decide +kernel
theorem dX5_solve_81 : decode cX5_solve 81 = .ok (.aload_n 0, 1) := by decide +kernel
theorem dX5_solve_82 : decode cX5_solve 82 = .ok (.getfield 15, 3) := by decide +kernel
theorem dX5_solve_85 : decode cX5_solve 85 = .ok (.iload 4, 2) := by decide +kernel
theorem dX5_solve_87 : decode cX5_solve 87 = .ok (.bipush 61, 2) := by decide +kernel
theorem dX5_solve_89 : decode cX5_solve 89 = .ok (.imul, 1) := by decide +kernel
theorem dX5_solve_90 : decode cX5_solve 90 = .ok (.iload 5, 2) := by decide +kernel
theorem dX5_solve_92 : decode cX5_solve 92 = .ok (.iadd, 1) := by decide +kernel
theorem dX5_solve_93 : decode cX5_solve 93 = .ok (.aload_n 0, 1) := by decide +kernel
theorem dX5_solve_94 : decode cX5_solve 94 = .ok (.iload 4, 2) := by decide +kernel
theorem dX5_solve_96 : decode cX5_solve 96 = .ok (.iload 5, 2) := by decide +kernel
theorem dX5_solve_98 : decode cX5_solve 98 = .ok (.invokevirtual 71, 3) := by decide +kernel
theorem dX5_solve_101 : decode cX5_solve 101 = .ok (.lastore, 1) := by decide +kernel
theorem dX5_solve_102 : decode cX5_solve 102 = .ok (.iinc 5 1, 3) := by decide +kernel
theorem dX5_solve_105 : decode cX5_solve 105 = .ok (.goto (-33), 3) := by decide +kernel
theorem dX5_solve_108 : decode cX5_solve 108 = .ok (.iinc 4 (-1), 3) := by decide +kernel
theorem dX5_solve_111 : decode cX5_solve 111 = .ok (.goto (-56), 3) := by decide +kernel
theorem dX5_solve_114 : decode cX5_solve 114 = .ok (.return_, 1) := by decide +kernel
theorem dX5_writeFirstBest_0 : decode cX5_writeFirstBest 0 = .ok (.aload_n 2, 1) := by decide +kernel
theorem dX5_writeFirstBest_1 : decode cX5_writeFirstBest 1 = .ok (.getfield 75, 3) := by decide +kernel
theorem dX5_writeFirstBest_4 : decode cX5_writeFirstBest 4 = .ok (.istore_n 3, 1) := by decide +kernel
theorem dX5_writeFirstBest_5 : decode cX5_writeFirstBest 5 = .ok (.iconst 0, 1) := by decide +kernel
theorem dX5_writeFirstBest_6 : decode cX5_writeFirstBest 6 = .ok (.istore 4, 2) := by decide +kernel
theorem dX5_writeFirstBest_8 : decode cX5_writeFirstBest 8 = .ok (.iload 4, 2) := by decide +kernel
theorem dX5_writeFirstBest_10 : decode cX5_writeFirstBest 10 = .ok (.aload_n 1, 1) := by decide +kernel
theorem dX5_writeFirstBest_11 : decode cX5_writeFirstBest 11 = .ok (.getfield 52, 3) := by decide +kernel
theorem dX5_writeFirstBest_14 : decode cX5_writeFirstBest 14 = .ok (.if_icmp .ge 40, 3) := by decide +kernel
theorem dX5_writeFirstBest_17 : decode cX5_writeFirstBest 17 = .ok (.aload_n 0, 1) := by decide +kernel
theorem dX5_writeFirstBest_18 : decode cX5_writeFirstBest 18 = .ok (.aload_n 1, 1) := by decide +kernel
theorem dX5_writeFirstBest_19 : decode cX5_writeFirstBest 19 = .ok (.aload_n 2, 1) := by decide +kernel
theorem dX5_writeFirstBest_20 : decode cX5_writeFirstBest 20 = .ok (.iload 4, 2) := by decide +kernel
theorem dX5_writeFirstBest_22 : decode cX5_writeFirstBest 22 = .ok (.invokevirtual 64, 3) := by decide +kernel
theorem dX5_writeFirstBest_25 : decode cX5_writeFirstBest 25 = .ok (.aload_n 0, 1) := by decide +kernel
theorem dX5_writeFirstBest_26 : decode cX5_writeFirstBest 26 = .ok (.iload 4, 2) := by decide +kernel
theorem dX5_writeFirstBest_28 : decode cX5_writeFirstBest 28 = .ok (.iload_n 3, 1) := by decide +kernel
theorem dX5_writeFirstBest_29 : decode cX5_writeFirstBest 29 = .ok (.invokevirtual 78, 3) := by decide +kernel
theorem dX5_writeFirstBest_32 : decode cX5_writeFirstBest 32 = .ok (.istore 5, 2) := by decide +kernel
theorem dX5_writeFirstBest_34 : decode cX5_writeFirstBest 34 = .ok (.aload_n 2, 1) := by decide +kernel
theorem dX5_writeFirstBest_35 : decode cX5_writeFirstBest 35 = .ok (.getfield 82, 3) := by decide +kernel
theorem dX5_writeFirstBest_38 : decode cX5_writeFirstBest 38 = .ok (.iload 4, 2) := by decide +kernel
theorem dX5_writeFirstBest_40 : decode cX5_writeFirstBest 40 = .ok (.iload 5, 2) := by decide +kernel
theorem dX5_writeFirstBest_42 : decode cX5_writeFirstBest 42 = .ok (.iastore, 1) := by decide +kernel
theorem dX5_writeFirstBest_43 : decode cX5_writeFirstBest 43 = .ok (.iload_n 3, 1) := by decide +kernel
theorem dX5_writeFirstBest_44 : decode cX5_writeFirstBest 44 = .ok (.iload 5, 2) := by decide +kernel
theorem dX5_writeFirstBest_46 : decode cX5_writeFirstBest 46 = .ok (.iadd, 1) := by decide +kernel
theorem dX5_writeFirstBest_47 : decode cX5_writeFirstBest 47 = .ok (.istore_n 3, 1) := by decide +kernel
theorem dX5_writeFirstBest_48 : decode cX5_writeFirstBest 48 = .ok (.iinc 4 1, 3) := by decide +kernel
theorem dX5_writeFirstBest_51 : decode cX5_writeFirstBest 51 = .ok (.goto (-43), 3) := by decide +kernel
theorem dX5_writeFirstBest_54 : decode cX5_writeFirstBest 54 = .ok (.return_, 1) := by decide +kernel
theorem dX5_waysOfBest_0 : decode cX5_waysOfBest 0 = .ok (.aload_n 0, 1) := by decide +kernel
theorem dX5_waysOfBest_1 : decode cX5_waysOfBest 1 = .ok (.getfield 21, 3) := by decide +kernel
theorem dX5_waysOfBest_4 : decode cX5_waysOfBest 4 = .ok (.lconst 0, 1) := by decide +kernel
theorem dX5_waysOfBest_5 : decode cX5_waysOfBest 5 = .ok (.invokestatic 37, 3) := by decide +kernel
theorem dX5_waysOfBest_8 : decode cX5_waysOfBest 8 = .ok (.aload_n 0, 1) := by decide +kernel
theorem dX5_waysOfBest_9 : decode cX5_waysOfBest 9 = .ok (.getfield 21, 3) := by decide +kernel
theorem dX5_waysOfBest_12 : decode cX5_waysOfBest 12 = .ok (.aload_n 2, 1) := by decide +kernel
theorem dX5_waysOfBest_13 : decode cX5_waysOfBest 13 = .ok (.getfield 75, 3) := by decide +kernel
theorem dX5_waysOfBest_16 : decode cX5_waysOfBest 16 = .ok (.lconst 1, 1) := by decide +kernel
theorem dX5_waysOfBest_17 : decode cX5_waysOfBest 17 = .ok (.lastore, 1) := by decide +kernel
theorem dX5_waysOfBest_18 : decode cX5_waysOfBest 18 = .ok (.iconst 0, 1) := by decide +kernel
theorem dX5_waysOfBest_19 : decode cX5_waysOfBest 19 = .ok (.istore_n 3, 1) := by decide +kernel
theorem dX5_waysOfBest_20 : decode cX5_waysOfBest 20 = .ok (.iload_n 3, 1) := by decide +kernel
theorem dX5_waysOfBest_21 : decode cX5_waysOfBest 21 = .ok (.aload_n 1, 1) := by decide +kernel
theorem dX5_waysOfBest_22 : decode cX5_waysOfBest 22 = .ok (.getfield 52, 3) := by decide +kernel
theorem dX5_waysOfBest_25 : decode cX5_waysOfBest 25 = .ok (.if_icmp .ge 64, 3) := by decide +kernel
theorem dX5_waysOfBest_28 : decode cX5_waysOfBest 28 = .ok (.aload_n 0, 1) := by decide +kernel
theorem dX5_waysOfBest_29 : decode cX5_waysOfBest 29 = .ok (.aload_n 1, 1) := by decide +kernel
theorem dX5_waysOfBest_30 : decode cX5_waysOfBest 30 = .ok (.aload_n 2, 1) := by decide +kernel
theorem dX5_waysOfBest_31 : decode cX5_waysOfBest 31 = .ok (.iload_n 3, 1) := by decide +kernel
theorem dX5_waysOfBest_32 : decode cX5_waysOfBest 32 = .ok (.invokevirtual 64, 3) := by decide +kernel
theorem dX5_waysOfBest_35 : decode cX5_waysOfBest 35 = .ok (.aload_n 0, 1) := by decide +kernel
theorem dX5_waysOfBest_36 : decode cX5_waysOfBest 36 = .ok (.getfield 24, 3) := by decide +kernel
theorem dX5_waysOfBest_39 : decode cX5_waysOfBest 39 = .ok (.lconst 0, 1) := by decide +kernel
theorem dX5_waysOfBest_40 : decode cX5_waysOfBest 40 = .ok (.invokestatic 37, 3) := by decide +kernel
theorem dX5_waysOfBest_43 : decode cX5_waysOfBest 43 = .ok (.iconst 0, 1) := by decide +kernel
theorem dX5_waysOfBest_44 : decode cX5_waysOfBest 44 = .ok (.istore 4, 2) := by decide +kernel
theorem dX5_waysOfBest_46 : decode cX5_waysOfBest 46 = .ok (.iload 4, 2) := by decide +kernel
theorem dX5_waysOfBest_48 : decode cX5_waysOfBest 48 = .ok (.aload_n 2, 1) := by decide +kernel
theorem dX5_waysOfBest_49 : decode cX5_waysOfBest 49 = .ok (.getfield 68, 3) := by decide +kernel
theorem dX5_waysOfBest_52 : decode cX5_waysOfBest 52 = .ok (.if_icmp .gt 16, 3) := by decide +kernel
theorem dX5_waysOfBest_55 : decode cX5_waysOfBest 55 = .ok (.aload_n 0, 1) := by decide +kernel
theorem dX5_waysOfBest_56 : decode cX5_waysOfBest 56 = .ok (.iload_n 3, 1) := by decide +kernel
theorem dX5_waysOfBest_57 : decode cX5_waysOfBest 57 = .ok (.iload 4, 2) := by decide +kernel
theorem dX5_waysOfBest_59 : decode cX5_waysOfBest 59 = .ok (.invokevirtual 86, 3) := by decide +kernel
theorem dX5_waysOfBest_62 : decode cX5_waysOfBest 62 = .ok (.iinc 4 1, 3) := by decide +kernel
theorem dX5_waysOfBest_65 : decode cX5_waysOfBest 65 = .ok (.goto (-19), 3) := by decide +kernel
theorem dX5_waysOfBest_68 : decode cX5_waysOfBest 68 = .ok (.aload_n 0, 1) := by decide +kernel
theorem dX5_waysOfBest_69 : decode cX5_waysOfBest 69 = .ok (.getfield 24, 3) := by decide +kernel
theorem dX5_waysOfBest_72 : decode cX5_waysOfBest 72 = .ok (.iconst 0, 1) := by decide +kernel
theorem dX5_waysOfBest_73 : decode cX5_waysOfBest 73 = .ok (.aload_n 0, 1) := by decide +kernel
theorem dX5_waysOfBest_74 : decode cX5_waysOfBest 74 = .ok (.getfield 21, 3) := by decide +kernel
theorem dX5_waysOfBest_77 : decode cX5_waysOfBest 77 = .ok (.iconst 0, 1) := by decide +kernel
theorem dX5_waysOfBest_78 : decode cX5_waysOfBest 78 = .ok (.bipush 61, 2) := by decide +kernel
theorem dX5_waysOfBest_80 : decode cX5_waysOfBest 80 = .ok (.invokestatic 90, 3) := by decide +kernel
theorem dX5_waysOfBest_83 : decode cX5_waysOfBest 83 = .ok (.iinc 3 1, 3) := by decide +kernel
theorem dX5_waysOfBest_86 : decode cX5_waysOfBest 86 = .ok (.goto (-66), 3) := by decide +kernel
theorem dX5_waysOfBest_89 : decode cX5_waysOfBest 89 = .ok (.lconst 0, 1) := by decide +kernel
theorem dX5_waysOfBest_90 : decode cX5_waysOfBest 90 = .ok (.lstore_n 3, 1) := by decide +kernel
theorem dX5_waysOfBest_91 : decode cX5_waysOfBest 91 = .ok (.iconst 0, 1) := by decide +kernel
theorem dX5_waysOfBest_92 : decode cX5_waysOfBest 92 = .ok (.istore 5, 2) := by decide +kernel
theorem dX5_waysOfBest_94 : decode cX5_waysOfBest 94 = .ok (.iload 5, 2) := by decide +kernel
theorem dX5_waysOfBest_96 : decode cX5_waysOfBest 96 = .ok (.bipush 61, 2) := by decide +kernel
theorem dX5_waysOfBest_98 : decode cX5_waysOfBest 98 = .ok (.if_icmp .ge 19, 3) := by decide +kernel
theorem dX5_waysOfBest_101 : decode cX5_waysOfBest 101 = .ok (.lload_n 3, 1) := by decide +kernel
theorem dX5_waysOfBest_102 : decode cX5_waysOfBest 102 = .ok (.aload_n 0, 1) := by decide +kernel
theorem dX5_waysOfBest_103 : decode cX5_waysOfBest 103 = .ok (.getfield 21, 3) := by decide +kernel
theorem dX5_waysOfBest_106 : decode cX5_waysOfBest 106 = .ok (.iload 5, 2) := by decide +kernel
theorem dX5_waysOfBest_108 : decode cX5_waysOfBest 108 = .ok (.laload, 1) := by decide +kernel
theorem dX5_waysOfBest_109 : decode cX5_waysOfBest 109 = .ok (.ladd, 1) := by decide +kernel
theorem dX5_waysOfBest_110 : decode cX5_waysOfBest 110 = .ok (.lstore_n 3, 1) := by decide +kernel
theorem dX5_waysOfBest_111 : decode cX5_waysOfBest 111 = .ok (.iinc 5 1, 3) := by decide +kernel
theorem dX5_waysOfBest_114 : decode cX5_waysOfBest 114 = .ok (.goto (-20), 3) := by decide +kernel
theorem dX5_waysOfBest_117 : decode cX5_waysOfBest 117 = .ok (.ldc2_w 96, 3) := by decide +kernel
theorem dX5_waysOfBest_120 : decode cX5_waysOfBest 120 = .ok (.lload_n 3, 1) := by decide +kernel
theorem dX5_waysOfBest_121 : decode cX5_waysOfBest 121 = .ok (.invokestatic 98, 3) := by decide +kernel
theorem dX5_waysOfBest_124 : decode cX5_waysOfBest 124 = .ok (.lreturn, 1) := by decide +kernel
theorem dX5_openStep_0 : decode cX5_openStep 0 = .ok (.aload_n 1, 1) := by decide +kernel
theorem dX5_openStep_1 : decode cX5_openStep 1 = .ok (.iload_n 3, 1) := by decide +kernel
theorem dX5_openStep_2 : decode cX5_openStep 2 = .ok (.invokevirtual 104, 3) := by decide +kernel
theorem dX5_openStep_5 : decode cX5_openStep 5 = .ok (.istore 4, 2) := by decide +kernel
theorem dX5_openStep_7 : decode cX5_openStep 7 = .ok (.aload_n 0, 1) := by decide +kernel
theorem dX5_openStep_8 : decode cX5_openStep 8 = .ok (.aload_n 1, 1) := by decide +kernel
theorem dX5_openStep_9 : decode cX5_openStep 9 = .ok (.getfield 107, 3) := by decide +kernel
theorem dX5_openStep_12 : decode cX5_openStep 12 = .ok (.iload_n 3, 1) := by decide +kernel
theorem dX5_openStep_13 : decode cX5_openStep 13 = .ok (.baload, 1) := by decide +kernel
theorem dX5_openStep_14 : decode cX5_openStep 14 = .ok (.ifCond .eq 7, 3) := by decide +kernel
theorem dX5_openStep_17 : decode cX5_openStep 17 = .ok (.iconst 0, 1) := by decide +kernel
theorem dX5_openStep_18 : decode cX5_openStep 18 = .ok (.goto 14, 3) := by decide +kernel
theorem dX5_openStep_21 : decode cX5_openStep 21 = .ok (.iconst 0, 1) := by decide +kernel
theorem dX5_openStep_22 : decode cX5_openStep 22 = .ok (.iload 4, 2) := by decide +kernel
theorem dX5_openStep_24 : decode cX5_openStep 24 = .ok (.aload_n 2, 1) := by decide +kernel
theorem dX5_openStep_25 : decode cX5_openStep 25 = .ok (.getfield 111, 3) := by decide +kernel
theorem dX5_openStep_28 : decode cX5_openStep 28 = .ok (.isub, 1) := by decide +kernel
theorem dX5_openStep_29 : decode cX5_openStep 29 = .ok (.invokestatic 114, 3) := by decide +kernel
theorem dX5_openStep_32 : decode cX5_openStep 32 = .ok (.putfield 116, 3) := by decide +kernel
theorem dX5_openStep_35 : decode cX5_openStep 35 = .ok (.aload_n 0, 1) := by decide +kernel
theorem dX5_openStep_36 : decode cX5_openStep 36 = .ok (.aload_n 1, 1) := by decide +kernel
theorem dX5_openStep_37 : decode cX5_openStep 37 = .ok (.getfield 107, 3) := by decide +kernel
theorem dX5_openStep_40 : decode cX5_openStep 40 = .ok (.iload_n 3, 1) := by decide +kernel
theorem dX5_openStep_41 : decode cX5_openStep 41 = .ok (.baload, 1) := by decide +kernel
theorem dX5_openStep_42 : decode cX5_openStep 42 = .ok (.ifCond .eq 7, 3) := by decide +kernel
theorem dX5_openStep_45 : decode cX5_openStep 45 = .ok (.iconst 0, 1) := by decide +kernel
theorem dX5_openStep_46 : decode cX5_openStep 46 = .ok (.goto 14, 3) := by decide +kernel
theorem dX5_openStep_49 : decode cX5_openStep 49 = .ok (.iconst 0, 1) := by decide +kernel
theorem dX5_openStep_50 : decode cX5_openStep 50 = .ok (.aload_n 2, 1) := by decide +kernel
theorem dX5_openStep_51 : decode cX5_openStep 51 = .ok (.getfield 119, 3) := by decide +kernel
theorem dX5_openStep_54 : decode cX5_openStep 54 = .ok (.iload 4, 2) := by decide +kernel
theorem dX5_openStep_56 : decode cX5_openStep 56 = .ok (.isub, 1) := by decide +kernel
theorem dX5_openStep_57 : decode cX5_openStep 57 = .ok (.invokestatic 122, 3) := by decide +kernel
theorem dX5_openStep_60 : decode cX5_openStep 60 = .ok (.putfield 125, 3) := by decide +kernel
theorem dX5_openStep_63 : decode cX5_openStep 63 = .ok (.aload_n 0, 1) := by decide +kernel
theorem dX5_openStep_64 : decode cX5_openStep 64 = .ok (.aload_n 2, 1) := by decide +kernel
theorem dX5_openStep_65 : decode cX5_openStep 65 = .ok (.getfield 128, 3) := by decide +kernel
theorem dX5_openStep_68 : decode cX5_openStep 68 = .ok (.iload 4, 2) := by decide +kernel
theorem dX5_openStep_70 : decode cX5_openStep 70 = .ok (.iadd, 1) := by decide +kernel
theorem dX5_openStep_71 : decode cX5_openStep 71 = .ok (.putfield 131, 3) := by decide +kernel
theorem dX5_openStep_74 : decode cX5_openStep 74 = .ok (.aload_n 0, 1) := by decide +kernel
theorem dX5_openStep_75 : decode cX5_openStep 75 = .ok (.aload_n 2, 1) := by decide +kernel
theorem dX5_openStep_76 : decode cX5_openStep 76 = .ok (.getfield 134, 3) := by decide +kernel
theorem dX5_openStep_79 : decode cX5_openStep 79 = .ok (.iload 4, 2) := by decide +kernel
theorem dX5_openStep_81 : decode cX5_openStep 81 = .ok (.isub, 1) := by decide +kernel
theorem dX5_openStep_82 : decode cX5_openStep 82 = .ok (.putfield 137, 3) := by decide +kernel
theorem dX5_openStep_85 : decode cX5_openStep 85 = .ok (.aload_n 0, 1) := by decide +kernel
theorem dX5_openStep_86 : decode cX5_openStep 86 = .ok (.getfield 116, 3) := by decide +kernel
theorem dX5_openStep_89 : decode cX5_openStep 89 = .ok (.istore 5, 2) := by decide +kernel
theorem dX5_openStep_91 : decode cX5_openStep 91 = .ok (.iload 5, 2) := by decide +kernel
theorem dX5_openStep_93 : decode cX5_openStep 93 = .ok (.aload_n 0, 1) := by decide +kernel
theorem dX5_openStep_94 : decode cX5_openStep 94 = .ok (.getfield 125, 3) := by decide +kernel
theorem dX5_openStep_97 : decode cX5_openStep 97 = .ok (.if_icmp .gt 52, 3) := by decide +kernel
theorem dX5_openStep_100 : decode cX5_openStep 100 = .ok (.aload_n 0, 1) := by decide +kernel
theorem dX5_openStep_101 : decode cX5_openStep 101 = .ok (.getfield 18, 3) := by decide +kernel
theorem dX5_openStep_104 : decode cX5_openStep 104 = .ok (.iload 5, 2) := by decide +kernel
theorem dX5_openStep_106 : decode cX5_openStep 106 = .ok (.bipush 40, 2) := by decide +kernel
theorem dX5_openStep_108 : decode cX5_openStep 108 = .ok (.iadd, 1) := by decide +kernel
theorem dX5_openStep_109 : decode cX5_openStep 109 = .ok (.aload_n 1, 1) := by decide +kernel
theorem dX5_openStep_110 : decode cX5_openStep 110 = .ok (.aload_n 2, 1) := by decide +kernel
theorem dX5_openStep_111 : decode cX5_openStep 111 = .ok (.iload_n 3, 1) := by decide +kernel
theorem dX5_openStep_112 : decode cX5_openStep 112 = .ok (.iload 5, 2) := by decide +kernel
theorem dX5_openStep_114 : decode cX5_openStep 114 = .ok (.invokevirtual 140, 3) := by decide +kernel
theorem dX5_openStep_117 : decode cX5_openStep 117 = .ok (.ifCond .eq 22, 3) := by decide +kernel
theorem dX5_openStep_120 : decode cX5_openStep 120 = .ok (.aload_n 2, 1) := by decide +kernel
theorem dX5_openStep_121 : decode cX5_openStep 121 = .ok (.iload 5, 2) := by decide +kernel
theorem dX5_openStep_123 : decode cX5_openStep 123 = .ok (.aload_n 0, 1) := by decide +kernel
theorem dX5_openStep_124 : decode cX5_openStep 124 = .ok (.getfield 9, 3) := by decide +kernel
theorem dX5_openStep_127 : decode cX5_openStep 127 = .ok (.iload_n 3, 1) := by decide +kernel
theorem dX5_openStep_128 : decode cX5_openStep 128 = .ok (.laload, 1) := by decide +kernel
theorem dX5_openStep_129 : decode cX5_openStep 129 = .ok (.aload_n 0, 1) := by decide +kernel
theorem dX5_openStep_130 : decode cX5_openStep 130 = .ok (.getfield 33, 3) := by decide +kernel
theorem dX5_openStep_133 : decode cX5_openStep 133 = .ok (.invokevirtual 144, 3) := by decide +kernel
theorem dX5_openStep_136 : decode cX5_openStep 136 = .ok (.goto 6, 3) := by decide +kernel
theorem dX5_openStep_139 : decode cX5_openStep 139 = .ok (.ldc2_w 62, 3) := by decide +kernel
theorem dX5_openStep_142 : decode cX5_openStep 142 = .ok (.lastore, 1) := by decide +kernel
theorem dX5_openStep_143 : decode cX5_openStep 143 = .ok (.iinc 5 1, 3) := by decide +kernel
theorem dX5_openStep_146 : decode cX5_openStep 146 = .ok (.goto (-55), 3) := by decide +kernel
theorem dX5_openStep_149 : decode cX5_openStep 149 = .ok (.return_, 1) := by decide +kernel
theorem dX5_firstMove_0 : decode cX5_firstMove 0 = .ok (.aload_n 0, 1) := by decide +kernel
theorem dX5_firstMove_1 : decode cX5_firstMove 1 = .ok (.getfield 116, 3) := by decide +kernel
theorem dX5_firstMove_4 : decode cX5_firstMove 4 = .ok (.aload_n 0, 1) := by decide +kernel
theorem dX5_firstMove_5 : decode cX5_firstMove 5 = .ok (.getfield 131, 3) := by decide +kernel
theorem dX5_firstMove_8 : decode cX5_firstMove 8 = .ok (.iload_n 1, 1) := by decide +kernel
theorem dX5_firstMove_9 : decode cX5_firstMove 9 = .ok (.isub, 1) := by decide +kernel
theorem dX5_firstMove_10 : decode cX5_firstMove 10 = .ok (.invokestatic 122, 3) := by decide +kernel
theorem dX5_firstMove_13 : decode cX5_firstMove 13 = .ok (.ireturn, 1) := by decide +kernel
theorem dX5_lastMove_0 : decode cX5_lastMove 0 = .ok (.aload_n 0, 1) := by decide +kernel
theorem dX5_lastMove_1 : decode cX5_lastMove 1 = .ok (.getfield 125, 3) := by decide +kernel
theorem dX5_lastMove_4 : decode cX5_lastMove 4 = .ok (.aload_n 0, 1) := by decide +kernel
theorem dX5_lastMove_5 : decode cX5_lastMove 5 = .ok (.getfield 137, 3) := by decide +kernel
theorem dX5_lastMove_8 : decode cX5_lastMove 8 = .ok (.iload_n 1, 1) := by decide +kernel
theorem dX5_lastMove_9 : decode cX5_lastMove 9 = .ok (.isub, 1) := by decide +kernel
theorem dX5_lastMove_10 : decode cX5_lastMove 10 = .ok (.invokestatic 114, 3) := by decide +kernel
theorem dX5_lastMove_13 : decode cX5_lastMove 13 = .ok (.ireturn, 1) := by decide +kernel
theorem dX5_worthThrough_0 : decode cX5_worthThrough 0 = .ok (.aload_n 0, 1) := by decide +kernel
theorem dX5_worthThrough_1 : decode cX5_worthThrough 1 = .ok (.getfield 18, 3) := by decide +kernel
theorem dX5_worthThrough_4 : decode cX5_worthThrough 4 = .ok (.iload_n 3, 1) := by decide +kernel
theorem dX5_worthThrough_5 : decode cX5_worthThrough 5 = .ok (.bipush 40, 2) := by decide +kernel
theorem dX5_worthThrough_7 : decode cX5_worthThrough 7 = .ok (.iadd, 1) := by decide +kernel
theorem dX5_worthThrough_8 : decode cX5_worthThrough 8 = .ok (.laload, 1) := by decide +kernel
theorem dX5_worthThrough_9 : decode cX5_worthThrough 9 = .ok (.lstore 4, 2) := by decide +kernel
theorem dX5_worthThrough_11 : decode cX5_worthThrough 11 = .ok (.aload_n 0, 1) := by decide +kernel
theorem dX5_worthThrough_12 : decode cX5_worthThrough 12 = .ok (.getfield 15, 3) := by decide +kernel
theorem dX5_worthThrough_15 : decode cX5_worthThrough 15 = .ok (.iload_n 1, 1) := by decide +kernel
theorem dX5_worthThrough_16 : decode cX5_worthThrough 16 = .ok (.iconst 1, 1) := by decide +kernel
theorem dX5_worthThrough_17 : decode cX5_worthThrough 17 = .ok (.iadd, 1) := by decide +kernel
theorem dX5_worthThrough_18 : decode cX5_worthThrough 18 = .ok (.bipush 61, 2) := by decide +kernel
theorem dX5_worthThrough_20 : decode cX5_worthThrough 20 = .ok (.imul, 1) := by decide +kernel
theorem dX5_worthThrough_21 : decode cX5_worthThrough 21 = .ok (.iload_n 2, 1) := by decide +kernel
theorem dX5_worthThrough_22 : decode cX5_worthThrough 22 = .ok (.iadd, 1) := by decide +kernel
theorem dX5_worthThrough_23 : decode cX5_worthThrough 23 = .ok (.iload_n 3, 1) := by decide +kernel
theorem dX5_worthThrough_24 : decode cX5_worthThrough 24 = .ok (.iadd, 1) := by decide +kernel
theorem dX5_worthThrough_25 : decode cX5_worthThrough 25 = .ok (.laload, 1) := by decide +kernel
theorem dX5_worthThrough_26 : decode cX5_worthThrough 26 = .ok (.lstore 6, 2) := by decide +kernel
theorem dX5_worthThrough_28 : decode cX5_worthThrough 28 = .ok (.lload 4, 2) := by decide +kernel
theorem dX5_worthThrough_30 : decode cX5_worthThrough 30 = .ok (.ldc2_w 62, 3) := by decide +kernel
theorem dX5_worthThrough_33 : decode cX5_worthThrough 33 = .ok (.lcmp, 1) := by decide +kernel
theorem dX5_worthThrough_34 : decode cX5_worthThrough 34 = .ok (.ifCond .eq 12, 3) := by decide +kernel
theorem dX5_worthThrough_37 : decode cX5_worthThrough 37 = .ok (.lload 6, 2) := by decide +kernel
theorem dX5_worthThrough_39 : decode cX5_worthThrough 39 = .ok (.ldc2_w 62, 3) := by decide +kernel
theorem dX5_worthThrough_42 : decode cX5_worthThrough 42 = .ok (.lcmp, 1) := by decide +kernel
theorem dX5_worthThrough_43 : decode cX5_worthThrough 43 = .ok (.ifCond .ne 9, 3) := by decide +kernel
theorem dX5_worthThrough_46 : decode cX5_worthThrough 46 = .ok (.ldc2_w 62, 3) := by decide +kernel
theorem dX5_worthThrough_49 : decode cX5_worthThrough 49 = .ok (.goto 8, 3) := by decide +kernel
theorem dX5_worthThrough_52 : decode cX5_worthThrough 52 = .ok (.lload 4, 2) := by decide +kernel
theorem dX5_worthThrough_54 : decode cX5_worthThrough 54 = .ok (.lload 6, 2) := by decide +kernel
theorem dX5_worthThrough_56 : decode cX5_worthThrough 56 = .ok (.ladd, 1) := by decide +kernel
theorem dX5_worthThrough_57 : decode cX5_worthThrough 57 = .ok (.lreturn, 1) := by decide +kernel
theorem dX5_greatest_0 : decode cX5_greatest 0 = .ok (.ldc2_w 62, 3) := by decide +kernel
theorem dX5_greatest_3 : decode cX5_greatest 3 = .ok (.lstore_n 3, 1) := by decide +kernel
theorem dX5_greatest_4 : decode cX5_greatest 4 = .ok (.aload_n 0, 1) := by decide +kernel
theorem dX5_greatest_5 : decode cX5_greatest 5 = .ok (.iload_n 2, 1) := by decide +kernel
theorem dX5_greatest_6 : decode cX5_greatest 6 = .ok (.invokevirtual 148, 3) := by decide +kernel
theorem dX5_greatest_9 : decode cX5_greatest 9 = .ok (.istore 5, 2) := by decide +kernel
theorem dX5_greatest_11 : decode cX5_greatest 11 = .ok (.aload_n 0, 1) := by decide +kernel
theorem dX5_greatest_12 : decode cX5_greatest 12 = .ok (.iload_n 2, 1) := by decide +kernel
theorem dX5_greatest_13 : decode cX5_greatest 13 = .ok (.invokevirtual 151, 3) := by decide +kernel
theorem dX5_greatest_16 : decode cX5_greatest 16 = .ok (.istore 6, 2) := by decide +kernel
theorem dX5_greatest_18 : decode cX5_greatest 18 = .ok (.iload 6, 2) := by decide +kernel
theorem dX5_greatest_20 : decode cX5_greatest 20 = .ok (.iload 5, 2) := by decide +kernel
theorem dX5_greatest_22 : decode cX5_greatest 22 = .ok (.if_icmp .gt 29, 3) := by decide +kernel
theorem dX5_greatest_25 : decode cX5_greatest 25 = .ok (.aload_n 0, 1) := by decide +kernel
theorem dX5_greatest_26 : decode cX5_greatest 26 = .ok (.iload_n 1, 1) := by decide +kernel
theorem dX5_greatest_27 : decode cX5_greatest 27 = .ok (.iload_n 2, 1) := by decide +kernel
theorem dX5_greatest_28 : decode cX5_greatest 28 = .ok (.iload 6, 2) := by decide +kernel
theorem dX5_greatest_30 : decode cX5_greatest 30 = .ok (.invokevirtual 154, 3) := by decide +kernel
theorem dX5_greatest_33 : decode cX5_greatest 33 = .ok (.lstore 7, 2) := by decide +kernel
theorem dX5_greatest_35 : decode cX5_greatest 35 = .ok (.lload 7, 2) := by decide +kernel
theorem dX5_greatest_37 : decode cX5_greatest 37 = .ok (.lload_n 3, 1) := by decide +kernel
theorem dX5_greatest_38 : decode cX5_greatest 38 = .ok (.lcmp, 1) := by decide +kernel
theorem dX5_greatest_39 : decode cX5_greatest 39 = .ok (.ifCond .le 6, 3) := by decide +kernel
theorem dX5_greatest_42 : decode cX5_greatest 42 = .ok (.lload 7, 2) := by decide +kernel
theorem dX5_greatest_44 : decode cX5_greatest 44 = .ok (.lstore_n 3, 1) := by decide +kernel
theorem dX5_greatest_45 : decode cX5_greatest 45 = .ok (.iinc 6 1, 3) := by decide +kernel
theorem dX5_greatest_48 : decode cX5_greatest 48 = .ok (.goto (-30), 3) := by decide +kernel
theorem dX5_greatest_51 : decode cX5_greatest 51 = .ok (.lload_n 3, 1) := by decide +kernel
theorem dX5_greatest_52 : decode cX5_greatest 52 = .ok (.lreturn, 1) := by decide +kernel
theorem dX5_leastBest_0 : decode cX5_leastBest 0 = .ok (.aload_n 0, 1) := by decide +kernel
theorem dX5_leastBest_1 : decode cX5_leastBest 1 = .ok (.iload_n 2, 1) := by decide +kernel
theorem dX5_leastBest_2 : decode cX5_leastBest 2 = .ok (.invokevirtual 148, 3) := by decide +kernel
theorem dX5_leastBest_5 : decode cX5_leastBest 5 = .ok (.istore_n 3, 1) := by decide +kernel
theorem dX5_leastBest_6 : decode cX5_leastBest 6 = .ok (.aload_n 0, 1) := by decide +kernel
theorem dX5_leastBest_7 : decode cX5_leastBest 7 = .ok (.iload_n 2, 1) := by decide +kernel
theorem dX5_leastBest_8 : decode cX5_leastBest 8 = .ok (.invokevirtual 151, 3) := by decide +kernel
theorem dX5_leastBest_11 : decode cX5_leastBest 11 = .ok (.istore 4, 2) := by decide +kernel
theorem dX5_leastBest_13 : decode cX5_leastBest 13 = .ok (.iload 4, 2) := by decide +kernel
theorem dX5_leastBest_15 : decode cX5_leastBest 15 = .ok (.iload_n 3, 1) := by decide +kernel
theorem dX5_leastBest_16 : decode cX5_leastBest 16 = .ok (.if_icmp .gt 30, 3) := by decide +kernel
theorem dX5_leastBest_19 : decode cX5_leastBest 19 = .ok (.aload_n 0, 1) := by decide +kernel
theorem dX5_leastBest_20 : decode cX5_leastBest 20 = .ok (.iload_n 1, 1) := by decide +kernel
theorem dX5_leastBest_21 : decode cX5_leastBest 21 = .ok (.iload_n 2, 1) := by decide +kernel
theorem dX5_leastBest_22 : decode cX5_leastBest 22 = .ok (.iload 4, 2) := by decide +kernel
theorem dX5_leastBest_24 : decode cX5_leastBest 24 = .ok (.invokevirtual 154, 3) := by decide +kernel
theorem dX5_leastBest_27 : decode cX5_leastBest 27 = .ok (.aload_n 0, 1) := by decide +kernel
theorem dX5_leastBest_28 : decode cX5_leastBest 28 = .ok (.iload_n 1, 1) := by decide +kernel
theorem dX5_leastBest_29 : decode cX5_leastBest 29 = .ok (.iload_n 2, 1) := by decide +kernel
theorem dX5_leastBest_30 : decode cX5_leastBest 30 = .ok (.invokevirtual 158, 3) := by decide +kernel
theorem dX5_leastBest_33 : decode cX5_leastBest 33 = .ok (.lcmp, 1) := by decide +kernel
theorem dX5_leastBest_34 : decode cX5_leastBest 34 = .ok (.ifCond .ne 6, 3) := by decide +kernel
theorem dX5_leastBest_37 : decode cX5_leastBest 37 = .ok (.iload 4, 2) := by decide +kernel
theorem dX5_leastBest_39 : decode cX5_leastBest 39 = .ok (.ireturn, 1) := by decide +kernel
theorem dX5_leastBest_40 : decode cX5_leastBest 40 = .ok (.iinc 4 1, 3) := by decide +kernel
theorem dX5_leastBest_43 : decode cX5_leastBest 43 = .ok (.goto (-30), 3) := by decide +kernel
theorem dX5_leastBest_46 : decode cX5_leastBest 46 = .ok (.iconst 0, 1) := by decide +kernel
theorem dX5_leastBest_47 : decode cX5_leastBest 47 = .ok (.ireturn, 1) := by decide +kernel
theorem dX5_spreadWays_0 : decode cX5_spreadWays 0 = .ok (.aload_n 0, 1) := by decide +kernel
theorem dX5_spreadWays_1 : decode cX5_spreadWays 1 = .ok (.getfield 21, 3) := by decide +kernel
theorem dX5_spreadWays_4 : decode cX5_spreadWays 4 = .ok (.iload_n 2, 1) := by decide +kernel
theorem dX5_spreadWays_5 : decode cX5_spreadWays 5 = .ok (.laload, 1) := by decide +kernel
theorem dX5_spreadWays_6 : decode cX5_spreadWays 6 = .ok (.lconst 0, 1) := by decide +kernel
theorem dX5_spreadWays_7 : decode cX5_spreadWays 7 = .ok (.lcmp, 1) := by decide +kernel
theorem dX5_spreadWays_8 : decode cX5_spreadWays 8 = .ok (.ifCond .ne 4, 3) := by decide +kernel
theorem dX5_spreadWays_11 : decode cX5_spreadWays 11 = .ok (.return_, 1) := by decide +kernel
theorem dX5_spreadWays_12 : decode cX5_spreadWays 12 = .ok (.aload_n 0, 1) := by decide +kernel
theorem dX5_spreadWays_13 : decode cX5_spreadWays 13 = .ok (.iload_n 2, 1) := by decide +kernel
theorem dX5_spreadWays_14 : decode cX5_spreadWays 14 = .ok (.invokevirtual 148, 3) := by decide +kernel
theorem dX5_spreadWays_17 : decode cX5_spreadWays 17 = .ok (.istore_n 3, 1) := by decide +kernel
theorem dX5_spreadWays_18 : decode cX5_spreadWays 18 = .ok (.aload_n 0, 1) := by decide +kernel
theorem dX5_spreadWays_19 : decode cX5_spreadWays 19 = .ok (.iload_n 2, 1) := by decide +kernel
theorem dX5_spreadWays_20 : decode cX5_spreadWays 20 = .ok (.invokevirtual 151, 3) := by decide +kernel
theorem dX5_spreadWays_23 : decode cX5_spreadWays 23 = .ok (.istore 4, 2) := by decide +kernel
theorem dX5_spreadWays_25 : decode cX5_spreadWays 25 = .ok (.iload 4, 2) := by decide +kernel
theorem dX5_spreadWays_27 : decode cX5_spreadWays 27 = .ok (.iload_n 3, 1) := by decide +kernel
theorem dX5_spreadWays_28 : decode cX5_spreadWays 28 = .ok (.if_icmp .gt 58, 3) := by decide +kernel
theorem dX5_spreadWays_31 : decode cX5_spreadWays 31 = .ok (.aload_n 0, 1) := by decide +kernel
theorem dX5_spreadWays_32 : decode cX5_spreadWays 32 = .ok (.iload_n 1, 1) := by decide +kernel
theorem dX5_spreadWays_33 : decode cX5_spreadWays 33 = .ok (.iload_n 2, 1) := by decide +kernel
theorem dX5_spreadWays_34 : decode cX5_spreadWays 34 = .ok (.iload 4, 2) := by decide +kernel
theorem dX5_spreadWays_36 : decode cX5_spreadWays 36 = .ok (.invokevirtual 154, 3) := by decide +kernel
theorem dX5_spreadWays_39 : decode cX5_spreadWays 39 = .ok (.aload_n 0, 1) := by decide +kernel
theorem dX5_spreadWays_40 : decode cX5_spreadWays 40 = .ok (.iload_n 1, 1) := by decide +kernel
theorem dX5_spreadWays_41 : decode cX5_spreadWays 41 = .ok (.iload_n 2, 1) := by decide +kernel
theorem dX5_spreadWays_42 : decode cX5_spreadWays 42 = .ok (.invokevirtual 158, 3) := by decide +kernel
theorem dX5_spreadWays_45 : decode cX5_spreadWays 45 = .ok (.lcmp, 1) := by decide +kernel
theorem dX5_spreadWays_46 : decode cX5_spreadWays 46 = .ok (.ifCond .ne 34, 3) := by decide +kernel
theorem dX5_spreadWays_49 : decode cX5_spreadWays 49 = .ok (.aload_n 0, 1) := by decide +kernel
theorem dX5_spreadWays_50 : decode cX5_spreadWays 50 = .ok (.getfield 24, 3) := by decide +kernel
theorem dX5_spreadWays_53 : decode cX5_spreadWays 53 = .ok (.iload_n 2, 1) := by decide +kernel
theorem dX5_spreadWays_54 : decode cX5_spreadWays 54 = .ok (.iload 4, 2) := by decide +kernel
theorem dX5_spreadWays_56 : decode cX5_spreadWays 56 = .ok (.iadd, 1) := by decide +kernel
theorem dX5_spreadWays_57 : decode cX5_spreadWays 57 = .ok (.ldc2_w 96, 3) := by decide +kernel
theorem dX5_spreadWays_60 : decode cX5_spreadWays 60 = .ok (.aload_n 0, 1) := by decide +kernel
theorem dX5_spreadWays_61 : decode cX5_spreadWays 61 = .ok (.getfield 24, 3) := by decide +kernel
theorem dX5_spreadWays_64 : decode cX5_spreadWays 64 = .ok (.iload_n 2, 1) := by decide +kernel
theorem dX5_spreadWays_65 : decode cX5_spreadWays 65 = .ok (.iload 4, 2) := by decide +kernel
theorem dX5_spreadWays_67 : decode cX5_spreadWays 67 = .ok (.iadd, 1) := by decide +kernel
theorem dX5_spreadWays_68 : decode cX5_spreadWays 68 = .ok (.laload, 1) := by decide +kernel
theorem dX5_spreadWays_69 : decode cX5_spreadWays 69 = .ok (.aload_n 0, 1) := by decide +kernel
theorem dX5_spreadWays_70 : decode cX5_spreadWays 70 = .ok (.getfield 21, 3) := by decide +kernel
theorem dX5_spreadWays_73 : decode cX5_spreadWays 73 = .ok (.iload_n 2, 1) := by decide +kernel
theorem dX5_spreadWays_74 : decode cX5_spreadWays 74 = .ok (.laload, 1) := by decide +kernel
theorem dX5_spreadWays_75 : decode cX5_spreadWays 75 = .ok (.ladd, 1) := by decide +kernel
theorem dX5_spreadWays_76 : decode cX5_spreadWays 76 = .ok (.invokestatic 98, 3) := by decide +kernel
theorem dX5_spreadWays_79 : decode cX5_spreadWays 79 = .ok (.lastore, 1) := by decide +kernel
theorem dX5_spreadWays_80 : decode cX5_spreadWays 80 = .ok (.iinc 4 1, 3) := by decide +kernel
theorem dX5_spreadWays_83 : decode cX5_spreadWays 83 = .ok (.goto (-58), 3) := by decide +kernel
theorem dX5_spreadWays_86 : decode cX5_spreadWays 86 = .ok (.return_, 1) := by decide +kernel
theorem dX7_init_0 : decode cX7_init 0 = .ok (.aload_n 0, 1) := by decide +kernel
theorem dX7_init_1 : decode cX7_init 1 = .ok (.invokespecial 3, 3) := by decide +kernel
theorem dX7_init_4 : decode cX7_init 4 = .ok (.aload_n 0, 1) := by decide +kernel
theorem dX7_init_5 : decode cX7_init 5 = .ok (.new 9, 3) := by decide +kernel
theorem dX7_init_8 : decode cX7_init 8 = .ok (.dup, 1) := by decide +kernel
theorem dX7_init_9 : decode cX7_init 9 = .ok (.invokespecial 11, 3) := by decide +kernel
theorem dX7_init_12 : decode cX7_init 12 = .ok (.putfield 12, 3) := by decide +kernel
theorem dX7_init_15 : decode cX7_init 15 = .ok (.aload_n 0, 1) := by decide +kernel
theorem dX7_init_16 : decode cX7_init 16 = .ok (.iconst 4, 1) := by decide +kernel
theorem dX7_init_17 : decode cX7_init 17 = .ok (.anewarray 16, 3) := by decide +kernel
theorem dX7_init_20 : decode cX7_init 20 = .ok (.putfield 18, 3) := by decide +kernel
theorem dX7_init_23 : decode cX7_init 23 = .ok (.iconst 0, 1) := by decide +kernel
theorem dX7_init_24 : decode cX7_init 24 = .ok (.istore_n 1, 1) := by decide +kernel
theorem dX7_init_25 : decode cX7_init 25 = .ok (.iload_n 1, 1) := by decide +kernel
theorem dX7_init_26 : decode cX7_init 26 = .ok (.iconst 4, 1) := by decide +kernel
theorem dX7_init_27 : decode cX7_init 27 = .ok (.if_icmp .ge 22, 3) := by decide +kernel
theorem dX7_init_30 : decode cX7_init 30 = .ok (.aload_n 0, 1) := by decide +kernel
theorem dX7_init_31 : decode cX7_init 31 = .ok (.getfield 18, 3) := by decide +kernel
theorem dX7_init_34 : decode cX7_init 34 = .ok (.iload_n 1, 1) := by decide +kernel
theorem dX7_init_35 : decode cX7_init 35 = .ok (.new 16, 3) := by decide +kernel
theorem dX7_init_38 : decode cX7_init 38 = .ok (.dup, 1) := by decide +kernel
theorem dX7_init_39 : decode cX7_init 39 = .ok (.invokespecial 22, 3) := by decide +kernel
theorem dX7_init_42 : decode cX7_init 42 = .ok (.aastore, 1) := by decide +kernel
theorem dX7_init_43 : decode cX7_init 43 = .ok (.iinc 1 1, 3) := by decide +kernel
theorem dX7_init_46 : decode cX7_init 46 = .ok (.goto (-21), 3) := by decide +kernel
theorem dX7_init_49 : decode cX7_init 49 = .ok (.aload_n 0, 1) := by decide +kernel
theorem dX7_init_50 : decode cX7_init 50 = .ok (.iconst 4, 1) := by decide +kernel
theorem dX7_init_51 : decode cX7_init 51 = .ok (.anewarray 23, 3) := by decide +kernel
theorem dX7_init_54 : decode cX7_init 54 = .ok (.putfield 25, 3) := by decide +kernel
theorem dX7_init_57 : decode cX7_init 57 = .ok (.iconst 0, 1) := by decide +kernel
theorem dX7_init_58 : decode cX7_init 58 = .ok (.istore_n 1, 1) := by decide +kernel
theorem dX7_init_59 : decode cX7_init 59 = .ok (.iload_n 1, 1) := by decide +kernel
theorem dX7_init_60 : decode cX7_init 60 = .ok (.iconst 4, 1) := by decide +kernel
theorem dX7_init_61 : decode cX7_init 61 = .ok (.if_icmp .ge 22, 3) := by decide +kernel
theorem dX7_init_64 : decode cX7_init 64 = .ok (.aload_n 0, 1) := by decide +kernel
theorem dX7_init_65 : decode cX7_init 65 = .ok (.getfield 25, 3) := by decide +kernel
theorem dX7_init_68 : decode cX7_init 68 = .ok (.iload_n 1, 1) := by decide +kernel
theorem dX7_init_69 : decode cX7_init 69 = .ok (.new 23, 3) := by decide +kernel
theorem dX7_init_72 : decode cX7_init 72 = .ok (.dup, 1) := by decide +kernel
theorem dX7_init_73 : decode cX7_init 73 = .ok (.invokespecial 29, 3) := by decide +kernel
theorem dX7_init_76 : decode cX7_init 76 = .ok (.aastore, 1) := by decide +kernel
theorem dX7_init_77 : decode cX7_init 77 = .ok (.iinc 1 1, 3) := by decide +kernel
theorem dX7_init_80 : decode cX7_init 80 = .ok (.goto (-21), 3) := by decide +kernel
theorem dX7_init_83 : decode cX7_init 83 = .ok (.aload_n 0, 1) := by decide +kernel
theorem dX7_init_84 : decode cX7_init 84 = .ok (.new 30, 3) := by decide +kernel
theorem dX7_init_87 : decode cX7_init 87 = .ok (.dup, 1) := by decide +kernel
theorem dX7_init_88 : decode cX7_init 88 = .ok (.invokespecial 32, 3) := by decide +kernel
theorem dX7_init_91 : decode cX7_init 91 = .ok (.putfield 33, 3) := by decide +kernel
theorem dX7_init_94 : decode cX7_init 94 = .ok (.aload_n 0, 1) := by decide +kernel
theorem dX7_init_95 : decode cX7_init 95 = .ok (.new 37, 3) := by decide +kernel
theorem dX7_init_98 : decode cX7_init 98 = .ok (.dup, 1) := by decide +kernel
theorem dX7_init_99 : decode cX7_init 99 = .ok (.invokespecial 39, 3) := by decide +kernel
theorem dX7_init_102 : decode cX7_init 102 = .ok (.putfield 40, 3) := by decide +kernel
theorem dX7_init_105 : decode cX7_init 105 = .ok (.aload_n 0, 1) := by decide +kernel
theorem dX7_init_106 : decode cX7_init 106 = .ok (.new 44, 3) := by decide +kernel
theorem dX7_init_109 : decode cX7_init 109 = .ok (.dup, 1) := by decide +kernel
theorem dX7_init_110 : decode cX7_init 110 = .ok (.invokespecial 46, 3) := by decide +kernel
theorem dX7_init_113 : decode cX7_init 113 = .ok (.putfield 47, 3) := by decide +kernel
theorem dX7_init_116 : decode cX7_init 116 = .ok (.aload_n 0, 1) := by decide +kernel
theorem dX7_init_117 : decode cX7_init 117 = .ok (.new 51, 3) := by decide +kernel
theorem dX7_init_120 : decode cX7_init 120 = .ok (.dup, 1) := by decide +kernel
theorem dX7_init_121 : decode cX7_init 121 = .ok (.invokespecial 53, 3) := by decide +kernel
theorem dX7_init_124 : decode cX7_init 124 = .ok (.putfield 54, 3) := by decide +kernel
theorem dX7_init_127 : decode cX7_init 127 = .ok (.return_, 1) := by decide +kernel
theorem dX7_time_0 : decode cX7_time 0 = .ok (.iload_n 1, 1) := by decide +kernel
theorem dX7_time_1 : decode cX7_time 1 = .ok (.iconst 1, 1) := by decide +kernel
theorem dX7_time_2 : decode cX7_time 2 = .ok (.bipush 36, 2) := by decide +kernel
theorem dX7_time_4 : decode cX7_time 4 = .ok (.invokestatic 58, 3) := by decide +kernel
theorem dX7_time_7 : decode cX7_time 7 = .ok (.ifCond .ne 7, 3) := by decide +kernel
theorem dX7_time_10 : decode cX7_time 10 = .ok (.ldc2_w 62, 3) := by decide +kernel
theorem dX7_time_13 : decode cX7_time 13 = .ok (.lreturn, 1) := by decide +kernel
theorem dX7_time_14 : decode cX7_time 14 = .ok (.aload_n 0, 1) := by decide +kernel
theorem dX7_time_15 : decode cX7_time 15 = .ok (.getfield 40, 3) := by decide +kernel
theorem dX7_time_18 : decode cX7_time 18 = .ok (.getfield 64, 3) := by decide +kernel
theorem dX7_time_21 : decode cX7_time 21 = .ok (.istore_n 2, 1) := by decide +kernel
theorem dX7_time_22 : decode cX7_time 22 = .ok (.aload_n 0, 1) := by decide +kernel
theorem dX7_time_23 : decode cX7_time 23 = .ok (.getfield 12, 3) := by decide +kernel
theorem dX7_time_26 : decode cX7_time 26 = .ok (.iload_n 1, 1) := by decide +kernel
theorem dX7_time_27 : decode cX7_time 27 = .ok (.putfield 68, 3) := by decide +kernel
theorem dX7_time_30 : decode cX7_time 30 = .ok (.aload_n 0, 1) := by decide +kernel
theorem dX7_time_31 : decode cX7_time 31 = .ok (.getfield 40, 3) := by decide +kernel
theorem dX7_time_34 : decode cX7_time 34 = .ok (.iconst 0, 1) := by decide +kernel
theorem dX7_time_35 : decode cX7_time 35 = .ok (.putfield 64, 3) := by decide +kernel
theorem dX7_time_38 : decode cX7_time 38 = .ok (.iconst 0, 1) := by decide +kernel
theorem dX7_time_39 : decode cX7_time 39 = .ok (.istore_n 3, 1) := by decide +kernel
theorem dX7_time_40 : decode cX7_time 40 = .ok (.iload_n 3, 1) := by decide +kernel
theorem dX7_time_41 : decode cX7_time 41 = .ok (.iconst 4, 1) := by decide +kernel
theorem dX7_time_42 : decode cX7_time 42 = .ok (.if_icmp .ge 18, 3) := by decide +kernel
theorem dX7_time_45 : decode cX7_time 45 = .ok (.aload_n 0, 1) := by decide +kernel
theorem dX7_time_46 : decode cX7_time 46 = .ok (.getfield 25, 3) := by decide +kernel
theorem dX7_time_49 : decode cX7_time 49 = .ok (.iload_n 3, 1) := by decide +kernel
theorem dX7_time_50 : decode cX7_time 50 = .ok (.aaload, 1) := by decide +kernel
theorem dX7_time_51 : decode cX7_time 51 = .ok (.invokevirtual 71, 3) := by decide +kernel
theorem dX7_time_54 : decode cX7_time 54 = .ok (.iinc 3 1, 3) := by decide +kernel
theorem dX7_time_57 : decode cX7_time 57 = .ok (.goto (-17), 3) := by decide +kernel
theorem dX7_time_60 : decode cX7_time 60 = .ok (.iload_n 2, 1) := by decide +kernel
theorem dX7_time_61 : decode cX7_time 61 = .ok (.i2l, 1) := by decide +kernel
theorem dX7_time_62 : decode cX7_time 62 = .ok (.lreturn, 1) := by decide +kernel
theorem dX7_dark_0 : decode cX7_dark 0 = .ok (.iload_n 1, 1) := by decide +kernel
theorem dX7_dark_1 : decode cX7_dark 1 = .ok (.invokestatic 74, 3) := by decide +kernel
theorem dX7_dark_4 : decode cX7_dark 4 = .ok (.ifCond .eq 12, 3) := by decide +kernel
theorem dX7_dark_7 : decode cX7_dark 7 = .ok (.iload_n 2, 1) := by decide +kernel
theorem dX7_dark_8 : decode cX7_dark 8 = .ok (.iconst 0, 1) := by decide +kernel
theorem dX7_dark_9 : decode cX7_dark 9 = .ok (.iconst 1, 1) := by decide +kernel
theorem dX7_dark_10 : decode cX7_dark 10 = .ok (.invokestatic 58, 3) := by decide +kernel
theorem dX7_dark_13 : decode cX7_dark 13 = .ok (.ifCond .ne 7, 3) := by decide +kernel
theorem dX7_dark_16 : decode cX7_dark 16 = .ok (.ldc2_w 62, 3) := by decide +kernel
theorem dX7_dark_19 : decode cX7_dark 19 = .ok (.lreturn, 1) := by decide +kernel
theorem dX7_dark_20 : decode cX7_dark 20 = .ok (.aload_n 0, 1) := by decide +kernel
theorem dX7_dark_21 : decode cX7_dark 21 = .ok (.getfield 12, 3) := by decide +kernel
theorem dX7_dark_24 : decode cX7_dark 24 = .ok (.getfield 78, 3) := by decide +kernel
theorem dX7_dark_27 : decode cX7_dark 27 = .ok (.iload_n 1, 1) := by decide +kernel
theorem dX7_dark_28 : decode cX7_dark 28 = .ok (.baload, 1) := by decide +kernel
theorem dX7_dark_29 : decode cX7_dark 29 = .ok (.istore_n 3, 1) := by decide +kernel
theorem dX7_dark_30 : decode cX7_dark 30 = .ok (.aload_n 0, 1) := by decide +kernel
theorem dX7_dark_31 : decode cX7_dark 31 = .ok (.getfield 12, 3) := by decide +kernel
theorem dX7_dark_34 : decode cX7_dark 34 = .ok (.getfield 78, 3) := by decide +kernel
theorem dX7_dark_37 : decode cX7_dark 37 = .ok (.iload_n 1, 1) := by decide +kernel
theorem dX7_dark_38 : decode cX7_dark 38 = .ok (.iload_n 2, 1) := by decide +kernel
theorem dX7_dark_39 : decode cX7_dark 39 = .ok (.iconst 1, 1) := by decide +kernel
theorem dX7_dark_40 : decode cX7_dark 40 = .ok (.if_icmp .ne 7, 3) := by decide +kernel
theorem dX7_dark_43 : decode cX7_dark 43 = .ok (.iconst 1, 1) := by decide +kernel
theorem dX7_dark_44 : decode cX7_dark 44 = .ok (.goto 4, 3) := by decide +kernel
theorem dX7_dark_47 : decode cX7_dark 47 = .ok (.iconst 0, 1) := by decide +kernel
theorem dX7_dark_48 : decode cX7_dark 48 = .ok (.bastore, 1) := by decide +kernel
theorem dX7_dark_49 : decode cX7_dark 49 = .ok (.iload_n 3, 1) := by decide +kernel
theorem dX7_dark_50 : decode cX7_dark 50 = .ok (.invokestatic 82, 3) := by decide +kernel
theorem dX7_dark_53 : decode cX7_dark 53 = .ok (.lreturn, 1) := by decide +kernel
theorem dX7_keep_0 : decode cX7_keep 0 = .ok (.iload_n 1, 1) := by decide +kernel
theorem dX7_keep_1 : decode cX7_keep 1 = .ok (.invokestatic 74, 3) := by decide +kernel
theorem dX7_keep_4 : decode cX7_keep 4 = .ok (.ifCond .eq 13, 3) := by decide +kernel
theorem dX7_keep_7 : decode cX7_keep 7 = .ok (.iload_n 2, 1) := by decide +kernel
theorem dX7_keep_8 : decode cX7_keep 8 = .ok (.iconst 0, 1) := by decide +kernel
theorem dX7_keep_9 : decode cX7_keep 9 = .ok (.bipush 10, 2) := by decide +kernel
theorem dX7_keep_11 : decode cX7_keep 11 = .ok (.invokestatic 58, 3) := by decide +kernel
theorem dX7_keep_14 : decode cX7_keep 14 = .ok (.ifCond .ne 7, 3) := by decide +kernel
theorem dX7_keep_17 : decode cX7_keep 17 = .ok (.ldc2_w 62, 3) := by decide +kernel
theorem dX7_keep_20 : decode cX7_keep 20 = .ok (.lreturn, 1) := by decide +kernel
theorem dX7_keep_21 : decode cX7_keep 21 = .ok (.aload_n 0, 1) := by decide +kernel
theorem dX7_keep_22 : decode cX7_keep 22 = .ok (.getfield 12, 3) := by decide +kernel
theorem dX7_keep_25 : decode cX7_keep 25 = .ok (.getfield 86, 3) := by decide +kernel
theorem dX7_keep_28 : decode cX7_keep 28 = .ok (.iload_n 1, 1) := by decide +kernel
theorem dX7_keep_29 : decode cX7_keep 29 = .ok (.iaload, 1) := by decide +kernel
theorem dX7_keep_30 : decode cX7_keep 30 = .ok (.istore_n 3, 1) := by decide +kernel
theorem dX7_keep_31 : decode cX7_keep 31 = .ok (.aload_n 0, 1) := by decide +kernel
theorem dX7_keep_32 : decode cX7_keep 32 = .ok (.getfield 12, 3) := by decide +kernel
theorem dX7_keep_35 : decode cX7_keep 35 = .ok (.getfield 86, 3) := by decide +kernel
theorem dX7_keep_38 : decode cX7_keep 38 = .ok (.iload_n 1, 1) := by decide +kernel
theorem dX7_keep_39 : decode cX7_keep 39 = .ok (.iload_n 2, 1) := by decide +kernel
theorem dX7_keep_40 : decode cX7_keep 40 = .ok (.iastore, 1) := by decide +kernel
theorem dX7_keep_41 : decode cX7_keep 41 = .ok (.iload_n 3, 1) := by decide +kernel
theorem dX7_keep_42 : decode cX7_keep 42 = .ok (.i2l, 1) := by decide +kernel
theorem dX7_keep_43 : decode cX7_keep 43 = .ok (.lreturn, 1) := by decide +kernel
theorem dX7_world_0 : decode cX7_world 0 = .ok (.iload_n 1, 1) := by decide +kernel
theorem dX7_world_1 : decode cX7_world 1 = .ok (.invokestatic 90, 3) := by decide +kernel
theorem dX7_world_4 : decode cX7_world 4 = .ok (.ifCond .eq 23, 3) := by decide +kernel
theorem dX7_world_7 : decode cX7_world 7 = .ok (.iload_n 2, 1) := by decide +kernel
theorem dX7_world_8 : decode cX7_world 8 = .ok (.iconst 0, 1) := by decide +kernel
theorem dX7_world_9 : decode cX7_world 9 = .ok (.getstatic 93, 3) := by decide +kernel
theorem dX7_world_12 : decode cX7_world 12 = .ok (.arraylength, 1) := by decide +kernel
theorem dX7_world_13 : decode cX7_world 13 = .ok (.iconst 1, 1) := by decide +kernel
theorem dX7_world_14 : decode cX7_world 14 = .ok (.isub, 1) := by decide +kernel
theorem dX7_world_15 : decode cX7_world 15 = .ok (.invokestatic 58, 3) := by decide +kernel
theorem dX7_world_18 : decode cX7_world 18 = .ok (.ifCond .eq 9, 3) := by decide +kernel
theorem dX7_world_21 : decode cX7_world 21 = .ok (.iload_n 3, 1) := by decide +kernel
theorem dX7_world_22 : decode cX7_world 22 = .ok (.bipush 36, 2) := by decide +kernel
theorem dX7_world_24 : decode cX7_world 24 = .ok (.if_icmp .le 7, 3) := by decide +kernel
theorem dX7_world_27 : decode cX7_world 27 = .ok (.ldc2_w 62, 3) := by decide +kernel
theorem dX7_world_30 : decode cX7_world 30 = .ok (.lreturn, 1) := by decide +kernel
theorem dX7_world_31 : decode cX7_world 31 = .ok (.iload_n 3, 1) := by decide +kernel
theorem dX7_world_32 : decode cX7_world 32 = .ok (.ifCond .ge 7, 3) := by decide +kernel
theorem dX7_world_35 : decode cX7_world 35 = .ok (.ldc2_w 96, 3) := by decide +kernel
theorem dX7_world_38 : decode cX7_world 38 = .ok (.lreturn, 1) := by decide +kernel
theorem dX7_world_39 : decode cX7_world 39 = .ok (.aload_n 0, 1) := by decide +kernel
theorem dX7_world_40 : decode cX7_world 40 = .ok (.getfield 18, 3) := by decide +kernel
theorem dX7_world_43 : decode cX7_world 43 = .ok (.iload_n 1, 1) := by decide +kernel
theorem dX7_world_44 : decode cX7_world 44 = .ok (.aaload, 1) := by decide +kernel
theorem dX7_world_45 : decode cX7_world 45 = .ok (.iload_n 2, 1) := by decide +kernel
theorem dX7_world_46 : decode cX7_world 46 = .ok (.iload_n 3, 1) := by decide +kernel
theorem dX7_world_47 : decode cX7_world 47 = .ok (.invokevirtual 98, 3) := by decide +kernel
theorem dX7_world_50 : decode cX7_world 50 = .ok (.iload_n 3, 1) := by decide +kernel
theorem dX7_world_51 : decode cX7_world 51 = .ok (.i2l, 1) := by decide +kernel
theorem dX7_world_52 : decode cX7_world 52 = .ok (.lreturn, 1) := by decide +kernel
theorem dX7_lose_0 : decode cX7_lose 0 = .ok (.iload_n 1, 1) := by decide +kernel
theorem dX7_lose_1 : decode cX7_lose 1 = .ok (.invokestatic 90, 3) := by decide +kernel
theorem dX7_lose_4 : decode cX7_lose 4 = .ok (.ifCond .ne 7, 3) := by decide +kernel
theorem dX7_lose_7 : decode cX7_lose 7 = .ok (.ldc2_w 62, 3) := by decide +kernel
theorem dX7_lose_10 : decode cX7_lose 10 = .ok (.lreturn, 1) := by decide +kernel
theorem dX7_lose_11 : decode cX7_lose 11 = .ok (.aload_n 0, 1) := by decide +kernel
theorem dX7_lose_12 : decode cX7_lose 12 = .ok (.getfield 18, 3) := by decide +kernel
theorem dX7_lose_15 : decode cX7_lose 15 = .ok (.iload_n 1, 1) := by decide +kernel
theorem dX7_lose_16 : decode cX7_lose 16 = .ok (.aaload, 1) := by decide +kernel
theorem dX7_lose_17 : decode cX7_lose 17 = .ok (.astore_n 2, 1) := by decide +kernel
theorem dX7_lose_18 : decode cX7_lose 18 = .ok (.aload_n 2, 1) := by decide +kernel
theorem dX7_lose_19 : decode cX7_lose 19 = .ok (.getfield 102, 3) := by decide +kernel
theorem dX7_lose_22 : decode cX7_lose 22 = .ok (.ifCond .ne 7, 3) := by decide +kernel
theorem dX7_lose_25 : decode cX7_lose 25 = .ok (.ldc2_w 106, 3) := by decide +kernel
theorem dX7_lose_28 : decode cX7_lose 28 = .ok (.lreturn, 1) := by decide +kernel
theorem dX7_lose_29 : decode cX7_lose 29 = .ok (.aload_n 2, 1) := by decide +kernel
theorem dX7_lose_30 : decode cX7_lose 30 = .ok (.iconst 0, 1) := by decide +kernel
theorem dX7_lose_31 : decode cX7_lose 31 = .ok (.putfield 102, 3) := by decide +kernel
theorem dX7_lose_34 : decode cX7_lose 34 = .ok (.aload_n 2, 1) := by decide +kernel
theorem dX7_lose_35 : decode cX7_lose 35 = .ok (.getfield 108, 3) := by decide +kernel
theorem dX7_lose_38 : decode cX7_lose 38 = .ok (.i2l, 1) := by decide +kernel
theorem dX7_lose_39 : decode cX7_lose 39 = .ok (.lreturn, 1) := by decide +kernel
theorem dX7_price_0 : decode cX7_price 0 = .ok (.iload_n 1, 1) := by decide +kernel
theorem dX7_price_1 : decode cX7_price 1 = .ok (.invokestatic 90, 3) := by decide +kernel
theorem dX7_price_4 : decode cX7_price 4 = .ok (.ifCond .ne 7, 3) := by decide +kernel
theorem dX7_price_7 : decode cX7_price 7 = .ok (.ldc2_w 62, 3) := by decide +kernel
theorem dX7_price_10 : decode cX7_price 10 = .ok (.lreturn, 1) := by decide +kernel
theorem dX7_price_11 : decode cX7_price 11 = .ok (.aload_n 0, 1) := by decide +kernel
theorem dX7_price_12 : decode cX7_price 12 = .ok (.getfield 18, 3) := by decide +kernel
theorem dX7_price_15 : decode cX7_price 15 = .ok (.iload_n 1, 1) := by decide +kernel
theorem dX7_price_16 : decode cX7_price 16 = .ok (.aaload, 1) := by decide +kernel
theorem dX7_price_17 : decode cX7_price 17 = .ok (.astore 4, 2) := by decide +kernel
theorem dX7_price_19 : decode cX7_price 19 = .ok (.aload 4, 2) := by decide +kernel
theorem dX7_price_21 : decode cX7_price 21 = .ok (.getfield 102, 3) := by decide +kernel
theorem dX7_price_24 : decode cX7_price 24 = .ok (.ifCond .ne 7, 3) := by decide +kernel
theorem dX7_price_27 : decode cX7_price 27 = .ok (.ldc2_w 106, 3) := by decide +kernel
theorem dX7_price_30 : decode cX7_price 30 = .ok (.lreturn, 1) := by decide +kernel
theorem dX7_price_31 : decode cX7_price 31 = .ok (.iload_n 2, 1) := by decide +kernel
theorem dX7_price_32 : decode cX7_price 32 = .ok (.iconst 0, 1) := by decide +kernel
theorem dX7_price_33 : decode cX7_price 33 = .ok (.aload 4, 2) := by decide +kernel
theorem dX7_price_35 : decode cX7_price 35 = .ok (.getfield 108, 3) := by decide +kernel
theorem dX7_price_38 : decode cX7_price 38 = .ok (.iconst 1, 1) := by decide +kernel
theorem dX7_price_39 : decode cX7_price 39 = .ok (.isub, 1) := by decide +kernel
theorem dX7_price_40 : decode cX7_price 40 = .ok (.invokestatic 58, 3) := by decide +kernel
theorem dX7_price_43 : decode cX7_price 43 = .ok (.ifCond .ne 7, 3) := by decide +kernel
theorem dX7_price_46 : decode cX7_price 46 = .ok (.ldc2_w 111, 3) := by decide +kernel
theorem dX7_price_49 : decode cX7_price 49 = .ok (.lreturn, 1) := by decide +kernel
theorem dX7_price_50 : decode cX7_price 50 = .ok (.aload 4, 2) := by decide +kernel
theorem dX7_price_52 : decode cX7_price 52 = .ok (.iload_n 3, 1) := by decide +kernel
theorem dX7_price_53 : decode cX7_price 53 = .ok (.invokevirtual 113, 3) := by decide +kernel
theorem dX7_price_56 : decode cX7_price 56 = .ok (.ifCond .ne 7, 3) := by decide +kernel
theorem dX7_price_59 : decode cX7_price 59 = .ok (.ldc2_w 62, 3) := by decide +kernel
theorem dX7_price_62 : decode cX7_price 62 = .ok (.lreturn, 1) := by decide +kernel
theorem dX7_price_63 : decode cX7_price 63 = .ok (.aload 4, 2) := by decide +kernel
theorem dX7_price_65 : decode cX7_price 65 = .ok (.getfield 116, 3) := by decide +kernel
theorem dX7_price_68 : decode cX7_price 68 = .ok (.iload_n 2, 1) := by decide +kernel
theorem dX7_price_69 : decode cX7_price 69 = .ok (.iaload, 1) := by decide +kernel
theorem dX7_price_70 : decode cX7_price 70 = .ok (.istore 5, 2) := by decide +kernel
theorem dX7_price_72 : decode cX7_price 72 = .ok (.aload 4, 2) := by decide +kernel
theorem dX7_price_74 : decode cX7_price 74 = .ok (.getfield 116, 3) := by decide +kernel
theorem dX7_price_77 : decode cX7_price 77 = .ok (.iload_n 2, 1) := by decide +kernel
theorem dX7_price_78 : decode cX7_price 78 = .ok (.iload_n 3, 1) := by decide +kernel
theorem dX7_price_79 : decode cX7_price 79 = .ok (.iastore, 1) := by decide +kernel
theorem dX7_price_80 : decode cX7_price 80 = .ok (.iload 5, 2) := by decide +kernel
theorem dX7_price_82 : decode cX7_price 82 = .ok (.i2l, 1) := by decide +kernel
theorem dX7_price_83 : decode cX7_price 83 = .ok (.lreturn, 1) := by decide +kernel
theorem dX7_copy_0 : decode cX7_copy 0 = .ok (.iload_n 1, 1) := by decide +kernel
theorem dX7_copy_1 : decode cX7_copy 1 = .ok (.invokestatic 90, 3) := by decide +kernel
theorem dX7_copy_4 : decode cX7_copy 4 = .ok (.ifCond .eq 10, 3) := by decide +kernel
theorem dX7_copy_7 : decode cX7_copy 7 = .ok (.iload_n 3, 1) := by decide +kernel
theorem dX7_copy_8 : decode cX7_copy 8 = .ok (.invokestatic 90, 3) := by decide +kernel
theorem dX7_copy_11 : decode cX7_copy 11 = .ok (.ifCond .ne 7, 3) := by decide +kernel
theorem dX7_copy_14 : decode cX7_copy 14 = .ok (.ldc2_w 62, 3) := by decide +kernel
theorem dX7_copy_17 : decode cX7_copy 17 = .ok (.lreturn, 1) := by decide +kernel
theorem dX7_copy_18 : decode cX7_copy 18 = .ok (.aload_n 0, 1) := by decide +kernel
theorem dX7_copy_19 : decode cX7_copy 19 = .ok (.getfield 18, 3) := by decide +kernel
theorem dX7_copy_22 : decode cX7_copy 22 = .ok (.iload_n 1, 1) := by decide +kernel
theorem dX7_copy_23 : decode cX7_copy 23 = .ok (.aaload, 1) := by decide +kernel
theorem dX7_copy_24 : decode cX7_copy 24 = .ok (.astore 6, 2) := by decide +kernel
theorem dX7_copy_26 : decode cX7_copy 26 = .ok (.aload_n 0, 1) := by decide +kernel
theorem dX7_copy_27 : decode cX7_copy 27 = .ok (.getfield 18, 3) := by decide +kernel
theorem dX7_copy_30 : decode cX7_copy 30 = .ok (.iload_n 3, 1) := by decide +kernel
theorem dX7_copy_31 : decode cX7_copy 31 = .ok (.aaload, 1) := by decide +kernel
theorem dX7_copy_32 : decode cX7_copy 32 = .ok (.astore 7, 2) := by decide +kernel
theorem dX7_copy_34 : decode cX7_copy 34 = .ok (.aload 6, 2) := by decide +kernel
theorem dX7_copy_36 : decode cX7_copy 36 = .ok (.getfield 102, 3) := by decide +kernel
theorem dX7_copy_39 : decode cX7_copy 39 = .ok (.ifCond .eq 11, 3) := by decide +kernel
theorem dX7_copy_42 : decode cX7_copy 42 = .ok (.aload 7, 2) := by decide +kernel
theorem dX7_copy_44 : decode cX7_copy 44 = .ok (.getfield 102, 3) := by decide +kernel
theorem dX7_copy_47 : decode cX7_copy 47 = .ok (.ifCond .ne 7, 3) := by decide +kernel
theorem dX7_copy_50 : decode cX7_copy 50 = .ok (.ldc2_w 106, 3) := by decide +kernel
theorem dX7_copy_53 : decode cX7_copy 53 = .ok (.lreturn, 1) := by decide +kernel
theorem dX7_copy_54 : decode cX7_copy 54 = .ok (.aload 6, 2) := by decide +kernel
theorem dX7_copy_56 : decode cX7_copy 56 = .ok (.getfield 119, 3) := by decide +kernel
theorem dX7_copy_59 : decode cX7_copy 59 = .ok (.aload 7, 2) := by decide +kernel
theorem dX7_copy_61 : decode cX7_copy 61 = .ok (.getfield 119, 3) := by decide +kernel
theorem dX7_copy_64 : decode cX7_copy 64 = .ok (.if_icmp .eq 7, 3) := by decide +kernel
theorem dX7_copy_67 : decode cX7_copy 67 = .ok (.ldc2_w 122, 3) := by decide +kernel
theorem dX7_copy_70 : decode cX7_copy 70 = .ok (.lreturn, 1) := by decide +kernel
theorem dX7_copy_71 : decode cX7_copy 71 = .ok (.aload 6, 2) := by decide +kernel
theorem dX7_copy_73 : decode cX7_copy 73 = .ok (.iload_n 2, 1) := by decide +kernel
theorem dX7_copy_74 : decode cX7_copy 74 = .ok (.iload 5, 2) := by decide +kernel
theorem dX7_copy_76 : decode cX7_copy 76 = .ok (.invokevirtual 124, 3) := by decide +kernel
theorem dX7_copy_79 : decode cX7_copy 79 = .ok (.ifCond .eq 15, 3) := by decide +kernel
theorem dX7_copy_82 : decode cX7_copy 82 = .ok (.aload 7, 2) := by decide +kernel
theorem dX7_copy_84 : decode cX7_copy 84 = .ok (.iload 4, 2) := by decide +kernel
theorem dX7_copy_86 : decode cX7_copy 86 = .ok (.iload 5, 2) := by decide +kernel
theorem dX7_copy_88 : decode cX7_copy 88 = .ok (.invokevirtual 124, 3) := by decide +kernel
theorem dX7_copy_91 : decode cX7_copy 91 = .ok (.ifCond .ne 7, 3) := by decide +kernel
theorem dX7_copy_94 : decode cX7_copy 94 = .ok (.ldc2_w 111, 3) := by decide +kernel
theorem dX7_copy_97 : decode cX7_copy 97 = .ok (.lreturn, 1) := by decide +kernel
theorem dX7_copy_98 : decode cX7_copy 98 = .ok (.aload 6, 2) := by decide +kernel
theorem dX7_copy_100 : decode cX7_copy 100 = .ok (.getfield 116, 3) := by decide +kernel
theorem dX7_copy_103 : decode cX7_copy 103 = .ok (.iload_n 2, 1) := by decide +kernel
theorem dX7_copy_104 : decode cX7_copy 104 = .ok (.aload 7, 2) := by decide +kernel
theorem dX7_copy_106 : decode cX7_copy 106 = .ok (.getfield 116, 3) := by decide +kernel
theorem dX7_copy_109 : decode cX7_copy 109 = .ok (.iload 4, 2) := by decide +kernel
theorem dX7_copy_111 : decode cX7_copy 111 = .ok (.iload 5, 2) := by decide +kernel
theorem dX7_copy_113 : decode cX7_copy 113 = .ok (.invokestatic 128, 3) := by decide +kernel
theorem dX7_copy_116 : decode cX7_copy 116 = .ok (.iload 5, 2) := by decide +kernel
theorem dX7_copy_118 : decode cX7_copy 118 = .ok (.i2l, 1) := by decide +kernel
theorem dX7_copy_119 : decode cX7_copy 119 = .ok (.lreturn, 1) := by decide +kernel
theorem dX7_told_0 : decode cX7_told 0 = .ok (.iload_n 1, 1) := by decide +kernel
theorem dX7_told_1 : decode cX7_told 1 = .ok (.invokestatic 90, 3) := by decide +kernel
theorem dX7_told_4 : decode cX7_told 4 = .ok (.ifCond .eq 10, 3) := by decide +kernel
theorem dX7_told_7 : decode cX7_told 7 = .ok (.iload_n 2, 1) := by decide +kernel
theorem dX7_told_8 : decode cX7_told 8 = .ok (.invokestatic 74, 3) := by decide +kernel
theorem dX7_told_11 : decode cX7_told 11 = .ok (.ifCond .ne 7, 3) := by decide +kernel
theorem dX7_told_14 : decode cX7_told 14 = .ok (.ldc2_w 62, 3) := by decide +kernel
theorem dX7_told_17 : decode cX7_told 17 = .ok (.lreturn, 1) := by decide +kernel
theorem dX7_told_18 : decode cX7_told 18 = .ok (.aload_n 0, 1) := by decide +kernel
theorem dX7_told_19 : decode cX7_told 19 = .ok (.getfield 18, 3) := by decide +kernel
theorem dX7_told_22 : decode cX7_told 22 = .ok (.iload_n 1, 1) := by decide +kernel
theorem dX7_told_23 : decode cX7_told 23 = .ok (.aaload, 1) := by decide +kernel
theorem dX7_told_24 : decode cX7_told 24 = .ok (.iload_n 2, 1) := by decide +kernel
theorem dX7_told_25 : decode cX7_told 25 = .ok (.invokevirtual 134, 3) := by decide +kernel
theorem dX7_told_28 : decode cX7_told 28 = .ok (.i2l, 1) := by decide +kernel
theorem dX7_told_29 : decode cX7_told 29 = .ok (.lreturn, 1) := by decide +kernel
theorem dX7_store_0 : decode cX7_store 0 = .ok (.iload_n 1, 1) := by decide +kernel
theorem dX7_store_1 : decode cX7_store 1 = .ok (.invokestatic 138, 3) := by decide +kernel
theorem dX7_store_4 : decode cX7_store 4 = .ok (.ifCond .eq 20, 3) := by decide +kernel
theorem dX7_store_7 : decode cX7_store 7 = .ok (.iload_n 2, 1) := by decide +kernel
theorem dX7_store_8 : decode cX7_store 8 = .ok (.invokestatic 141, 3) := by decide +kernel
theorem dX7_store_11 : decode cX7_store 11 = .ok (.ifCond .eq 13, 3) := by decide +kernel
theorem dX7_store_14 : decode cX7_store 14 = .ok (.iload_n 3, 1) := by decide +kernel
theorem dX7_store_15 : decode cX7_store 15 = .ok (.iconst 1, 1) := by decide +kernel
theorem dX7_store_16 : decode cX7_store 16 = .ok (.bipush 60, 2) := by decide +kernel
theorem dX7_store_18 : decode cX7_store 18 = .ok (.invokestatic 58, 3) := by decide +kernel
theorem dX7_store_21 : decode cX7_store 21 = .ok (.ifCond .ne 7, 3) := by decide +kernel
theorem dX7_store_24 : decode cX7_store 24 = .ok (.ldc2_w 62, 3) := by decide +kernel
theorem dX7_store_27 : decode cX7_store 27 = .ok (.lreturn, 1) := by decide +kernel
theorem dX7_store_28 : decode cX7_store 28 = .ok (.iload 4, 2) := by decide +kernel
theorem dX7_store_30 : decode cX7_store 30 = .ok (.invokestatic 144, 3) := by decide +kernel
theorem dX7_store_33 : decode cX7_store 33 = .ok (.ifCond .eq 15, 3) := by decide +kernel
theorem dX7_store_36 : decode cX7_store 36 = .ok (.iload 5, 2) := by decide +kernel
theorem dX7_store_38 : decode cX7_store 38 = .ok (.iconst 0, 1) := by decide +kernel
theorem dX7_store_39 : decode cX7_store 39 = .ok (.sipush 5150, 3) := by decide +kernel
theorem dX7_store_42 : decode cX7_store 42 = .ok (.invokestatic 58, 3) := by decide +kernel
theorem dX7_store_45 : decode cX7_store 45 = .ok (.ifCond .ne 7, 3) := by decide +kernel
theorem dX7_store_48 : decode cX7_store 48 = .ok (.ldc2_w 62, 3) := by decide +kernel
theorem dX7_store_51 : decode cX7_store 51 = .ok (.lreturn, 1) := by decide +kernel
theorem dX7_store_52 : decode cX7_store 52 = .ok (.aload_n 0, 1) := by decide +kernel
theorem dX7_store_53 : decode cX7_store 53 = .ok (.getfield 25, 3) := by decide +kernel
theorem dX7_store_56 : decode cX7_store 56 = .ok (.iload_n 1, 1) := by decide +kernel
theorem dX7_store_57 : decode cX7_store 57 = .ok (.aaload, 1) := by decide +kernel
theorem dX7_store_58 : decode cX7_store 58 = .ok (.astore 6, 2) := by decide +kernel
theorem dX7_store_60 : decode cX7_store 60 = .ok (.aload 6, 2) := by decide +kernel
theorem dX7_store_62 : decode cX7_store 62 = .ok (.iload_n 2, 1) := by decide +kernel
theorem dX7_store_63 : decode cX7_store 63 = .ok (.iload_n 3, 1) := by decide +kernel
theorem dX7_store_64 : decode cX7_store 64 = .ok (.invokevirtual 147, 3) := by decide +kernel
theorem dX7_store_67 : decode cX7_store 67 = .ok (.aload 6, 2) := by decide +kernel
theorem dX7_store_69 : decode cX7_store 69 = .ok (.iload 4, 2) := by decide +kernel
theorem dX7_store_71 : decode cX7_store 71 = .ok (.bipush 21, 2) := by decide +kernel
theorem dX7_store_73 : decode cX7_store 73 = .ok (.idiv, 1) := by decide +kernel
theorem dX7_store_74 : decode cX7_store 74 = .ok (.iload 4, 2) := by decide +kernel
theorem dX7_store_76 : decode cX7_store 76 = .ok (.bipush 21, 2) := by decide +kernel
theorem dX7_store_78 : decode cX7_store 78 = .ok (.irem, 1) := by decide +kernel
theorem dX7_store_79 : decode cX7_store 79 = .ok (.invokevirtual 148, 3) := by decide +kernel
theorem dX7_store_82 : decode cX7_store 82 = .ok (.aload 6, 2) := by decide +kernel
theorem dX7_store_84 : decode cX7_store 84 = .ok (.iload 5, 2) := by decide +kernel
theorem dX7_store_86 : decode cX7_store 86 = .ok (.bipush 101, 2) := by decide +kernel
theorem dX7_store_88 : decode cX7_store 88 = .ok (.idiv, 1) := by decide +kernel
theorem dX7_store_89 : decode cX7_store 89 = .ok (.iload 5, 2) := by decide +kernel
theorem dX7_store_91 : decode cX7_store 91 = .ok (.bipush 101, 2) := by decide +kernel
theorem dX7_store_93 : decode cX7_store 93 = .ok (.irem, 1) := by decide +kernel
theorem dX7_store_94 : decode cX7_store 94 = .ok (.invokevirtual 151, 3) := by decide +kernel
theorem dX7_store_97 : decode cX7_store 97 = .ok (.lconst 0, 1) := by decide +kernel
theorem dX7_store_98 : decode cX7_store 98 = .ok (.lreturn, 1) := by decide +kernel
theorem dX7_charge_0 : decode cX7_charge 0 = .ok (.aload_n 0, 1) := by decide +kernel
theorem dX7_charge_1 : decode cX7_charge 1 = .ok (.iload_n 1, 1) := by decide +kernel
theorem dX7_charge_2 : decode cX7_charge 2 = .ok (.iconst 1, 1) := by decide +kernel
theorem dX7_charge_3 : decode cX7_charge 3 = .ok (.invokevirtual 154, 3) := by decide +kernel
theorem dX7_charge_6 : decode cX7_charge 6 = .ok (.lstore_n 3, 1) := by decide +kernel
theorem dX7_charge_7 : decode cX7_charge 7 = .ok (.lload_n 3, 1) := by decide +kernel
theorem dX7_charge_8 : decode cX7_charge 8 = .ok (.lconst 0, 1) := by decide +kernel
theorem dX7_charge_9 : decode cX7_charge 9 = .ok (.lcmp, 1) := by decide +kernel
theorem dX7_charge_10 : decode cX7_charge 10 = .ok (.ifCond .eq 5, 3) := by decide +kernel
theorem dX7_charge_13 : decode cX7_charge 13 = .ok (.lload_n 3, 1) := by decide +kernel
theorem dX7_charge_14 : decode cX7_charge 14 = .ok (.lreturn, 1) := by decide +kernel
theorem dX7_charge_15 : decode cX7_charge 15 = .ok (.aload_n 0, 1) := by decide +kernel
theorem dX7_charge_16 : decode cX7_charge 16 = .ok (.getfield 25, 3) := by decide +kernel
theorem dX7_charge_19 : decode cX7_charge 19 = .ok (.iload_n 1, 1) := by decide +kernel
theorem dX7_charge_20 : decode cX7_charge 20 = .ok (.aaload, 1) := by decide +kernel
theorem dX7_charge_21 : decode cX7_charge 21 = .ok (.astore 5, 2) := by decide +kernel
theorem dX7_charge_23 : decode cX7_charge 23 = .ok (.iload_n 2, 1) := by decide +kernel
theorem dX7_charge_24 : decode cX7_charge 24 = .ok (.aload 5, 2) := by decide +kernel
theorem dX7_charge_26 : decode cX7_charge 26 = .ok (.getfield 158, 3) := by decide +kernel
theorem dX7_charge_29 : decode cX7_charge 29 = .ok (.aload 5, 2) := by decide +kernel
theorem dX7_charge_31 : decode cX7_charge 31 = .ok (.getfield 161, 3) := by decide +kernel
theorem dX7_charge_34 : decode cX7_charge 34 = .ok (.invokestatic 58, 3) := by decide +kernel
theorem dX7_charge_37 : decode cX7_charge 37 = .ok (.ifCond .ne 7, 3) := by decide +kernel
theorem dX7_charge_40 : decode cX7_charge 40 = .ok (.ldc2_w 62, 3) := by decide +kernel
theorem dX7_charge_43 : decode cX7_charge 43 = .ok (.lreturn, 1) := by decide +kernel
theorem dX7_charge_44 : decode cX7_charge 44 = .ok (.aload 5, 2) := by decide +kernel
theorem dX7_charge_46 : decode cX7_charge 46 = .ok (.getfield 164, 3) := by decide +kernel
theorem dX7_charge_49 : decode cX7_charge 49 = .ok (.istore 6, 2) := by decide +kernel
theorem dX7_charge_51 : decode cX7_charge 51 = .ok (.aload 5, 2) := by decide +kernel
theorem dX7_charge_53 : decode cX7_charge 53 = .ok (.iload_n 2, 1) := by decide +kernel
theorem dX7_charge_54 : decode cX7_charge 54 = .ok (.putfield 164, 3) := by decide +kernel
theorem dX7_charge_57 : decode cX7_charge 57 = .ok (.iload 6, 2) := by decide +kernel
theorem dX7_charge_59 : decode cX7_charge 59 = .ok (.i2l, 1) := by decide +kernel
theorem dX7_charge_60 : decode cX7_charge 60 = .ok (.lreturn, 1) := by decide +kernel
theorem dX7_end_0 : decode cX7_end 0 = .ok (.aload_n 0, 1) := by decide +kernel
theorem dX7_end_1 : decode cX7_end 1 = .ok (.iload_n 1, 1) := by decide +kernel
theorem dX7_end_2 : decode cX7_end 2 = .ok (.iload_n 2, 1) := by decide +kernel
theorem dX7_end_3 : decode cX7_end 3 = .ok (.iconst 0, 1) := by decide +kernel
theorem dX7_end_4 : decode cX7_end 4 = .ok (.bipush 60, 2) := by decide +kernel
theorem dX7_end_6 : decode cX7_end 6 = .ok (.invokestatic 58, 3) := by decide +kernel
theorem dX7_end_9 : decode cX7_end 9 = .ok (.invokevirtual 154, 3) := by decide +kernel
theorem dX7_end_12 : decode cX7_end 12 = .ok (.lstore_n 3, 1) := by decide +kernel
theorem dX7_end_13 : decode cX7_end 13 = .ok (.lload_n 3, 1) := by decide +kernel
theorem dX7_end_14 : decode cX7_end 14 = .ok (.lconst 0, 1) := by decide +kernel
theorem dX7_end_15 : decode cX7_end 15 = .ok (.lcmp, 1) := by decide +kernel
theorem dX7_end_16 : decode cX7_end 16 = .ok (.ifCond .eq 5, 3) := by decide +kernel
theorem dX7_end_19 : decode cX7_end 19 = .ok (.lload_n 3, 1) := by decide +kernel
theorem dX7_end_20 : decode cX7_end 20 = .ok (.lreturn, 1) := by decide +kernel
theorem dX7_end_21 : decode cX7_end 21 = .ok (.aload_n 0, 1) := by decide +kernel
theorem dX7_end_22 : decode cX7_end 22 = .ok (.getfield 25, 3) := by decide +kernel
theorem dX7_end_25 : decode cX7_end 25 = .ok (.iload_n 1, 1) := by decide +kernel
theorem dX7_end_26 : decode cX7_end 26 = .ok (.aaload, 1) := by decide +kernel
theorem dX7_end_27 : decode cX7_end 27 = .ok (.getfield 167, 3) := by decide +kernel
theorem dX7_end_30 : decode cX7_end 30 = .ok (.istore 5, 2) := by decide +kernel
theorem dX7_end_32 : decode cX7_end 32 = .ok (.aload_n 0, 1) := by decide +kernel
theorem dX7_end_33 : decode cX7_end 33 = .ok (.getfield 25, 3) := by decide +kernel
theorem dX7_end_36 : decode cX7_end 36 = .ok (.iload_n 1, 1) := by decide +kernel
theorem dX7_end_37 : decode cX7_end 37 = .ok (.aaload, 1) := by decide +kernel
theorem dX7_end_38 : decode cX7_end 38 = .ok (.iload_n 2, 1) := by decide +kernel
theorem dX7_end_39 : decode cX7_end 39 = .ok (.putfield 167, 3) := by decide +kernel
theorem dX7_end_42 : decode cX7_end 42 = .ok (.iload 5, 2) := by decide +kernel
theorem dX7_end_44 : decode cX7_end 44 = .ok (.i2l, 1) := by decide +kernel
theorem dX7_end_45 : decode cX7_end 45 = .ok (.lreturn, 1) := by decide +kernel
theorem dX7_about_0 : decode cX7_about 0 = .ok (.aload_n 0, 1) := by decide +kernel
theorem dX7_about_1 : decode cX7_about 1 = .ok (.iload_n 1, 1) := by decide +kernel
theorem dX7_about_2 : decode cX7_about 2 = .ok (.iload_n 2, 1) := by decide +kernel
theorem dX7_about_3 : decode cX7_about 3 = .ok (.iconst 0, 1) := by decide +kernel
theorem dX7_about_4 : decode cX7_about 4 = .ok (.bipush 10, 2) := by decide +kernel
theorem dX7_about_6 : decode cX7_about 6 = .ok (.invokestatic 58, 3) := by decide +kernel
theorem dX7_about_9 : decode cX7_about 9 = .ok (.invokevirtual 154, 3) := by decide +kernel
theorem dX7_about_12 : decode cX7_about 12 = .ok (.lstore_n 3, 1) := by decide +kernel
theorem dX7_about_13 : decode cX7_about 13 = .ok (.lload_n 3, 1) := by decide +kernel
theorem dX7_about_14 : decode cX7_about 14 = .ok (.lconst 0, 1) := by decide +kernel
theorem dX7_about_15 : decode cX7_about 15 = .ok (.lcmp, 1) := by decide +kernel
theorem dX7_about_16 : decode cX7_about 16 = .ok (.ifCond .eq 5, 3) := by decide +kernel
theorem dX7_about_19 : decode cX7_about 19 = .ok (.lload_n 3, 1) := by decide +kernel
theorem dX7_about_20 : decode cX7_about 20 = .ok (.lreturn, 1) := by decide +kernel
theorem dX7_about_21 : decode cX7_about 21 = .ok (.aload_n 0, 1) := by decide +kernel
theorem dX7_about_22 : decode cX7_about 22 = .ok (.getfield 25, 3) := by decide +kernel
theorem dX7_about_25 : decode cX7_about 25 = .ok (.iload_n 1, 1) := by decide +kernel
theorem dX7_about_26 : decode cX7_about 26 = .ok (.aaload, 1) := by decide +kernel
theorem dX7_about_27 : decode cX7_about 27 = .ok (.iload_n 2, 1) := by decide +kernel
theorem dX7_about_28 : decode cX7_about 28 = .ok (.invokevirtual 170, 3) := by decide +kernel
theorem dX7_about_31 : decode cX7_about 31 = .ok (.i2l, 1) := by decide +kernel
theorem dX7_about_32 : decode cX7_about 32 = .ok (.lreturn, 1) := by decide +kernel
theorem dX7_isOf_0 : decode cX7_isOf 0 = .ok (.aload_n 0, 1) := by decide +kernel
theorem dX7_isOf_1 : decode cX7_isOf 1 = .ok (.iload_n 1, 1) := by decide +kernel
theorem dX7_isOf_2 : decode cX7_isOf 2 = .ok (.iload_n 2, 1) := by decide +kernel
theorem dX7_isOf_3 : decode cX7_isOf 3 = .ok (.invokestatic 141, 3) := by decide +kernel
theorem dX7_isOf_6 : decode cX7_isOf 6 = .ok (.invokevirtual 154, 3) := by decide +kernel
theorem dX7_isOf_9 : decode cX7_isOf 9 = .ok (.lstore_n 3, 1) := by decide +kernel
theorem dX7_isOf_10 : decode cX7_isOf 10 = .ok (.lload_n 3, 1) := by decide +kernel
theorem dX7_isOf_11 : decode cX7_isOf 11 = .ok (.lconst 0, 1) := by decide +kernel
theorem dX7_isOf_12 : decode cX7_isOf 12 = .ok (.lcmp, 1) := by decide +kernel
theorem dX7_isOf_13 : decode cX7_isOf 13 = .ok (.ifCond .eq 5, 3) := by decide +kernel
theorem dX7_isOf_16 : decode cX7_isOf 16 = .ok (.lload_n 3, 1) := by decide +kernel
theorem dX7_isOf_17 : decode cX7_isOf 17 = .ok (.lreturn, 1) := by decide +kernel
theorem dX7_isOf_18 : decode cX7_isOf 18 = .ok (.aload_n 0, 1) := by decide +kernel
theorem dX7_isOf_19 : decode cX7_isOf 19 = .ok (.getfield 25, 3) := by decide +kernel
theorem dX7_isOf_22 : decode cX7_isOf 22 = .ok (.iload_n 1, 1) := by decide +kernel
theorem dX7_isOf_23 : decode cX7_isOf 23 = .ok (.aaload, 1) := by decide +kernel
theorem dX7_isOf_24 : decode cX7_isOf 24 = .ok (.iload_n 2, 1) := by decide +kernel
theorem dX7_isOf_25 : decode cX7_isOf 25 = .ok (.invokevirtual 173, 3) := by decide +kernel
theorem dX7_isOf_28 : decode cX7_isOf 28 = .ok (.invokestatic 82, 3) := by decide +kernel
theorem dX7_isOf_31 : decode cX7_isOf 31 = .ok (.lreturn, 1) := by decide +kernel
theorem dX7_put_0 : decode cX7_put 0 = .ok (.aload_n 0, 1) := by decide +kernel
theorem dX7_put_1 : decode cX7_put 1 = .ok (.iload_n 1, 1) := by decide +kernel
theorem dX7_put_2 : decode cX7_put 2 = .ok (.iconst 1, 1) := by decide +kernel
theorem dX7_put_3 : decode cX7_put 3 = .ok (.invokevirtual 154, 3) := by decide +kernel
theorem dX7_put_6 : decode cX7_put 6 = .ok (.lstore 4, 2) := by decide +kernel
theorem dX7_put_8 : decode cX7_put 8 = .ok (.lload 4, 2) := by decide +kernel
theorem dX7_put_10 : decode cX7_put 10 = .ok (.lconst 0, 1) := by decide +kernel
theorem dX7_put_11 : decode cX7_put 11 = .ok (.lcmp, 1) := by decide +kernel
theorem dX7_put_12 : decode cX7_put 12 = .ok (.ifCond .eq 6, 3) := by decide +kernel
theorem dX7_put_15 : decode cX7_put 15 = .ok (.lload 4, 2) := by decide +kernel
theorem dX7_put_17 : decode cX7_put 17 = .ok (.lreturn, 1) := by decide +kernel
theorem dX7_put_18 : decode cX7_put 18 = .ok (.aload_n 0, 1) := by decide +kernel
theorem dX7_put_19 : decode cX7_put 19 = .ok (.iload_n 2, 1) := by decide +kernel
theorem dX7_put_20 : decode cX7_put 20 = .ok (.invokevirtual 176, 3) := by decide +kernel
theorem dX7_put_23 : decode cX7_put 23 = .ok (.ifCond .ne 7, 3) := by decide +kernel
theorem dX7_put_26 : decode cX7_put 26 = .ok (.ldc2_w 111, 3) := by decide +kernel
theorem dX7_put_29 : decode cX7_put 29 = .ok (.lreturn, 1) := by decide +kernel
theorem dX7_put_30 : decode cX7_put 30 = .ok (.iload_n 3, 1) := by decide +kernel
theorem dX7_put_31 : decode cX7_put 31 = .ok (.bipush (-100), 2) := by decide +kernel
theorem dX7_put_33 : decode cX7_put 33 = .ok (.bipush 100, 2) := by decide +kernel
theorem dX7_put_35 : decode cX7_put 35 = .ok (.invokestatic 58, 3) := by decide +kernel
theorem dX7_put_38 : decode cX7_put 38 = .ok (.ifCond .ne 7, 3) := by decide +kernel
theorem dX7_put_41 : decode cX7_put 41 = .ok (.ldc2_w 62, 3) := by decide +kernel
theorem dX7_put_44 : decode cX7_put 44 = .ok (.lreturn, 1) := by decide +kernel
theorem dX7_put_45 : decode cX7_put 45 = .ok (.aload_n 0, 1) := by decide +kernel
theorem dX7_put_46 : decode cX7_put 46 = .ok (.getfield 25, 3) := by decide +kernel
theorem dX7_put_49 : decode cX7_put 49 = .ok (.iload_n 1, 1) := by decide +kernel
theorem dX7_put_50 : decode cX7_put 50 = .ok (.aaload, 1) := by decide +kernel
theorem dX7_put_51 : decode cX7_put 51 = .ok (.getfield 179, 3) := by decide +kernel
theorem dX7_put_54 : decode cX7_put 54 = .ok (.iload_n 2, 1) := by decide +kernel
theorem dX7_put_55 : decode cX7_put 55 = .ok (.iaload, 1) := by decide +kernel
theorem dX7_put_56 : decode cX7_put 56 = .ok (.istore 6, 2) := by decide +kernel
theorem dX7_put_58 : decode cX7_put 58 = .ok (.aload_n 0, 1) := by decide +kernel
theorem dX7_put_59 : decode cX7_put 59 = .ok (.getfield 25, 3) := by decide +kernel
theorem dX7_put_62 : decode cX7_put 62 = .ok (.iload_n 1, 1) := by decide +kernel
theorem dX7_put_63 : decode cX7_put 63 = .ok (.aaload, 1) := by decide +kernel
theorem dX7_put_64 : decode cX7_put 64 = .ok (.getfield 179, 3) := by decide +kernel
theorem dX7_put_67 : decode cX7_put 67 = .ok (.iload_n 2, 1) := by decide +kernel
theorem dX7_put_68 : decode cX7_put 68 = .ok (.iload_n 3, 1) := by decide +kernel
theorem dX7_put_69 : decode cX7_put 69 = .ok (.iastore, 1) := by decide +kernel
theorem dX7_put_70 : decode cX7_put 70 = .ok (.iload 6, 2) := by decide +kernel
theorem dX7_put_72 : decode cX7_put 72 = .ok (.i2l, 1) := by decide +kernel
theorem dX7_put_73 : decode cX7_put 73 = .ok (.lreturn, 1) := by decide +kernel
theorem dX7_planned_0 : decode cX7_planned 0 = .ok (.aload_n 0, 1) := by decide +kernel
theorem dX7_planned_1 : decode cX7_planned 1 = .ok (.iload_n 1, 1) := by decide +kernel
theorem dX7_planned_2 : decode cX7_planned 2 = .ok (.iconst 1, 1) := by decide +kernel
theorem dX7_planned_3 : decode cX7_planned 3 = .ok (.invokevirtual 154, 3) := by decide +kernel
theorem dX7_planned_6 : decode cX7_planned 6 = .ok (.lstore_n 3, 1) := by decide +kernel
theorem dX7_planned_7 : decode cX7_planned 7 = .ok (.lload_n 3, 1) := by decide +kernel
theorem dX7_planned_8 : decode cX7_planned 8 = .ok (.lconst 0, 1) := by decide +kernel
theorem dX7_planned_9 : decode cX7_planned 9 = .ok (.lcmp, 1) := by decide +kernel
theorem dX7_planned_10 : decode cX7_planned 10 = .ok (.ifCond .eq 5, 3) := by decide +kernel
theorem dX7_planned_13 : decode cX7_planned 13 = .ok (.lload_n 3, 1) := by decide +kernel
theorem dX7_planned_14 : decode cX7_planned 14 = .ok (.lreturn, 1) := by decide +kernel
theorem dX7_planned_15 : decode cX7_planned 15 = .ok (.aload_n 0, 1) := by decide +kernel
theorem dX7_planned_16 : decode cX7_planned 16 = .ok (.iload_n 2, 1) := by decide +kernel
theorem dX7_planned_17 : decode cX7_planned 17 = .ok (.invokevirtual 176, 3) := by decide +kernel
theorem dX7_planned_20 : decode cX7_planned 20 = .ok (.ifCond .ne 7, 3) := by decide +kernel
theorem dX7_planned_23 : decode cX7_planned 23 = .ok (.ldc2_w 111, 3) := by decide +kernel
theorem dX7_planned_26 : decode cX7_planned 26 = .ok (.lreturn, 1) := by decide +kernel
theorem dX7_planned_27 : decode cX7_planned 27 = .ok (.aload_n 0, 1) := by decide +kernel
theorem dX7_planned_28 : decode cX7_planned 28 = .ok (.getfield 25, 3) := by decide +kernel
theorem dX7_planned_31 : decode cX7_planned 31 = .ok (.iload_n 1, 1) := by decide +kernel
theorem dX7_planned_32 : decode cX7_planned 32 = .ok (.aaload, 1) := by decide +kernel
theorem dX7_planned_33 : decode cX7_planned 33 = .ok (.getfield 179, 3) := by decide +kernel
theorem dX7_planned_36 : decode cX7_planned 36 = .ok (.iload_n 2, 1) := by decide +kernel
theorem dX7_planned_37 : decode cX7_planned 37 = .ok (.iaload, 1) := by decide +kernel
theorem dX7_planned_38 : decode cX7_planned 38 = .ok (.i2l, 1) := by decide +kernel
theorem dX7_planned_39 : decode cX7_planned 39 = .ok (.lreturn, 1) := by decide +kernel
theorem dX7_behind_0 : decode cX7_behind 0 = .ok (.aload_n 0, 1) := by decide +kernel
theorem dX7_behind_1 : decode cX7_behind 1 = .ok (.iload_n 1, 1) := by decide +kernel
theorem dX7_behind_2 : decode cX7_behind 2 = .ok (.iconst 1, 1) := by decide +kernel
theorem dX7_behind_3 : decode cX7_behind 3 = .ok (.invokevirtual 154, 3) := by decide +kernel
theorem dX7_behind_6 : decode cX7_behind 6 = .ok (.lstore_n 3, 1) := by decide +kernel
theorem dX7_behind_7 : decode cX7_behind 7 = .ok (.lload_n 3, 1) := by decide +kernel
theorem dX7_behind_8 : decode cX7_behind 8 = .ok (.lconst 0, 1) := by decide +kernel
theorem dX7_behind_9 : decode cX7_behind 9 = .ok (.lcmp, 1) := by decide +kernel
theorem dX7_behind_10 : decode cX7_behind 10 = .ok (.ifCond .eq 5, 3) := by decide +kernel
theorem dX7_behind_13 : decode cX7_behind 13 = .ok (.lload_n 3, 1) := by decide +kernel
theorem dX7_behind_14 : decode cX7_behind 14 = .ok (.lreturn, 1) := by decide +kernel
theorem dX7_behind_15 : decode cX7_behind 15 = .ok (.iload_n 2, 1) := by decide +kernel
theorem dX7_behind_16 : decode cX7_behind 16 = .ok (.iconst (-1), 1) := by decide +kernel
theorem dX7_behind_17 : decode cX7_behind 17 = .ok (.if_icmp .eq 15, 3) := by decide +kernel
theorem dX7_behind_20 : decode cX7_behind 20 = .ok (.aload_n 0, 1) := by decide +kernel
theorem dX7_behind_21 : decode cX7_behind 21 = .ok (.iload_n 2, 1) := by decide +kernel
theorem dX7_behind_22 : decode cX7_behind 22 = .ok (.invokevirtual 176, 3) := by decide +kernel
theorem dX7_behind_25 : decode cX7_behind 25 = .ok (.ifCond .ne 7, 3) := by decide +kernel
theorem dX7_behind_28 : decode cX7_behind 28 = .ok (.ldc2_w 111, 3) := by decide +kernel
theorem dX7_behind_31 : decode cX7_behind 31 = .ok (.lreturn, 1) := by decide +kernel
theorem dX7_behind_32 : decode cX7_behind 32 = .ok (.aload_n 0, 1) := by decide +kernel
theorem dX7_behind_33 : decode cX7_behind 33 = .ok (.getfield 25, 3) := by decide +kernel
theorem dX7_behind_36 : decode cX7_behind 36 = .ok (.iload_n 1, 1) := by decide +kernel
theorem dX7_behind_37 : decode cX7_behind 37 = .ok (.aaload, 1) := by decide +kernel
theorem dX7_behind_38 : decode cX7_behind 38 = .ok (.iload_n 2, 1) := by decide +kernel
theorem dX7_behind_39 : decode cX7_behind 39 = .ok (.invokevirtual 182, 3) := by decide +kernel
theorem dX7_behind_42 : decode cX7_behind 42 = .ok (.i2l, 1) := by decide +kernel
theorem dX7_behind_43 : decode cX7_behind 43 = .ok (.lreturn, 1) := by decide +kernel
theorem dX7_why_0 : decode cX7_why 0 = .ok (.aload_n 0, 1) := by decide +kernel
theorem dX7_why_1 : decode cX7_why 1 = .ok (.iload_n 1, 1) := by decide +kernel
theorem dX7_why_2 : decode cX7_why 2 = .ok (.iconst 1, 1) := by decide +kernel
theorem dX7_why_3 : decode cX7_why 3 = .ok (.invokevirtual 154, 3) := by decide +kernel
theorem dX7_why_6 : decode cX7_why 6 = .ok (.lstore_n 2, 1) := by decide +kernel
theorem dX7_why_7 : decode cX7_why 7 = .ok (.lload_n 2, 1) := by decide +kernel
theorem dX7_why_8 : decode cX7_why 8 = .ok (.lconst 0, 1) := by decide +kernel
theorem dX7_why_9 : decode cX7_why 9 = .ok (.lcmp, 1) := by decide +kernel
theorem dX7_why_10 : decode cX7_why 10 = .ok (.ifCond .eq 5, 3) := by decide +kernel
theorem dX7_why_13 : decode cX7_why 13 = .ok (.lload_n 2, 1) := by decide +kernel
theorem dX7_why_14 : decode cX7_why 14 = .ok (.lreturn, 1) := by decide +kernel
theorem dX7_why_15 : decode cX7_why 15 = .ok (.aload_n 0, 1) := by decide +kernel
theorem dX7_why_16 : decode cX7_why 16 = .ok (.getfield 12, 3) := by decide +kernel
theorem dX7_why_19 : decode cX7_why 19 = .ok (.aload_n 0, 1) := by decide +kernel
theorem dX7_why_20 : decode cX7_why 20 = .ok (.getfield 25, 3) := by decide +kernel
theorem dX7_why_23 : decode cX7_why 23 = .ok (.iload_n 1, 1) := by decide +kernel
theorem dX7_why_24 : decode cX7_why 24 = .ok (.aaload, 1) := by decide +kernel
theorem dX7_why_25 : decode cX7_why 25 = .ok (.invokevirtual 185, 3) := by decide +kernel
theorem dX7_why_28 : decode cX7_why 28 = .ok (.lreturn, 1) := by decide +kernel
theorem dX7_money_0 : decode cX7_money 0 = .ok (.aload_n 0, 1) := by decide +kernel
theorem dX7_money_1 : decode cX7_money 1 = .ok (.iload_n 1, 1) := by decide +kernel
theorem dX7_money_2 : decode cX7_money 2 = .ok (.iload_n 2, 1) := by decide +kernel
theorem dX7_money_3 : decode cX7_money 3 = .ok (.invokestatic 90, 3) := by decide +kernel
theorem dX7_money_6 : decode cX7_money 6 = .ok (.invokevirtual 154, 3) := by decide +kernel
theorem dX7_money_9 : decode cX7_money 9 = .ok (.lstore_n 3, 1) := by decide +kernel
theorem dX7_money_10 : decode cX7_money 10 = .ok (.lload_n 3, 1) := by decide +kernel
theorem dX7_money_11 : decode cX7_money 11 = .ok (.lconst 0, 1) := by decide +kernel
theorem dX7_money_12 : decode cX7_money 12 = .ok (.lcmp, 1) := by decide +kernel
theorem dX7_money_13 : decode cX7_money 13 = .ok (.ifCond .eq 5, 3) := by decide +kernel
theorem dX7_money_16 : decode cX7_money 16 = .ok (.lload_n 3, 1) := by decide +kernel
theorem dX7_money_17 : decode cX7_money 17 = .ok (.lreturn, 1) := by decide +kernel
theorem dX7_money_18 : decode cX7_money 18 = .ok (.aload_n 0, 1) := by decide +kernel
theorem dX7_money_19 : decode cX7_money 19 = .ok (.getfield 25, 3) := by decide +kernel
theorem dX7_money_22 : decode cX7_money 22 = .ok (.iload_n 1, 1) := by decide +kernel
theorem dX7_money_23 : decode cX7_money 23 = .ok (.aaload, 1) := by decide +kernel
theorem dX7_money_24 : decode cX7_money 24 = .ok (.aload_n 0, 1) := by decide +kernel
theorem dX7_money_25 : decode cX7_money 25 = .ok (.getfield 18, 3) := by decide +kernel
theorem dX7_money_28 : decode cX7_money 28 = .ok (.iload_n 2, 1) := by decide +kernel
theorem dX7_money_29 : decode cX7_money 29 = .ok (.aaload, 1) := by decide +kernel
theorem dX7_money_30 : decode cX7_money 30 = .ok (.aload_n 0, 1) := by decide +kernel
theorem dX7_money_31 : decode cX7_money 31 = .ok (.getfield 12, 3) := by decide +kernel
theorem dX7_money_34 : decode cX7_money 34 = .ok (.getfield 68, 3) := by decide +kernel
theorem dX7_money_37 : decode cX7_money 37 = .ok (.invokevirtual 189, 3) := by decide +kernel
theorem dX7_money_40 : decode cX7_money 40 = .ok (.lreturn, 1) := by decide +kernel
theorem dX7_worst_0 : decode cX7_worst 0 = .ok (.aload_n 0, 1) := by decide +kernel
theorem dX7_worst_1 : decode cX7_worst 1 = .ok (.iload_n 1, 1) := by decide +kernel
theorem dX7_worst_2 : decode cX7_worst 2 = .ok (.iload_n 2, 1) := by decide +kernel
theorem dX7_worst_3 : decode cX7_worst 3 = .ok (.invokestatic 193, 3) := by decide +kernel
theorem dX7_worst_6 : decode cX7_worst 6 = .ok (.invokevirtual 154, 3) := by decide +kernel
theorem dX7_worst_9 : decode cX7_worst 9 = .ok (.lstore_n 3, 1) := by decide +kernel
theorem dX7_worst_10 : decode cX7_worst 10 = .ok (.lload_n 3, 1) := by decide +kernel
theorem dX7_worst_11 : decode cX7_worst 11 = .ok (.lconst 0, 1) := by decide +kernel
theorem dX7_worst_12 : decode cX7_worst 12 = .ok (.lcmp, 1) := by decide +kernel
theorem dX7_worst_13 : decode cX7_worst 13 = .ok (.ifCond .eq 5, 3) := by decide +kernel
theorem dX7_worst_16 : decode cX7_worst 16 = .ok (.lload_n 3, 1) := by decide +kernel
theorem dX7_worst_17 : decode cX7_worst 17 = .ok (.lreturn, 1) := by decide +kernel
theorem dX7_worst_18 : decode cX7_worst 18 = .ok (.ldc2_w 196, 3) := by decide +kernel
theorem dX7_worst_21 : decode cX7_worst 21 = .ok (.lstore 5, 2) := by decide +kernel
theorem dX7_worst_23 : decode cX7_worst 23 = .ok (.iconst 0, 1) := by decide +kernel
theorem dX7_worst_24 : decode cX7_worst 24 = .ok (.istore 7, 2) := by decide +kernel
theorem dX7_worst_26 : decode cX7_worst 26 = .ok (.iload 7, 2) := by decide +kernel
theorem dX7_worst_28 : decode cX7_worst 28 = .ok (.iconst 4, 1) := by decide +kernel
theorem dX7_worst_29 : decode cX7_worst 29 = .ok (.if_icmp .ge 66, 3) := by decide +kernel
theorem dX7_worst_32 : decode cX7_worst 32 = .ok (.iload_n 2, 1) := by decide +kernel
theorem dX7_worst_33 : decode cX7_worst 33 = .ok (.iload 7, 2) := by decide +kernel
theorem dX7_worst_35 : decode cX7_worst 35 = .ok (.invokestatic 198, 3) := by decide +kernel
theorem dX7_worst_38 : decode cX7_worst 38 = .ok (.ifCond .eq 51, 3) := by decide +kernel
theorem dX7_worst_41 : decode cX7_worst 41 = .ok (.aload_n 0, 1) := by decide +kernel
theorem dX7_worst_42 : decode cX7_worst 42 = .ok (.getfield 25, 3) := by decide +kernel
theorem dX7_worst_45 : decode cX7_worst 45 = .ok (.iload_n 1, 1) := by decide +kernel
theorem dX7_worst_46 : decode cX7_worst 46 = .ok (.aaload, 1) := by decide +kernel
theorem dX7_worst_47 : decode cX7_worst 47 = .ok (.aload_n 0, 1) := by decide +kernel
theorem dX7_worst_48 : decode cX7_worst 48 = .ok (.getfield 18, 3) := by decide +kernel
theorem dX7_worst_51 : decode cX7_worst 51 = .ok (.iload 7, 2) := by decide +kernel
theorem dX7_worst_53 : decode cX7_worst 53 = .ok (.aaload, 1) := by decide +kernel
theorem dX7_worst_54 : decode cX7_worst 54 = .ok (.aload_n 0, 1) := by decide +kernel
theorem dX7_worst_55 : decode cX7_worst 55 = .ok (.getfield 12, 3) := by decide +kernel
theorem dX7_worst_58 : decode cX7_worst 58 = .ok (.getfield 68, 3) := by decide +kernel
theorem dX7_worst_61 : decode cX7_worst 61 = .ok (.invokevirtual 189, 3) := by decide +kernel
theorem dX7_worst_64 : decode cX7_worst 64 = .ok (.lstore 8, 2) := by decide +kernel
theorem dX7_worst_66 : decode cX7_worst 66 = .ok (.lload 5, 2) := by decide +kernel
theorem dX7_worst_68 : decode cX7_worst 68 = .ok (.ldc2_w 196, 3) := by decide +kernel
theorem dX7_worst_71 : decode cX7_worst 71 = .ok (.lcmp, 1) := by decide +kernel
theorem dX7_worst_72 : decode cX7_worst 72 = .ok (.ifCond .ne 8, 3) := by decide +kernel
theorem dX7_worst_75 : decode cX7_worst 75 = .ok (.lload 8, 2) := by decide +kernel
theorem dX7_worst_77 : decode cX7_worst 77 = .ok (.goto 10, 3) := by decide +kernel
theorem dX7_worst_80 : decode cX7_worst 80 = .ok (.lload 5, 2) := by decide +kernel
theorem dX7_worst_82 : decode cX7_worst 82 = .ok (.lload 8, 2) := by decide +kernel
theorem dX7_worst_84 : decode cX7_worst 84 = .ok (.invokestatic 201, 3) := by decide +kernel
theorem dX7_worst_87 : decode cX7_worst 87 = .ok (.lstore 5, 2) := by decide +kernel
theorem dX7_worst_89 : decode cX7_worst 89 = .ok (.iinc 7 1, 3) := by decide +kernel
theorem dX7_worst_92 : decode cX7_worst 92 = .ok (.goto (-66), 3) := by decide +kernel
theorem dX7_worst_95 : decode cX7_worst 95 = .ok (.lload 5, 2) := by decide +kernel
theorem dX7_worst_97 : decode cX7_worst 97 = .ok (.lreturn, 1) := by decide +kernel
theorem dX7_best_0 : decode cX7_best 0 = .ok (.aload_n 0, 1) := by decide +kernel
theorem dX7_best_1 : decode cX7_best 1 = .ok (.iload_n 1, 1) := by decide +kernel
theorem dX7_best_2 : decode cX7_best 2 = .ok (.iload_n 2, 1) := by decide +kernel
theorem dX7_best_3 : decode cX7_best 3 = .ok (.invokestatic 193, 3) := by decide +kernel
theorem dX7_best_6 : decode cX7_best 6 = .ok (.invokevirtual 154, 3) := by decide +kernel
theorem dX7_best_9 : decode cX7_best 9 = .ok (.lstore_n 3, 1) := by decide +kernel
theorem dX7_best_10 : decode cX7_best 10 = .ok (.lload_n 3, 1) := by decide +kernel
theorem dX7_best_11 : decode cX7_best 11 = .ok (.lconst 0, 1) := by decide +kernel
theorem dX7_best_12 : decode cX7_best 12 = .ok (.lcmp, 1) := by decide +kernel
theorem dX7_best_13 : decode cX7_best 13 = .ok (.ifCond .eq 5, 3) := by decide +kernel
theorem dX7_best_16 : decode cX7_best 16 = .ok (.lload_n 3, 1) := by decide +kernel
theorem dX7_best_17 : decode cX7_best 17 = .ok (.lreturn, 1) := by decide +kernel
theorem dX7_best_18 : decode cX7_best 18 = .ok (.aload_n 0, 1) := by decide +kernel
theorem dX7_best_19 : decode cX7_best 19 = .ok (.getfield 25, 3) := by decide +kernel
theorem dX7_best_22 : decode cX7_best 22 = .ok (.iload_n 1, 1) := by decide +kernel
theorem dX7_best_23 : decode cX7_best 23 = .ok (.aaload, 1) := by decide +kernel
theorem dX7_best_24 : decode cX7_best 24 = .ok (.astore 5, 2) := by decide +kernel
theorem dX7_best_26 : decode cX7_best 26 = .ok (.aload_n 0, 1) := by decide +kernel
theorem dX7_best_27 : decode cX7_best 27 = .ok (.getfield 33, 3) := by decide +kernel
theorem dX7_best_30 : decode cX7_best 30 = .ok (.aload_n 0, 1) := by decide +kernel
theorem dX7_best_31 : decode cX7_best 31 = .ok (.getfield 18, 3) := by decide +kernel
theorem dX7_best_34 : decode cX7_best 34 = .ok (.iload_n 2, 1) := by decide +kernel
theorem dX7_best_35 : decode cX7_best 35 = .ok (.invokevirtual 207, 3) := by decide +kernel
theorem dX7_best_38 : decode cX7_best 38 = .ok (.aload_n 0, 1) := by decide +kernel
theorem dX7_best_39 : decode cX7_best 39 = .ok (.getfield 33, 3) := by decide +kernel
theorem dX7_best_42 : decode cX7_best 42 = .ok (.aload_n 0, 1) := by decide +kernel
theorem dX7_best_43 : decode cX7_best 43 = .ok (.getfield 12, 3) := by decide +kernel
theorem dX7_best_46 : decode cX7_best 46 = .ok (.aload 5, 2) := by decide +kernel
theorem dX7_best_48 : decode cX7_best 48 = .ok (.iconst 0, 1) := by decide +kernel
theorem dX7_best_49 : decode cX7_best 49 = .ok (.invokevirtual 211, 3) := by decide +kernel
theorem dX7_best_52 : decode cX7_best 52 = .ok (.aload_n 0, 1) := by decide +kernel
theorem dX7_best_53 : decode cX7_best 53 = .ok (.getfield 33, 3) := by decide +kernel
theorem dX7_best_56 : decode cX7_best 56 = .ok (.iconst 0, 1) := by decide +kernel
theorem dX7_best_57 : decode cX7_best 57 = .ok (.aload 5, 2) := by decide +kernel
theorem dX7_best_59 : decode cX7_best 59 = .ok (.getfield 164, 3) := by decide +kernel
theorem dX7_best_62 : decode cX7_best 62 = .ok (.invokevirtual 215, 3) := by decide +kernel
theorem dX7_best_65 : decode cX7_best 65 = .ok (.lstore 6, 2) := by decide +kernel
theorem dX7_best_67 : decode cX7_best 67 = .ok (.lload 6, 2) := by decide +kernel
theorem dX7_best_69 : decode cX7_best 69 = .ok (.ldc2_w 196, 3) := by decide +kernel
theorem dX7_best_72 : decode cX7_best 72 = .ok (.lcmp, 1) := by decide +kernel
theorem dX7_best_73 : decode cX7_best 73 = .ok (.ifCond .eq 16, 3) := by decide +kernel
theorem dX7_best_76 : decode cX7_best 76 = .ok (.aload_n 0, 1) := by decide +kernel
theorem dX7_best_77 : decode cX7_best 77 = .ok (.getfield 33, 3) := by decide +kernel
theorem dX7_best_80 : decode cX7_best 80 = .ok (.aload_n 0, 1) := by decide +kernel
theorem dX7_best_81 : decode cX7_best 81 = .ok (.getfield 12, 3) := by decide +kernel
theorem dX7_best_84 : decode cX7_best 84 = .ok (.aload 5, 2) := by decide +kernel
theorem dX7_best_86 : decode cX7_best 86 = .ok (.invokevirtual 219, 3) := by decide +kernel
theorem dX7_best_89 : decode cX7_best 89 = .ok (.lload 6, 2) := by decide +kernel
theorem dX7_best_91 : decode cX7_best 91 = .ok (.lreturn, 1) := by decide +kernel
theorem dX7_many_0 : decode cX7_many 0 = .ok (.aload_n 0, 1) := by decide +kernel
theorem dX7_many_1 : decode cX7_many 1 = .ok (.iload_n 1, 1) := by decide +kernel
theorem dX7_many_2 : decode cX7_many 2 = .ok (.iload_n 2, 1) := by decide +kernel
theorem dX7_many_3 : decode cX7_many 3 = .ok (.invokestatic 193, 3) := by decide +kernel
theorem dX7_many_6 : decode cX7_many 6 = .ok (.invokevirtual 154, 3) := by decide +kernel
theorem dX7_many_9 : decode cX7_many 9 = .ok (.lstore_n 3, 1) := by decide +kernel
theorem dX7_many_10 : decode cX7_many 10 = .ok (.lload_n 3, 1) := by decide +kernel
theorem dX7_many_11 : decode cX7_many 11 = .ok (.lconst 0, 1) := by decide +kernel
theorem dX7_many_12 : decode cX7_many 12 = .ok (.lcmp, 1) := by decide +kernel
theorem dX7_many_13 : decode cX7_many 13 = .ok (.ifCond .eq 5, 3) := by decide +kernel
theorem dX7_many_16 : decode cX7_many 16 = .ok (.lload_n 3, 1) := by decide +kernel
theorem dX7_many_17 : decode cX7_many 17 = .ok (.lreturn, 1) := by decide +kernel
theorem dX7_many_18 : decode cX7_many 18 = .ok (.aload_n 0, 1) := by decide +kernel
theorem dX7_many_19 : decode cX7_many 19 = .ok (.getfield 25, 3) := by decide +kernel
theorem dX7_many_22 : decode cX7_many 22 = .ok (.iload_n 1, 1) := by decide +kernel
theorem dX7_many_23 : decode cX7_many 23 = .ok (.aaload, 1) := by decide +kernel
theorem dX7_many_24 : decode cX7_many 24 = .ok (.astore 5, 2) := by decide +kernel
theorem dX7_many_26 : decode cX7_many 26 = .ok (.aload_n 0, 1) := by decide +kernel
theorem dX7_many_27 : decode cX7_many 27 = .ok (.getfield 33, 3) := by decide +kernel
theorem dX7_many_30 : decode cX7_many 30 = .ok (.aload_n 0, 1) := by decide +kernel
theorem dX7_many_31 : decode cX7_many 31 = .ok (.getfield 18, 3) := by decide +kernel
theorem dX7_many_34 : decode cX7_many 34 = .ok (.iload_n 2, 1) := by decide +kernel
theorem dX7_many_35 : decode cX7_many 35 = .ok (.invokevirtual 207, 3) := by decide +kernel
theorem dX7_many_38 : decode cX7_many 38 = .ok (.aload_n 0, 1) := by decide +kernel
theorem dX7_many_39 : decode cX7_many 39 = .ok (.getfield 33, 3) := by decide +kernel
theorem dX7_many_42 : decode cX7_many 42 = .ok (.aload_n 0, 1) := by decide +kernel
theorem dX7_many_43 : decode cX7_many 43 = .ok (.getfield 12, 3) := by decide +kernel
theorem dX7_many_46 : decode cX7_many 46 = .ok (.aload 5, 2) := by decide +kernel
theorem dX7_many_48 : decode cX7_many 48 = .ok (.iconst 0, 1) := by decide +kernel
theorem dX7_many_49 : decode cX7_many 49 = .ok (.invokevirtual 211, 3) := by decide +kernel
theorem dX7_many_52 : decode cX7_many 52 = .ok (.aload_n 0, 1) := by decide +kernel
theorem dX7_many_53 : decode cX7_many 53 = .ok (.getfield 33, 3) := by decide +kernel
theorem dX7_many_56 : decode cX7_many 56 = .ok (.iconst 0, 1) := by decide +kernel
theorem dX7_many_57 : decode cX7_many 57 = .ok (.aload 5, 2) := by decide +kernel
