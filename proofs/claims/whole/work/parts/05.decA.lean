theorem dX0_init_0 : decode cX0_init 0 = .ok (.aload_n 0, 1) := by decide +kernel
theorem dX0_init_1 : decode cX0_init 1 = .ok (.invokespecial 3, 3) := by decide +kernel
theorem dX0_init_4 : decode cX0_init 4 = .ok (.aload_n 0, 1) := by decide +kernel
theorem dX0_init_5 : decode cX0_init 5 = .ok (.bipush 36, 2) := by decide +kernel
theorem dX0_init_7 : decode cX0_init 7 = .ok (.newarray .int, 2) := by decide +kernel
theorem dX0_init_9 : decode cX0_init 9 = .ok (.putfield 9, 3) := by decide +kernel
theorem dX0_init_12 : decode cX0_init 12 = .ok (.return_, 1) := by decide +kernel
theorem dX0_renew_0 : decode cX0_renew 0 = .ok (.aload_n 0, 1) := by decide +kernel
theorem dX0_renew_1 : decode cX0_renew 1 = .ok (.iconst 1, 1) := by decide +kernel
theorem dX0_renew_2 : decode cX0_renew 2 = .ok (.putfield 15, 3) := by decide +kernel
theorem dX0_renew_5 : decode cX0_renew 5 = .ok (.aload_n 0, 1) := by decide +kernel
theorem dX0_renew_6 : decode cX0_renew 6 = .ok (.iload_n 1, 1) := by decide +kernel
theorem dX0_renew_7 : decode cX0_renew 7 = .ok (.putfield 19, 3) := by decide +kernel
theorem dX0_renew_10 : decode cX0_renew 10 = .ok (.aload_n 0, 1) := by decide +kernel
theorem dX0_renew_11 : decode cX0_renew 11 = .ok (.iload_n 2, 1) := by decide +kernel
theorem dX0_renew_12 : decode cX0_renew 12 = .ok (.putfield 23, 3) := by decide +kernel
theorem dX0_renew_15 : decode cX0_renew 15 = .ok (.aload_n 0, 1) := by decide +kernel
theorem dX0_renew_16 : decode cX0_renew 16 = .ok (.aload_n 0, 1) := by decide +kernel
theorem dX0_renew_17 : decode cX0_renew 17 = .ok (.iconst 4, 1) := by decide +kernel
theorem dX0_renew_18 : decode cX0_renew 18 = .ok (.invokevirtual 26, 3) := by decide +kernel
theorem dX0_renew_21 : decode cX0_renew 21 = .ok (.ifCond .eq 13, 3) := by decide +kernel
theorem dX0_renew_24 : decode cX0_renew 24 = .ok (.aload_n 0, 1) := by decide +kernel
theorem dX0_renew_25 : decode cX0_renew 25 = .ok (.getfield 23, 3) := by decide +kernel
theorem dX0_renew_28 : decode cX0_renew 28 = .ok (.bipush 10, 2) := by decide +kernel
theorem dX0_renew_30 : decode cX0_renew 30 = .ok (.idiv, 1) := by decide +kernel
theorem dX0_renew_31 : decode cX0_renew 31 = .ok (.goto 4, 3) := by decide +kernel
theorem dX0_renew_34 : decode cX0_renew 34 = .ok (.iconst 0, 1) := by decide +kernel
theorem dX0_renew_35 : decode cX0_renew 35 = .ok (.putfield 30, 3) := by decide +kernel
theorem dX0_renew_38 : decode cX0_renew 38 = .ok (.aload_n 0, 1) := by decide +kernel
theorem dX0_renew_39 : decode cX0_renew 39 = .ok (.aload_n 0, 1) := by decide +kernel
theorem dX0_renew_40 : decode cX0_renew 40 = .ok (.iconst 3, 1) := by decide +kernel
theorem dX0_renew_41 : decode cX0_renew 41 = .ok (.invokevirtual 26, 3) := by decide +kernel
theorem dX0_renew_44 : decode cX0_renew 44 = .ok (.ifCond .eq 14, 3) := by decide +kernel
theorem dX0_renew_47 : decode cX0_renew 47 = .ok (.aload_n 0, 1) := by decide +kernel
theorem dX0_renew_48 : decode cX0_renew 48 = .ok (.getfield 23, 3) := by decide +kernel
theorem dX0_renew_51 : decode cX0_renew 51 = .ok (.iconst 4, 1) := by decide +kernel
theorem dX0_renew_52 : decode cX0_renew 52 = .ok (.imul, 1) := by decide +kernel
theorem dX0_renew_53 : decode cX0_renew 53 = .ok (.iconst 5, 1) := by decide +kernel
theorem dX0_renew_54 : decode cX0_renew 54 = .ok (.idiv, 1) := by decide +kernel
theorem dX0_renew_55 : decode cX0_renew 55 = .ok (.goto 7, 3) := by decide +kernel
theorem dX0_renew_58 : decode cX0_renew 58 = .ok (.aload_n 0, 1) := by decide +kernel
theorem dX0_renew_59 : decode cX0_renew 59 = .ok (.getfield 23, 3) := by decide +kernel
theorem dX0_renew_62 : decode cX0_renew 62 = .ok (.putfield 33, 3) := by decide +kernel
theorem dX0_renew_65 : decode cX0_renew 65 = .ok (.aload_n 0, 1) := by decide +kernel
theorem dX0_renew_66 : decode cX0_renew 66 = .ok (.aload_n 0, 1) := by decide +kernel
theorem dX0_renew_67 : decode cX0_renew 67 = .ok (.getfield 30, 3) := by decide +kernel
theorem dX0_renew_70 : decode cX0_renew 70 = .ok (.putfield 36, 3) := by decide +kernel
theorem dX0_renew_73 : decode cX0_renew 73 = .ok (.aload_n 0, 1) := by decide +kernel
theorem dX0_renew_74 : decode cX0_renew 74 = .ok (.iconst 0, 1) := by decide +kernel
theorem dX0_renew_75 : decode cX0_renew 75 = .ok (.putfield 39, 3) := by decide +kernel
theorem dX0_renew_78 : decode cX0_renew 78 = .ok (.aload_n 0, 1) := by decide +kernel
theorem dX0_renew_79 : decode cX0_renew 79 = .ok (.ldc 42, 2) := by decide +kernel
theorem dX0_renew_81 : decode cX0_renew 81 = .ok (.putfield 43, 3) := by decide +kernel
theorem dX0_renew_84 : decode cX0_renew 84 = .ok (.aload_n 0, 1) := by decide +kernel
theorem dX0_renew_85 : decode cX0_renew 85 = .ok (.invokevirtual 46, 3) := by decide +kernel
theorem dX0_renew_88 : decode cX0_renew 88 = .ok (.return_, 1) := by decide +kernel
theorem dX0_setRates_0 : decode cX0_setRates 0 = .ok (.aload_n 0, 1) := by decide +kernel
theorem dX0_setRates_1 : decode cX0_setRates 1 = .ok (.iconst 1, 1) := by decide +kernel
theorem dX0_setRates_2 : decode cX0_setRates 2 = .ok (.invokevirtual 26, 3) := by decide +kernel
theorem dX0_setRates_5 : decode cX0_setRates 5 = .ok (.ifCond .eq 7, 3) := by decide +kernel
theorem dX0_setRates_8 : decode cX0_setRates 8 = .ok (.iconst 2, 1) := by decide +kernel
theorem dX0_setRates_9 : decode cX0_setRates 9 = .ok (.goto 4, 3) := by decide +kernel
theorem dX0_setRates_12 : decode cX0_setRates 12 = .ok (.iconst 1, 1) := by decide +kernel
theorem dX0_setRates_13 : decode cX0_setRates 13 = .ok (.istore_n 3, 1) := by decide +kernel
theorem dX0_setRates_14 : decode cX0_setRates 14 = .ok (.aload_n 0, 1) := by decide +kernel
theorem dX0_setRates_15 : decode cX0_setRates 15 = .ok (.iload_n 3, 1) := by decide +kernel
theorem dX0_setRates_16 : decode cX0_setRates 16 = .ok (.iload_n 1, 1) := by decide +kernel
theorem dX0_setRates_17 : decode cX0_setRates 17 = .ok (.imul, 1) := by decide +kernel
theorem dX0_setRates_18 : decode cX0_setRates 18 = .ok (.putfield 49, 3) := by decide +kernel
theorem dX0_setRates_21 : decode cX0_setRates 21 = .ok (.aload_n 0, 1) := by decide +kernel
theorem dX0_setRates_22 : decode cX0_setRates 22 = .ok (.iload_n 3, 1) := by decide +kernel
theorem dX0_setRates_23 : decode cX0_setRates 23 = .ok (.iload_n 2, 1) := by decide +kernel
theorem dX0_setRates_24 : decode cX0_setRates 24 = .ok (.imul, 1) := by decide +kernel
theorem dX0_setRates_25 : decode cX0_setRates 25 = .ok (.putfield 52, 3) := by decide +kernel
theorem dX0_setRates_28 : decode cX0_setRates 28 = .ok (.return_, 1) := by decide +kernel
theorem dX0_setLosses_0 : decode cX0_setLosses 0 = .ok (.aload_n 0, 1) := by decide +kernel
theorem dX0_setLosses_1 : decode cX0_setLosses 1 = .ok (.aload_n 0, 1) := by decide +kernel
theorem dX0_setLosses_2 : decode cX0_setLosses 2 = .ok (.iconst 2, 1) := by decide +kernel
theorem dX0_setLosses_3 : decode cX0_setLosses 3 = .ok (.invokevirtual 26, 3) := by decide +kernel
theorem dX0_setLosses_6 : decode cX0_setLosses 6 = .ok (.ifCond .eq 9, 3) := by decide +kernel
theorem dX0_setLosses_9 : decode cX0_setLosses 9 = .ok (.iload_n 1, 1) := by decide +kernel
theorem dX0_setLosses_10 : decode cX0_setLosses 10 = .ok (.iconst 2, 1) := by decide +kernel
theorem dX0_setLosses_11 : decode cX0_setLosses 11 = .ok (.idiv, 1) := by decide +kernel
theorem dX0_setLosses_12 : decode cX0_setLosses 12 = .ok (.goto 4, 3) := by decide +kernel
theorem dX0_setLosses_15 : decode cX0_setLosses 15 = .ok (.iload_n 1, 1) := by decide +kernel
theorem dX0_setLosses_16 : decode cX0_setLosses 16 = .ok (.putfield 55, 3) := by decide +kernel
theorem dX0_setLosses_19 : decode cX0_setLosses 19 = .ok (.aload_n 0, 1) := by decide +kernel
theorem dX0_setLosses_20 : decode cX0_setLosses 20 = .ok (.iload_n 2, 1) := by decide +kernel
theorem dX0_setLosses_21 : decode cX0_setLosses 21 = .ok (.putfield 58, 3) := by decide +kernel
theorem dX0_setLosses_24 : decode cX0_setLosses 24 = .ok (.return_, 1) := by decide +kernel
theorem dX0_clearPlan_0 : decode cX0_clearPlan 0 = .ok (.aload_n 0, 1) := by decide +kernel
theorem dX0_clearPlan_1 : decode cX0_clearPlan 1 = .ok (.getfield 9, 3) := by decide +kernel
theorem dX0_clearPlan_4 : decode cX0_clearPlan 4 = .ok (.iconst 0, 1) := by decide +kernel
theorem dX0_clearPlan_5 : decode cX0_clearPlan 5 = .ok (.invokestatic 61, 3) := by decide +kernel
theorem dX0_clearPlan_8 : decode cX0_clearPlan 8 = .ok (.return_, 1) := by decide +kernel
theorem dX0_isA_0 : decode cX0_isA 0 = .ok (.iload_n 1, 1) := by decide +kernel
theorem dX0_isA_1 : decode cX0_isA 1 = .ok (.tableswitch 77 0 3 #[31, 33, 77, 55], 31) := by decide +kernel
theorem dX0_isA_32 : decode cX0_isA 32 = .ok (.iconst 1, 1) := by decide +kernel
theorem dX0_isA_33 : decode cX0_isA 33 = .ok (.ireturn, 1) := by decide +kernel
theorem dX0_isA_34 : decode cX0_isA 34 = .ok (.aload_n 0, 1) := by decide +kernel
theorem dX0_isA_35 : decode cX0_isA 35 = .ok (.getfield 19, 3) := by decide +kernel
theorem dX0_isA_38 : decode cX0_isA 38 = .ok (.iconst 1, 1) := by decide +kernel
theorem dX0_isA_39 : decode cX0_isA 39 = .ok (.if_icmp .eq 11, 3) := by decide +kernel
theorem dX0_isA_42 : decode cX0_isA 42 = .ok (.aload_n 0, 1) := by decide +kernel
theorem dX0_isA_43 : decode cX0_isA 43 = .ok (.getfield 19, 3) := by decide +kernel
theorem dX0_isA_46 : decode cX0_isA 46 = .ok (.iconst 2, 1) := by decide +kernel
theorem dX0_isA_47 : decode cX0_isA 47 = .ok (.if_icmp .ne 7, 3) := by decide +kernel
theorem dX0_isA_50 : decode cX0_isA 50 = .ok (.iconst 1, 1) := by decide +kernel
theorem dX0_isA_51 : decode cX0_isA 51 = .ok (.goto 4, 3) := by decide +kernel
theorem dX0_isA_54 : decode cX0_isA 54 = .ok (.iconst 0, 1) := by decide +kernel
theorem dX0_isA_55 : decode cX0_isA 55 = .ok (.ireturn, 1) := by decide +kernel
theorem dX0_isA_56 : decode cX0_isA 56 = .ok (.aload_n 0, 1) := by decide +kernel
theorem dX0_isA_57 : decode cX0_isA 57 = .ok (.getfield 19, 3) := by decide +kernel
theorem dX0_isA_60 : decode cX0_isA 60 = .ok (.iconst 3, 1) := by decide +kernel
theorem dX0_isA_61 : decode cX0_isA 61 = .ok (.if_icmp .eq 11, 3) := by decide +kernel
theorem dX0_isA_64 : decode cX0_isA 64 = .ok (.aload_n 0, 1) := by decide +kernel
theorem dX0_isA_65 : decode cX0_isA 65 = .ok (.getfield 19, 3) := by decide +kernel
theorem dX0_isA_68 : decode cX0_isA 68 = .ok (.iconst 4, 1) := by decide +kernel
theorem dX0_isA_69 : decode cX0_isA 69 = .ok (.if_icmp .ne 7, 3) := by decide +kernel
theorem dX0_isA_72 : decode cX0_isA 72 = .ok (.iconst 1, 1) := by decide +kernel
theorem dX0_isA_73 : decode cX0_isA 73 = .ok (.goto 4, 3) := by decide +kernel
theorem dX0_isA_76 : decode cX0_isA 76 = .ok (.iconst 0, 1) := by decide +kernel
theorem dX0_isA_77 : decode cX0_isA 77 = .ok (.ireturn, 1) := by decide +kernel
theorem dX0_isA_78 : decode cX0_isA 78 = .ok (.aload_n 0, 1) := by decide +kernel
theorem dX0_isA_79 : decode cX0_isA 79 = .ok (.getfield 19, 3) := by decide +kernel
theorem dX0_isA_82 : decode cX0_isA 82 = .ok (.iload_n 1, 1) := by decide +kernel
theorem dX0_isA_83 : decode cX0_isA 83 = .ok (.if_icmp .ne 7, 3) := by decide +kernel
theorem dX0_isA_86 : decode cX0_isA 86 = .ok (.iconst 1, 1) := by decide +kernel
theorem dX0_isA_87 : decode cX0_isA 87 = .ok (.goto 4, 3) := by decide +kernel
theorem dX0_isA_90 : decode cX0_isA 90 = .ok (.iconst 0, 1) := by decide +kernel
theorem dX0_isA_91 : decode cX0_isA 91 = .ok (.ireturn, 1) := by decide +kernel
theorem dX0_fact_0 : decode cX0_fact 0 = .ok (.iload_n 1, 1) := by decide +kernel
theorem dX0_fact_1 : decode cX0_fact 1 = .ok (.tableswitch 105 0 9 #[55, 60, 65, 70, 75, 80, 85, 90, 95, 100], 55) := by decide +kernel
theorem dX0_fact_56 : decode cX0_fact 56 = .ok (.aload_n 0, 1) := by decide +kernel
theorem dX0_fact_57 : decode cX0_fact 57 = .ok (.getfield 19, 3) := by decide +kernel
theorem dX0_fact_60 : decode cX0_fact 60 = .ok (.ireturn, 1) := by decide +kernel
theorem dX0_fact_61 : decode cX0_fact 61 = .ok (.aload_n 0, 1) := by decide +kernel
theorem dX0_fact_62 : decode cX0_fact 62 = .ok (.getfield 23, 3) := by decide +kernel
theorem dX0_fact_65 : decode cX0_fact 65 = .ok (.ireturn, 1) := by decide +kernel
theorem dX0_fact_66 : decode cX0_fact 66 = .ok (.aload_n 0, 1) := by decide +kernel
theorem dX0_fact_67 : decode cX0_fact 67 = .ok (.getfield 36, 3) := by decide +kernel
theorem dX0_fact_70 : decode cX0_fact 70 = .ok (.ireturn, 1) := by decide +kernel
theorem dX0_fact_71 : decode cX0_fact 71 = .ok (.aload_n 0, 1) := by decide +kernel
theorem dX0_fact_72 : decode cX0_fact 72 = .ok (.getfield 49, 3) := by decide +kernel
theorem dX0_fact_75 : decode cX0_fact 75 = .ok (.ireturn, 1) := by decide +kernel
theorem dX0_fact_76 : decode cX0_fact 76 = .ok (.aload_n 0, 1) := by decide +kernel
theorem dX0_fact_77 : decode cX0_fact 77 = .ok (.getfield 52, 3) := by decide +kernel
theorem dX0_fact_80 : decode cX0_fact 80 = .ok (.ireturn, 1) := by decide +kernel
theorem dX0_fact_81 : decode cX0_fact 81 = .ok (.aload_n 0, 1) := by decide +kernel
theorem dX0_fact_82 : decode cX0_fact 82 = .ok (.getfield 55, 3) := by decide +kernel
theorem dX0_fact_85 : decode cX0_fact 85 = .ok (.ireturn, 1) := by decide +kernel
theorem dX0_fact_86 : decode cX0_fact 86 = .ok (.aload_n 0, 1) := by decide +kernel
theorem dX0_fact_87 : decode cX0_fact 87 = .ok (.getfield 58, 3) := by decide +kernel
theorem dX0_fact_90 : decode cX0_fact 90 = .ok (.ireturn, 1) := by decide +kernel
theorem dX0_fact_91 : decode cX0_fact 91 = .ok (.aload_n 0, 1) := by decide +kernel
theorem dX0_fact_92 : decode cX0_fact 92 = .ok (.getfield 30, 3) := by decide +kernel
theorem dX0_fact_95 : decode cX0_fact 95 = .ok (.ireturn, 1) := by decide +kernel
theorem dX0_fact_96 : decode cX0_fact 96 = .ok (.aload_n 0, 1) := by decide +kernel
theorem dX0_fact_97 : decode cX0_fact 97 = .ok (.getfield 33, 3) := by decide +kernel
theorem dX0_fact_100 : decode cX0_fact 100 = .ok (.ireturn, 1) := by decide +kernel
theorem dX0_fact_101 : decode cX0_fact 101 = .ok (.aload_n 0, 1) := by decide +kernel
theorem dX0_fact_102 : decode cX0_fact 102 = .ok (.getfield 39, 3) := by decide +kernel
theorem dX0_fact_105 : decode cX0_fact 105 = .ok (.ireturn, 1) := by decide +kernel
theorem dX0_fact_106 : decode cX0_fact 106 = .ok (.aload_n 0, 1) := by decide +kernel
theorem dX0_fact_107 : decode cX0_fact 107 = .ok (.getfield 43, 3) := by decide +kernel
theorem dX0_fact_110 : decode cX0_fact 110 = .ok (.ireturn, 1) := by decide +kernel
theorem dX0_isInRates_0 : decode cX0_isInRates 0 = .ok (.iload_n 1, 1) := by decide +kernel
theorem dX0_isInRates_1 : decode cX0_isInRates 1 = .ok (.aload_n 0, 1) := by decide +kernel
theorem dX0_isInRates_2 : decode cX0_isInRates 2 = .ok (.getfield 49, 3) := by decide +kernel
theorem dX0_isInRates_5 : decode cX0_isInRates 5 = .ok (.iload_n 2, 1) := by decide +kernel
theorem dX0_isInRates_6 : decode cX0_isInRates 6 = .ok (.isub, 1) := by decide +kernel
theorem dX0_isInRates_7 : decode cX0_isInRates 7 = .ok (.if_icmp .gt 17, 3) := by decide +kernel
theorem dX0_isInRates_10 : decode cX0_isInRates 10 = .ok (.iload_n 1, 1) := by decide +kernel
theorem dX0_isInRates_11 : decode cX0_isInRates 11 = .ok (.iload_n 2, 1) := by decide +kernel
theorem dX0_isInRates_12 : decode cX0_isInRates 12 = .ok (.aload_n 0, 1) := by decide +kernel
theorem dX0_isInRates_13 : decode cX0_isInRates 13 = .ok (.getfield 52, 3) := by decide +kernel
theorem dX0_isInRates_16 : decode cX0_isInRates 16 = .ok (.isub, 1) := by decide +kernel
theorem dX0_isInRates_17 : decode cX0_isInRates 17 = .ok (.if_icmp .lt 7, 3) := by decide +kernel
theorem dX0_isInRates_20 : decode cX0_isInRates 20 = .ok (.iconst 1, 1) := by decide +kernel
theorem dX0_isInRates_21 : decode cX0_isInRates 21 = .ok (.goto 4, 3) := by decide +kernel
theorem dX0_isInRates_24 : decode cX0_isInRates 24 = .ok (.iconst 0, 1) := by decide +kernel
theorem dX0_isInRates_25 : decode cX0_isInRates 25 = .ok (.ireturn, 1) := by decide +kernel
theorem dX0_chargeBehind_0 : decode cX0_chargeBehind 0 = .ok (.aload_n 0, 1) := by decide +kernel
theorem dX0_chargeBehind_1 : decode cX0_chargeBehind 1 = .ok (.getfield 36, 3) := by decide +kernel
theorem dX0_chargeBehind_4 : decode cX0_chargeBehind 4 = .ok (.istore_n 2, 1) := by decide +kernel
theorem dX0_chargeBehind_5 : decode cX0_chargeBehind 5 = .ok (.iconst 0, 1) := by decide +kernel
theorem dX0_chargeBehind_6 : decode cX0_chargeBehind 6 = .ok (.istore_n 3, 1) := by decide +kernel
theorem dX0_chargeBehind_7 : decode cX0_chargeBehind 7 = .ok (.iload_n 3, 1) := by decide +kernel
theorem dX0_chargeBehind_8 : decode cX0_chargeBehind 8 = .ok (.iload_n 1, 1) := by decide +kernel
theorem dX0_chargeBehind_9 : decode cX0_chargeBehind 9 = .ok (.if_icmp .gt 24, 3) := by decide +kernel
theorem dX0_chargeBehind_12 : decode cX0_chargeBehind 12 = .ok (.iload_n 3, 1) := by decide +kernel
theorem dX0_chargeBehind_13 : decode cX0_chargeBehind 13 = .ok (.bipush 36, 2) := by decide +kernel
theorem dX0_chargeBehind_15 : decode cX0_chargeBehind 15 = .ok (.if_icmp .ge 18, 3) := by decide +kernel
theorem dX0_chargeBehind_18 : decode cX0_chargeBehind 18 = .ok (.iload_n 2, 1) := by decide +kernel
theorem dX0_chargeBehind_19 : decode cX0_chargeBehind 19 = .ok (.aload_n 0, 1) := by decide +kernel
theorem dX0_chargeBehind_20 : decode cX0_chargeBehind 20 = .ok (.getfield 9, 3) := by decide +kernel
theorem dX0_chargeBehind_23 : decode cX0_chargeBehind 23 = .ok (.iload_n 3, 1) := by decide +kernel
theorem dX0_chargeBehind_24 : decode cX0_chargeBehind 24 = .ok (.iaload, 1) := by decide +kernel
theorem dX0_chargeBehind_25 : decode cX0_chargeBehind 25 = .ok (.iadd, 1) := by decide +kernel
theorem dX0_chargeBehind_26 : decode cX0_chargeBehind 26 = .ok (.istore_n 2, 1) := by decide +kernel
theorem dX0_chargeBehind_27 : decode cX0_chargeBehind 27 = .ok (.iinc 3 1, 3) := by decide +kernel
theorem dX0_chargeBehind_30 : decode cX0_chargeBehind 30 = .ok (.goto (-23), 3) := by decide +kernel
theorem dX0_chargeBehind_33 : decode cX0_chargeBehind 33 = .ok (.iload_n 2, 1) := by decide +kernel
theorem dX0_chargeBehind_34 : decode cX0_chargeBehind 34 = .ok (.ireturn, 1) := by decide +kernel
theorem dX0_possible_0 : decode cX0_possible 0 = .ok (.aload_n 0, 1) := by decide +kernel
theorem dX0_possible_1 : decode cX0_possible 1 = .ok (.getfield 49, 3) := by decide +kernel
theorem dX0_possible_4 : decode cX0_possible 4 = .ok (.aload_n 0, 1) := by decide +kernel
theorem dX0_possible_5 : decode cX0_possible 5 = .ok (.getfield 33, 3) := by decide +kernel
theorem dX0_possible_8 : decode cX0_possible 8 = .ok (.iload_n 2, 1) := by decide +kernel
theorem dX0_possible_9 : decode cX0_possible 9 = .ok (.isub, 1) := by decide +kernel
theorem dX0_possible_10 : decode cX0_possible 10 = .ok (.invokestatic 67, 3) := by decide +kernel
theorem dX0_possible_13 : decode cX0_possible 13 = .ok (.istore_n 3, 1) := by decide +kernel
theorem dX0_possible_14 : decode cX0_possible 14 = .ok (.aload_n 0, 1) := by decide +kernel
theorem dX0_possible_15 : decode cX0_possible 15 = .ok (.getfield 52, 3) := by decide +kernel
theorem dX0_possible_18 : decode cX0_possible 18 = .ok (.ineg, 1) := by decide +kernel
theorem dX0_possible_19 : decode cX0_possible 19 = .ok (.aload_n 0, 1) := by decide +kernel
theorem dX0_possible_20 : decode cX0_possible 20 = .ok (.getfield 30, 3) := by decide +kernel
theorem dX0_possible_23 : decode cX0_possible 23 = .ok (.iload_n 2, 1) := by decide +kernel
theorem dX0_possible_24 : decode cX0_possible 24 = .ok (.isub, 1) := by decide +kernel
theorem dX0_possible_25 : decode cX0_possible 25 = .ok (.invokestatic 73, 3) := by decide +kernel
theorem dX0_possible_28 : decode cX0_possible 28 = .ok (.istore 4, 2) := by decide +kernel
theorem dX0_possible_30 : decode cX0_possible 30 = .ok (.iload 4, 2) := by decide +kernel
theorem dX0_possible_32 : decode cX0_possible 32 = .ok (.iload_n 3, 1) := by decide +kernel
theorem dX0_possible_33 : decode cX0_possible 33 = .ok (.iload_n 1, 1) := by decide +kernel
theorem dX0_possible_34 : decode cX0_possible 34 = .ok (.invokestatic 67, 3) := by decide +kernel
theorem dX0_possible_37 : decode cX0_possible 37 = .ok (.invokestatic 73, 3) := by decide +kernel
theorem dX0_possible_40 : decode cX0_possible 40 = .ok (.ireturn, 1) := by decide +kernel
theorem dX0_moneyOf_0 : decode cX0_moneyOf 0 = .ok (.aload_n 0, 1) := by decide +kernel
theorem dX0_moneyOf_1 : decode cX0_moneyOf 1 = .ok (.iload_n 1, 1) := by decide +kernel
theorem dX0_moneyOf_2 : decode cX0_moneyOf 2 = .ok (.lload_n 2, 1) := by decide +kernel
theorem dX0_moneyOf_3 : decode cX0_moneyOf 3 = .ok (.iconst 1, 1) := by decide +kernel
theorem dX0_moneyOf_4 : decode cX0_moneyOf 4 = .ok (.invokevirtual 76, 3) := by decide +kernel
theorem dX0_moneyOf_7 : decode cX0_moneyOf 7 = .ok (.lreturn, 1) := by decide +kernel
theorem dX0_moneyTogether_0 : decode cX0_moneyTogether 0 = .ok (.iload_n 1, 1) := by decide +kernel
theorem dX0_moneyTogether_1 : decode cX0_moneyTogether 1 = .ok (.ifCond .le 22, 3) := by decide +kernel
theorem dX0_moneyTogether_4 : decode cX0_moneyTogether 4 = .ok (.lload_n 2, 1) := by decide +kernel
theorem dX0_moneyTogether_5 : decode cX0_moneyTogether 5 = .ok (.lneg, 1) := by decide +kernel
theorem dX0_moneyTogether_6 : decode cX0_moneyTogether 6 = .ok (.iload_n 1, 1) := by decide +kernel
theorem dX0_moneyTogether_7 : decode cX0_moneyTogether 7 = .ok (.iload_n 1, 1) := by decide +kernel
theorem dX0_moneyTogether_8 : decode cX0_moneyTogether 8 = .ok (.aload_n 0, 1) := by decide +kernel
theorem dX0_moneyTogether_9 : decode cX0_moneyTogether 9 = .ok (.getfield 55, 3) := by decide +kernel
theorem dX0_moneyTogether_12 : decode cX0_moneyTogether 12 = .ok (.imul, 1) := by decide +kernel
theorem dX0_moneyTogether_13 : decode cX0_moneyTogether 13 = .ok (.bipush 99, 2) := by decide +kernel
theorem dX0_moneyTogether_15 : decode cX0_moneyTogether 15 = .ok (.iadd, 1) := by decide +kernel
theorem dX0_moneyTogether_16 : decode cX0_moneyTogether 16 = .ok (.bipush 100, 2) := by decide +kernel
theorem dX0_moneyTogether_18 : decode cX0_moneyTogether 18 = .ok (.idiv, 1) := by decide +kernel
theorem dX0_moneyTogether_19 : decode cX0_moneyTogether 19 = .ok (.iadd, 1) := by decide +kernel
theorem dX0_moneyTogether_20 : decode cX0_moneyTogether 20 = .ok (.i2l, 1) := by decide +kernel
theorem dX0_moneyTogether_21 : decode cX0_moneyTogether 21 = .ok (.lmul, 1) := by decide +kernel
theorem dX0_moneyTogether_22 : decode cX0_moneyTogether 22 = .ok (.lreturn, 1) := by decide +kernel
theorem dX0_moneyTogether_23 : decode cX0_moneyTogether 23 = .ok (.lload_n 2, 1) := by decide +kernel
theorem dX0_moneyTogether_24 : decode cX0_moneyTogether 24 = .ok (.iload 4, 2) := by decide +kernel
theorem dX0_moneyTogether_26 : decode cX0_moneyTogether 26 = .ok (.aload_n 0, 1) := by decide +kernel
theorem dX0_moneyTogether_27 : decode cX0_moneyTogether 27 = .ok (.getfield 58, 3) := by decide +kernel
theorem dX0_moneyTogether_30 : decode cX0_moneyTogether 30 = .ok (.imul, 1) := by decide +kernel
theorem dX0_moneyTogether_31 : decode cX0_moneyTogether 31 = .ok (.i2l, 1) := by decide +kernel
theorem dX0_moneyTogether_32 : decode cX0_moneyTogether 32 = .ok (.lsub, 1) := by decide +kernel
theorem dX0_moneyTogether_33 : decode cX0_moneyTogether 33 = .ok (.iload_n 1, 1) := by decide +kernel
theorem dX0_moneyTogether_34 : decode cX0_moneyTogether 34 = .ok (.ineg, 1) := by decide +kernel
theorem dX0_moneyTogether_35 : decode cX0_moneyTogether 35 = .ok (.i2l, 1) := by decide +kernel
theorem dX0_moneyTogether_36 : decode cX0_moneyTogether 36 = .ok (.lmul, 1) := by decide +kernel
theorem dX0_moneyTogether_37 : decode cX0_moneyTogether 37 = .ok (.lreturn, 1) := by decide +kernel
theorem dX0_planMoney_0 : decode cX0_planMoney 0 = .ok (.lconst 0, 1) := by decide +kernel
theorem dX0_planMoney_1 : decode cX0_planMoney 1 = .ok (.lstore_n 3, 1) := by decide +kernel
theorem dX0_planMoney_2 : decode cX0_planMoney 2 = .ok (.iconst 0, 1) := by decide +kernel
theorem dX0_planMoney_3 : decode cX0_planMoney 3 = .ok (.istore 5, 2) := by decide +kernel
theorem dX0_planMoney_5 : decode cX0_planMoney 5 = .ok (.iload 5, 2) := by decide +kernel
theorem dX0_planMoney_7 : decode cX0_planMoney 7 = .ok (.iload_n 2, 1) := by decide +kernel
theorem dX0_planMoney_8 : decode cX0_planMoney 8 = .ok (.if_icmp .ge 30, 3) := by decide +kernel
theorem dX0_planMoney_11 : decode cX0_planMoney 11 = .ok (.lload_n 3, 1) := by decide +kernel
theorem dX0_planMoney_12 : decode cX0_planMoney 12 = .ok (.aload_n 0, 1) := by decide +kernel
theorem dX0_planMoney_13 : decode cX0_planMoney 13 = .ok (.aload_n 0, 1) := by decide +kernel
theorem dX0_planMoney_14 : decode cX0_planMoney 14 = .ok (.getfield 9, 3) := by decide +kernel
theorem dX0_planMoney_17 : decode cX0_planMoney 17 = .ok (.iload 5, 2) := by decide +kernel
theorem dX0_planMoney_19 : decode cX0_planMoney 19 = .ok (.iaload, 1) := by decide +kernel
theorem dX0_planMoney_20 : decode cX0_planMoney 20 = .ok (.aload_n 1, 1) := by decide +kernel
theorem dX0_planMoney_21 : decode cX0_planMoney 21 = .ok (.iload 5, 2) := by decide +kernel
theorem dX0_planMoney_23 : decode cX0_planMoney 23 = .ok (.invokevirtual 80, 3) := by decide +kernel
theorem dX0_planMoney_26 : decode cX0_planMoney 26 = .ok (.i2l, 1) := by decide +kernel
theorem dX0_planMoney_27 : decode cX0_planMoney 27 = .ok (.invokevirtual 86, 3) := by decide +kernel
theorem dX0_planMoney_30 : decode cX0_planMoney 30 = .ok (.ladd, 1) := by decide +kernel
theorem dX0_planMoney_31 : decode cX0_planMoney 31 = .ok (.lstore_n 3, 1) := by decide +kernel
theorem dX0_planMoney_32 : decode cX0_planMoney 32 = .ok (.iinc 5 1, 3) := by decide +kernel
theorem dX0_planMoney_35 : decode cX0_planMoney 35 = .ok (.goto (-30), 3) := by decide +kernel
theorem dX0_planMoney_38 : decode cX0_planMoney 38 = .ok (.lload_n 3, 1) := by decide +kernel
theorem dX0_planMoney_39 : decode cX0_planMoney 39 = .ok (.lreturn, 1) := by decide +kernel
theorem dX1_init_0 : decode cX1_init 0 = .ok (.aload_n 0, 1) := by decide +kernel
theorem dX1_init_1 : decode cX1_init 1 = .ok (.invokespecial 3, 3) := by decide +kernel
theorem dX1_init_4 : decode cX1_init 4 = .ok (.aload_n 0, 1) := by decide +kernel
theorem dX1_init_5 : decode cX1_init 5 = .ok (.bipush 12, 2) := by decide +kernel
theorem dX1_init_7 : decode cX1_init 7 = .ok (.newarray .int, 2) := by decide +kernel
theorem dX1_init_9 : decode cX1_init 9 = .ok (.putfield 9, 3) := by decide +kernel
theorem dX1_init_12 : decode cX1_init 12 = .ok (.aload_n 0, 1) := by decide +kernel
theorem dX1_init_13 : decode cX1_init 13 = .ok (.bipush 12, 2) := by decide +kernel
theorem dX1_init_15 : decode cX1_init 15 = .ok (.newarray .int, 2) := by decide +kernel
theorem dX1_init_17 : decode cX1_init 17 = .ok (.putfield 15, 3) := by decide +kernel
theorem dX1_init_20 : decode cX1_init 20 = .ok (.aload_n 0, 1) := by decide +kernel
theorem dX1_init_21 : decode cX1_init 21 = .ok (.bipush 12, 2) := by decide +kernel
theorem dX1_init_23 : decode cX1_init 23 = .ok (.newarray .int, 2) := by decide +kernel
theorem dX1_init_25 : decode cX1_init 25 = .ok (.putfield 18, 3) := by decide +kernel
theorem dX1_init_28 : decode cX1_init 28 = .ok (.aload_n 0, 1) := by decide +kernel
theorem dX1_init_29 : decode cX1_init 29 = .ok (.bipush 12, 2) := by decide +kernel
theorem dX1_init_31 : decode cX1_init 31 = .ok (.newarray .int, 2) := by decide +kernel
theorem dX1_init_33 : decode cX1_init 33 = .ok (.putfield 21, 3) := by decide +kernel
theorem dX1_init_36 : decode cX1_init 36 = .ok (.return_, 1) := by decide +kernel
theorem dX1_add_0 : decode cX1_add 0 = .ok (.aload_n 0, 1) := by decide +kernel
theorem dX1_add_1 : decode cX1_add 1 = .ok (.getfield 9, 3) := by decide +kernel
theorem dX1_add_4 : decode cX1_add 4 = .ok (.aload_n 0, 1) := by decide +kernel
theorem dX1_add_5 : decode cX1_add 5 = .ok (.getfield 24, 3) := by decide +kernel
theorem dX1_add_8 : decode cX1_add 8 = .ok (.iload_n 1, 1) := by decide +kernel
theorem dX1_add_9 : decode cX1_add 9 = .ok (.iastore, 1) := by decide +kernel
theorem dX1_add_10 : decode cX1_add 10 = .ok (.aload_n 0, 1) := by decide +kernel
theorem dX1_add_11 : decode cX1_add 11 = .ok (.getfield 15, 3) := by decide +kernel
theorem dX1_add_14 : decode cX1_add 14 = .ok (.aload_n 0, 1) := by decide +kernel
theorem dX1_add_15 : decode cX1_add 15 = .ok (.getfield 24, 3) := by decide +kernel
theorem dX1_add_18 : decode cX1_add 18 = .ok (.iload_n 2, 1) := by decide +kernel
theorem dX1_add_19 : decode cX1_add 19 = .ok (.iastore, 1) := by decide +kernel
theorem dX1_add_20 : decode cX1_add 20 = .ok (.aload_n 0, 1) := by decide +kernel
theorem dX1_add_21 : decode cX1_add 21 = .ok (.getfield 18, 3) := by decide +kernel
theorem dX1_add_24 : decode cX1_add 24 = .ok (.aload_n 0, 1) := by decide +kernel
theorem dX1_add_25 : decode cX1_add 25 = .ok (.getfield 24, 3) := by decide +kernel
theorem dX1_add_28 : decode cX1_add 28 = .ok (.iload_n 3, 1) := by decide +kernel
theorem dX1_add_29 : decode cX1_add 29 = .ok (.iastore, 1) := by decide +kernel
theorem dX1_add_30 : decode cX1_add 30 = .ok (.aload_n 0, 1) := by decide +kernel
theorem dX1_add_31 : decode cX1_add 31 = .ok (.getfield 21, 3) := by decide +kernel
theorem dX1_add_34 : decode cX1_add 34 = .ok (.aload_n 0, 1) := by decide +kernel
theorem dX1_add_35 : decode cX1_add 35 = .ok (.getfield 24, 3) := by decide +kernel
theorem dX1_add_38 : decode cX1_add 38 = .ok (.iload 4, 2) := by decide +kernel
theorem dX1_add_40 : decode cX1_add 40 = .ok (.iastore, 1) := by decide +kernel
theorem dX1_add_41 : decode cX1_add 41 = .ok (.aload_n 0, 1) := by decide +kernel
theorem dX1_add_42 : decode cX1_add 42 = .ok (.dup, 1) := by decide +kernel
theorem dX1_add_43 : decode cX1_add 43 = .ok (.getfield 24, 3) := by decide +kernel
theorem dX1_add_46 : decode cX1_add 46 = .ok (.iconst 1, 1) := by decide +kernel
theorem dX1_add_47 : decode cX1_add 47 = .ok (.iadd, 1) := by decide +kernel
theorem dX1_add_48 : decode cX1_add 48 = .ok (.putfield 24, 3) := by decide +kernel
theorem dX1_add_51 : decode cX1_add 51 = .ok (.aload_n 0, 1) := by decide +kernel
theorem dX1_add_52 : decode cX1_add 52 = .ok (.getfield 24, 3) := by decide +kernel
theorem dX1_add_55 : decode cX1_add 55 = .ok (.iconst 1, 1) := by decide +kernel
theorem dX1_add_56 : decode cX1_add 56 = .ok (.isub, 1) := by decide +kernel
theorem dX1_add_57 : decode cX1_add 57 = .ok (.ireturn, 1) := by decide +kernel
theorem dX1_isTaken_0 : decode cX1_isTaken 0 = .ok (.iconst 0, 1) := by decide +kernel
theorem dX1_isTaken_1 : decode cX1_isTaken 1 = .ok (.istore_n 3, 1) := by decide +kernel
theorem dX1_isTaken_2 : decode cX1_isTaken 2 = .ok (.aload_n 0, 1) := by decide +kernel
theorem dX1_isTaken_3 : decode cX1_isTaken 3 = .ok (.getfield 9, 3) := by decide +kernel
theorem dX1_isTaken_6 : decode cX1_isTaken 6 = .ok (.iload_n 1, 1) := by decide +kernel
theorem dX1_isTaken_7 : decode cX1_isTaken 7 = .ok (.iaload, 1) := by decide +kernel
theorem dX1_isTaken_8 : decode cX1_isTaken 8 = .ok (.istore 4, 2) := by decide +kernel
theorem dX1_isTaken_10 : decode cX1_isTaken 10 = .ok (.iload 4, 2) := by decide +kernel
theorem dX1_isTaken_12 : decode cX1_isTaken 12 = .ok (.aload_n 0, 1) := by decide +kernel
theorem dX1_isTaken_13 : decode cX1_isTaken 13 = .ok (.getfield 15, 3) := by decide +kernel
theorem dX1_isTaken_16 : decode cX1_isTaken 16 = .ok (.iload_n 1, 1) := by decide +kernel
theorem dX1_isTaken_17 : decode cX1_isTaken 17 = .ok (.iaload, 1) := by decide +kernel
theorem dX1_isTaken_18 : decode cX1_isTaken 18 = .ok (.if_icmp .gt 18, 3) := by decide +kernel
theorem dX1_isTaken_21 : decode cX1_isTaken 21 = .ok (.iload_n 3, 1) := by decide +kernel
theorem dX1_isTaken_22 : decode cX1_isTaken 22 = .ok (.aload_n 2, 1) := by decide +kernel
theorem dX1_isTaken_23 : decode cX1_isTaken 23 = .ok (.iload 4, 2) := by decide +kernel
theorem dX1_isTaken_25 : decode cX1_isTaken 25 = .ok (.invokevirtual 28, 3) := by decide +kernel
theorem dX1_isTaken_28 : decode cX1_isTaken 28 = .ok (.iadd, 1) := by decide +kernel
theorem dX1_isTaken_29 : decode cX1_isTaken 29 = .ok (.istore_n 3, 1) := by decide +kernel
theorem dX1_isTaken_30 : decode cX1_isTaken 30 = .ok (.iinc 4 1, 3) := by decide +kernel
theorem dX1_isTaken_33 : decode cX1_isTaken 33 = .ok (.goto (-23), 3) := by decide +kernel
theorem dX1_isTaken_36 : decode cX1_isTaken 36 = .ok (.aload_n 0, 1) := by decide +kernel
theorem dX1_isTaken_37 : decode cX1_isTaken 37 = .ok (.getfield 21, 3) := by decide +kernel
theorem dX1_isTaken_40 : decode cX1_isTaken 40 = .ok (.iload_n 1, 1) := by decide +kernel
theorem dX1_isTaken_41 : decode cX1_isTaken 41 = .ok (.iaload, 1) := by decide +kernel
theorem dX1_isTaken_42 : decode cX1_isTaken 42 = .ok (.aload_n 0, 1) := by decide +kernel
theorem dX1_isTaken_43 : decode cX1_isTaken 43 = .ok (.getfield 15, 3) := by decide +kernel
theorem dX1_isTaken_46 : decode cX1_isTaken 46 = .ok (.iload_n 1, 1) := by decide +kernel
theorem dX1_isTaken_47 : decode cX1_isTaken 47 = .ok (.iaload, 1) := by decide +kernel
theorem dX1_isTaken_48 : decode cX1_isTaken 48 = .ok (.aload_n 0, 1) := by decide +kernel
theorem dX1_isTaken_49 : decode cX1_isTaken 49 = .ok (.getfield 9, 3) := by decide +kernel
theorem dX1_isTaken_52 : decode cX1_isTaken 52 = .ok (.iload_n 1, 1) := by decide +kernel
theorem dX1_isTaken_53 : decode cX1_isTaken 53 = .ok (.iaload, 1) := by decide +kernel
theorem dX1_isTaken_54 : decode cX1_isTaken 54 = .ok (.isub, 1) := by decide +kernel
theorem dX1_isTaken_55 : decode cX1_isTaken 55 = .ok (.iconst 1, 1) := by decide +kernel
theorem dX1_isTaken_56 : decode cX1_isTaken 56 = .ok (.iadd, 1) := by decide +kernel
theorem dX1_isTaken_57 : decode cX1_isTaken 57 = .ok (.imul, 1) := by decide +kernel
theorem dX1_isTaken_58 : decode cX1_isTaken 58 = .ok (.istore 4, 2) := by decide +kernel
theorem dX1_isTaken_60 : decode cX1_isTaken 60 = .ok (.aload_n 0, 1) := by decide +kernel
theorem dX1_isTaken_61 : decode cX1_isTaken 61 = .ok (.getfield 18, 3) := by decide +kernel
theorem dX1_isTaken_64 : decode cX1_isTaken 64 = .ok (.iload_n 1, 1) := by decide +kernel
theorem dX1_isTaken_65 : decode cX1_isTaken 65 = .ok (.iaload, 1) := by decide +kernel
theorem dX1_isTaken_66 : decode cX1_isTaken 66 = .ok (.ifCond .ge 17, 3) := by decide +kernel
theorem dX1_isTaken_69 : decode cX1_isTaken 69 = .ok (.iload_n 3, 1) := by decide +kernel
theorem dX1_isTaken_70 : decode cX1_isTaken 70 = .ok (.iload 4, 2) := by decide +kernel
theorem dX1_isTaken_72 : decode cX1_isTaken 72 = .ok (.if_icmp .lt 7, 3) := by decide +kernel
theorem dX1_isTaken_75 : decode cX1_isTaken 75 = .ok (.iconst 1, 1) := by decide +kernel
theorem dX1_isTaken_76 : decode cX1_isTaken 76 = .ok (.goto 18, 3) := by decide +kernel
theorem dX1_isTaken_79 : decode cX1_isTaken 79 = .ok (.iconst 0, 1) := by decide +kernel
theorem dX1_isTaken_80 : decode cX1_isTaken 80 = .ok (.goto 14, 3) := by decide +kernel
theorem dX1_isTaken_83 : decode cX1_isTaken 83 = .ok (.iload_n 3, 1) := by decide +kernel
theorem dX1_isTaken_84 : decode cX1_isTaken 84 = .ok (.iload 4, 2) := by decide +kernel
theorem dX1_isTaken_86 : decode cX1_isTaken 86 = .ok (.if_icmp .gt 7, 3) := by decide +kernel
theorem dX1_isTaken_89 : decode cX1_isTaken 89 = .ok (.iconst 1, 1) := by decide +kernel
theorem dX1_isTaken_90 : decode cX1_isTaken 90 = .ok (.goto 4, 3) := by decide +kernel
theorem dX1_isTaken_93 : decode cX1_isTaken 93 = .ok (.iconst 0, 1) := by decide +kernel
theorem dX1_isTaken_94 : decode cX1_isTaken 94 = .ok (.ireturn, 1) := by decide +kernel
theorem dX1_sumWanted_0 : decode cX1_sumWanted 0 = .ok (.iconst 0, 1) := by decide +kernel
theorem dX1_sumWanted_1 : decode cX1_sumWanted 1 = .ok (.istore_n 3, 1) := by decide +kernel
theorem dX1_sumWanted_2 : decode cX1_sumWanted 2 = .ok (.iconst 0, 1) := by decide +kernel
theorem dX1_sumWanted_3 : decode cX1_sumWanted 3 = .ok (.istore 4, 2) := by decide +kernel
theorem dX1_sumWanted_5 : decode cX1_sumWanted 5 = .ok (.iload 4, 2) := by decide +kernel
theorem dX1_sumWanted_7 : decode cX1_sumWanted 7 = .ok (.aload_n 0, 1) := by decide +kernel
theorem dX1_sumWanted_8 : decode cX1_sumWanted 8 = .ok (.getfield 24, 3) := by decide +kernel
theorem dX1_sumWanted_11 : decode cX1_sumWanted 11 = .ok (.if_icmp .ge 50, 3) := by decide +kernel
theorem dX1_sumWanted_14 : decode cX1_sumWanted 14 = .ok (.iload_n 2, 1) := by decide +kernel
theorem dX1_sumWanted_15 : decode cX1_sumWanted 15 = .ok (.aload_n 0, 1) := by decide +kernel
theorem dX1_sumWanted_16 : decode cX1_sumWanted 16 = .ok (.getfield 9, 3) := by decide +kernel
theorem dX1_sumWanted_19 : decode cX1_sumWanted 19 = .ok (.iload 4, 2) := by decide +kernel
theorem dX1_sumWanted_21 : decode cX1_sumWanted 21 = .ok (.iaload, 1) := by decide +kernel
theorem dX1_sumWanted_22 : decode cX1_sumWanted 22 = .ok (.aload_n 0, 1) := by decide +kernel
theorem dX1_sumWanted_23 : decode cX1_sumWanted 23 = .ok (.getfield 15, 3) := by decide +kernel
theorem dX1_sumWanted_26 : decode cX1_sumWanted 26 = .ok (.iload 4, 2) := by decide +kernel
theorem dX1_sumWanted_28 : decode cX1_sumWanted 28 = .ok (.iaload, 1) := by decide +kernel
theorem dX1_sumWanted_29 : decode cX1_sumWanted 29 = .ok (.invokestatic 34, 3) := by decide +kernel
theorem dX1_sumWanted_32 : decode cX1_sumWanted 32 = .ok (.ifCond .eq 23, 3) := by decide +kernel
theorem dX1_sumWanted_35 : decode cX1_sumWanted 35 = .ok (.aload_n 0, 1) := by decide +kernel
theorem dX1_sumWanted_36 : decode cX1_sumWanted 36 = .ok (.iload 4, 2) := by decide +kernel
theorem dX1_sumWanted_38 : decode cX1_sumWanted 38 = .ok (.aload_n 1, 1) := by decide +kernel
theorem dX1_sumWanted_39 : decode cX1_sumWanted 39 = .ok (.invokevirtual 38, 3) := by decide +kernel
theorem dX1_sumWanted_42 : decode cX1_sumWanted 42 = .ok (.ifCond .eq 13, 3) := by decide +kernel
theorem dX1_sumWanted_45 : decode cX1_sumWanted 45 = .ok (.iload_n 3, 1) := by decide +kernel
theorem dX1_sumWanted_46 : decode cX1_sumWanted 46 = .ok (.aload_n 0, 1) := by decide +kernel
theorem dX1_sumWanted_47 : decode cX1_sumWanted 47 = .ok (.getfield 18, 3) := by decide +kernel
theorem dX1_sumWanted_50 : decode cX1_sumWanted 50 = .ok (.iload 4, 2) := by decide +kernel
theorem dX1_sumWanted_52 : decode cX1_sumWanted 52 = .ok (.iaload, 1) := by decide +kernel
theorem dX1_sumWanted_53 : decode cX1_sumWanted 53 = .ok (.iadd, 1) := by decide +kernel
theorem dX1_sumWanted_54 : decode cX1_sumWanted 54 = .ok (.istore_n 3, 1) := by decide +kernel
theorem dX1_sumWanted_55 : decode cX1_sumWanted 55 = .ok (.iinc 4 1, 3) := by decide +kernel
theorem dX1_sumWanted_58 : decode cX1_sumWanted 58 = .ok (.goto (-53), 3) := by decide +kernel
theorem dX1_sumWanted_61 : decode cX1_sumWanted 61 = .ok (.iload_n 3, 1) := by decide +kernel
theorem dX1_sumWanted_62 : decode cX1_sumWanted 62 = .ok (.ireturn, 1) := by decide +kernel
theorem dX2_init_0 : decode cX2_init 0 = .ok (.aload_n 0, 1) := by decide +kernel
theorem dX2_init_1 : decode cX2_init 1 = .ok (.invokespecial 3, 3) := by decide +kernel
theorem dX2_init_4 : decode cX2_init 4 = .ok (.aload_n 0, 1) := by decide +kernel
theorem dX2_init_5 : decode cX2_init 5 = .ok (.sipush 150, 3) := by decide +kernel
theorem dX2_init_8 : decode cX2_init 8 = .ok (.newarray .int, 2) := by decide +kernel
theorem dX2_init_10 : decode cX2_init 10 = .ok (.putfield 9, 3) := by decide +kernel
theorem dX2_init_13 : decode cX2_init 13 = .ok (.aload_n 0, 1) := by decide +kernel
theorem dX2_init_14 : decode cX2_init 14 = .ok (.sipush 150, 3) := by decide +kernel
theorem dX2_init_17 : decode cX2_init 17 = .ok (.newarray .int, 2) := by decide +kernel
theorem dX2_init_19 : decode cX2_init 19 = .ok (.putfield 15, 3) := by decide +kernel
theorem dX2_init_22 : decode cX2_init 22 = .ok (.aload_n 0, 1) := by decide +kernel
theorem dX2_init_23 : decode cX2_init 23 = .ok (.sipush 150, 3) := by decide +kernel
theorem dX2_init_26 : decode cX2_init 26 = .ok (.newarray .int, 2) := by decide +kernel
theorem dX2_init_28 : decode cX2_init 28 = .ok (.putfield 18, 3) := by decide +kernel
theorem dX2_init_31 : decode cX2_init 31 = .ok (.aload_n 0, 1) := by decide +kernel
theorem dX2_init_32 : decode cX2_init 32 = .ok (.sipush 150, 3) := by decide +kernel
theorem dX2_init_35 : decode cX2_init 35 = .ok (.newarray .int, 2) := by decide +kernel
theorem dX2_init_37 : decode cX2_init 37 = .ok (.putfield 21, 3) := by decide +kernel
theorem dX2_init_40 : decode cX2_init 40 = .ok (.aload_n 0, 1) := by decide +kernel
theorem dX2_init_41 : decode cX2_init 41 = .ok (.sipush 150, 3) := by decide +kernel
theorem dX2_init_44 : decode cX2_init 44 = .ok (.newarray .long, 2) := by decide +kernel
theorem dX2_init_46 : decode cX2_init 46 = .ok (.putfield 24, 3) := by decide +kernel
theorem dX2_init_49 : decode cX2_init 49 = .ok (.return_, 1) := by decide +kernel
theorem dX2_add_0 : decode cX2_add 0 = .ok (.aload_n 0, 1) := by decide +kernel
theorem dX2_add_1 : decode cX2_add 1 = .ok (.getfield 9, 3) := by decide +kernel
theorem dX2_add_4 : decode cX2_add 4 = .ok (.aload_n 0, 1) := by decide +kernel
theorem dX2_add_5 : decode cX2_add 5 = .ok (.getfield 28, 3) := by decide +kernel
theorem dX2_add_8 : decode cX2_add 8 = .ok (.iload_n 1, 1) := by decide +kernel
theorem dX2_add_9 : decode cX2_add 9 = .ok (.iastore, 1) := by decide +kernel
theorem dX2_add_10 : decode cX2_add 10 = .ok (.aload_n 0, 1) := by decide +kernel
theorem dX2_add_11 : decode cX2_add 11 = .ok (.getfield 15, 3) := by decide +kernel
theorem dX2_add_14 : decode cX2_add 14 = .ok (.aload_n 0, 1) := by decide +kernel
theorem dX2_add_15 : decode cX2_add 15 = .ok (.getfield 28, 3) := by decide +kernel
theorem dX2_add_18 : decode cX2_add 18 = .ok (.iload_n 2, 1) := by decide +kernel
theorem dX2_add_19 : decode cX2_add 19 = .ok (.iastore, 1) := by decide +kernel
theorem dX2_add_20 : decode cX2_add 20 = .ok (.aload_n 0, 1) := by decide +kernel
theorem dX2_add_21 : decode cX2_add 21 = .ok (.getfield 18, 3) := by decide +kernel
theorem dX2_add_24 : decode cX2_add 24 = .ok (.aload_n 0, 1) := by decide +kernel
theorem dX2_add_25 : decode cX2_add 25 = .ok (.getfield 28, 3) := by decide +kernel
theorem dX2_add_28 : decode cX2_add 28 = .ok (.iload_n 3, 1) := by decide +kernel
theorem dX2_add_29 : decode cX2_add 29 = .ok (.iastore, 1) := by decide +kernel
theorem dX2_add_30 : decode cX2_add 30 = .ok (.aload_n 0, 1) := by decide +kernel
theorem dX2_add_31 : decode cX2_add 31 = .ok (.getfield 21, 3) := by decide +kernel
theorem dX2_add_34 : decode cX2_add 34 = .ok (.aload_n 0, 1) := by decide +kernel
theorem dX2_add_35 : decode cX2_add 35 = .ok (.getfield 28, 3) := by decide +kernel
theorem dX2_add_38 : decode cX2_add 38 = .ok (.iload 4, 2) := by decide +kernel
theorem dX2_add_40 : decode cX2_add 40 = .ok (.iastore, 1) := by decide +kernel
theorem dX2_add_41 : decode cX2_add 41 = .ok (.aload_n 0, 1) := by decide +kernel
theorem dX2_add_42 : decode cX2_add 42 = .ok (.getfield 24, 3) := by decide +kernel
theorem dX2_add_45 : decode cX2_add 45 = .ok (.aload_n 0, 1) := by decide +kernel
theorem dX2_add_46 : decode cX2_add 46 = .ok (.getfield 28, 3) := by decide +kernel
theorem dX2_add_49 : decode cX2_add 49 = .ok (.lload 5, 2) := by decide +kernel
theorem dX2_add_51 : decode cX2_add 51 = .ok (.lastore, 1) := by decide +kernel
theorem dX2_add_52 : decode cX2_add 52 = .ok (.aload_n 0, 1) := by decide +kernel
theorem dX2_add_53 : decode cX2_add 53 = .ok (.dup, 1) := by decide +kernel
theorem dX2_add_54 : decode cX2_add 54 = .ok (.getfield 28, 3) := by decide +kernel
theorem dX2_add_57 : decode cX2_add 57 = .ok (.iconst 1, 1) := by decide +kernel
theorem dX2_add_58 : decode cX2_add 58 = .ok (.iadd, 1) := by decide +kernel
theorem dX2_add_59 : decode cX2_add 59 = .ok (.putfield 28, 3) := by decide +kernel
theorem dX2_add_62 : decode cX2_add 62 = .ok (.return_, 1) := by decide +kernel
theorem dX2_fact_0 : decode cX2_fact 0 = .ok (.iload_n 2, 1) := by decide +kernel
theorem dX2_fact_1 : decode cX2_fact 1 = .ok (.tableswitch 63 0 3 #[31, 39, 47, 55], 31) := by decide +kernel
theorem dX2_fact_32 : decode cX2_fact 32 = .ok (.aload_n 0, 1) := by decide +kernel
theorem dX2_fact_33 : decode cX2_fact 33 = .ok (.getfield 9, 3) := by decide +kernel
theorem dX2_fact_36 : decode cX2_fact 36 = .ok (.iload_n 1, 1) := by decide +kernel
theorem dX2_fact_37 : decode cX2_fact 37 = .ok (.iaload, 1) := by decide +kernel
theorem dX2_fact_38 : decode cX2_fact 38 = .ok (.i2l, 1) := by decide +kernel
theorem dX2_fact_39 : decode cX2_fact 39 = .ok (.lreturn, 1) := by decide +kernel
theorem dX2_fact_40 : decode cX2_fact 40 = .ok (.aload_n 0, 1) := by decide +kernel
theorem dX2_fact_41 : decode cX2_fact 41 = .ok (.getfield 15, 3) := by decide +kernel
theorem dX2_fact_44 : decode cX2_fact 44 = .ok (.iload_n 1, 1) := by decide +kernel
theorem dX2_fact_45 : decode cX2_fact 45 = .ok (.iaload, 1) := by decide +kernel
theorem dX2_fact_46 : decode cX2_fact 46 = .ok (.i2l, 1) := by decide +kernel
theorem dX2_fact_47 : decode cX2_fact 47 = .ok (.lreturn, 1) := by decide +kernel
theorem dX2_fact_48 : decode cX2_fact 48 = .ok (.aload_n 0, 1) := by decide +kernel
theorem dX2_fact_49 : decode cX2_fact 49 = .ok (.getfield 18, 3) := by decide +kernel
theorem dX2_fact_52 : decode cX2_fact 52 = .ok (.iload_n 1, 1) := by decide +kernel
theorem dX2_fact_53 : decode cX2_fact 53 = .ok (.iaload, 1) := by decide +kernel
theorem dX2_fact_54 : decode cX2_fact 54 = .ok (.i2l, 1) := by decide +kernel
theorem dX2_fact_55 : decode cX2_fact 55 = .ok (.lreturn, 1) := by decide +kernel
theorem dX2_fact_56 : decode cX2_fact 56 = .ok (.aload_n 0, 1) := by decide +kernel
theorem dX2_fact_57 : decode cX2_fact 57 = .ok (.getfield 21, 3) := by decide +kernel
theorem dX2_fact_60 : decode cX2_fact 60 = .ok (.iload_n 1, 1) := by decide +kernel
theorem dX2_fact_61 : decode cX2_fact 61 = .ok (.iaload, 1) := by decide +kernel
theorem dX2_fact_62 : decode cX2_fact 62 = .ok (.i2l, 1) := by decide +kernel
theorem dX2_fact_63 : decode cX2_fact 63 = .ok (.lreturn, 1) := by decide +kernel
theorem dX2_fact_64 : decode cX2_fact 64 = .ok (.aload_n 0, 1) := by decide +kernel
theorem dX2_fact_65 : decode cX2_fact 65 = .ok (.getfield 24, 3) := by decide +kernel
theorem dX2_fact_68 : decode cX2_fact 68 = .ok (.iload_n 1, 1) := by decide +kernel
theorem dX2_fact_69 : decode cX2_fact 69 = .ok (.laload, 1) := by decide +kernel
theorem dX2_fact_70 : decode cX2_fact 70 = .ok (.lreturn, 1) := by decide +kernel
theorem dX2_firstWrong_0 : decode cX2_firstWrong 0 = .ok (.ldc2_w 32, 3) := by decide +kernel
theorem dX2_firstWrong_3 : decode cX2_firstWrong 3 = .ok (.lstore 4, 2) := by decide +kernel
theorem dX2_firstWrong_5 : decode cX2_firstWrong 5 = .ok (.aload_n 2, 1) := by decide +kernel
theorem dX2_firstWrong_6 : decode cX2_firstWrong 6 = .ok (.getfield 34, 3) := by decide +kernel
theorem dX2_firstWrong_9 : decode cX2_firstWrong 9 = .ok (.istore 6, 2) := by decide +kernel
theorem dX2_firstWrong_11 : decode cX2_firstWrong 11 = .ok (.aload_n 0, 1) := by decide +kernel
theorem dX2_firstWrong_12 : decode cX2_firstWrong 12 = .ok (.getfield 28, 3) := by decide +kernel
theorem dX2_firstWrong_15 : decode cX2_firstWrong 15 = .ok (.iconst 1, 1) := by decide +kernel
theorem dX2_firstWrong_16 : decode cX2_firstWrong 16 = .ok (.isub, 1) := by decide +kernel
theorem dX2_firstWrong_17 : decode cX2_firstWrong 17 = .ok (.istore 7, 2) := by decide +kernel
theorem dX2_firstWrong_19 : decode cX2_firstWrong 19 = .ok (.iload 7, 2) := by decide +kernel
theorem dX2_firstWrong_21 : decode cX2_firstWrong 21 = .ok (.ifCond .lt 96, 3) := by decide +kernel
theorem dX2_firstWrong_24 : decode cX2_firstWrong 24 = .ok (.aload_n 0, 1) := by decide +kernel
theorem dX2_firstWrong_25 : decode cX2_firstWrong 25 = .ok (.getfield 9, 3) := by decide +kernel
theorem dX2_firstWrong_28 : decode cX2_firstWrong 28 = .ok (.iload 7, 2) := by decide +kernel
theorem dX2_firstWrong_30 : decode cX2_firstWrong 30 = .ok (.iaload, 1) := by decide +kernel
theorem dX2_firstWrong_31 : decode cX2_firstWrong 31 = .ok (.iload_n 1, 1) := by decide +kernel
theorem dX2_firstWrong_32 : decode cX2_firstWrong 32 = .ok (.if_icmp .ne 79, 3) := by decide +kernel
theorem dX2_firstWrong_35 : decode cX2_firstWrong 35 = .ok (.iload 6, 2) := by decide +kernel
theorem dX2_firstWrong_37 : decode cX2_firstWrong 37 = .ok (.aload_n 0, 1) := by decide +kernel
theorem dX2_firstWrong_38 : decode cX2_firstWrong 38 = .ok (.getfield 21, 3) := by decide +kernel
theorem dX2_firstWrong_41 : decode cX2_firstWrong 41 = .ok (.iload 7, 2) := by decide +kernel
theorem dX2_firstWrong_43 : decode cX2_firstWrong 43 = .ok (.iaload, 1) := by decide +kernel
theorem dX2_firstWrong_44 : decode cX2_firstWrong 44 = .ok (.isub, 1) := by decide +kernel
theorem dX2_firstWrong_45 : decode cX2_firstWrong 45 = .ok (.istore 6, 2) := by decide +kernel
theorem dX2_firstWrong_47 : decode cX2_firstWrong 47 = .ok (.aload_n 2, 1) := by decide +kernel
theorem dX2_firstWrong_48 : decode cX2_firstWrong 48 = .ok (.aload_n 0, 1) := by decide +kernel
theorem dX2_firstWrong_49 : decode cX2_firstWrong 49 = .ok (.getfield 21, 3) := by decide +kernel
theorem dX2_firstWrong_52 : decode cX2_firstWrong 52 = .ok (.iload 7, 2) := by decide +kernel
theorem dX2_firstWrong_54 : decode cX2_firstWrong 54 = .ok (.iaload, 1) := by decide +kernel
theorem dX2_firstWrong_55 : decode cX2_firstWrong 55 = .ok (.aload_n 3, 1) := by decide +kernel
theorem dX2_firstWrong_56 : decode cX2_firstWrong 56 = .ok (.aload_n 0, 1) := by decide +kernel
theorem dX2_firstWrong_57 : decode cX2_firstWrong 57 = .ok (.getfield 15, 3) := by decide +kernel
theorem dX2_firstWrong_60 : decode cX2_firstWrong 60 = .ok (.iload 7, 2) := by decide +kernel
theorem dX2_firstWrong_62 : decode cX2_firstWrong 62 = .ok (.iaload, 1) := by decide +kernel
theorem dX2_firstWrong_63 : decode cX2_firstWrong 63 = .ok (.aaload, 1) := by decide +kernel
theorem dX2_firstWrong_64 : decode cX2_firstWrong 64 = .ok (.aload_n 0, 1) := by decide +kernel
theorem dX2_firstWrong_65 : decode cX2_firstWrong 65 = .ok (.getfield 18, 3) := by decide +kernel
theorem dX2_firstWrong_68 : decode cX2_firstWrong 68 = .ok (.iload 7, 2) := by decide +kernel
theorem dX2_firstWrong_70 : decode cX2_firstWrong 70 = .ok (.iaload, 1) := by decide +kernel
theorem dX2_firstWrong_71 : decode cX2_firstWrong 71 = .ok (.invokevirtual 39, 3) := by decide +kernel
theorem dX2_firstWrong_74 : decode cX2_firstWrong 74 = .ok (.i2l, 1) := by decide +kernel
theorem dX2_firstWrong_75 : decode cX2_firstWrong 75 = .ok (.invokevirtual 45, 3) := by decide +kernel
theorem dX2_firstWrong_78 : decode cX2_firstWrong 78 = .ok (.lstore 8, 2) := by decide +kernel
theorem dX2_firstWrong_80 : decode cX2_firstWrong 80 = .ok (.aload_n 0, 1) := by decide +kernel
theorem dX2_firstWrong_81 : decode cX2_firstWrong 81 = .ok (.getfield 24, 3) := by decide +kernel
theorem dX2_firstWrong_84 : decode cX2_firstWrong 84 = .ok (.iload 7, 2) := by decide +kernel
theorem dX2_firstWrong_86 : decode cX2_firstWrong 86 = .ok (.laload, 1) := by decide +kernel
theorem dX2_firstWrong_87 : decode cX2_firstWrong 87 = .ok (.lload 8, 2) := by decide +kernel
theorem dX2_firstWrong_89 : decode cX2_firstWrong 89 = .ok (.lcmp, 1) := by decide +kernel
theorem dX2_firstWrong_90 : decode cX2_firstWrong 90 = .ok (.ifCond .ne 16, 3) := by decide +kernel
theorem dX2_firstWrong_93 : decode cX2_firstWrong 93 = .ok (.iload 6, 2) := by decide +kernel
theorem dX2_firstWrong_95 : decode cX2_firstWrong 95 = .ok (.iconst 0, 1) := by decide +kernel
theorem dX2_firstWrong_96 : decode cX2_firstWrong 96 = .ok (.aload_n 2, 1) := by decide +kernel
theorem dX2_firstWrong_97 : decode cX2_firstWrong 97 = .ok (.getfield 49, 3) := by decide +kernel
theorem dX2_firstWrong_100 : decode cX2_firstWrong 100 = .ok (.invokestatic 52, 3) := by decide +kernel
theorem dX2_firstWrong_103 : decode cX2_firstWrong 103 = .ok (.ifCond .ne 8, 3) := by decide +kernel
theorem dX2_firstWrong_106 : decode cX2_firstWrong 106 = .ok (.iload 7, 2) := by decide +kernel
theorem dX2_firstWrong_108 : decode cX2_firstWrong 108 = .ok (.i2l, 1) := by decide +kernel
theorem dX2_firstWrong_109 : decode cX2_firstWrong 109 = .ok (.lstore 4, 2) := by decide +kernel
theorem dX2_firstWrong_111 : decode cX2_firstWrong 111 = .ok (.iinc 7 (-1), 3) := by decide +kernel
theorem dX2_firstWrong_114 : decode cX2_firstWrong 114 = .ok (.goto (-95), 3) := by decide +kernel
theorem dX2_firstWrong_117 : decode cX2_firstWrong 117 = .ok (.lload 4, 2) := by decide +kernel
theorem dX2_firstWrong_119 : decode cX2_firstWrong 119 = .ok (.lreturn, 1) := by decide +kernel
theorem dX2_firstBeyond_0 : decode cX2_firstBeyond 0 = .ok (.iconst 0, 1) := by decide +kernel
theorem dX2_firstBeyond_1 : decode cX2_firstBeyond 1 = .ok (.istore_n 3, 1) := by decide +kernel
theorem dX2_firstBeyond_2 : decode cX2_firstBeyond 2 = .ok (.iconst 0, 1) := by decide +kernel
theorem dX2_firstBeyond_3 : decode cX2_firstBeyond 3 = .ok (.istore 4, 2) := by decide +kernel
theorem dX2_firstBeyond_5 : decode cX2_firstBeyond 5 = .ok (.iload 4, 2) := by decide +kernel
theorem dX2_firstBeyond_7 : decode cX2_firstBeyond 7 = .ok (.aload_n 0, 1) := by decide +kernel
theorem dX2_firstBeyond_8 : decode cX2_firstBeyond 8 = .ok (.getfield 28, 3) := by decide +kernel
theorem dX2_firstBeyond_11 : decode cX2_firstBeyond 11 = .ok (.if_icmp .ge 42, 3) := by decide +kernel
theorem dX2_firstBeyond_14 : decode cX2_firstBeyond 14 = .ok (.aload_n 0, 1) := by decide +kernel
theorem dX2_firstBeyond_15 : decode cX2_firstBeyond 15 = .ok (.getfield 9, 3) := by decide +kernel
theorem dX2_firstBeyond_18 : decode cX2_firstBeyond 18 = .ok (.iload 4, 2) := by decide +kernel
theorem dX2_firstBeyond_20 : decode cX2_firstBeyond 20 = .ok (.iaload, 1) := by decide +kernel
theorem dX2_firstBeyond_21 : decode cX2_firstBeyond 21 = .ok (.iload_n 1, 1) := by decide +kernel
theorem dX2_firstBeyond_22 : decode cX2_firstBeyond 22 = .ok (.if_icmp .ne 25, 3) := by decide +kernel
theorem dX2_firstBeyond_25 : decode cX2_firstBeyond 25 = .ok (.iload_n 3, 1) := by decide +kernel
theorem dX2_firstBeyond_26 : decode cX2_firstBeyond 26 = .ok (.aload_n 0, 1) := by decide +kernel
theorem dX2_firstBeyond_27 : decode cX2_firstBeyond 27 = .ok (.getfield 21, 3) := by decide +kernel
theorem dX2_firstBeyond_30 : decode cX2_firstBeyond 30 = .ok (.iload 4, 2) := by decide +kernel
theorem dX2_firstBeyond_32 : decode cX2_firstBeyond 32 = .ok (.iaload, 1) := by decide +kernel
theorem dX2_firstBeyond_33 : decode cX2_firstBeyond 33 = .ok (.invokestatic 56, 3) := by decide +kernel
theorem dX2_firstBeyond_36 : decode cX2_firstBeyond 36 = .ok (.iadd, 1) := by decide +kernel
theorem dX2_firstBeyond_37 : decode cX2_firstBeyond 37 = .ok (.istore_n 3, 1) := by decide +kernel
theorem dX2_firstBeyond_38 : decode cX2_firstBeyond 38 = .ok (.iload_n 3, 1) := by decide +kernel
theorem dX2_firstBeyond_39 : decode cX2_firstBeyond 39 = .ok (.iload_n 2, 1) := by decide +kernel
theorem dX2_firstBeyond_40 : decode cX2_firstBeyond 40 = .ok (.if_icmp .le 7, 3) := by decide +kernel
theorem dX2_firstBeyond_43 : decode cX2_firstBeyond 43 = .ok (.iload 4, 2) := by decide +kernel
theorem dX2_firstBeyond_45 : decode cX2_firstBeyond 45 = .ok (.i2l, 1) := by decide +kernel
theorem dX2_firstBeyond_46 : decode cX2_firstBeyond 46 = .ok (.lreturn, 1) := by decide +kernel
theorem dX2_firstBeyond_47 : decode cX2_firstBeyond 47 = .ok (.iinc 4 1, 3) := by decide +kernel
theorem dX2_firstBeyond_50 : decode cX2_firstBeyond 50 = .ok (.goto (-45), 3) := by decide +kernel
theorem dX2_firstBeyond_53 : decode cX2_firstBeyond 53 = .ok (.ldc2_w 32, 3) := by decide +kernel
theorem dX2_firstBeyond_56 : decode cX2_firstBeyond 56 = .ok (.lreturn, 1) := by decide +kernel
theorem dX2_allMoney_0 : decode cX2_allMoney 0 = .ok (.lconst 0, 1) := by decide +kernel
theorem dX2_allMoney_1 : decode cX2_allMoney 1 = .ok (.lstore_n 1, 1) := by decide +kernel
theorem dX2_allMoney_2 : decode cX2_allMoney 2 = .ok (.iconst 0, 1) := by decide +kernel
theorem dX2_allMoney_3 : decode cX2_allMoney 3 = .ok (.istore_n 3, 1) := by decide +kernel
theorem dX2_allMoney_4 : decode cX2_allMoney 4 = .ok (.iload_n 3, 1) := by decide +kernel
theorem dX2_allMoney_5 : decode cX2_allMoney 5 = .ok (.aload_n 0, 1) := by decide +kernel
theorem dX2_allMoney_6 : decode cX2_allMoney 6 = .ok (.getfield 28, 3) := by decide +kernel
theorem dX2_allMoney_9 : decode cX2_allMoney 9 = .ok (.if_icmp .ge 18, 3) := by decide +kernel
theorem dX2_allMoney_12 : decode cX2_allMoney 12 = .ok (.lload_n 1, 1) := by decide +kernel
theorem dX2_allMoney_13 : decode cX2_allMoney 13 = .ok (.aload_n 0, 1) := by decide +kernel
theorem dX2_allMoney_14 : decode cX2_allMoney 14 = .ok (.getfield 24, 3) := by decide +kernel
theorem dX2_allMoney_17 : decode cX2_allMoney 17 = .ok (.iload_n 3, 1) := by decide +kernel
theorem dX2_allMoney_18 : decode cX2_allMoney 18 = .ok (.laload, 1) := by decide +kernel
theorem dX2_allMoney_19 : decode cX2_allMoney 19 = .ok (.ladd, 1) := by decide +kernel
theorem dX2_allMoney_20 : decode cX2_allMoney 20 = .ok (.lstore_n 1, 1) := by decide +kernel
theorem dX2_allMoney_21 : decode cX2_allMoney 21 = .ok (.iinc 3 1, 3) := by decide +kernel
theorem dX2_allMoney_24 : decode cX2_allMoney 24 = .ok (.goto (-20), 3) := by decide +kernel
theorem dX2_allMoney_27 : decode cX2_allMoney 27 = .ok (.lload_n 1, 1) := by decide +kernel
theorem dX2_allMoney_28 : decode cX2_allMoney 28 = .ok (.lreturn, 1) := by decide +kernel
theorem dX3_init_0 : decode cX3_init 0 = .ok (.aload_n 0, 1) := by decide +kernel
theorem dX3_init_1 : decode cX3_init 1 = .ok (.invokespecial 3, 3) := by decide +kernel
theorem dX3_init_4 : decode cX3_init 4 = .ok (.aload_n 0, 1) := by decide +kernel
theorem dX3_init_5 : decode cX3_init 5 = .ok (.bipush 24, 2) := by decide +kernel
theorem dX3_init_7 : decode cX3_init 7 = .ok (.putfield 9, 3) := by decide +kernel
theorem dX3_init_10 : decode cX3_init 10 = .ok (.aload_n 0, 1) := by decide +kernel
theorem dX3_init_11 : decode cX3_init 11 = .ok (.bipush 36, 2) := by decide +kernel
theorem dX3_init_13 : decode cX3_init 13 = .ok (.newarray .boolean, 2) := by decide +kernel
theorem dX3_init_15 : decode cX3_init 15 = .ok (.putfield 15, 3) := by decide +kernel
theorem dX3_init_18 : decode cX3_init 18 = .ok (.aload_n 0, 1) := by decide +kernel
theorem dX3_init_19 : decode cX3_init 19 = .ok (.bipush 36, 2) := by decide +kernel
theorem dX3_init_21 : decode cX3_init 21 = .ok (.newarray .int, 2) := by decide +kernel
theorem dX3_init_23 : decode cX3_init 23 = .ok (.putfield 19, 3) := by decide +kernel
theorem dX3_init_26 : decode cX3_init 26 = .ok (.return_, 1) := by decide +kernel
theorem dX3_keptBack_0 : decode cX3_keptBack 0 = .ok (.aload_n 0, 1) := by decide +kernel
theorem dX3_keptBack_1 : decode cX3_keptBack 1 = .ok (.getfield 15, 3) := by decide +kernel
theorem dX3_keptBack_4 : decode cX3_keptBack 4 = .ok (.iload_n 1, 1) := by decide +kernel
theorem dX3_keptBack_5 : decode cX3_keptBack 5 = .ok (.baload, 1) := by decide +kernel
theorem dX3_keptBack_6 : decode cX3_keptBack 6 = .ok (.ifCond .eq 7, 3) := by decide +kernel
theorem dX3_keptBack_9 : decode cX3_keptBack 9 = .ok (.iconst 0, 1) := by decide +kernel
theorem dX3_keptBack_10 : decode cX3_keptBack 10 = .ok (.goto 9, 3) := by decide +kernel
theorem dX3_keptBack_13 : decode cX3_keptBack 13 = .ok (.aload_n 0, 1) := by decide +kernel
theorem dX3_keptBack_14 : decode cX3_keptBack 14 = .ok (.getfield 19, 3) := by decide +kernel
theorem dX3_keptBack_17 : decode cX3_keptBack 17 = .ok (.iload_n 1, 1) := by decide +kernel
theorem dX3_keptBack_18 : decode cX3_keptBack 18 = .ok (.iaload, 1) := by decide +kernel
theorem dX3_keptBack_19 : decode cX3_keptBack 19 = .ok (.ireturn, 1) := by decide +kernel
theorem dX3_darkSteps_0 : decode cX3_darkSteps 0 = .ok (.iconst 0, 1) := by decide +kernel
theorem dX3_darkSteps_1 : decode cX3_darkSteps 1 = .ok (.istore_n 1, 1) := by decide +kernel
theorem dX3_darkSteps_2 : decode cX3_darkSteps 2 = .ok (.iconst 0, 1) := by decide +kernel
theorem dX3_darkSteps_3 : decode cX3_darkSteps 3 = .ok (.istore_n 2, 1) := by decide +kernel
theorem dX3_darkSteps_4 : decode cX3_darkSteps 4 = .ok (.iload_n 2, 1) := by decide +kernel
theorem dX3_darkSteps_5 : decode cX3_darkSteps 5 = .ok (.aload_n 0, 1) := by decide +kernel
theorem dX3_darkSteps_6 : decode cX3_darkSteps 6 = .ok (.getfield 9, 3) := by decide +kernel
theorem dX3_darkSteps_9 : decode cX3_darkSteps 9 = .ok (.if_icmp .ge 26, 3) := by decide +kernel
theorem dX3_darkSteps_12 : decode cX3_darkSteps 12 = .ok (.iload_n 1, 1) := by decide +kernel
theorem dX3_darkSteps_13 : decode cX3_darkSteps 13 = .ok (.aload_n 0, 1) := by decide +kernel
theorem dX3_darkSteps_14 : decode cX3_darkSteps 14 = .ok (.getfield 15, 3) := by decide +kernel
theorem dX3_darkSteps_17 : decode cX3_darkSteps 17 = .ok (.iload_n 2, 1) := by decide +kernel
theorem dX3_darkSteps_18 : decode cX3_darkSteps 18 = .ok (.baload, 1) := by decide +kernel
theorem dX3_darkSteps_19 : decode cX3_darkSteps 19 = .ok (.ifCond .eq 7, 3) := by decide +kernel
theorem dX3_darkSteps_22 : decode cX3_darkSteps 22 = .ok (.iconst 1, 1) := by decide +kernel
theorem dX3_darkSteps_23 : decode cX3_darkSteps 23 = .ok (.goto 4, 3) := by decide +kernel
theorem dX3_darkSteps_26 : decode cX3_darkSteps 26 = .ok (.iconst 0, 1) := by decide +kernel
theorem dX3_darkSteps_27 : decode cX3_darkSteps 27 = .ok (.iadd, 1) := by decide +kernel
theorem dX3_darkSteps_28 : decode cX3_darkSteps 28 = .ok (.istore_n 1, 1) := by decide +kernel
theorem dX3_darkSteps_29 : decode cX3_darkSteps 29 = .ok (.iinc 2 1, 3) := by decide +kernel
theorem dX3_darkSteps_32 : decode cX3_darkSteps 32 = .ok (.goto (-28), 3) := by decide +kernel
theorem dX3_darkSteps_35 : decode cX3_darkSteps 35 = .ok (.iload_n 1, 1) := by decide +kernel
theorem dX3_darkSteps_36 : decode cX3_darkSteps 36 = .ok (.ireturn, 1) := by decide +kernel
theorem dX3_allowsMove_0 : decode cX3_allowsMove 0 = .ok (.iload_n 3, 1) := by decide +kernel
theorem dX3_allowsMove_1 : decode cX3_allowsMove 1 = .ok (.ifCond .eq 25, 3) := by decide +kernel
theorem dX3_allowsMove_4 : decode cX3_allowsMove 4 = .ok (.aload_n 0, 1) := by decide +kernel
theorem dX3_allowsMove_5 : decode cX3_allowsMove 5 = .ok (.getfield 15, 3) := by decide +kernel
theorem dX3_allowsMove_8 : decode cX3_allowsMove 8 = .ok (.iload_n 2, 1) := by decide +kernel
theorem dX3_allowsMove_9 : decode cX3_allowsMove 9 = .ok (.baload, 1) := by decide +kernel
theorem dX3_allowsMove_10 : decode cX3_allowsMove 10 = .ok (.ifCond .ne 20, 3) := by decide +kernel
theorem dX3_allowsMove_13 : decode cX3_allowsMove 13 = .ok (.aload_n 1, 1) := by decide +kernel
theorem dX3_allowsMove_14 : decode cX3_allowsMove 14 = .ok (.iload_n 3, 1) := by decide +kernel
theorem dX3_allowsMove_15 : decode cX3_allowsMove 15 = .ok (.aload_n 0, 1) := by decide +kernel
theorem dX3_allowsMove_16 : decode cX3_allowsMove 16 = .ok (.iload_n 2, 1) := by decide +kernel
theorem dX3_allowsMove_17 : decode cX3_allowsMove 17 = .ok (.invokevirtual 23, 3) := by decide +kernel
theorem dX3_allowsMove_20 : decode cX3_allowsMove 20 = .ok (.invokevirtual 27, 3) := by decide +kernel
theorem dX3_allowsMove_23 : decode cX3_allowsMove 23 = .ok (.ifCond .eq 7, 3) := by decide +kernel
theorem dX3_allowsMove_26 : decode cX3_allowsMove 26 = .ok (.iconst 1, 1) := by decide +kernel
theorem dX3_allowsMove_27 : decode cX3_allowsMove 27 = .ok (.goto 4, 3) := by decide +kernel
theorem dX3_allowsMove_30 : decode cX3_allowsMove 30 = .ok (.iconst 0, 1) := by decide +kernel
theorem dX3_allowsMove_31 : decode cX3_allowsMove 31 = .ok (.ireturn, 1) := by decide +kernel
theorem dX3_firstFault_0 : decode cX3_firstFault 0 = .ok (.aload_n 1, 1) := by decide +kernel
theorem dX3_firstFault_1 : decode cX3_firstFault 1 = .ok (.getfield 33, 3) := by decide +kernel
theorem dX3_firstFault_4 : decode cX3_firstFault 4 = .ok (.istore_n 2, 1) := by decide +kernel
theorem dX3_firstFault_5 : decode cX3_firstFault 5 = .ok (.iconst 0, 1) := by decide +kernel
theorem dX3_firstFault_6 : decode cX3_firstFault 6 = .ok (.istore_n 3, 1) := by decide +kernel
theorem dX3_firstFault_7 : decode cX3_firstFault 7 = .ok (.iload_n 3, 1) := by decide +kernel
theorem dX3_firstFault_8 : decode cX3_firstFault 8 = .ok (.aload_n 0, 1) := by decide +kernel
theorem dX3_firstFault_9 : decode cX3_firstFault 9 = .ok (.getfield 9, 3) := by decide +kernel
theorem dX3_firstFault_12 : decode cX3_firstFault 12 = .ok (.if_icmp .ge 41, 3) := by decide +kernel
theorem dX3_firstFault_15 : decode cX3_firstFault 15 = .ok (.iload_n 2, 1) := by decide +kernel
theorem dX3_firstFault_16 : decode cX3_firstFault 16 = .ok (.aload_n 1, 1) := by decide +kernel
theorem dX3_firstFault_17 : decode cX3_firstFault 17 = .ok (.getfield 36, 3) := by decide +kernel
theorem dX3_firstFault_20 : decode cX3_firstFault 20 = .ok (.iload_n 3, 1) := by decide +kernel
theorem dX3_firstFault_21 : decode cX3_firstFault 21 = .ok (.iaload, 1) := by decide +kernel
theorem dX3_firstFault_22 : decode cX3_firstFault 22 = .ok (.iadd, 1) := by decide +kernel
theorem dX3_firstFault_23 : decode cX3_firstFault 23 = .ok (.istore_n 2, 1) := by decide +kernel
theorem dX3_firstFault_24 : decode cX3_firstFault 24 = .ok (.aload_n 0, 1) := by decide +kernel
theorem dX3_firstFault_25 : decode cX3_firstFault 25 = .ok (.aload_n 1, 1) := by decide +kernel
theorem dX3_firstFault_26 : decode cX3_firstFault 26 = .ok (.iload_n 3, 1) := by decide +kernel
theorem dX3_firstFault_27 : decode cX3_firstFault 27 = .ok (.iload_n 2, 1) := by decide +kernel
theorem dX3_firstFault_28 : decode cX3_firstFault 28 = .ok (.invokevirtual 39, 3) := by decide +kernel
theorem dX3_firstFault_31 : decode cX3_firstFault 31 = .ok (.istore 4, 2) := by decide +kernel
theorem dX3_firstFault_33 : decode cX3_firstFault 33 = .ok (.iload 4, 2) := by decide +kernel
theorem dX3_firstFault_35 : decode cX3_firstFault 35 = .ok (.ifCond .eq 12, 3) := by decide +kernel
theorem dX3_firstFault_38 : decode cX3_firstFault 38 = .ok (.bipush 10, 2) := by decide +kernel
theorem dX3_firstFault_40 : decode cX3_firstFault 40 = .ok (.iload_n 3, 1) := by decide +kernel
theorem dX3_firstFault_41 : decode cX3_firstFault 41 = .ok (.imul, 1) := by decide +kernel
theorem dX3_firstFault_42 : decode cX3_firstFault 42 = .ok (.iload 4, 2) := by decide +kernel
theorem dX3_firstFault_44 : decode cX3_firstFault 44 = .ok (.iadd, 1) := by decide +kernel
theorem dX3_firstFault_45 : decode cX3_firstFault 45 = .ok (.i2l, 1) := by decide +kernel
theorem dX3_firstFault_46 : decode cX3_firstFault 46 = .ok (.lreturn, 1) := by decide +kernel
theorem dX3_firstFault_47 : decode cX3_firstFault 47 = .ok (.iinc 3 1, 3) := by decide +kernel
theorem dX3_firstFault_50 : decode cX3_firstFault 50 = .ok (.goto (-43), 3) := by decide +kernel
theorem dX3_firstFault_53 : decode cX3_firstFault 53 = .ok (.ldc2_w 43, 3) := by decide +kernel
theorem dX3_firstFault_56 : decode cX3_firstFault 56 = .ok (.lreturn, 1) := by decide +kernel
theorem dX3_faultAt_0 : decode cX3_faultAt 0 = .ok (.aload_n 0, 1) := by decide +kernel
theorem dX3_faultAt_1 : decode cX3_faultAt 1 = .ok (.aload_n 1, 1) := by decide +kernel
theorem dX3_faultAt_2 : decode cX3_faultAt 2 = .ok (.iload_n 2, 1) := by decide +kernel
theorem dX3_faultAt_3 : decode cX3_faultAt 3 = .ok (.aload_n 1, 1) := by decide +kernel
theorem dX3_faultAt_4 : decode cX3_faultAt 4 = .ok (.getfield 36, 3) := by decide +kernel
theorem dX3_faultAt_7 : decode cX3_faultAt 7 = .ok (.iload_n 2, 1) := by decide +kernel
theorem dX3_faultAt_8 : decode cX3_faultAt 8 = .ok (.iaload, 1) := by decide +kernel
theorem dX3_faultAt_9 : decode cX3_faultAt 9 = .ok (.invokevirtual 45, 3) := by decide +kernel
theorem dX3_faultAt_12 : decode cX3_faultAt 12 = .ok (.ifCond .ne 18, 3) := by decide +kernel
theorem dX3_faultAt_15 : decode cX3_faultAt 15 = .ok (.aload_n 0, 1) := by decide +kernel
theorem dX3_faultAt_16 : decode cX3_faultAt 16 = .ok (.getfield 15, 3) := by decide +kernel
theorem dX3_faultAt_19 : decode cX3_faultAt 19 = .ok (.iload_n 2, 1) := by decide +kernel
theorem dX3_faultAt_20 : decode cX3_faultAt 20 = .ok (.baload, 1) := by decide +kernel
theorem dX3_faultAt_21 : decode cX3_faultAt 21 = .ok (.ifCond .eq 7, 3) := by decide +kernel
theorem dX3_faultAt_24 : decode cX3_faultAt 24 = .ok (.iconst 1, 1) := by decide +kernel
theorem dX3_faultAt_25 : decode cX3_faultAt 25 = .ok (.goto 4, 3) := by decide +kernel
theorem dX3_faultAt_28 : decode cX3_faultAt 28 = .ok (.iconst 2, 1) := by decide +kernel
theorem dX3_faultAt_29 : decode cX3_faultAt 29 = .ok (.ireturn, 1) := by decide +kernel
theorem dX3_faultAt_30 : decode cX3_faultAt 30 = .ok (.iload_n 3, 1) := by decide +kernel
theorem dX3_faultAt_31 : decode cX3_faultAt 31 = .ok (.aload_n 1, 1) := by decide +kernel
theorem dX3_faultAt_32 : decode cX3_faultAt 32 = .ok (.getfield 49, 3) := by decide +kernel
theorem dX3_faultAt_35 : decode cX3_faultAt 35 = .ok (.aload_n 0, 1) := by decide +kernel
theorem dX3_faultAt_36 : decode cX3_faultAt 36 = .ok (.iload_n 2, 1) := by decide +kernel
theorem dX3_faultAt_37 : decode cX3_faultAt 37 = .ok (.invokevirtual 23, 3) := by decide +kernel
theorem dX3_faultAt_40 : decode cX3_faultAt 40 = .ok (.iadd, 1) := by decide +kernel
theorem dX3_faultAt_41 : decode cX3_faultAt 41 = .ok (.if_icmp .ge 5, 3) := by decide +kernel
theorem dX3_faultAt_44 : decode cX3_faultAt 44 = .ok (.iconst 3, 1) := by decide +kernel
theorem dX3_faultAt_45 : decode cX3_faultAt 45 = .ok (.ireturn, 1) := by decide +kernel
theorem dX3_faultAt_46 : decode cX3_faultAt 46 = .ok (.iload_n 3, 1) := by decide +kernel
theorem dX3_faultAt_47 : decode cX3_faultAt 47 = .ok (.aload_n 1, 1) := by decide +kernel
theorem dX3_faultAt_48 : decode cX3_faultAt 48 = .ok (.getfield 52, 3) := by decide +kernel
theorem dX3_faultAt_51 : decode cX3_faultAt 51 = .ok (.aload_n 0, 1) := by decide +kernel
theorem dX3_faultAt_52 : decode cX3_faultAt 52 = .ok (.iload_n 2, 1) := by decide +kernel
theorem dX3_faultAt_53 : decode cX3_faultAt 53 = .ok (.invokevirtual 23, 3) := by decide +kernel
theorem dX3_faultAt_56 : decode cX3_faultAt 56 = .ok (.isub, 1) := by decide +kernel
theorem dX3_faultAt_57 : decode cX3_faultAt 57 = .ok (.if_icmp .le 5, 3) := by decide +kernel
theorem dX3_faultAt_60 : decode cX3_faultAt 60 = .ok (.iconst 4, 1) := by decide +kernel
theorem dX3_faultAt_61 : decode cX3_faultAt 61 = .ok (.ireturn, 1) := by decide +kernel
theorem dX3_faultAt_62 : decode cX3_faultAt 62 = .ok (.iload_n 2, 1) := by decide +kernel
theorem dX3_faultAt_63 : decode cX3_faultAt 63 = .ok (.aload_n 0, 1) := by decide +kernel
theorem dX3_faultAt_64 : decode cX3_faultAt 64 = .ok (.getfield 9, 3) := by decide +kernel
theorem dX3_faultAt_67 : decode cX3_faultAt 67 = .ok (.iconst 1, 1) := by decide +kernel
theorem dX3_faultAt_68 : decode cX3_faultAt 68 = .ok (.isub, 1) := by decide +kernel
theorem dX3_faultAt_69 : decode cX3_faultAt 69 = .ok (.if_icmp .ne 15, 3) := by decide +kernel
theorem dX3_faultAt_72 : decode cX3_faultAt 72 = .ok (.iload_n 3, 1) := by decide +kernel
theorem dX3_faultAt_73 : decode cX3_faultAt 73 = .ok (.aload_n 1, 1) := by decide +kernel
theorem dX3_faultAt_74 : decode cX3_faultAt 74 = .ok (.getfield 55, 3) := by decide +kernel
theorem dX3_faultAt_77 : decode cX3_faultAt 77 = .ok (.if_icmp .ge 7, 3) := by decide +kernel
theorem dX3_faultAt_80 : decode cX3_faultAt 80 = .ok (.iconst 5, 1) := by decide +kernel
theorem dX3_faultAt_81 : decode cX3_faultAt 81 = .ok (.goto 4, 3) := by decide +kernel
theorem dX3_faultAt_84 : decode cX3_faultAt 84 = .ok (.iconst 0, 1) := by decide +kernel
theorem dX3_faultAt_85 : decode cX3_faultAt 85 = .ok (.ireturn, 1) := by decide +kernel
theorem dX4_init_0 : decode cX4_init 0 = .ok (.aload_n 0, 1) := by decide +kernel
theorem dX4_init_1 : decode cX4_init 1 = .ok (.invokespecial 3, 3) := by decide +kernel
theorem dX4_init_4 : decode cX4_init 4 = .ok (.aload_n 0, 1) := by decide +kernel
theorem dX4_init_5 : decode cX4_init 5 = .ok (.bipush 36, 2) := by decide +kernel
theorem dX4_init_7 : decode cX4_init 7 = .ok (.newarray .int, 2) := by decide +kernel
theorem dX4_init_9 : decode cX4_init 9 = .ok (.putfield 9, 3) := by decide +kernel
theorem dX4_init_12 : decode cX4_init 12 = .ok (.aload_n 0, 1) := by decide +kernel
theorem dX4_init_13 : decode cX4_init 13 = .ok (.getfield 9, 3) := by decide +kernel
theorem dX4_init_16 : decode cX4_init 16 = .ok (.sipush (-1001), 3) := by decide +kernel
theorem dX4_init_19 : decode cX4_init 19 = .ok (.invokestatic 15, 3) := by decide +kernel
theorem dX4_init_22 : decode cX4_init 22 = .ok (.return_, 1) := by decide +kernel
theorem dX4_readingsThere_0 : decode cX4_readingsThere 0 = .ok (.iconst 0, 1) := by decide +kernel
theorem dX4_readingsThere_1 : decode cX4_readingsThere 1 = .ok (.istore_n 1, 1) := by decide +kernel
theorem dX4_readingsThere_2 : decode cX4_readingsThere 2 = .ok (.iconst 0, 1) := by decide +kernel
theorem dX4_readingsThere_3 : decode cX4_readingsThere 3 = .ok (.istore_n 2, 1) := by decide +kernel
theorem dX4_readingsThere_4 : decode cX4_readingsThere 4 = .ok (.iload_n 2, 1) := by decide +kernel
theorem dX4_readingsThere_5 : decode cX4_readingsThere 5 = .ok (.bipush 36, 2) := by decide +kernel
theorem dX4_readingsThere_7 : decode cX4_readingsThere 7 = .ok (.if_icmp .ge 29, 3) := by decide +kernel
theorem dX4_readingsThere_10 : decode cX4_readingsThere 10 = .ok (.iload_n 1, 1) := by decide +kernel
theorem dX4_readingsThere_11 : decode cX4_readingsThere 11 = .ok (.aload_n 0, 1) := by decide +kernel
theorem dX4_readingsThere_12 : decode cX4_readingsThere 12 = .ok (.getfield 9, 3) := by decide +kernel
theorem dX4_readingsThere_15 : decode cX4_readingsThere 15 = .ok (.iload_n 2, 1) := by decide +kernel
theorem dX4_readingsThere_16 : decode cX4_readingsThere 16 = .ok (.iaload, 1) := by decide +kernel
theorem dX4_readingsThere_17 : decode cX4_readingsThere 17 = .ok (.sipush (-1001), 3) := by decide +kernel
theorem dX4_readingsThere_20 : decode cX4_readingsThere 20 = .ok (.if_icmp .ne 7, 3) := by decide +kernel
theorem dX4_readingsThere_23 : decode cX4_readingsThere 23 = .ok (.iconst 0, 1) := by decide +kernel
theorem dX4_readingsThere_24 : decode cX4_readingsThere 24 = .ok (.goto 4, 3) := by decide +kernel
theorem dX4_readingsThere_27 : decode cX4_readingsThere 27 = .ok (.iconst 1, 1) := by decide +kernel
theorem dX4_readingsThere_28 : decode cX4_readingsThere 28 = .ok (.iadd, 1) := by decide +kernel
theorem dX4_readingsThere_29 : decode cX4_readingsThere 29 = .ok (.istore_n 1, 1) := by decide +kernel
theorem dX4_readingsThere_30 : decode cX4_readingsThere 30 = .ok (.iinc 2 1, 3) := by decide +kernel
theorem dX4_readingsThere_33 : decode cX4_readingsThere 33 = .ok (.goto (-29), 3) := by decide +kernel
theorem dX4_readingsThere_36 : decode cX4_readingsThere 36 = .ok (.iload_n 1, 1) := by decide +kernel
theorem dX4_readingsThere_37 : decode cX4_readingsThere 37 = .ok (.ireturn, 1) := by decide +kernel
theorem dX4_counting_0 : decode cX4_counting 0 = .ok (.aload_n 0, 1) := by decide +kernel
theorem dX4_counting_1 : decode cX4_counting 1 = .ok (.getfield 9, 3) := by decide +kernel
theorem dX4_counting_4 : decode cX4_counting 4 = .ok (.iload_n 1, 1) := by decide +kernel
theorem dX4_counting_5 : decode cX4_counting 5 = .ok (.iaload, 1) := by decide +kernel
theorem dX4_counting_6 : decode cX4_counting 6 = .ok (.sipush (-1001), 3) := by decide +kernel
theorem dX4_counting_9 : decode cX4_counting 9 = .ok (.if_icmp .eq 10, 3) := by decide +kernel
theorem dX4_counting_12 : decode cX4_counting 12 = .ok (.aload_n 0, 1) := by decide +kernel
theorem dX4_counting_13 : decode cX4_counting 13 = .ok (.getfield 9, 3) := by decide +kernel
theorem dX4_counting_16 : decode cX4_counting 16 = .ok (.iload_n 1, 1) := by decide +kernel
theorem dX4_counting_17 : decode cX4_counting 17 = .ok (.iaload, 1) := by decide +kernel
theorem dX4_counting_18 : decode cX4_counting 18 = .ok (.ireturn, 1) := by decide +kernel
theorem dX4_counting_19 : decode cX4_counting 19 = .ok (.aload_n 0, 1) := by decide +kernel
theorem dX4_counting_20 : decode cX4_counting 20 = .ok (.iload_n 1, 1) := by decide +kernel
theorem dX4_counting_21 : decode cX4_counting 21 = .ok (.invokevirtual 21, 3) := by decide +kernel
theorem dX4_counting_24 : decode cX4_counting 24 = .ok (.istore_n 2, 1) := by decide +kernel
theorem dX4_counting_25 : decode cX4_counting 25 = .ok (.aload_n 0, 1) := by decide +kernel
theorem dX4_counting_26 : decode cX4_counting 26 = .ok (.iload_n 1, 1) := by decide +kernel
theorem dX4_counting_27 : decode cX4_counting 27 = .ok (.invokevirtual 25, 3) := by decide +kernel
theorem dX4_counting_30 : decode cX4_counting 30 = .ok (.istore_n 3, 1) := by decide +kernel
theorem dX4_counting_31 : decode cX4_counting 31 = .ok (.iload_n 2, 1) := by decide +kernel
theorem dX4_counting_32 : decode cX4_counting 32 = .ok (.sipush (-1001), 3) := by decide +kernel
theorem dX4_counting_35 : decode cX4_counting 35 = .ok (.if_icmp .eq 18, 3) := by decide +kernel
theorem dX4_counting_38 : decode cX4_counting 38 = .ok (.iload_n 3, 1) := by decide +kernel
theorem dX4_counting_39 : decode cX4_counting 39 = .ok (.sipush (-1001), 3) := by decide +kernel
theorem dX4_counting_42 : decode cX4_counting 42 = .ok (.if_icmp .eq 11, 3) := by decide +kernel
theorem dX4_counting_45 : decode cX4_counting 45 = .ok (.iload_n 2, 1) := by decide +kernel
theorem dX4_counting_46 : decode cX4_counting 46 = .ok (.iload_n 3, 1) := by decide +kernel
theorem dX4_counting_47 : decode cX4_counting 47 = .ok (.iadd, 1) := by decide +kernel
theorem dX4_counting_48 : decode cX4_counting 48 = .ok (.iconst 2, 1) := by decide +kernel
theorem dX4_counting_49 : decode cX4_counting 49 = .ok (.invokestatic 28, 3) := by decide +kernel
theorem dX4_counting_52 : decode cX4_counting 52 = .ok (.ireturn, 1) := by decide +kernel
theorem dX4_counting_53 : decode cX4_counting 53 = .ok (.iload_n 2, 1) := by decide +kernel
theorem dX4_counting_54 : decode cX4_counting 54 = .ok (.sipush (-1001), 3) := by decide +kernel
theorem dX4_counting_57 : decode cX4_counting 57 = .ok (.if_icmp .ne 12, 3) := by decide +kernel
theorem dX4_counting_60 : decode cX4_counting 60 = .ok (.iload_n 3, 1) := by decide +kernel
theorem dX4_counting_61 : decode cX4_counting 61 = .ok (.sipush (-1001), 3) := by decide +kernel
theorem dX4_counting_64 : decode cX4_counting 64 = .ok (.if_icmp .ne 5, 3) := by decide +kernel
theorem dX4_counting_67 : decode cX4_counting 67 = .ok (.iconst 0, 1) := by decide +kernel
theorem dX4_counting_68 : decode cX4_counting 68 = .ok (.ireturn, 1) := by decide +kernel
theorem dX4_counting_69 : decode cX4_counting 69 = .ok (.iload_n 2, 1) := by decide +kernel
theorem dX4_counting_70 : decode cX4_counting 70 = .ok (.sipush (-1001), 3) := by decide +kernel
theorem dX4_counting_73 : decode cX4_counting 73 = .ok (.if_icmp .ne 7, 3) := by decide +kernel
theorem dX4_counting_76 : decode cX4_counting 76 = .ok (.iload_n 3, 1) := by decide +kernel
theorem dX4_counting_77 : decode cX4_counting 77 = .ok (.goto 4, 3) := by decide +kernel
theorem dX4_counting_80 : decode cX4_counting 80 = .ok (.iload_n 2, 1) := by decide +kernel
theorem dX4_counting_81 : decode cX4_counting 81 = .ok (.ireturn, 1) := by decide +kernel
theorem dX4_nearestAhead_0 : decode cX4_nearestAhead 0 = .ok (.iload_n 1, 1) := by decide +kernel
theorem dX4_nearestAhead_1 : decode cX4_nearestAhead 1 = .ok (.iconst 1, 1) := by decide +kernel
theorem dX4_nearestAhead_2 : decode cX4_nearestAhead 2 = .ok (.isub, 1) := by decide +kernel
theorem dX4_nearestAhead_3 : decode cX4_nearestAhead 3 = .ok (.istore_n 2, 1) := by decide +kernel
theorem dX4_nearestAhead_4 : decode cX4_nearestAhead 4 = .ok (.iload_n 2, 1) := by decide +kernel
theorem dX4_nearestAhead_5 : decode cX4_nearestAhead 5 = .ok (.ifCond .lt 28, 3) := by decide +kernel
theorem dX4_nearestAhead_8 : decode cX4_nearestAhead 8 = .ok (.aload_n 0, 1) := by decide +kernel
theorem dX4_nearestAhead_9 : decode cX4_nearestAhead 9 = .ok (.getfield 9, 3) := by decide +kernel
theorem dX4_nearestAhead_12 : decode cX4_nearestAhead 12 = .ok (.iload_n 2, 1) := by decide +kernel
theorem dX4_nearestAhead_13 : decode cX4_nearestAhead 13 = .ok (.iaload, 1) := by decide +kernel
theorem dX4_nearestAhead_14 : decode cX4_nearestAhead 14 = .ok (.sipush (-1001), 3) := by decide +kernel
theorem dX4_nearestAhead_17 : decode cX4_nearestAhead 17 = .ok (.if_icmp .eq 10, 3) := by decide +kernel
theorem dX4_nearestAhead_20 : decode cX4_nearestAhead 20 = .ok (.aload_n 0, 1) := by decide +kernel
theorem dX4_nearestAhead_21 : decode cX4_nearestAhead 21 = .ok (.getfield 9, 3) := by decide +kernel
theorem dX4_nearestAhead_24 : decode cX4_nearestAhead 24 = .ok (.iload_n 2, 1) := by decide +kernel
theorem dX4_nearestAhead_25 : decode cX4_nearestAhead 25 = .ok (.iaload, 1) := by decide +kernel
theorem dX4_nearestAhead_26 : decode cX4_nearestAhead 26 = .ok (.ireturn, 1) := by decide +kernel
theorem dX4_nearestAhead_27 : decode cX4_nearestAhead 27 = .ok (.iinc 2 (-1), 3) := by decide +kernel
theorem dX4_nearestAhead_30 : decode cX4_nearestAhead 30 = .ok (.goto (-26), 3) := by decide +kernel
theorem dX4_nearestAhead_33 : decode cX4_nearestAhead 33 = .ok (.sipush (-1001), 3) := by decide +kernel
theorem dX4_nearestAhead_36 : decode cX4_nearestAhead 36 = .ok (.ireturn, 1) := by decide +kernel
theorem dX4_nearestBehind_0 : decode cX4_nearestBehind 0 = .ok (.iload_n 1, 1) := by decide +kernel
theorem dX4_nearestBehind_1 : decode cX4_nearestBehind 1 = .ok (.iconst 1, 1) := by decide +kernel
theorem dX4_nearestBehind_2 : decode cX4_nearestBehind 2 = .ok (.iadd, 1) := by decide +kernel
theorem dX4_nearestBehind_3 : decode cX4_nearestBehind 3 = .ok (.istore_n 2, 1) := by decide +kernel
theorem dX4_nearestBehind_4 : decode cX4_nearestBehind 4 = .ok (.iload_n 2, 1) := by decide +kernel
theorem dX4_nearestBehind_5 : decode cX4_nearestBehind 5 = .ok (.bipush 36, 2) := by decide +kernel
theorem dX4_nearestBehind_7 : decode cX4_nearestBehind 7 = .ok (.if_icmp .ge 28, 3) := by decide +kernel
theorem dX4_nearestBehind_10 : decode cX4_nearestBehind 10 = .ok (.aload_n 0, 1) := by decide +kernel
theorem dX4_nearestBehind_11 : decode cX4_nearestBehind 11 = .ok (.getfield 9, 3) := by decide +kernel
theorem dX4_nearestBehind_14 : decode cX4_nearestBehind 14 = .ok (.iload_n 2, 1) := by decide +kernel
theorem dX4_nearestBehind_15 : decode cX4_nearestBehind 15 = .ok (.iaload, 1) := by decide +kernel
theorem dX4_nearestBehind_16 : decode cX4_nearestBehind 16 = .ok (.sipush (-1001), 3) := by decide +kernel
theorem dX4_nearestBehind_19 : decode cX4_nearestBehind 19 = .ok (.if_icmp .eq 10, 3) := by decide +kernel
theorem dX4_nearestBehind_22 : decode cX4_nearestBehind 22 = .ok (.aload_n 0, 1) := by decide +kernel
theorem dX4_nearestBehind_23 : decode cX4_nearestBehind 23 = .ok (.getfield 9, 3) := by decide +kernel
theorem dX4_nearestBehind_26 : decode cX4_nearestBehind 26 = .ok (.iload_n 2, 1) := by decide +kernel
theorem dX4_nearestBehind_27 : decode cX4_nearestBehind 27 = .ok (.iaload, 1) := by decide +kernel
theorem dX4_nearestBehind_28 : decode cX4_nearestBehind 28 = .ok (.ireturn, 1) := by decide +kernel
theorem dX4_nearestBehind_29 : decode cX4_nearestBehind 29 = .ok (.iinc 2 1, 3) := by decide +kernel
theorem dX4_nearestBehind_32 : decode cX4_nearestBehind 32 = .ok (.goto (-28), 3) := by decide +kernel
theorem dX4_nearestBehind_35 : decode cX4_nearestBehind 35 = .ok (.sipush (-1001), 3) := by decide +kernel
theorem dX4_nearestBehind_38 : decode cX4_nearestBehind 38 = .ok (.ireturn, 1) := by decide +kernel
theorem dX6_init_0 : decode cX6_init 0 = .ok (.aload_n 0, 1) := by decide +kernel
theorem dX6_init_1 : decode cX6_init 1 = .ok (.invokespecial 3, 3) := by decide +kernel
theorem dX6_init_4 : decode cX6_init 4 = .ok (.aload_n 0, 1) := by decide +kernel
theorem dX6_init_5 : decode cX6_init 5 = .ok (.bipush 36, 2) := by decide +kernel
theorem dX6_init_7 : decode cX6_init 7 = .ok (.newarray .int, 2) := by decide +kernel
theorem dX6_init_9 : decode cX6_init 9 = .ok (.putfield 9, 3) := by decide +kernel
theorem dX6_init_12 : decode cX6_init 12 = .ok (.return_, 1) := by decide +kernel
theorem dX6_renew_0 : decode cX6_renew 0 = .ok (.aload_n 0, 1) := by decide +kernel
theorem dX6_renew_1 : decode cX6_renew 1 = .ok (.iconst 1, 1) := by decide +kernel
theorem dX6_renew_2 : decode cX6_renew 2 = .ok (.putfield 15, 3) := by decide +kernel
theorem dX6_renew_5 : decode cX6_renew 5 = .ok (.aload_n 0, 1) := by decide +kernel
theorem dX6_renew_6 : decode cX6_renew 6 = .ok (.iload_n 1, 1) := by decide +kernel
theorem dX6_renew_7 : decode cX6_renew 7 = .ok (.putfield 19, 3) := by decide +kernel
theorem dX6_renew_10 : decode cX6_renew 10 = .ok (.aload_n 0, 1) := by decide +kernel
theorem dX6_renew_11 : decode cX6_renew 11 = .ok (.iload_n 2, 1) := by decide +kernel
theorem dX6_renew_12 : decode cX6_renew 12 = .ok (.putfield 23, 3) := by decide +kernel
theorem dX6_renew_15 : decode cX6_renew 15 = .ok (.aload_n 0, 1) := by decide +kernel
theorem dX6_renew_16 : decode cX6_renew 16 = .ok (.getfield 9, 3) := by decide +kernel
theorem dX6_renew_19 : decode cX6_renew 19 = .ok (.iconst 0, 1) := by decide +kernel
theorem dX6_renew_20 : decode cX6_renew 20 = .ok (.invokestatic 26, 3) := by decide +kernel
theorem dX6_renew_23 : decode cX6_renew 23 = .ok (.return_, 1) := by decide +kernel
theorem dX6_fits_0 : decode cX6_fits 0 = .ok (.iload_n 1, 1) := by decide +kernel
theorem dX6_fits_1 : decode cX6_fits 1 = .ok (.getstatic 32, 3) := by decide +kernel
theorem dX6_fits_4 : decode cX6_fits 4 = .ok (.aload_n 0, 1) := by decide +kernel
theorem dX6_fits_5 : decode cX6_fits 5 = .ok (.getfield 19, 3) := by decide +kernel
theorem dX6_fits_8 : decode cX6_fits 8 = .ok (.iaload, 1) := by decide +kernel
theorem dX6_fits_9 : decode cX6_fits 9 = .ok (.ineg, 1) := by decide +kernel
theorem dX6_fits_10 : decode cX6_fits 10 = .ok (.getstatic 32, 3) := by decide +kernel
theorem dX6_fits_13 : decode cX6_fits 13 = .ok (.aload_n 0, 1) := by decide +kernel
theorem dX6_fits_14 : decode cX6_fits 14 = .ok (.getfield 19, 3) := by decide +kernel
theorem dX6_fits_17 : decode cX6_fits 17 = .ok (.iaload, 1) := by decide +kernel
theorem dX6_fits_18 : decode cX6_fits 18 = .ok (.invokestatic 35, 3) := by decide +kernel
theorem dX6_fits_21 : decode cX6_fits 21 = .ok (.ireturn, 1) := by decide +kernel
theorem dX6_hasRun_0 : decode cX6_hasRun 0 = .ok (.iload_n 1, 1) := by decide +kernel
theorem dX6_hasRun_1 : decode cX6_hasRun 1 = .ok (.iconst 0, 1) := by decide +kernel
theorem dX6_hasRun_2 : decode cX6_hasRun 2 = .ok (.aload_n 0, 1) := by decide +kernel
theorem dX6_hasRun_3 : decode cX6_hasRun 3 = .ok (.getfield 23, 3) := by decide +kernel
theorem dX6_hasRun_6 : decode cX6_hasRun 6 = .ok (.invokestatic 35, 3) := by decide +kernel
theorem dX6_hasRun_9 : decode cX6_hasRun 9 = .ok (.ifCond .eq 21, 3) := by decide +kernel
theorem dX6_hasRun_12 : decode cX6_hasRun 12 = .ok (.iload_n 2, 1) := by decide +kernel
theorem dX6_hasRun_13 : decode cX6_hasRun 13 = .ok (.iconst 0, 1) := by decide +kernel
theorem dX6_hasRun_14 : decode cX6_hasRun 14 = .ok (.aload_n 0, 1) := by decide +kernel
theorem dX6_hasRun_15 : decode cX6_hasRun 15 = .ok (.getfield 23, 3) := by decide +kernel
theorem dX6_hasRun_18 : decode cX6_hasRun 18 = .ok (.iload_n 1, 1) := by decide +kernel
theorem dX6_hasRun_19 : decode cX6_hasRun 19 = .ok (.isub, 1) := by decide +kernel
theorem dX6_hasRun_20 : decode cX6_hasRun 20 = .ok (.invokestatic 35, 3) := by decide +kernel
theorem dX6_hasRun_23 : decode cX6_hasRun 23 = .ok (.ifCond .eq 7, 3) := by decide +kernel
theorem dX6_hasRun_26 : decode cX6_hasRun 26 = .ok (.iconst 1, 1) := by decide +kernel
theorem dX6_hasRun_27 : decode cX6_hasRun 27 = .ok (.goto 4, 3) := by decide +kernel
theorem dX6_hasRun_30 : decode cX6_hasRun 30 = .ok (.iconst 0, 1) := by decide +kernel
theorem dX6_hasRun_31 : decode cX6_hasRun 31 = .ok (.ireturn, 1) := by decide +kernel
theorem dX6_priceOf_0 : decode cX6_priceOf 0 = .ok (.aload_n 0, 1) := by decide +kernel
theorem dX6_priceOf_1 : decode cX6_priceOf 1 = .ok (.getfield 15, 3) := by decide +kernel
theorem dX6_priceOf_4 : decode cX6_priceOf 4 = .ok (.ifCond .eq 26, 3) := by decide +kernel
theorem dX6_priceOf_7 : decode cX6_priceOf 7 = .ok (.iload_n 1, 1) := by decide +kernel
theorem dX6_priceOf_8 : decode cX6_priceOf 8 = .ok (.iconst 0, 1) := by decide +kernel
theorem dX6_priceOf_9 : decode cX6_priceOf 9 = .ok (.aload_n 0, 1) := by decide +kernel
theorem dX6_priceOf_10 : decode cX6_priceOf 10 = .ok (.getfield 23, 3) := by decide +kernel
theorem dX6_priceOf_13 : decode cX6_priceOf 13 = .ok (.iconst 1, 1) := by decide +kernel
theorem dX6_priceOf_14 : decode cX6_priceOf 14 = .ok (.isub, 1) := by decide +kernel
theorem dX6_priceOf_15 : decode cX6_priceOf 15 = .ok (.invokestatic 35, 3) := by decide +kernel
theorem dX6_priceOf_18 : decode cX6_priceOf 18 = .ok (.ifCond .eq 12, 3) := by decide +kernel
theorem dX6_priceOf_21 : decode cX6_priceOf 21 = .ok (.aload_n 0, 1) := by decide +kernel
theorem dX6_priceOf_22 : decode cX6_priceOf 22 = .ok (.getfield 9, 3) := by decide +kernel
theorem dX6_priceOf_25 : decode cX6_priceOf 25 = .ok (.iload_n 1, 1) := by decide +kernel
theorem dX6_priceOf_26 : decode cX6_priceOf 26 = .ok (.iaload, 1) := by decide +kernel
theorem dX6_priceOf_27 : decode cX6_priceOf 27 = .ok (.goto 4, 3) := by decide +kernel
theorem dX6_priceOf_30 : decode cX6_priceOf 30 = .ok (.iconst 0, 1) := by decide +kernel
theorem dX6_priceOf_31 : decode cX6_priceOf 31 = .ok (.ireturn, 1) := by decide +kernel
theorem dJ6_bitCount_0f7a4_0 : decode cJ6_bitCount_0f7a4 0 = .ok (.iload_n 0, 1) := by decide +kernel
theorem dJ6_bitCount_0f7a4_1 : decode cJ6_bitCount_0f7a4 1 = .ok (.iload_n 0, 1) := by decide +kernel
theorem dJ6_bitCount_0f7a4_2 : decode cJ6_bitCount_0f7a4 2 = .ok (.iconst 1, 1) := by decide +kernel
theorem dJ6_bitCount_0f7a4_3 : decode cJ6_bitCount_0f7a4 3 = .ok (.iushr, 1) := by decide +kernel
theorem dJ6_bitCount_0f7a4_4 : decode cJ6_bitCount_0f7a4 4 = .ok (.ldc_w 265, 3) := by decide +kernel
theorem dJ6_bitCount_0f7a4_7 : decode cJ6_bitCount_0f7a4 7 = .ok (.iand, 1) := by decide +kernel
theorem dJ6_bitCount_0f7a4_8 : decode cJ6_bitCount_0f7a4 8 = .ok (.isub, 1) := by decide +kernel
theorem dJ6_bitCount_0f7a4_9 : decode cJ6_bitCount_0f7a4 9 = .ok (.istore_n 0, 1) := by decide +kernel
theorem dJ6_bitCount_0f7a4_10 : decode cJ6_bitCount_0f7a4 10 = .ok (.iload_n 0, 1) := by decide +kernel
theorem dJ6_bitCount_0f7a4_11 : decode cJ6_bitCount_0f7a4 11 = .ok (.ldc_w 266, 3) := by decide +kernel
theorem dJ6_bitCount_0f7a4_14 : decode cJ6_bitCount_0f7a4 14 = .ok (.iand, 1) := by decide +kernel
theorem dJ6_bitCount_0f7a4_15 : decode cJ6_bitCount_0f7a4 15 = .ok (.iload_n 0, 1) := by decide +kernel
theorem dJ6_bitCount_0f7a4_16 : decode cJ6_bitCount_0f7a4 16 = .ok (.iconst 2, 1) := by decide +kernel
theorem dJ6_bitCount_0f7a4_17 : decode cJ6_bitCount_0f7a4 17 = .ok (.iushr, 1) := by decide +kernel
theorem dJ6_bitCount_0f7a4_18 : decode cJ6_bitCount_0f7a4 18 = .ok (.ldc_w 266, 3) := by decide +kernel
theorem dJ6_bitCount_0f7a4_21 : decode cJ6_bitCount_0f7a4 21 = .ok (.iand, 1) := by decide +kernel
theorem dJ6_bitCount_0f7a4_22 : decode cJ6_bitCount_0f7a4 22 = .ok (.iadd, 1) := by decide +kernel
theorem dJ6_bitCount_0f7a4_23 : decode cJ6_bitCount_0f7a4 23 = .ok (.istore_n 0, 1) := by decide +kernel
theorem dJ6_bitCount_0f7a4_24 : decode cJ6_bitCount_0f7a4 24 = .ok (.iload_n 0, 1) := by decide +kernel
theorem dJ6_bitCount_0f7a4_25 : decode cJ6_bitCount_0f7a4 25 = .ok (.iload_n 0, 1) := by decide +kernel
theorem dJ6_bitCount_0f7a4_26 : decode cJ6_bitCount_0f7a4 26 = .ok (.iconst 4, 1) := by decide +kernel
theorem dJ6_bitCount_0f7a4_27 : decode cJ6_bitCount_0f7a4 27 = .ok (.iushr, 1) := by decide +kernel
theorem dJ6_bitCount_0f7a4_28 : decode cJ6_bitCount_0f7a4 28 = .ok (.iadd, 1) := by decide +kernel
theorem dJ6_bitCount_0f7a4_29 : decode cJ6_bitCount_0f7a4 29 = .ok (.ldc_w 267, 3) := by decide +kernel
theorem dJ6_bitCount_0f7a4_32 : decode cJ6_bitCount_0f7a4 32 = .ok (.iand, 1) := by decide +kernel
theorem dJ6_bitCount_0f7a4_33 : decode cJ6_bitCount_0f7a4 33 = .ok (.istore_n 0, 1) := by decide +kernel
theorem dJ6_bitCount_0f7a4_34 : decode cJ6_bitCount_0f7a4 34 = .ok (.iload_n 0, 1) := by decide +kernel
theorem dJ6_bitCount_0f7a4_35 : decode cJ6_bitCount_0f7a4 35 = .ok (.iload_n 0, 1) := by decide +kernel
theorem dJ6_bitCount_0f7a4_36 : decode cJ6_bitCount_0f7a4 36 = .ok (.bipush 8, 2) := by decide +kernel
theorem dJ6_bitCount_0f7a4_38 : decode cJ6_bitCount_0f7a4 38 = .ok (.iushr, 1) := by decide +kernel
theorem dJ6_bitCount_0f7a4_39 : decode cJ6_bitCount_0f7a4 39 = .ok (.iadd, 1) := by decide +kernel
theorem dJ6_bitCount_0f7a4_40 : decode cJ6_bitCount_0f7a4 40 = .ok (.istore_n 0, 1) := by decide +kernel
theorem dJ6_bitCount_0f7a4_41 : decode cJ6_bitCount_0f7a4 41 = .ok (.iload_n 0, 1) := by decide +kernel
theorem dJ6_bitCount_0f7a4_42 : decode cJ6_bitCount_0f7a4 42 = .ok (.iload_n 0, 1) := by decide +kernel
theorem dJ6_bitCount_0f7a4_43 : decode cJ6_bitCount_0f7a4 43 = .ok (.bipush 16, 2) := by decide +kernel
theorem dJ6_bitCount_0f7a4_45 : decode cJ6_bitCount_0f7a4 45 = .ok (.iushr, 1) := by decide +kernel
theorem dJ6_bitCount_0f7a4_46 : decode cJ6_bitCount_0f7a4 46 = .ok (.iadd, 1) := by decide +kernel
theorem dJ6_bitCount_0f7a4_47 : decode cJ6_bitCount_0f7a4 47 = .ok (.istore_n 0, 1) := by decide +kernel
theorem dJ6_bitCount_0f7a4_48 : decode cJ6_bitCount_0f7a4 48 = .ok (.iload_n 0, 1) := by decide +kernel
theorem dJ6_bitCount_0f7a4_49 : decode cJ6_bitCount_0f7a4 49 = .ok (.bipush 63, 2) := by decide +kernel
theorem dJ6_bitCount_0f7a4_51 : decode cJ6_bitCount_0f7a4 51 = .ok (.iand, 1) := by decide +kernel
theorem dJ6_bitCount_0f7a4_52 : decode cJ6_bitCount_0f7a4 52 = .ok (.ireturn, 1) := by decide +kernel
theorem dJ7_fill_d0a16_0 : decode cJ7_fill_d0a16 0 = .ok (.iconst 0, 1) := by decide +kernel
theorem dJ7_fill_d0a16_1 : decode cJ7_fill_d0a16 1 = .ok (.istore_n 3, 1) := by decide +kernel
theorem dJ7_fill_d0a16_2 : decode cJ7_fill_d0a16 2 = .ok (.aload_n 0, 1) := by decide +kernel
theorem dJ7_fill_d0a16_3 : decode cJ7_fill_d0a16 3 = .ok (.arraylength, 1) := by decide +kernel
theorem dJ7_fill_d0a16_4 : decode cJ7_fill_d0a16 4 = .ok (.istore 4, 2) := by decide +kernel
theorem dJ7_fill_d0a16_6 : decode cJ7_fill_d0a16 6 = .ok (.iload_n 3, 1) := by decide +kernel
theorem dJ7_fill_d0a16_7 : decode cJ7_fill_d0a16 7 = .ok (.iload 4, 2) := by decide +kernel
theorem dJ7_fill_d0a16_9 : decode cJ7_fill_d0a16 9 = .ok (.if_icmp .ge 13, 3) := by decide +kernel
theorem dJ7_fill_d0a16_12 : decode cJ7_fill_d0a16 12 = .ok (.aload_n 0, 1) := by decide +kernel
theorem dJ7_fill_d0a16_13 : decode cJ7_fill_d0a16 13 = .ok (.iload_n 3, 1) := by decide +kernel
theorem dJ7_fill_d0a16_14 : decode cJ7_fill_d0a16 14 = .ok (.lload_n 1, 1) := by decide +kernel
theorem dJ7_fill_d0a16_15 : decode cJ7_fill_d0a16 15 = .ok (.lastore, 1) := by decide +kernel
theorem dJ7_fill_d0a16_16 : decode cJ7_fill_d0a16 16 = .ok (.iinc 3 1, 3) := by decide +kernel
theorem dJ7_fill_d0a16_19 : decode cJ7_fill_d0a16 19 = .ok (.goto (-13), 3) := by decide +kernel
theorem dJ7_fill_d0a16_22 : decode cJ7_fill_d0a16 22 = .ok (.return_, 1) := by decide +kernel
theorem dJ7_fill_53178_0 : decode cJ7_fill_53178 0 = .ok (.iconst 0, 1) := by decide +kernel
theorem dJ7_fill_53178_1 : decode cJ7_fill_53178 1 = .ok (.istore_n 2, 1) := by decide +kernel
theorem dJ7_fill_53178_2 : decode cJ7_fill_53178 2 = .ok (.aload_n 0, 1) := by decide +kernel
theorem dJ7_fill_53178_3 : decode cJ7_fill_53178 3 = .ok (.arraylength, 1) := by decide +kernel
theorem dJ7_fill_53178_4 : decode cJ7_fill_53178 4 = .ok (.istore_n 3, 1) := by decide +kernel
theorem dJ7_fill_53178_5 : decode cJ7_fill_53178 5 = .ok (.iload_n 2, 1) := by decide +kernel
theorem dJ7_fill_53178_6 : decode cJ7_fill_53178 6 = .ok (.iload_n 3, 1) := by decide +kernel
theorem dJ7_fill_53178_7 : decode cJ7_fill_53178 7 = .ok (.if_icmp .ge 13, 3) := by decide +kernel
theorem dJ7_fill_53178_10 : decode cJ7_fill_53178 10 = .ok (.aload_n 0, 1) := by decide +kernel
theorem dJ7_fill_53178_11 : decode cJ7_fill_53178 11 = .ok (.iload_n 2, 1) := by decide +kernel
theorem dJ7_fill_53178_12 : decode cJ7_fill_53178 12 = .ok (.iload_n 1, 1) := by decide +kernel
theorem dJ7_fill_53178_13 : decode cJ7_fill_53178 13 = .ok (.iastore, 1) := by decide +kernel
theorem dJ7_fill_53178_14 : decode cJ7_fill_53178 14 = .ok (.iinc 2 1, 3) := by decide +kernel
theorem dJ7_fill_53178_17 : decode cJ7_fill_53178 17 = .ok (.goto (-12), 3) := by decide +kernel
theorem dJ7_fill_53178_20 : decode cJ7_fill_53178 20 = .ok (.return_, 1) := by decide +kernel
theorem dJ9_floorDiv_7cf53_0 : decode cJ9_floorDiv_7cf53 0 = .ok (.iload_n 0, 1) := by decide +kernel
theorem dJ9_floorDiv_7cf53_1 : decode cJ9_floorDiv_7cf53 1 = .ok (.iload_n 1, 1) := by decide +kernel
theorem dJ9_floorDiv_7cf53_2 : decode cJ9_floorDiv_7cf53 2 = .ok (.idiv, 1) := by decide +kernel
theorem dJ9_floorDiv_7cf53_3 : decode cJ9_floorDiv_7cf53 3 = .ok (.istore_n 2, 1) := by decide +kernel
theorem dJ9_floorDiv_7cf53_4 : decode cJ9_floorDiv_7cf53 4 = .ok (.iload_n 0, 1) := by decide +kernel
theorem dJ9_floorDiv_7cf53_5 : decode cJ9_floorDiv_7cf53 5 = .ok (.iload_n 1, 1) := by decide +kernel
theorem dJ9_floorDiv_7cf53_6 : decode cJ9_floorDiv_7cf53 6 = .ok (.ixor, 1) := by decide +kernel
theorem dJ9_floorDiv_7cf53_7 : decode cJ9_floorDiv_7cf53 7 = .ok (.ifCond .ge 14, 3) := by decide +kernel
theorem dJ9_floorDiv_7cf53_10 : decode cJ9_floorDiv_7cf53 10 = .ok (.iload_n 2, 1) := by decide +kernel
theorem dJ9_floorDiv_7cf53_11 : decode cJ9_floorDiv_7cf53 11 = .ok (.iload_n 1, 1) := by decide +kernel
theorem dJ9_floorDiv_7cf53_12 : decode cJ9_floorDiv_7cf53 12 = .ok (.imul, 1) := by decide +kernel
theorem dJ9_floorDiv_7cf53_13 : decode cJ9_floorDiv_7cf53 13 = .ok (.iload_n 0, 1) := by decide +kernel
theorem dJ9_floorDiv_7cf53_14 : decode cJ9_floorDiv_7cf53 14 = .ok (.if_icmp .eq 7, 3) := by decide +kernel
theorem dJ9_floorDiv_7cf53_17 : decode cJ9_floorDiv_7cf53 17 = .ok (.iload_n 2, 1) := by decide +kernel
theorem dJ9_floorDiv_7cf53_18 : decode cJ9_floorDiv_7cf53 18 = .ok (.iconst 1, 1) := by decide +kernel
theorem dJ9_floorDiv_7cf53_19 : decode cJ9_floorDiv_7cf53 19 = .ok (.isub, 1) := by decide +kernel
theorem dJ9_floorDiv_7cf53_20 : decode cJ9_floorDiv_7cf53 20 = .ok (.ireturn, 1) := by decide +kernel
theorem dJ9_floorDiv_7cf53_21 : decode cJ9_floorDiv_7cf53 21 = .ok (.iload_n 2, 1) := by decide +kernel
theorem dJ9_floorDiv_7cf53_22 : decode cJ9_floorDiv_7cf53 22 = .ok (.ireturn, 1) := by decide +kernel
theorem dJ9_abs_0f7a4_0 : decode cJ9_abs_0f7a4 0 = .ok (.iload_n 0, 1) := by decide +kernel
theorem dJ9_abs_0f7a4_1 : decode cJ9_abs_0f7a4 1 = .ok (.ifCond .ge 8, 3) := by decide +kernel
theorem dJ9_abs_0f7a4_4 : decode cJ9_abs_0f7a4 4 = .ok (.iload_n 0, 1) := by decide +kernel
theorem dJ9_abs_0f7a4_5 : decode cJ9_abs_0f7a4 5 = .ok (.ineg, 1) := by decide +kernel
theorem dJ9_abs_0f7a4_6 : decode cJ9_abs_0f7a4 6 = .ok (.goto 4, 3) := by decide +kernel
theorem dJ9_abs_0f7a4_9 : decode cJ9_abs_0f7a4 9 = .ok (.iload_n 0, 1) := by decide +kernel
theorem dJ9_abs_0f7a4_10 : decode cJ9_abs_0f7a4 10 = .ok (.ireturn, 1) := by decide +kernel
theorem dJ9_max_7cf53_0 : decode cJ9_max_7cf53 0 = .ok (.iload_n 0, 1) := by decide +kernel
theorem dJ9_max_7cf53_1 : decode cJ9_max_7cf53 1 = .ok (.iload_n 1, 1) := by decide +kernel
theorem dJ9_max_7cf53_2 : decode cJ9_max_7cf53 2 = .ok (.if_icmp .lt 7, 3) := by decide +kernel
theorem dJ9_max_7cf53_5 : decode cJ9_max_7cf53 5 = .ok (.iload_n 0, 1) := by decide +kernel
theorem dJ9_max_7cf53_6 : decode cJ9_max_7cf53 6 = .ok (.goto 4, 3) := by decide +kernel
theorem dJ9_max_7cf53_9 : decode cJ9_max_7cf53 9 = .ok (.iload_n 1, 1) := by decide +kernel
theorem dJ9_max_7cf53_10 : decode cJ9_max_7cf53 10 = .ok (.ireturn, 1) := by decide +kernel
theorem dJ9_min_7cf53_0 : decode cJ9_min_7cf53 0 = .ok (.iload_n 0, 1) := by decide +kernel
theorem dJ9_min_7cf53_1 : decode cJ9_min_7cf53 1 = .ok (.iload_n 1, 1) := by decide +kernel
theorem dJ9_min_7cf53_2 : decode cJ9_min_7cf53 2 = .ok (.if_icmp .gt 7, 3) := by decide +kernel
theorem dJ9_min_7cf53_5 : decode cJ9_min_7cf53 5 = .ok (.iload_n 0, 1) := by decide +kernel
theorem dJ9_min_7cf53_6 : decode cJ9_min_7cf53 6 = .ok (.goto 4, 3) := by decide +kernel
theorem dJ9_min_7cf53_9 : decode cJ9_min_7cf53 9 = .ok (.iload_n 1, 1) := by decide +kernel
theorem dJ9_min_7cf53_10 : decode cJ9_min_7cf53 10 = .ok (.ireturn, 1) := by decide +kernel
theorem dJ9_min_f86c9_0 : decode cJ9_min_f86c9 0 = .ok (.lload_n 0, 1) := by decide +kernel
theorem dJ9_min_f86c9_1 : decode cJ9_min_f86c9 1 = .ok (.lload_n 2, 1) := by decide +kernel
theorem dJ9_min_f86c9_2 : decode cJ9_min_f86c9 2 = .ok (.lcmp, 1) := by decide +kernel
theorem dJ9_min_f86c9_3 : decode cJ9_min_f86c9 3 = .ok (.ifCond .gt 7, 3) := by decide +kernel
theorem dJ9_min_f86c9_6 : decode cJ9_min_f86c9 6 = .ok (.lload_n 0, 1) := by decide +kernel
theorem dJ9_min_f86c9_7 : decode cJ9_min_f86c9 7 = .ok (.goto 4, 3) := by decide +kernel
theorem dJ9_min_f86c9_10 : decode cJ9_min_f86c9 10 = .ok (.lload_n 2, 1) := by decide +kernel
theorem dJ9_min_f86c9_11 : decode cJ9_min_f86c9 11 = .ok (.lreturn, 1) := by decide +kernel
