theorem dX7_many_59 : decode cX7_many 59 = .ok (.getfield 164, 3) := by decide +kernel
theorem dX7_many_62 : decode cX7_many 62 = .ok (.invokevirtual 215, 3) := by decide +kernel
theorem dX7_many_65 : decode cX7_many 65 = .ok (.ldc2_w 196, 3) := by decide +kernel
theorem dX7_many_68 : decode cX7_many 68 = .ok (.lcmp, 1) := by decide +kernel
theorem dX7_many_69 : decode cX7_many 69 = .ok (.ifCond .ne 5, 3) := by decide +kernel
theorem dX7_many_72 : decode cX7_many 72 = .ok (.lconst 0, 1) := by decide +kernel
theorem dX7_many_73 : decode cX7_many 73 = .ok (.lreturn, 1) := by decide +kernel
theorem dX7_many_74 : decode cX7_many 74 = .ok (.aload_n 0, 1) := by decide +kernel
theorem dX7_many_75 : decode cX7_many 75 = .ok (.getfield 33, 3) := by decide +kernel
theorem dX7_many_78 : decode cX7_many 78 = .ok (.aload_n 0, 1) := by decide +kernel
theorem dX7_many_79 : decode cX7_many 79 = .ok (.getfield 12, 3) := by decide +kernel
theorem dX7_many_82 : decode cX7_many 82 = .ok (.aload 5, 2) := by decide +kernel
theorem dX7_many_84 : decode cX7_many 84 = .ok (.invokevirtual 223, 3) := by decide +kernel
theorem dX7_many_87 : decode cX7_many 87 = .ok (.lreturn, 1) := by decide +kernel
theorem dX7_value_0 : decode cX7_value 0 = .ok (.aload_n 0, 1) := by decide +kernel
theorem dX7_value_1 : decode cX7_value 1 = .ok (.iload_n 1, 1) := by decide +kernel
theorem dX7_value_2 : decode cX7_value 2 = .ok (.iload_n 2, 1) := by decide +kernel
theorem dX7_value_3 : decode cX7_value 3 = .ok (.invokestatic 193, 3) := by decide +kernel
theorem dX7_value_6 : decode cX7_value 6 = .ok (.invokevirtual 154, 3) := by decide +kernel
theorem dX7_value_9 : decode cX7_value 9 = .ok (.lstore 5, 2) := by decide +kernel
theorem dX7_value_11 : decode cX7_value 11 = .ok (.lload 5, 2) := by decide +kernel
theorem dX7_value_13 : decode cX7_value 13 = .ok (.lconst 0, 1) := by decide +kernel
theorem dX7_value_14 : decode cX7_value 14 = .ok (.lcmp, 1) := by decide +kernel
theorem dX7_value_15 : decode cX7_value 15 = .ok (.ifCond .eq 6, 3) := by decide +kernel
theorem dX7_value_18 : decode cX7_value 18 = .ok (.lload 5, 2) := by decide +kernel
theorem dX7_value_20 : decode cX7_value 20 = .ok (.lreturn, 1) := by decide +kernel
theorem dX7_value_21 : decode cX7_value 21 = .ok (.aload_n 0, 1) := by decide +kernel
theorem dX7_value_22 : decode cX7_value 22 = .ok (.getfield 25, 3) := by decide +kernel
theorem dX7_value_25 : decode cX7_value 25 = .ok (.iload_n 1, 1) := by decide +kernel
theorem dX7_value_26 : decode cX7_value 26 = .ok (.aaload, 1) := by decide +kernel
theorem dX7_value_27 : decode cX7_value 27 = .ok (.astore 7, 2) := by decide +kernel
theorem dX7_value_29 : decode cX7_value 29 = .ok (.iload_n 3, 1) := by decide +kernel
theorem dX7_value_30 : decode cX7_value 30 = .ok (.iconst 0, 1) := by decide +kernel
theorem dX7_value_31 : decode cX7_value 31 = .ok (.aload_n 0, 1) := by decide +kernel
theorem dX7_value_32 : decode cX7_value 32 = .ok (.getfield 12, 3) := by decide +kernel
theorem dX7_value_35 : decode cX7_value 35 = .ok (.getfield 68, 3) := by decide +kernel
theorem dX7_value_38 : decode cX7_value 38 = .ok (.invokestatic 58, 3) := by decide +kernel
theorem dX7_value_41 : decode cX7_value 41 = .ok (.ifCond .eq 17, 3) := by decide +kernel
theorem dX7_value_44 : decode cX7_value 44 = .ok (.iload 4, 2) := by decide +kernel
theorem dX7_value_46 : decode cX7_value 46 = .ok (.iconst 0, 1) := by decide +kernel
theorem dX7_value_47 : decode cX7_value 47 = .ok (.aload 7, 2) := by decide +kernel
theorem dX7_value_49 : decode cX7_value 49 = .ok (.getfield 227, 3) := by decide +kernel
theorem dX7_value_52 : decode cX7_value 52 = .ok (.invokestatic 58, 3) := by decide +kernel
theorem dX7_value_55 : decode cX7_value 55 = .ok (.ifCond .ne 7, 3) := by decide +kernel
theorem dX7_value_58 : decode cX7_value 58 = .ok (.ldc2_w 62, 3) := by decide +kernel
theorem dX7_value_61 : decode cX7_value 61 = .ok (.lreturn, 1) := by decide +kernel
theorem dX7_value_62 : decode cX7_value 62 = .ok (.aload_n 0, 1) := by decide +kernel
theorem dX7_value_63 : decode cX7_value 63 = .ok (.getfield 33, 3) := by decide +kernel
theorem dX7_value_66 : decode cX7_value 66 = .ok (.aload_n 0, 1) := by decide +kernel
theorem dX7_value_67 : decode cX7_value 67 = .ok (.getfield 18, 3) := by decide +kernel
theorem dX7_value_70 : decode cX7_value 70 = .ok (.iload_n 2, 1) := by decide +kernel
theorem dX7_value_71 : decode cX7_value 71 = .ok (.invokevirtual 207, 3) := by decide +kernel
theorem dX7_value_74 : decode cX7_value 74 = .ok (.aload_n 0, 1) := by decide +kernel
theorem dX7_value_75 : decode cX7_value 75 = .ok (.getfield 33, 3) := by decide +kernel
theorem dX7_value_78 : decode cX7_value 78 = .ok (.aload_n 0, 1) := by decide +kernel
theorem dX7_value_79 : decode cX7_value 79 = .ok (.getfield 12, 3) := by decide +kernel
theorem dX7_value_82 : decode cX7_value 82 = .ok (.aload 7, 2) := by decide +kernel
theorem dX7_value_84 : decode cX7_value 84 = .ok (.iload_n 3, 1) := by decide +kernel
theorem dX7_value_85 : decode cX7_value 85 = .ok (.invokevirtual 211, 3) := by decide +kernel
theorem dX7_value_88 : decode cX7_value 88 = .ok (.aload_n 0, 1) := by decide +kernel
theorem dX7_value_89 : decode cX7_value 89 = .ok (.getfield 33, 3) := by decide +kernel
theorem dX7_value_92 : decode cX7_value 92 = .ok (.iload_n 3, 1) := by decide +kernel
theorem dX7_value_93 : decode cX7_value 93 = .ok (.iload 4, 2) := by decide +kernel
theorem dX7_value_95 : decode cX7_value 95 = .ok (.invokevirtual 215, 3) := by decide +kernel
theorem dX7_value_98 : decode cX7_value 98 = .ok (.lreturn, 1) := by decide +kernel
theorem dX7_bid_0 : decode cX7_bid 0 = .ok (.aload_n 0, 1) := by decide +kernel
theorem dX7_bid_1 : decode cX7_bid 1 = .ok (.iload_n 1, 1) := by decide +kernel
theorem dX7_bid_2 : decode cX7_bid 2 = .ok (.invokevirtual 176, 3) := by decide +kernel
theorem dX7_bid_5 : decode cX7_bid 5 = .ok (.ifCond .eq 16, 3) := by decide +kernel
theorem dX7_bid_8 : decode cX7_bid 8 = .ok (.aload_n 0, 1) := by decide +kernel
theorem dX7_bid_9 : decode cX7_bid 9 = .ok (.iload_n 2, 1) := by decide +kernel
theorem dX7_bid_10 : decode cX7_bid 10 = .ok (.invokevirtual 176, 3) := by decide +kernel
theorem dX7_bid_13 : decode cX7_bid 13 = .ok (.ifCond .eq 8, 3) := by decide +kernel
theorem dX7_bid_16 : decode cX7_bid 16 = .ok (.iload_n 1, 1) := by decide +kernel
theorem dX7_bid_17 : decode cX7_bid 17 = .ok (.iload_n 2, 1) := by decide +kernel
theorem dX7_bid_18 : decode cX7_bid 18 = .ok (.if_icmp .le 7, 3) := by decide +kernel
theorem dX7_bid_21 : decode cX7_bid 21 = .ok (.ldc2_w 62, 3) := by decide +kernel
theorem dX7_bid_24 : decode cX7_bid 24 = .ok (.lreturn, 1) := by decide +kernel
theorem dX7_bid_25 : decode cX7_bid 25 = .ok (.iload_n 3, 1) := by decide +kernel
theorem dX7_bid_26 : decode cX7_bid 26 = .ok (.ifCond .eq 28, 3) := by decide +kernel
theorem dX7_bid_29 : decode cX7_bid 29 = .ok (.iload_n 3, 1) := by decide +kernel
theorem dX7_bid_30 : decode cX7_bid 30 = .ok (.bipush (-20), 2) := by decide +kernel
theorem dX7_bid_32 : decode cX7_bid 32 = .ok (.bipush 20, 2) := by decide +kernel
theorem dX7_bid_34 : decode cX7_bid 34 = .ok (.invokestatic 58, 3) := by decide +kernel
theorem dX7_bid_37 : decode cX7_bid 37 = .ok (.ifCond .eq 17, 3) := by decide +kernel
theorem dX7_bid_40 : decode cX7_bid 40 = .ok (.iload 4, 2) := by decide +kernel
theorem dX7_bid_42 : decode cX7_bid 42 = .ok (.sipush (-10000), 3) := by decide +kernel
theorem dX7_bid_45 : decode cX7_bid 45 = .ok (.sipush 10000, 3) := by decide +kernel
theorem dX7_bid_48 : decode cX7_bid 48 = .ok (.invokestatic 58, 3) := by decide +kernel
theorem dX7_bid_51 : decode cX7_bid 51 = .ok (.ifCond .ne 7, 3) := by decide +kernel
theorem dX7_bid_54 : decode cX7_bid 54 = .ok (.ldc2_w 62, 3) := by decide +kernel
theorem dX7_bid_57 : decode cX7_bid 57 = .ok (.lreturn, 1) := by decide +kernel
theorem dX7_bid_58 : decode cX7_bid 58 = .ok (.aload_n 0, 1) := by decide +kernel
theorem dX7_bid_59 : decode cX7_bid 59 = .ok (.getfield 40, 3) := by decide +kernel
theorem dX7_bid_62 : decode cX7_bid 62 = .ok (.getfield 64, 3) := by decide +kernel
theorem dX7_bid_65 : decode cX7_bid 65 = .ok (.bipush 12, 2) := by decide +kernel
theorem dX7_bid_67 : decode cX7_bid 67 = .ok (.if_icmp .lt 7, 3) := by decide +kernel
theorem dX7_bid_70 : decode cX7_bid 70 = .ok (.ldc2_w 228, 3) := by decide +kernel
theorem dX7_bid_73 : decode cX7_bid 73 = .ok (.lreturn, 1) := by decide +kernel
theorem dX7_bid_74 : decode cX7_bid 74 = .ok (.aload_n 0, 1) := by decide +kernel
theorem dX7_bid_75 : decode cX7_bid 75 = .ok (.getfield 40, 3) := by decide +kernel
theorem dX7_bid_78 : decode cX7_bid 78 = .ok (.iload_n 1, 1) := by decide +kernel
theorem dX7_bid_79 : decode cX7_bid 79 = .ok (.iload_n 2, 1) := by decide +kernel
theorem dX7_bid_80 : decode cX7_bid 80 = .ok (.iload_n 3, 1) := by decide +kernel
theorem dX7_bid_81 : decode cX7_bid 81 = .ok (.iload 4, 2) := by decide +kernel
theorem dX7_bid_83 : decode cX7_bid 83 = .ok (.invokevirtual 230, 3) := by decide +kernel
theorem dX7_bid_86 : decode cX7_bid 86 = .ok (.i2l, 1) := by decide +kernel
theorem dX7_bid_87 : decode cX7_bid 87 = .ok (.lreturn, 1) := by decide +kernel
theorem dX7_unbid_0 : decode cX7_unbid 0 = .ok (.aload_n 0, 1) := by decide +kernel
theorem dX7_unbid_1 : decode cX7_unbid 1 = .ok (.getfield 40, 3) := by decide +kernel
theorem dX7_unbid_4 : decode cX7_unbid 4 = .ok (.getfield 64, 3) := by decide +kernel
theorem dX7_unbid_7 : decode cX7_unbid 7 = .ok (.ifCond .gt 7, 3) := by decide +kernel
theorem dX7_unbid_10 : decode cX7_unbid 10 = .ok (.ldc2_w 122, 3) := by decide +kernel
theorem dX7_unbid_13 : decode cX7_unbid 13 = .ok (.lreturn, 1) := by decide +kernel
theorem dX7_unbid_14 : decode cX7_unbid 14 = .ok (.aload_n 0, 1) := by decide +kernel
theorem dX7_unbid_15 : decode cX7_unbid 15 = .ok (.getfield 40, 3) := by decide +kernel
theorem dX7_unbid_18 : decode cX7_unbid 18 = .ok (.dup, 1) := by decide +kernel
theorem dX7_unbid_19 : decode cX7_unbid 19 = .ok (.getfield 64, 3) := by decide +kernel
theorem dX7_unbid_22 : decode cX7_unbid 22 = .ok (.iconst 1, 1) := by decide +kernel
theorem dX7_unbid_23 : decode cX7_unbid 23 = .ok (.isub, 1) := by decide +kernel
theorem dX7_unbid_24 : decode cX7_unbid 24 = .ok (.putfield 64, 3) := by decide +kernel
theorem dX7_unbid_27 : decode cX7_unbid 27 = .ok (.aload_n 0, 1) := by decide +kernel
theorem dX7_unbid_28 : decode cX7_unbid 28 = .ok (.getfield 40, 3) := by decide +kernel
theorem dX7_unbid_31 : decode cX7_unbid 31 = .ok (.getfield 64, 3) := by decide +kernel
theorem dX7_unbid_34 : decode cX7_unbid 34 = .ok (.i2l, 1) := by decide +kernel
theorem dX7_unbid_35 : decode cX7_unbid 35 = .ok (.lreturn, 1) := by decide +kernel
theorem dX7_taken_0 : decode cX7_taken 0 = .ok (.iload_n 1, 1) := by decide +kernel
theorem dX7_taken_1 : decode cX7_taken 1 = .ok (.iconst 0, 1) := by decide +kernel
theorem dX7_taken_2 : decode cX7_taken 2 = .ok (.aload_n 0, 1) := by decide +kernel
theorem dX7_taken_3 : decode cX7_taken 3 = .ok (.getfield 40, 3) := by decide +kernel
theorem dX7_taken_6 : decode cX7_taken 6 = .ok (.getfield 64, 3) := by decide +kernel
theorem dX7_taken_9 : decode cX7_taken 9 = .ok (.iconst 1, 1) := by decide +kernel
theorem dX7_taken_10 : decode cX7_taken 10 = .ok (.isub, 1) := by decide +kernel
theorem dX7_taken_11 : decode cX7_taken 11 = .ok (.invokestatic 58, 3) := by decide +kernel
theorem dX7_taken_14 : decode cX7_taken 14 = .ok (.ifCond .eq 10, 3) := by decide +kernel
theorem dX7_taken_17 : decode cX7_taken 17 = .ok (.iload_n 2, 1) := by decide +kernel
theorem dX7_taken_18 : decode cX7_taken 18 = .ok (.invokestatic 90, 3) := by decide +kernel
theorem dX7_taken_21 : decode cX7_taken 21 = .ok (.ifCond .ne 7, 3) := by decide +kernel
theorem dX7_taken_24 : decode cX7_taken 24 = .ok (.ldc2_w 62, 3) := by decide +kernel
theorem dX7_taken_27 : decode cX7_taken 27 = .ok (.lreturn, 1) := by decide +kernel
theorem dX7_taken_28 : decode cX7_taken 28 = .ok (.aload_n 0, 1) := by decide +kernel
theorem dX7_taken_29 : decode cX7_taken 29 = .ok (.getfield 40, 3) := by decide +kernel
theorem dX7_taken_32 : decode cX7_taken 32 = .ok (.iload_n 1, 1) := by decide +kernel
theorem dX7_taken_33 : decode cX7_taken 33 = .ok (.aload_n 0, 1) := by decide +kernel
theorem dX7_taken_34 : decode cX7_taken 34 = .ok (.getfield 18, 3) := by decide +kernel
theorem dX7_taken_37 : decode cX7_taken 37 = .ok (.iload_n 2, 1) := by decide +kernel
theorem dX7_taken_38 : decode cX7_taken 38 = .ok (.aaload, 1) := by decide +kernel
theorem dX7_taken_39 : decode cX7_taken 39 = .ok (.invokevirtual 234, 3) := by decide +kernel
theorem dX7_taken_42 : decode cX7_taken 42 = .ok (.invokestatic 82, 3) := by decide +kernel
theorem dX7_taken_45 : decode cX7_taken 45 = .ok (.lreturn, 1) := by decide +kernel
theorem dX7_wanted_0 : decode cX7_wanted 0 = .ok (.iload_n 1, 1) := by decide +kernel
theorem dX7_wanted_1 : decode cX7_wanted 1 = .ok (.invokestatic 90, 3) := by decide +kernel
theorem dX7_wanted_4 : decode cX7_wanted 4 = .ok (.ifCond .ne 7, 3) := by decide +kernel
theorem dX7_wanted_7 : decode cX7_wanted 7 = .ok (.ldc2_w 62, 3) := by decide +kernel
theorem dX7_wanted_10 : decode cX7_wanted 10 = .ok (.lreturn, 1) := by decide +kernel
theorem dX7_wanted_11 : decode cX7_wanted 11 = .ok (.aload_n 0, 1) := by decide +kernel
theorem dX7_wanted_12 : decode cX7_wanted 12 = .ok (.iload_n 2, 1) := by decide +kernel
theorem dX7_wanted_13 : decode cX7_wanted 13 = .ok (.invokevirtual 176, 3) := by decide +kernel
theorem dX7_wanted_16 : decode cX7_wanted 16 = .ok (.ifCond .ne 7, 3) := by decide +kernel
theorem dX7_wanted_19 : decode cX7_wanted 19 = .ok (.ldc2_w 111, 3) := by decide +kernel
theorem dX7_wanted_22 : decode cX7_wanted 22 = .ok (.lreturn, 1) := by decide +kernel
theorem dX7_wanted_23 : decode cX7_wanted 23 = .ok (.aload_n 0, 1) := by decide +kernel
theorem dX7_wanted_24 : decode cX7_wanted 24 = .ok (.getfield 40, 3) := by decide +kernel
theorem dX7_wanted_27 : decode cX7_wanted 27 = .ok (.aload_n 0, 1) := by decide +kernel
theorem dX7_wanted_28 : decode cX7_wanted 28 = .ok (.getfield 18, 3) := by decide +kernel
theorem dX7_wanted_31 : decode cX7_wanted 31 = .ok (.iload_n 1, 1) := by decide +kernel
theorem dX7_wanted_32 : decode cX7_wanted 32 = .ok (.aaload, 1) := by decide +kernel
theorem dX7_wanted_33 : decode cX7_wanted 33 = .ok (.iload_n 2, 1) := by decide +kernel
theorem dX7_wanted_34 : decode cX7_wanted 34 = .ok (.invokevirtual 238, 3) := by decide +kernel
theorem dX7_wanted_37 : decode cX7_wanted 37 = .ok (.i2l, 1) := by decide +kernel
theorem dX7_wanted_38 : decode cX7_wanted 38 = .ok (.lreturn, 1) := by decide +kernel
theorem dX7_fill_0 : decode cX7_fill 0 = .ok (.aload_n 0, 1) := by decide +kernel
theorem dX7_fill_1 : decode cX7_fill 1 = .ok (.iload_n 1, 1) := by decide +kernel
theorem dX7_fill_2 : decode cX7_fill 2 = .ok (.iload_n 2, 1) := by decide +kernel
theorem dX7_fill_3 : decode cX7_fill 3 = .ok (.invokestatic 90, 3) := by decide +kernel
theorem dX7_fill_6 : decode cX7_fill 6 = .ok (.invokevirtual 154, 3) := by decide +kernel
theorem dX7_fill_9 : decode cX7_fill 9 = .ok (.lstore_n 3, 1) := by decide +kernel
theorem dX7_fill_10 : decode cX7_fill 10 = .ok (.lload_n 3, 1) := by decide +kernel
theorem dX7_fill_11 : decode cX7_fill 11 = .ok (.lconst 0, 1) := by decide +kernel
theorem dX7_fill_12 : decode cX7_fill 12 = .ok (.lcmp, 1) := by decide +kernel
theorem dX7_fill_13 : decode cX7_fill 13 = .ok (.ifCond .eq 5, 3) := by decide +kernel
theorem dX7_fill_16 : decode cX7_fill 16 = .ok (.lload_n 3, 1) := by decide +kernel
theorem dX7_fill_17 : decode cX7_fill 17 = .ok (.lreturn, 1) := by decide +kernel
theorem dX7_fill_18 : decode cX7_fill 18 = .ok (.aload_n 0, 1) := by decide +kernel
theorem dX7_fill_19 : decode cX7_fill 19 = .ok (.getfield 25, 3) := by decide +kernel
theorem dX7_fill_22 : decode cX7_fill 22 = .ok (.iload_n 1, 1) := by decide +kernel
theorem dX7_fill_23 : decode cX7_fill 23 = .ok (.aaload, 1) := by decide +kernel
theorem dX7_fill_24 : decode cX7_fill 24 = .ok (.astore 5, 2) := by decide +kernel
theorem dX7_fill_26 : decode cX7_fill 26 = .ok (.aload 5, 2) := by decide +kernel
theorem dX7_fill_28 : decode cX7_fill 28 = .ok (.getfield 164, 3) := by decide +kernel
theorem dX7_fill_31 : decode cX7_fill 31 = .ok (.istore 6, 2) := by decide +kernel
theorem dX7_fill_33 : decode cX7_fill 33 = .ok (.lconst 0, 1) := by decide +kernel
theorem dX7_fill_34 : decode cX7_fill 34 = .ok (.lstore 7, 2) := by decide +kernel
theorem dX7_fill_36 : decode cX7_fill 36 = .ok (.iconst 0, 1) := by decide +kernel
theorem dX7_fill_37 : decode cX7_fill 37 = .ok (.istore 9, 2) := by decide +kernel
theorem dX7_fill_39 : decode cX7_fill 39 = .ok (.iload 9, 2) := by decide +kernel
theorem dX7_fill_41 : decode cX7_fill 41 = .ok (.aload_n 0, 1) := by decide +kernel
theorem dX7_fill_42 : decode cX7_fill 42 = .ok (.getfield 12, 3) := by decide +kernel
theorem dX7_fill_45 : decode cX7_fill 45 = .ok (.getfield 68, 3) := by decide +kernel
theorem dX7_fill_48 : decode cX7_fill 48 = .ok (.if_icmp .ge 85, 3) := by decide +kernel
theorem dX7_fill_51 : decode cX7_fill 51 = .ok (.aload_n 0, 1) := by decide +kernel
theorem dX7_fill_52 : decode cX7_fill 52 = .ok (.getfield 40, 3) := by decide +kernel
theorem dX7_fill_55 : decode cX7_fill 55 = .ok (.aload_n 0, 1) := by decide +kernel
theorem dX7_fill_56 : decode cX7_fill 56 = .ok (.getfield 18, 3) := by decide +kernel
theorem dX7_fill_59 : decode cX7_fill 59 = .ok (.iload_n 2, 1) := by decide +kernel
theorem dX7_fill_60 : decode cX7_fill 60 = .ok (.aaload, 1) := by decide +kernel
theorem dX7_fill_61 : decode cX7_fill 61 = .ok (.iload 9, 2) := by decide +kernel
theorem dX7_fill_63 : decode cX7_fill 63 = .ok (.invokevirtual 238, 3) := by decide +kernel
theorem dX7_fill_66 : decode cX7_fill 66 = .ok (.istore 10, 2) := by decide +kernel
theorem dX7_fill_68 : decode cX7_fill 68 = .ok (.aload_n 0, 1) := by decide +kernel
theorem dX7_fill_69 : decode cX7_fill 69 = .ok (.getfield 12, 3) := by decide +kernel
theorem dX7_fill_72 : decode cX7_fill 72 = .ok (.getfield 78, 3) := by decide +kernel
theorem dX7_fill_75 : decode cX7_fill 75 = .ok (.iload 9, 2) := by decide +kernel
theorem dX7_fill_77 : decode cX7_fill 77 = .ok (.baload, 1) := by decide +kernel
theorem dX7_fill_78 : decode cX7_fill 78 = .ok (.ifCond .eq 7, 3) := by decide +kernel
theorem dX7_fill_81 : decode cX7_fill 81 = .ok (.iconst 0, 1) := by decide +kernel
theorem dX7_fill_82 : decode cX7_fill 82 = .ok (.goto 12, 3) := by decide +kernel
theorem dX7_fill_85 : decode cX7_fill 85 = .ok (.aload 5, 2) := by decide +kernel
theorem dX7_fill_87 : decode cX7_fill 87 = .ok (.iload 10, 2) := by decide +kernel
theorem dX7_fill_89 : decode cX7_fill 89 = .ok (.iload 6, 2) := by decide +kernel
theorem dX7_fill_91 : decode cX7_fill 91 = .ok (.invokevirtual 242, 3) := by decide +kernel
theorem dX7_fill_94 : decode cX7_fill 94 = .ok (.istore 11, 2) := by decide +kernel
theorem dX7_fill_96 : decode cX7_fill 96 = .ok (.aload 5, 2) := by decide +kernel
theorem dX7_fill_98 : decode cX7_fill 98 = .ok (.getfield 179, 3) := by decide +kernel
theorem dX7_fill_101 : decode cX7_fill 101 = .ok (.iload 9, 2) := by decide +kernel
theorem dX7_fill_103 : decode cX7_fill 103 = .ok (.iload 11, 2) := by decide +kernel
theorem dX7_fill_105 : decode cX7_fill 105 = .ok (.iastore, 1) := by decide +kernel
theorem dX7_fill_106 : decode cX7_fill 106 = .ok (.iload 6, 2) := by decide +kernel
theorem dX7_fill_108 : decode cX7_fill 108 = .ok (.iload 11, 2) := by decide +kernel
theorem dX7_fill_110 : decode cX7_fill 110 = .ok (.iadd, 1) := by decide +kernel
theorem dX7_fill_111 : decode cX7_fill 111 = .ok (.istore 6, 2) := by decide +kernel
theorem dX7_fill_113 : decode cX7_fill 113 = .ok (.lload 7, 2) := by decide +kernel
theorem dX7_fill_115 : decode cX7_fill 115 = .ok (.iload 10, 2) := by decide +kernel
theorem dX7_fill_117 : decode cX7_fill 117 = .ok (.iload 11, 2) := by decide +kernel
theorem dX7_fill_119 : decode cX7_fill 119 = .ok (.isub, 1) := by decide +kernel
theorem dX7_fill_120 : decode cX7_fill 120 = .ok (.invokestatic 246, 3) := by decide +kernel
theorem dX7_fill_123 : decode cX7_fill 123 = .ok (.i2l, 1) := by decide +kernel
theorem dX7_fill_124 : decode cX7_fill 124 = .ok (.ladd, 1) := by decide +kernel
theorem dX7_fill_125 : decode cX7_fill 125 = .ok (.lstore 7, 2) := by decide +kernel
theorem dX7_fill_127 : decode cX7_fill 127 = .ok (.iinc 9 1, 3) := by decide +kernel
theorem dX7_fill_130 : decode cX7_fill 130 = .ok (.goto (-91), 3) := by decide +kernel
theorem dX7_fill_133 : decode cX7_fill 133 = .ok (.lload 7, 2) := by decide +kernel
theorem dX7_fill_135 : decode cX7_fill 135 = .ok (.lreturn, 1) := by decide +kernel
theorem dX7_meter_0 : decode cX7_meter 0 = .ok (.iload_n 1, 1) := by decide +kernel
theorem dX7_meter_1 : decode cX7_meter 1 = .ok (.invokestatic 74, 3) := by decide +kernel
theorem dX7_meter_4 : decode cX7_meter 4 = .ok (.ifCond .eq 16, 3) := by decide +kernel
theorem dX7_meter_7 : decode cX7_meter 7 = .ok (.iload_n 2, 1) := by decide +kernel
theorem dX7_meter_8 : decode cX7_meter 8 = .ok (.sipush (-1001), 3) := by decide +kernel
theorem dX7_meter_11 : decode cX7_meter 11 = .ok (.sipush 1000, 3) := by decide +kernel
theorem dX7_meter_14 : decode cX7_meter 14 = .ok (.invokestatic 58, 3) := by decide +kernel
theorem dX7_meter_17 : decode cX7_meter 17 = .ok (.ifCond .ne 7, 3) := by decide +kernel
theorem dX7_meter_20 : decode cX7_meter 20 = .ok (.ldc2_w 62, 3) := by decide +kernel
theorem dX7_meter_23 : decode cX7_meter 23 = .ok (.lreturn, 1) := by decide +kernel
theorem dX7_meter_24 : decode cX7_meter 24 = .ok (.aload_n 0, 1) := by decide +kernel
theorem dX7_meter_25 : decode cX7_meter 25 = .ok (.getfield 47, 3) := by decide +kernel
theorem dX7_meter_28 : decode cX7_meter 28 = .ok (.getfield 249, 3) := by decide +kernel
theorem dX7_meter_31 : decode cX7_meter 31 = .ok (.iload_n 1, 1) := by decide +kernel
theorem dX7_meter_32 : decode cX7_meter 32 = .ok (.iaload, 1) := by decide +kernel
theorem dX7_meter_33 : decode cX7_meter 33 = .ok (.istore_n 3, 1) := by decide +kernel
theorem dX7_meter_34 : decode cX7_meter 34 = .ok (.aload_n 0, 1) := by decide +kernel
theorem dX7_meter_35 : decode cX7_meter 35 = .ok (.getfield 47, 3) := by decide +kernel
theorem dX7_meter_38 : decode cX7_meter 38 = .ok (.getfield 249, 3) := by decide +kernel
theorem dX7_meter_41 : decode cX7_meter 41 = .ok (.iload_n 1, 1) := by decide +kernel
theorem dX7_meter_42 : decode cX7_meter 42 = .ok (.iload_n 2, 1) := by decide +kernel
theorem dX7_meter_43 : decode cX7_meter 43 = .ok (.iastore, 1) := by decide +kernel
theorem dX7_meter_44 : decode cX7_meter 44 = .ok (.iload_n 3, 1) := by decide +kernel
theorem dX7_meter_45 : decode cX7_meter 45 = .ok (.i2l, 1) := by decide +kernel
theorem dX7_meter_46 : decode cX7_meter 46 = .ok (.lreturn, 1) := by decide +kernel
theorem dX7_counts_0 : decode cX7_counts 0 = .ok (.iload_n 1, 1) := by decide +kernel
theorem dX7_counts_1 : decode cX7_counts 1 = .ok (.invokestatic 74, 3) := by decide +kernel
theorem dX7_counts_4 : decode cX7_counts 4 = .ok (.ifCond .ne 7, 3) := by decide +kernel
theorem dX7_counts_7 : decode cX7_counts 7 = .ok (.ldc2_w 62, 3) := by decide +kernel
theorem dX7_counts_10 : decode cX7_counts 10 = .ok (.lreturn, 1) := by decide +kernel
theorem dX7_counts_11 : decode cX7_counts 11 = .ok (.aload_n 0, 1) := by decide +kernel
theorem dX7_counts_12 : decode cX7_counts 12 = .ok (.getfield 47, 3) := by decide +kernel
theorem dX7_counts_15 : decode cX7_counts 15 = .ok (.iload_n 1, 1) := by decide +kernel
theorem dX7_counts_16 : decode cX7_counts 16 = .ok (.invokevirtual 252, 3) := by decide +kernel
theorem dX7_counts_19 : decode cX7_counts 19 = .ok (.i2l, 1) := by decide +kernel
theorem dX7_counts_20 : decode cX7_counts 20 = .ok (.lreturn, 1) := by decide +kernel
theorem dX7_live_0 : decode cX7_live 0 = .ok (.aload_n 0, 1) := by decide +kernel
theorem dX7_live_1 : decode cX7_live 1 = .ok (.iload_n 1, 1) := by decide +kernel
theorem dX7_live_2 : decode cX7_live 2 = .ok (.iload_n 2, 1) := by decide +kernel
theorem dX7_live_3 : decode cX7_live 3 = .ok (.invokestatic 90, 3) := by decide +kernel
theorem dX7_live_6 : decode cX7_live 6 = .ok (.invokevirtual 154, 3) := by decide +kernel
theorem dX7_live_9 : decode cX7_live 9 = .ok (.lstore_n 3, 1) := by decide +kernel
theorem dX7_live_10 : decode cX7_live 10 = .ok (.lload_n 3, 1) := by decide +kernel
theorem dX7_live_11 : decode cX7_live 11 = .ok (.lconst 0, 1) := by decide +kernel
theorem dX7_live_12 : decode cX7_live 12 = .ok (.lcmp, 1) := by decide +kernel
theorem dX7_live_13 : decode cX7_live 13 = .ok (.ifCond .eq 5, 3) := by decide +kernel
theorem dX7_live_16 : decode cX7_live 16 = .ok (.lload_n 3, 1) := by decide +kernel
theorem dX7_live_17 : decode cX7_live 17 = .ok (.lreturn, 1) := by decide +kernel
theorem dX7_live_18 : decode cX7_live 18 = .ok (.aload_n 0, 1) := by decide +kernel
theorem dX7_live_19 : decode cX7_live 19 = .ok (.getfield 25, 3) := by decide +kernel
theorem dX7_live_22 : decode cX7_live 22 = .ok (.iload_n 1, 1) := by decide +kernel
theorem dX7_live_23 : decode cX7_live 23 = .ok (.aaload, 1) := by decide +kernel
theorem dX7_live_24 : decode cX7_live 24 = .ok (.astore 5, 2) := by decide +kernel
theorem dX7_live_26 : decode cX7_live 26 = .ok (.aload_n 0, 1) := by decide +kernel
theorem dX7_live_27 : decode cX7_live 27 = .ok (.getfield 12, 3) := by decide +kernel
theorem dX7_live_30 : decode cX7_live 30 = .ok (.aload 5, 2) := by decide +kernel
theorem dX7_live_32 : decode cX7_live 32 = .ok (.invokevirtual 185, 3) := by decide +kernel
theorem dX7_live_35 : decode cX7_live 35 = .ok (.ldc2_w 196, 3) := by decide +kernel
theorem dX7_live_38 : decode cX7_live 38 = .ok (.lcmp, 1) := by decide +kernel
theorem dX7_live_39 : decode cX7_live 39 = .ok (.ifCond .eq 7, 3) := by decide +kernel
theorem dX7_live_42 : decode cX7_live 42 = .ok (.ldc2_w 122, 3) := by decide +kernel
theorem dX7_live_45 : decode cX7_live 45 = .ok (.lreturn, 1) := by decide +kernel
theorem dX7_live_46 : decode cX7_live 46 = .ok (.aload_n 0, 1) := by decide +kernel
theorem dX7_live_47 : decode cX7_live 47 = .ok (.getfield 54, 3) := by decide +kernel
theorem dX7_live_50 : decode cX7_live 50 = .ok (.getfield 255, 3) := by decide +kernel
theorem dX7_live_53 : decode cX7_live 53 = .ok (.aload_n 0, 1) := by decide +kernel
theorem dX7_live_54 : decode cX7_live 54 = .ok (.getfield 12, 3) := by decide +kernel
theorem dX7_live_57 : decode cX7_live 57 = .ok (.getfield 68, 3) := by decide +kernel
theorem dX7_live_60 : decode cX7_live 60 = .ok (.iadd, 1) := by decide +kernel
theorem dX7_live_61 : decode cX7_live 61 = .ok (.sipush 150, 3) := by decide +kernel
theorem dX7_live_64 : decode cX7_live 64 = .ok (.if_icmp .le 7, 3) := by decide +kernel
theorem dX7_live_67 : decode cX7_live 67 = .ok (.ldc2_w 228, 3) := by decide +kernel
theorem dX7_live_70 : decode cX7_live 70 = .ok (.lreturn, 1) := by decide +kernel
theorem dX7_live_71 : decode cX7_live 71 = .ok (.iconst 0, 1) := by decide +kernel
theorem dX7_live_72 : decode cX7_live 72 = .ok (.istore 6, 2) := by decide +kernel
theorem dX7_live_74 : decode cX7_live 74 = .ok (.iload 6, 2) := by decide +kernel
theorem dX7_live_76 : decode cX7_live 76 = .ok (.aload_n 0, 1) := by decide +kernel
theorem dX7_live_77 : decode cX7_live 77 = .ok (.getfield 12, 3) := by decide +kernel
theorem dX7_live_80 : decode cX7_live 80 = .ok (.getfield 68, 3) := by decide +kernel
theorem dX7_live_83 : decode cX7_live 83 = .ok (.if_icmp .ge 51, 3) := by decide +kernel
theorem dX7_live_86 : decode cX7_live 86 = .ok (.aload 5, 2) := by decide +kernel
theorem dX7_live_88 : decode cX7_live 88 = .ok (.getfield 179, 3) := by decide +kernel
theorem dX7_live_91 : decode cX7_live 91 = .ok (.iload 6, 2) := by decide +kernel
theorem dX7_live_93 : decode cX7_live 93 = .ok (.iaload, 1) := by decide +kernel
theorem dX7_live_94 : decode cX7_live 94 = .ok (.istore 7, 2) := by decide +kernel
theorem dX7_live_96 : decode cX7_live 96 = .ok (.aload_n 0, 1) := by decide +kernel
theorem dX7_live_97 : decode cX7_live 97 = .ok (.getfield 54, 3) := by decide +kernel
theorem dX7_live_100 : decode cX7_live 100 = .ok (.iload_n 1, 1) := by decide +kernel
theorem dX7_live_101 : decode cX7_live 101 = .ok (.iload_n 2, 1) := by decide +kernel
theorem dX7_live_102 : decode cX7_live 102 = .ok (.iload 6, 2) := by decide +kernel
theorem dX7_live_104 : decode cX7_live 104 = .ok (.iload 7, 2) := by decide +kernel
theorem dX7_live_106 : decode cX7_live 106 = .ok (.aload 5, 2) := by decide +kernel
theorem dX7_live_108 : decode cX7_live 108 = .ok (.iload 7, 2) := by decide +kernel
theorem dX7_live_110 : decode cX7_live 110 = .ok (.aload_n 0, 1) := by decide +kernel
theorem dX7_live_111 : decode cX7_live 111 = .ok (.getfield 18, 3) := by decide +kernel
theorem dX7_live_114 : decode cX7_live 114 = .ok (.iload_n 2, 1) := by decide +kernel
theorem dX7_live_115 : decode cX7_live 115 = .ok (.aaload, 1) := by decide +kernel
theorem dX7_live_116 : decode cX7_live 116 = .ok (.iload 6, 2) := by decide +kernel
theorem dX7_live_118 : decode cX7_live 118 = .ok (.invokevirtual 134, 3) := by decide +kernel
theorem dX7_live_121 : decode cX7_live 121 = .ok (.i2l, 1) := by decide +kernel
theorem dX7_live_122 : decode cX7_live 122 = .ok (.invokevirtual 258, 3) := by decide +kernel
theorem dX7_live_125 : decode cX7_live 125 = .ok (.invokevirtual 262, 3) := by decide +kernel
theorem dX7_live_128 : decode cX7_live 128 = .ok (.iinc 6 1, 3) := by decide +kernel
theorem dX7_live_131 : decode cX7_live 131 = .ok (.goto (-57), 3) := by decide +kernel
theorem dX7_live_134 : decode cX7_live 134 = .ok (.aload 5, 2) := by decide +kernel
theorem dX7_live_136 : decode cX7_live 136 = .ok (.aload 5, 2) := by decide +kernel
theorem dX7_live_138 : decode cX7_live 138 = .ok (.aload_n 0, 1) := by decide +kernel
theorem dX7_live_139 : decode cX7_live 139 = .ok (.getfield 12, 3) := by decide +kernel
theorem dX7_live_142 : decode cX7_live 142 = .ok (.getfield 68, 3) := by decide +kernel
theorem dX7_live_145 : decode cX7_live 145 = .ok (.iconst 1, 1) := by decide +kernel
theorem dX7_live_146 : decode cX7_live 146 = .ok (.isub, 1) := by decide +kernel
theorem dX7_live_147 : decode cX7_live 147 = .ok (.invokevirtual 182, 3) := by decide +kernel
theorem dX7_live_150 : decode cX7_live 150 = .ok (.putfield 164, 3) := by decide +kernel
theorem dX7_live_153 : decode cX7_live 153 = .ok (.aload_n 0, 1) := by decide +kernel
theorem dX7_live_154 : decode cX7_live 154 = .ok (.getfield 54, 3) := by decide +kernel
theorem dX7_live_157 : decode cX7_live 157 = .ok (.getfield 255, 3) := by decide +kernel
theorem dX7_live_160 : decode cX7_live 160 = .ok (.i2l, 1) := by decide +kernel
theorem dX7_live_161 : decode cX7_live 161 = .ok (.lreturn, 1) := by decide +kernel
theorem dX7_row_0 : decode cX7_row 0 = .ok (.iload_n 1, 1) := by decide +kernel
theorem dX7_row_1 : decode cX7_row 1 = .ok (.iconst 0, 1) := by decide +kernel
theorem dX7_row_2 : decode cX7_row 2 = .ok (.aload_n 0, 1) := by decide +kernel
theorem dX7_row_3 : decode cX7_row 3 = .ok (.getfield 54, 3) := by decide +kernel
theorem dX7_row_6 : decode cX7_row 6 = .ok (.getfield 255, 3) := by decide +kernel
theorem dX7_row_9 : decode cX7_row 9 = .ok (.iconst 1, 1) := by decide +kernel
theorem dX7_row_10 : decode cX7_row 10 = .ok (.isub, 1) := by decide +kernel
theorem dX7_row_11 : decode cX7_row 11 = .ok (.invokestatic 58, 3) := by decide +kernel
theorem dX7_row_14 : decode cX7_row 14 = .ok (.ifCond .eq 12, 3) := by decide +kernel
theorem dX7_row_17 : decode cX7_row 17 = .ok (.iload_n 2, 1) := by decide +kernel
theorem dX7_row_18 : decode cX7_row 18 = .ok (.iconst 0, 1) := by decide +kernel
theorem dX7_row_19 : decode cX7_row 19 = .ok (.iconst 4, 1) := by decide +kernel
theorem dX7_row_20 : decode cX7_row 20 = .ok (.invokestatic 58, 3) := by decide +kernel
theorem dX7_row_23 : decode cX7_row 23 = .ok (.ifCond .ne 7, 3) := by decide +kernel
theorem dX7_row_26 : decode cX7_row 26 = .ok (.ldc2_w 62, 3) := by decide +kernel
theorem dX7_row_29 : decode cX7_row 29 = .ok (.lreturn, 1) := by decide +kernel
theorem dX7_row_30 : decode cX7_row 30 = .ok (.aload_n 0, 1) := by decide +kernel
theorem dX7_row_31 : decode cX7_row 31 = .ok (.getfield 54, 3) := by decide +kernel
theorem dX7_row_34 : decode cX7_row 34 = .ok (.iload_n 1, 1) := by decide +kernel
theorem dX7_row_35 : decode cX7_row 35 = .ok (.iload_n 2, 1) := by decide +kernel
theorem dX7_row_36 : decode cX7_row 36 = .ok (.invokevirtual 265, 3) := by decide +kernel
theorem dX7_row_39 : decode cX7_row 39 = .ok (.lreturn, 1) := by decide +kernel
theorem dX7_forge_0 : decode cX7_forge 0 = .ok (.iload_n 1, 1) := by decide +kernel
theorem dX7_forge_1 : decode cX7_forge 1 = .ok (.iconst 0, 1) := by decide +kernel
theorem dX7_forge_2 : decode cX7_forge 2 = .ok (.aload_n 0, 1) := by decide +kernel
theorem dX7_forge_3 : decode cX7_forge 3 = .ok (.getfield 54, 3) := by decide +kernel
theorem dX7_forge_6 : decode cX7_forge 6 = .ok (.getfield 255, 3) := by decide +kernel
theorem dX7_forge_9 : decode cX7_forge 9 = .ok (.iconst 1, 1) := by decide +kernel
theorem dX7_forge_10 : decode cX7_forge 10 = .ok (.isub, 1) := by decide +kernel
theorem dX7_forge_11 : decode cX7_forge 11 = .ok (.invokestatic 58, 3) := by decide +kernel
theorem dX7_forge_14 : decode cX7_forge 14 = .ok (.ifCond .eq 12, 3) := by decide +kernel
theorem dX7_forge_17 : decode cX7_forge 17 = .ok (.iload_n 2, 1) := by decide +kernel
theorem dX7_forge_18 : decode cX7_forge 18 = .ok (.iconst 3, 1) := by decide +kernel
theorem dX7_forge_19 : decode cX7_forge 19 = .ok (.iconst 4, 1) := by decide +kernel
theorem dX7_forge_20 : decode cX7_forge 20 = .ok (.invokestatic 58, 3) := by decide +kernel
theorem dX7_forge_23 : decode cX7_forge 23 = .ok (.ifCond .ne 7, 3) := by decide +kernel
theorem dX7_forge_26 : decode cX7_forge 26 = .ok (.ldc2_w 62, 3) := by decide +kernel
theorem dX7_forge_29 : decode cX7_forge 29 = .ok (.lreturn, 1) := by decide +kernel
theorem dX7_forge_30 : decode cX7_forge 30 = .ok (.iload_n 2, 1) := by decide +kernel
theorem dX7_forge_31 : decode cX7_forge 31 = .ok (.iconst 3, 1) := by decide +kernel
theorem dX7_forge_32 : decode cX7_forge 32 = .ok (.if_icmp .ne 18, 3) := by decide +kernel
theorem dX7_forge_35 : decode cX7_forge 35 = .ok (.iload_n 3, 1) := by decide +kernel
theorem dX7_forge_36 : decode cX7_forge 36 = .ok (.bipush (-100), 2) := by decide +kernel
theorem dX7_forge_38 : decode cX7_forge 38 = .ok (.bipush 100, 2) := by decide +kernel
theorem dX7_forge_40 : decode cX7_forge 40 = .ok (.invokestatic 58, 3) := by decide +kernel
theorem dX7_forge_43 : decode cX7_forge 43 = .ok (.ifCond .ne 7, 3) := by decide +kernel
theorem dX7_forge_46 : decode cX7_forge 46 = .ok (.ldc2_w 62, 3) := by decide +kernel
theorem dX7_forge_49 : decode cX7_forge 49 = .ok (.lreturn, 1) := by decide +kernel
theorem dX7_forge_50 : decode cX7_forge 50 = .ok (.aload_n 0, 1) := by decide +kernel
theorem dX7_forge_51 : decode cX7_forge 51 = .ok (.getfield 54, 3) := by decide +kernel
theorem dX7_forge_54 : decode cX7_forge 54 = .ok (.iload_n 1, 1) := by decide +kernel
theorem dX7_forge_55 : decode cX7_forge 55 = .ok (.iload_n 2, 1) := by decide +kernel
theorem dX7_forge_56 : decode cX7_forge 56 = .ok (.invokevirtual 265, 3) := by decide +kernel
theorem dX7_forge_59 : decode cX7_forge 59 = .ok (.lstore 4, 2) := by decide +kernel
theorem dX7_forge_61 : decode cX7_forge 61 = .ok (.iload_n 2, 1) := by decide +kernel
theorem dX7_forge_62 : decode cX7_forge 62 = .ok (.iconst 3, 1) := by decide +kernel
theorem dX7_forge_63 : decode cX7_forge 63 = .ok (.if_icmp .ne 16, 3) := by decide +kernel
theorem dX7_forge_66 : decode cX7_forge 66 = .ok (.aload_n 0, 1) := by decide +kernel
theorem dX7_forge_67 : decode cX7_forge 67 = .ok (.getfield 54, 3) := by decide +kernel
theorem dX7_forge_70 : decode cX7_forge 70 = .ok (.getfield 267, 3) := by decide +kernel
theorem dX7_forge_73 : decode cX7_forge 73 = .ok (.iload_n 1, 1) := by decide +kernel
theorem dX7_forge_74 : decode cX7_forge 74 = .ok (.iload_n 3, 1) := by decide +kernel
theorem dX7_forge_75 : decode cX7_forge 75 = .ok (.iastore, 1) := by decide +kernel
theorem dX7_forge_76 : decode cX7_forge 76 = .ok (.goto 14, 3) := by decide +kernel
theorem dX7_forge_79 : decode cX7_forge 79 = .ok (.aload_n 0, 1) := by decide +kernel
theorem dX7_forge_80 : decode cX7_forge 80 = .ok (.getfield 54, 3) := by decide +kernel
theorem dX7_forge_83 : decode cX7_forge 83 = .ok (.getfield 270, 3) := by decide +kernel
theorem dX7_forge_86 : decode cX7_forge 86 = .ok (.iload_n 1, 1) := by decide +kernel
theorem dX7_forge_87 : decode cX7_forge 87 = .ok (.iload_n 3, 1) := by decide +kernel
theorem dX7_forge_88 : decode cX7_forge 88 = .ok (.i2l, 1) := by decide +kernel
theorem dX7_forge_89 : decode cX7_forge 89 = .ok (.lastore, 1) := by decide +kernel
theorem dX7_forge_90 : decode cX7_forge 90 = .ok (.lload 4, 2) := by decide +kernel
theorem dX7_forge_92 : decode cX7_forge 92 = .ok (.lreturn, 1) := by decide +kernel
theorem dX7_check_0 : decode cX7_check 0 = .ok (.ldc2_w 196, 3) := by decide +kernel
theorem dX7_check_3 : decode cX7_check 3 = .ok (.lstore_n 1, 1) := by decide +kernel
theorem dX7_check_4 : decode cX7_check 4 = .ok (.iconst 0, 1) := by decide +kernel
theorem dX7_check_5 : decode cX7_check 5 = .ok (.istore_n 3, 1) := by decide +kernel
theorem dX7_check_6 : decode cX7_check 6 = .ok (.iload_n 3, 1) := by decide +kernel
theorem dX7_check_7 : decode cX7_check 7 = .ok (.iconst 4, 1) := by decide +kernel
theorem dX7_check_8 : decode cX7_check 8 = .ok (.if_icmp .ge 74, 3) := by decide +kernel
theorem dX7_check_11 : decode cX7_check 11 = .ok (.aload_n 0, 1) := by decide +kernel
theorem dX7_check_12 : decode cX7_check 12 = .ok (.getfield 25, 3) := by decide +kernel
theorem dX7_check_15 : decode cX7_check 15 = .ok (.iload_n 3, 1) := by decide +kernel
theorem dX7_check_16 : decode cX7_check 16 = .ok (.aaload, 1) := by decide +kernel
theorem dX7_check_17 : decode cX7_check 17 = .ok (.getfield 274, 3) := by decide +kernel
theorem dX7_check_20 : decode cX7_check 20 = .ok (.ifCond .eq 24, 3) := by decide +kernel
theorem dX7_check_23 : decode cX7_check 23 = .ok (.aload_n 0, 1) := by decide +kernel
theorem dX7_check_24 : decode cX7_check 24 = .ok (.getfield 54, 3) := by decide +kernel
theorem dX7_check_27 : decode cX7_check 27 = .ok (.iload_n 3, 1) := by decide +kernel
theorem dX7_check_28 : decode cX7_check 28 = .ok (.aload_n 0, 1) := by decide +kernel
theorem dX7_check_29 : decode cX7_check 29 = .ok (.getfield 25, 3) := by decide +kernel
theorem dX7_check_32 : decode cX7_check 32 = .ok (.iload_n 3, 1) := by decide +kernel
theorem dX7_check_33 : decode cX7_check 33 = .ok (.aaload, 1) := by decide +kernel
theorem dX7_check_34 : decode cX7_check 34 = .ok (.aload_n 0, 1) := by decide +kernel
theorem dX7_check_35 : decode cX7_check 35 = .ok (.getfield 18, 3) := by decide +kernel
theorem dX7_check_38 : decode cX7_check 38 = .ok (.invokevirtual 275, 3) := by decide +kernel
theorem dX7_check_41 : decode cX7_check 41 = .ok (.goto 6, 3) := by decide +kernel
theorem dX7_check_44 : decode cX7_check 44 = .ok (.ldc2_w 196, 3) := by decide +kernel
theorem dX7_check_47 : decode cX7_check 47 = .ok (.lstore 4, 2) := by decide +kernel
theorem dX7_check_49 : decode cX7_check 49 = .ok (.lload 4, 2) := by decide +kernel
theorem dX7_check_51 : decode cX7_check 51 = .ok (.ldc2_w 196, 3) := by decide +kernel
theorem dX7_check_54 : decode cX7_check 54 = .ok (.lcmp, 1) := by decide +kernel
theorem dX7_check_55 : decode cX7_check 55 = .ok (.ifCond .eq 21, 3) := by decide +kernel
theorem dX7_check_58 : decode cX7_check 58 = .ok (.lload_n 1, 1) := by decide +kernel
theorem dX7_check_59 : decode cX7_check 59 = .ok (.ldc2_w 196, 3) := by decide +kernel
theorem dX7_check_62 : decode cX7_check 62 = .ok (.lcmp, 1) := by decide +kernel
theorem dX7_check_63 : decode cX7_check 63 = .ok (.ifCond .eq 10, 3) := by decide +kernel
theorem dX7_check_66 : decode cX7_check 66 = .ok (.lload 4, 2) := by decide +kernel
theorem dX7_check_68 : decode cX7_check 68 = .ok (.lload_n 1, 1) := by decide +kernel
theorem dX7_check_69 : decode cX7_check 69 = .ok (.lcmp, 1) := by decide +kernel
theorem dX7_check_70 : decode cX7_check 70 = .ok (.ifCond .ge 6, 3) := by decide +kernel
theorem dX7_check_73 : decode cX7_check 73 = .ok (.lload 4, 2) := by decide +kernel
theorem dX7_check_75 : decode cX7_check 75 = .ok (.lstore_n 1, 1) := by decide +kernel
theorem dX7_check_76 : decode cX7_check 76 = .ok (.iinc 3 1, 3) := by decide +kernel
theorem dX7_check_79 : decode cX7_check 79 = .ok (.goto (-73), 3) := by decide +kernel
theorem dX7_check_82 : decode cX7_check 82 = .ok (.lload_n 1, 1) := by decide +kernel
theorem dX7_check_83 : decode cX7_check 83 = .ok (.lreturn, 1) := by decide +kernel
theorem dX7_shut_0 : decode cX7_shut 0 = .ok (.aload_n 0, 1) := by decide +kernel
theorem dX7_shut_1 : decode cX7_shut 1 = .ok (.getfield 54, 3) := by decide +kernel
theorem dX7_shut_4 : decode cX7_shut 4 = .ok (.getfield 255, 3) := by decide +kernel
theorem dX7_shut_7 : decode cX7_shut 7 = .ok (.istore_n 1, 1) := by decide +kernel
theorem dX7_shut_8 : decode cX7_shut 8 = .ok (.aload_n 0, 1) := by decide +kernel
theorem dX7_shut_9 : decode cX7_shut 9 = .ok (.getfield 54, 3) := by decide +kernel
theorem dX7_shut_12 : decode cX7_shut 12 = .ok (.iconst 0, 1) := by decide +kernel
theorem dX7_shut_13 : decode cX7_shut 13 = .ok (.putfield 255, 3) := by decide +kernel
theorem dX7_shut_16 : decode cX7_shut 16 = .ok (.iload_n 1, 1) := by decide +kernel
theorem dX7_shut_17 : decode cX7_shut 17 = .ok (.i2l, 1) := by decide +kernel
theorem dX7_shut_18 : decode cX7_shut 18 = .ok (.lreturn, 1) := by decide +kernel
theorem dX7_warrant_0 : decode cX7_warrant 0 = .ok (.aload_n 0, 1) := by decide +kernel
theorem dX7_warrant_1 : decode cX7_warrant 1 = .ok (.iload_n 1, 1) := by decide +kernel
theorem dX7_warrant_2 : decode cX7_warrant 2 = .ok (.iload_n 2, 1) := by decide +kernel
theorem dX7_warrant_3 : decode cX7_warrant 3 = .ok (.iconst 0, 1) := by decide +kernel
theorem dX7_warrant_4 : decode cX7_warrant 4 = .ok (.ldc_w 279, 3) := by decide +kernel
theorem dX7_warrant_7 : decode cX7_warrant 7 = .ok (.invokestatic 58, 3) := by decide +kernel
theorem dX7_warrant_10 : decode cX7_warrant 10 = .ok (.invokevirtual 154, 3) := by decide +kernel
theorem dX7_warrant_13 : decode cX7_warrant 13 = .ok (.lstore_n 3, 1) := by decide +kernel
theorem dX7_warrant_14 : decode cX7_warrant 14 = .ok (.lload_n 3, 1) := by decide +kernel
theorem dX7_warrant_15 : decode cX7_warrant 15 = .ok (.lconst 0, 1) := by decide +kernel
theorem dX7_warrant_16 : decode cX7_warrant 16 = .ok (.lcmp, 1) := by decide +kernel
theorem dX7_warrant_17 : decode cX7_warrant 17 = .ok (.ifCond .eq 5, 3) := by decide +kernel
theorem dX7_warrant_20 : decode cX7_warrant 20 = .ok (.lload_n 3, 1) := by decide +kernel
theorem dX7_warrant_21 : decode cX7_warrant 21 = .ok (.lreturn, 1) := by decide +kernel
theorem dX7_warrant_22 : decode cX7_warrant 22 = .ok (.aload_n 0, 1) := by decide +kernel
theorem dX7_warrant_23 : decode cX7_warrant 23 = .ok (.getfield 25, 3) := by decide +kernel
theorem dX7_warrant_26 : decode cX7_warrant 26 = .ok (.iload_n 1, 1) := by decide +kernel
theorem dX7_warrant_27 : decode cX7_warrant 27 = .ok (.aaload, 1) := by decide +kernel
theorem dX7_warrant_28 : decode cX7_warrant 28 = .ok (.getfield 280, 3) := by decide +kernel
theorem dX7_warrant_31 : decode cX7_warrant 31 = .ok (.istore 5, 2) := by decide +kernel
theorem dX7_warrant_33 : decode cX7_warrant 33 = .ok (.aload_n 0, 1) := by decide +kernel
theorem dX7_warrant_34 : decode cX7_warrant 34 = .ok (.getfield 25, 3) := by decide +kernel
theorem dX7_warrant_37 : decode cX7_warrant 37 = .ok (.iload_n 1, 1) := by decide +kernel
theorem dX7_warrant_38 : decode cX7_warrant 38 = .ok (.aaload, 1) := by decide +kernel
theorem dX7_warrant_39 : decode cX7_warrant 39 = .ok (.iload_n 2, 1) := by decide +kernel
theorem dX7_warrant_40 : decode cX7_warrant 40 = .ok (.putfield 280, 3) := by decide +kernel
theorem dX7_warrant_43 : decode cX7_warrant 43 = .ok (.iload 5, 2) := by decide +kernel
theorem dX7_warrant_45 : decode cX7_warrant 45 = .ok (.i2l, 1) := by decide +kernel
theorem dX7_warrant_46 : decode cX7_warrant 46 = .ok (.lreturn, 1) := by decide +kernel
theorem dX7_voided_0 : decode cX7_voided 0 = .ok (.aload_n 0, 1) := by decide +kernel
theorem dX7_voided_1 : decode cX7_voided 1 = .ok (.iload_n 1, 1) := by decide +kernel
theorem dX7_voided_2 : decode cX7_voided 2 = .ok (.iconst 1, 1) := by decide +kernel
theorem dX7_voided_3 : decode cX7_voided 3 = .ok (.invokevirtual 154, 3) := by decide +kernel
theorem dX7_voided_6 : decode cX7_voided 6 = .ok (.lstore_n 2, 1) := by decide +kernel
theorem dX7_voided_7 : decode cX7_voided 7 = .ok (.lload_n 2, 1) := by decide +kernel
theorem dX7_voided_8 : decode cX7_voided 8 = .ok (.lconst 0, 1) := by decide +kernel
theorem dX7_voided_9 : decode cX7_voided 9 = .ok (.lcmp, 1) := by decide +kernel
theorem dX7_voided_10 : decode cX7_voided 10 = .ok (.ifCond .eq 5, 3) := by decide +kernel
theorem dX7_voided_13 : decode cX7_voided 13 = .ok (.lload_n 2, 1) := by decide +kernel
theorem dX7_voided_14 : decode cX7_voided 14 = .ok (.lreturn, 1) := by decide +kernel
theorem dX7_voided_15 : decode cX7_voided 15 = .ok (.aload_n 0, 1) := by decide +kernel
theorem dX7_voided_16 : decode cX7_voided 16 = .ok (.getfield 54, 3) := by decide +kernel
theorem dX7_voided_19 : decode cX7_voided 19 = .ok (.iload_n 1, 1) := by decide +kernel
theorem dX7_voided_20 : decode cX7_voided 20 = .ok (.aload_n 0, 1) := by decide +kernel
theorem dX7_voided_21 : decode cX7_voided 21 = .ok (.getfield 25, 3) := by decide +kernel
theorem dX7_voided_24 : decode cX7_voided 24 = .ok (.iload_n 1, 1) := by decide +kernel
theorem dX7_voided_25 : decode cX7_voided 25 = .ok (.aaload, 1) := by decide +kernel
theorem dX7_voided_26 : decode cX7_voided 26 = .ok (.getfield 280, 3) := by decide +kernel
theorem dX7_voided_29 : decode cX7_voided 29 = .ok (.invokevirtual 283, 3) := by decide +kernel
theorem dX7_voided_32 : decode cX7_voided 32 = .ok (.lreturn, 1) := by decide +kernel
theorem dX7_count_0 : decode cX7_count 0 = .ok (.iload_n 1, 1) := by decide +kernel
theorem dX7_count_1 : decode cX7_count 1 = .ok (.iconst 0, 1) := by decide +kernel
theorem dX7_count_2 : decode cX7_count 2 = .ok (.bipush 7, 2) := by decide +kernel
theorem dX7_count_4 : decode cX7_count 4 = .ok (.invokestatic 58, 3) := by decide +kernel
theorem dX7_count_7 : decode cX7_count 7 = .ok (.ifCond .ne 7, 3) := by decide +kernel
theorem dX7_count_10 : decode cX7_count 10 = .ok (.ldc2_w 62, 3) := by decide +kernel
theorem dX7_count_13 : decode cX7_count 13 = .ok (.lreturn, 1) := by decide +kernel
theorem dX7_count_14 : decode cX7_count 14 = .ok (.iload_n 1, 1) := by decide +kernel
theorem dX7_count_15 : decode cX7_count 15 = .ok (.tableswitch 98 0 6 #[41, 47, 56, 65, 74, 80, 89], 41) := by decide +kernel
theorem dX7_count_56 : decode cX7_count 56 = .ok (.aload_n 0, 1) := by decide +kernel
theorem dX7_count_57 : decode cX7_count 57 = .ok (.invokevirtual 286, 3) := by decide +kernel
theorem dX7_count_60 : decode cX7_count 60 = .ok (.i2l, 1) := by decide +kernel
theorem dX7_count_61 : decode cX7_count 61 = .ok (.lreturn, 1) := by decide +kernel
theorem dX7_count_62 : decode cX7_count 62 = .ok (.aload_n 0, 1) := by decide +kernel
theorem dX7_count_63 : decode cX7_count 63 = .ok (.getfield 12, 3) := by decide +kernel
theorem dX7_count_66 : decode cX7_count 66 = .ok (.getfield 68, 3) := by decide +kernel
theorem dX7_count_69 : decode cX7_count 69 = .ok (.i2l, 1) := by decide +kernel
theorem dX7_count_70 : decode cX7_count 70 = .ok (.lreturn, 1) := by decide +kernel
theorem dX7_count_71 : decode cX7_count 71 = .ok (.aload_n 0, 1) := by decide +kernel
theorem dX7_count_72 : decode cX7_count 72 = .ok (.getfield 40, 3) := by decide +kernel
theorem dX7_count_75 : decode cX7_count 75 = .ok (.getfield 64, 3) := by decide +kernel
theorem dX7_count_78 : decode cX7_count 78 = .ok (.i2l, 1) := by decide +kernel
theorem dX7_count_79 : decode cX7_count 79 = .ok (.lreturn, 1) := by decide +kernel
theorem dX7_count_80 : decode cX7_count 80 = .ok (.aload_n 0, 1) := by decide +kernel
theorem dX7_count_81 : decode cX7_count 81 = .ok (.getfield 54, 3) := by decide +kernel
theorem dX7_count_84 : decode cX7_count 84 = .ok (.getfield 255, 3) := by decide +kernel
theorem dX7_count_87 : decode cX7_count 87 = .ok (.i2l, 1) := by decide +kernel
theorem dX7_count_88 : decode cX7_count 88 = .ok (.lreturn, 1) := by decide +kernel
theorem dX7_count_89 : decode cX7_count 89 = .ok (.aload_n 0, 1) := by decide +kernel
theorem dX7_count_90 : decode cX7_count 90 = .ok (.invokevirtual 290, 3) := by decide +kernel
theorem dX7_count_93 : decode cX7_count 93 = .ok (.i2l, 1) := by decide +kernel
theorem dX7_count_94 : decode cX7_count 94 = .ok (.lreturn, 1) := by decide +kernel
theorem dX7_count_95 : decode cX7_count 95 = .ok (.aload_n 0, 1) := by decide +kernel
theorem dX7_count_96 : decode cX7_count 96 = .ok (.getfield 47, 3) := by decide +kernel
theorem dX7_count_99 : decode cX7_count 99 = .ok (.invokevirtual 293, 3) := by decide +kernel
theorem dX7_count_102 : decode cX7_count 102 = .ok (.i2l, 1) := by decide +kernel
theorem dX7_count_103 : decode cX7_count 103 = .ok (.lreturn, 1) := by decide +kernel
theorem dX7_count_104 : decode cX7_count 104 = .ok (.aload_n 0, 1) := by decide +kernel
theorem dX7_count_105 : decode cX7_count 105 = .ok (.getfield 12, 3) := by decide +kernel
theorem dX7_count_108 : decode cX7_count 108 = .ok (.invokevirtual 296, 3) := by decide +kernel
theorem dX7_count_111 : decode cX7_count 111 = .ok (.i2l, 1) := by decide +kernel
theorem dX7_count_112 : decode cX7_count 112 = .ok (.lreturn, 1) := by decide +kernel
theorem dX7_count_113 : decode cX7_count 113 = .ok (.aload_n 0, 1) := by decide +kernel
theorem dX7_count_114 : decode cX7_count 114 = .ok (.getfield 54, 3) := by decide +kernel
theorem dX7_count_117 : decode cX7_count 117 = .ok (.invokevirtual 299, 3) := by decide +kernel
theorem dX7_count_120 : decode cX7_count 120 = .ok (.lreturn, 1) := by decide +kernel
theorem dX7_refusal_0 : decode cX7_refusal 0 = .ok (.iload_n 1, 1) := by decide +kernel
theorem dX7_refusal_1 : decode cX7_refusal 1 = .ok (.invokestatic 138, 3) := by decide +kernel
theorem dX7_refusal_4 : decode cX7_refusal 4 = .ok (.ifCond .eq 7, 3) := by decide +kernel
theorem dX7_refusal_7 : decode cX7_refusal 7 = .ok (.iload_n 2, 1) := by decide +kernel
theorem dX7_refusal_8 : decode cX7_refusal 8 = .ok (.ifCond .ne 7, 3) := by decide +kernel
theorem dX7_refusal_11 : decode cX7_refusal 11 = .ok (.ldc2_w 62, 3) := by decide +kernel
theorem dX7_refusal_14 : decode cX7_refusal 14 = .ok (.lreturn, 1) := by decide +kernel
theorem dX7_refusal_15 : decode cX7_refusal 15 = .ok (.aload_n 0, 1) := by decide +kernel
theorem dX7_refusal_16 : decode cX7_refusal 16 = .ok (.getfield 25, 3) := by decide +kernel
theorem dX7_refusal_19 : decode cX7_refusal 19 = .ok (.iload_n 1, 1) := by decide +kernel
theorem dX7_refusal_20 : decode cX7_refusal 20 = .ok (.aaload, 1) := by decide +kernel
theorem dX7_refusal_21 : decode cX7_refusal 21 = .ok (.getfield 274, 3) := by decide +kernel
theorem dX7_refusal_24 : decode cX7_refusal 24 = .ok (.ifCond .eq 7, 3) := by decide +kernel
theorem dX7_refusal_27 : decode cX7_refusal 27 = .ok (.lconst 0, 1) := by decide +kernel
theorem dX7_refusal_28 : decode cX7_refusal 28 = .ok (.goto 6, 3) := by decide +kernel
theorem dX7_refusal_31 : decode cX7_refusal 31 = .ok (.ldc2_w 122, 3) := by decide +kernel
theorem dX7_refusal_34 : decode cX7_refusal 34 = .ok (.lreturn, 1) := by decide +kernel
theorem dX7_isStepNow_0 : decode cX7_isStepNow 0 = .ok (.iload_n 1, 1) := by decide +kernel
theorem dX7_isStepNow_1 : decode cX7_isStepNow 1 = .ok (.iconst 0, 1) := by decide +kernel
theorem dX7_isStepNow_2 : decode cX7_isStepNow 2 = .ok (.aload_n 0, 1) := by decide +kernel
theorem dX7_isStepNow_3 : decode cX7_isStepNow 3 = .ok (.getfield 12, 3) := by decide +kernel
theorem dX7_isStepNow_6 : decode cX7_isStepNow 6 = .ok (.getfield 68, 3) := by decide +kernel
theorem dX7_isStepNow_9 : decode cX7_isStepNow 9 = .ok (.iconst 1, 1) := by decide +kernel
theorem dX7_isStepNow_10 : decode cX7_isStepNow 10 = .ok (.isub, 1) := by decide +kernel
theorem dX7_isStepNow_11 : decode cX7_isStepNow 11 = .ok (.invokestatic 58, 3) := by decide +kernel
theorem dX7_isStepNow_14 : decode cX7_isStepNow 14 = .ok (.ireturn, 1) := by decide +kernel
theorem dX7_storesThere_0 : decode cX7_storesThere 0 = .ok (.iconst 0, 1) := by decide +kernel
theorem dX7_storesThere_1 : decode cX7_storesThere 1 = .ok (.istore_n 1, 1) := by decide +kernel
theorem dX7_storesThere_2 : decode cX7_storesThere 2 = .ok (.iconst 0, 1) := by decide +kernel
theorem dX7_storesThere_3 : decode cX7_storesThere 3 = .ok (.istore_n 2, 1) := by decide +kernel
theorem dX7_storesThere_4 : decode cX7_storesThere 4 = .ok (.iload_n 2, 1) := by decide +kernel
theorem dX7_storesThere_5 : decode cX7_storesThere 5 = .ok (.iconst 4, 1) := by decide +kernel
theorem dX7_storesThere_6 : decode cX7_storesThere 6 = .ok (.if_icmp .ge 29, 3) := by decide +kernel
theorem dX7_storesThere_9 : decode cX7_storesThere 9 = .ok (.iload_n 1, 1) := by decide +kernel
theorem dX7_storesThere_10 : decode cX7_storesThere 10 = .ok (.aload_n 0, 1) := by decide +kernel
theorem dX7_storesThere_11 : decode cX7_storesThere 11 = .ok (.getfield 25, 3) := by decide +kernel
theorem dX7_storesThere_14 : decode cX7_storesThere 14 = .ok (.iload_n 2, 1) := by decide +kernel
theorem dX7_storesThere_15 : decode cX7_storesThere 15 = .ok (.aaload, 1) := by decide +kernel
theorem dX7_storesThere_16 : decode cX7_storesThere 16 = .ok (.getfield 274, 3) := by decide +kernel
theorem dX7_storesThere_19 : decode cX7_storesThere 19 = .ok (.ifCond .eq 7, 3) := by decide +kernel
theorem dX7_storesThere_22 : decode cX7_storesThere 22 = .ok (.iconst 1, 1) := by decide +kernel
theorem dX7_storesThere_23 : decode cX7_storesThere 23 = .ok (.goto 4, 3) := by decide +kernel
theorem dX7_storesThere_26 : decode cX7_storesThere 26 = .ok (.iconst 0, 1) := by decide +kernel
theorem dX7_storesThere_27 : decode cX7_storesThere 27 = .ok (.iadd, 1) := by decide +kernel
theorem dX7_storesThere_28 : decode cX7_storesThere 28 = .ok (.istore_n 1, 1) := by decide +kernel
theorem dX7_storesThere_29 : decode cX7_storesThere 29 = .ok (.iinc 2 1, 3) := by decide +kernel
theorem dX7_storesThere_32 : decode cX7_storesThere 32 = .ok (.goto (-28), 3) := by decide +kernel
theorem dX7_storesThere_35 : decode cX7_storesThere 35 = .ok (.iload_n 1, 1) := by decide +kernel
theorem dX7_storesThere_36 : decode cX7_storesThere 36 = .ok (.ireturn, 1) := by decide +kernel
theorem dX7_worldsThere_0 : decode cX7_worldsThere 0 = .ok (.iconst 0, 1) := by decide +kernel
theorem dX7_worldsThere_1 : decode cX7_worldsThere 1 = .ok (.istore_n 1, 1) := by decide +kernel
theorem dX7_worldsThere_2 : decode cX7_worldsThere 2 = .ok (.iconst 0, 1) := by decide +kernel
theorem dX7_worldsThere_3 : decode cX7_worldsThere 3 = .ok (.istore_n 2, 1) := by decide +kernel
theorem dX7_worldsThere_4 : decode cX7_worldsThere 4 = .ok (.iload_n 2, 1) := by decide +kernel
theorem dX7_worldsThere_5 : decode cX7_worldsThere 5 = .ok (.iconst 4, 1) := by decide +kernel
theorem dX7_worldsThere_6 : decode cX7_worldsThere 6 = .ok (.if_icmp .ge 29, 3) := by decide +kernel
theorem dX7_worldsThere_9 : decode cX7_worldsThere 9 = .ok (.iload_n 1, 1) := by decide +kernel
theorem dX7_worldsThere_10 : decode cX7_worldsThere 10 = .ok (.aload_n 0, 1) := by decide +kernel
theorem dX7_worldsThere_11 : decode cX7_worldsThere 11 = .ok (.getfield 18, 3) := by decide +kernel
theorem dX7_worldsThere_14 : decode cX7_worldsThere 14 = .ok (.iload_n 2, 1) := by decide +kernel
theorem dX7_worldsThere_15 : decode cX7_worldsThere 15 = .ok (.aaload, 1) := by decide +kernel
theorem dX7_worldsThere_16 : decode cX7_worldsThere 16 = .ok (.getfield 102, 3) := by decide +kernel
theorem dX7_worldsThere_19 : decode cX7_worldsThere 19 = .ok (.ifCond .eq 7, 3) := by decide +kernel
theorem dX7_worldsThere_22 : decode cX7_worldsThere 22 = .ok (.iconst 1, 1) := by decide +kernel
theorem dX7_worldsThere_23 : decode cX7_worldsThere 23 = .ok (.goto 4, 3) := by decide +kernel
theorem dX7_worldsThere_26 : decode cX7_worldsThere 26 = .ok (.iconst 0, 1) := by decide +kernel
theorem dX7_worldsThere_27 : decode cX7_worldsThere 27 = .ok (.iadd, 1) := by decide +kernel
theorem dX7_worldsThere_28 : decode cX7_worldsThere 28 = .ok (.istore_n 1, 1) := by decide +kernel
theorem dX7_worldsThere_29 : decode cX7_worldsThere 29 = .ok (.iinc 2 1, 3) := by decide +kernel
theorem dX7_worldsThere_32 : decode cX7_worldsThere 32 = .ok (.goto (-28), 3) := by decide +kernel
theorem dX7_worldsThere_35 : decode cX7_worldsThere 35 = .ok (.iload_n 1, 1) := by decide +kernel
theorem dX7_worldsThere_36 : decode cX7_worldsThere 36 = .ok (.ireturn, 1) := by decide +kernel
theorem dX7_within_0 : decode cX7_within 0 = .ok (.iload_n 0, 1) := by decide +kernel
theorem dX7_within_1 : decode cX7_within 1 = .ok (.iload_n 1, 1) := by decide +kernel
theorem dX7_within_2 : decode cX7_within 2 = .ok (.if_icmp .lt 12, 3) := by decide +kernel
theorem dX7_within_5 : decode cX7_within 5 = .ok (.iload_n 0, 1) := by decide +kernel
theorem dX7_within_6 : decode cX7_within 6 = .ok (.iload_n 2, 1) := by decide +kernel
theorem dX7_within_7 : decode cX7_within 7 = .ok (.if_icmp .gt 7, 3) := by decide +kernel
theorem dX7_within_10 : decode cX7_within 10 = .ok (.iconst 1, 1) := by decide +kernel
theorem dX7_within_11 : decode cX7_within 11 = .ok (.goto 4, 3) := by decide +kernel
theorem dX7_within_14 : decode cX7_within 14 = .ok (.iconst 0, 1) := by decide +kernel
theorem dX7_within_15 : decode cX7_within 15 = .ok (.ireturn, 1) := by decide +kernel
theorem dX7_isAnyStep_0 : decode cX7_isAnyStep 0 = .ok (.iload_n 0, 1) := by decide +kernel
theorem dX7_isAnyStep_1 : decode cX7_isAnyStep 1 = .ok (.iconst 0, 1) := by decide +kernel
theorem dX7_isAnyStep_2 : decode cX7_isAnyStep 2 = .ok (.bipush 35, 2) := by decide +kernel
theorem dX7_isAnyStep_4 : decode cX7_isAnyStep 4 = .ok (.invokestatic 58, 3) := by decide +kernel
theorem dX7_isAnyStep_7 : decode cX7_isAnyStep 7 = .ok (.ireturn, 1) := by decide +kernel
theorem dX7_isWorld_0 : decode cX7_isWorld 0 = .ok (.iload_n 0, 1) := by decide +kernel
theorem dX7_isWorld_1 : decode cX7_isWorld 1 = .ok (.iconst 0, 1) := by decide +kernel
theorem dX7_isWorld_2 : decode cX7_isWorld 2 = .ok (.iconst 3, 1) := by decide +kernel
theorem dX7_isWorld_3 : decode cX7_isWorld 3 = .ok (.invokestatic 58, 3) := by decide +kernel
theorem dX7_isWorld_6 : decode cX7_isWorld 6 = .ok (.ireturn, 1) := by decide +kernel
theorem dX7_areWorlds_0 : decode cX7_areWorlds 0 = .ok (.iload_n 0, 1) := by decide +kernel
theorem dX7_areWorlds_1 : decode cX7_areWorlds 1 = .ok (.iconst 1, 1) := by decide +kernel
theorem dX7_areWorlds_2 : decode cX7_areWorlds 2 = .ok (.bipush 15, 2) := by decide +kernel
theorem dX7_areWorlds_4 : decode cX7_areWorlds 4 = .ok (.invokestatic 58, 3) := by decide +kernel
theorem dX7_areWorlds_7 : decode cX7_areWorlds 7 = .ok (.ireturn, 1) := by decide +kernel
theorem dX7_hasWorld_0 : decode cX7_hasWorld 0 = .ok (.iload_n 0, 1) := by decide +kernel
theorem dX7_hasWorld_1 : decode cX7_hasWorld 1 = .ok (.iload_n 1, 1) := by decide +kernel
theorem dX7_hasWorld_2 : decode cX7_hasWorld 2 = .ok (.ishr, 1) := by decide +kernel
theorem dX7_hasWorld_3 : decode cX7_hasWorld 3 = .ok (.iconst 1, 1) := by decide +kernel
theorem dX7_hasWorld_4 : decode cX7_hasWorld 4 = .ok (.iand, 1) := by decide +kernel
theorem dX7_hasWorld_5 : decode cX7_hasWorld 5 = .ok (.iconst 1, 1) := by decide +kernel
theorem dX7_hasWorld_6 : decode cX7_hasWorld 6 = .ok (.if_icmp .ne 7, 3) := by decide +kernel
theorem dX7_hasWorld_9 : decode cX7_hasWorld 9 = .ok (.iconst 1, 1) := by decide +kernel
theorem dX7_hasWorld_10 : decode cX7_hasWorld 10 = .ok (.goto 4, 3) := by decide +kernel
theorem dX7_hasWorld_13 : decode cX7_hasWorld 13 = .ok (.iconst 0, 1) := by decide +kernel
theorem dX7_hasWorld_14 : decode cX7_hasWorld 14 = .ok (.ireturn, 1) := by decide +kernel
theorem dX7_isBattery_0 : decode cX7_isBattery 0 = .ok (.iload_n 0, 1) := by decide +kernel
theorem dX7_isBattery_1 : decode cX7_isBattery 1 = .ok (.iconst 0, 1) := by decide +kernel
theorem dX7_isBattery_2 : decode cX7_isBattery 2 = .ok (.iconst 3, 1) := by decide +kernel
theorem dX7_isBattery_3 : decode cX7_isBattery 3 = .ok (.invokestatic 58, 3) := by decide +kernel
theorem dX7_isBattery_6 : decode cX7_isBattery 6 = .ok (.ireturn, 1) := by decide +kernel
theorem dX7_isKind_0 : decode cX7_isKind 0 = .ok (.iload_n 0, 1) := by decide +kernel
theorem dX7_isKind_1 : decode cX7_isKind 1 = .ok (.iconst 0, 1) := by decide +kernel
theorem dX7_isKind_2 : decode cX7_isKind 2 = .ok (.iconst 4, 1) := by decide +kernel
theorem dX7_isKind_3 : decode cX7_isKind 3 = .ok (.invokestatic 58, 3) := by decide +kernel
theorem dX7_isKind_6 : decode cX7_isKind 6 = .ok (.ireturn, 1) := by decide +kernel
theorem dX7_areRates_0 : decode cX7_areRates 0 = .ok (.iload_n 0, 1) := by decide +kernel
theorem dX7_areRates_1 : decode cX7_areRates 1 = .ok (.bipush 21, 2) := by decide +kernel
theorem dX7_areRates_3 : decode cX7_areRates 3 = .ok (.idiv, 1) := by decide +kernel
theorem dX7_areRates_4 : decode cX7_areRates 4 = .ok (.iconst 1, 1) := by decide +kernel
theorem dX7_areRates_5 : decode cX7_areRates 5 = .ok (.bipush 20, 2) := by decide +kernel
theorem dX7_areRates_7 : decode cX7_areRates 7 = .ok (.invokestatic 58, 3) := by decide +kernel
theorem dX7_areRates_10 : decode cX7_areRates 10 = .ok (.ifCond .eq 20, 3) := by decide +kernel
theorem dX7_areRates_13 : decode cX7_areRates 13 = .ok (.iload_n 0, 1) := by decide +kernel
theorem dX7_areRates_14 : decode cX7_areRates 14 = .ok (.bipush 21, 2) := by decide +kernel
theorem dX7_areRates_16 : decode cX7_areRates 16 = .ok (.irem, 1) := by decide +kernel
theorem dX7_areRates_17 : decode cX7_areRates 17 = .ok (.iconst 1, 1) := by decide +kernel
theorem dX7_areRates_18 : decode cX7_areRates 18 = .ok (.bipush 20, 2) := by decide +kernel
theorem dX7_areRates_20 : decode cX7_areRates 20 = .ok (.invokestatic 58, 3) := by decide +kernel
theorem dX7_areRates_23 : decode cX7_areRates 23 = .ok (.ifCond .eq 7, 3) := by decide +kernel
theorem dX7_areRates_26 : decode cX7_areRates 26 = .ok (.iconst 1, 1) := by decide +kernel
theorem dX7_areRates_27 : decode cX7_areRates 27 = .ok (.goto 4, 3) := by decide +kernel
theorem dX7_areRates_30 : decode cX7_areRates 30 = .ok (.iconst 0, 1) := by decide +kernel
theorem dX7_areRates_31 : decode cX7_areRates 31 = .ok (.ireturn, 1) := by decide +kernel
theorem dX7_oneIf_0 : decode cX7_oneIf 0 = .ok (.iload_n 0, 1) := by decide +kernel
theorem dX7_oneIf_1 : decode cX7_oneIf 1 = .ok (.ifCond .eq 7, 3) := by decide +kernel
theorem dX7_oneIf_4 : decode cX7_oneIf 4 = .ok (.lconst 1, 1) := by decide +kernel
theorem dX7_oneIf_5 : decode cX7_oneIf 5 = .ok (.goto 4, 3) := by decide +kernel
theorem dX7_oneIf_8 : decode cX7_oneIf 8 = .ok (.lconst 0, 1) := by decide +kernel
theorem dX7_oneIf_9 : decode cX7_oneIf 9 = .ok (.lreturn, 1) := by decide +kernel
