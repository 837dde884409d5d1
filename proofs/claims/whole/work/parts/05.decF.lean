theorem dX8_bid_131 : decode cX8_bid 131 = .ok (.iconst 1, 1) := by decide +kernel
theorem dX8_bid_132 : decode cX8_bid 132 = .ok (.iadd, 1) := by decide +kernel
theorem dX8_bid_133 : decode cX8_bid 133 = .ok (.putfield 89, 3) := by decide +kernel
theorem dX8_bid_136 : decode cX8_bid 136 = .ok (.aload_n 0, 1) := by decide +kernel
theorem dX8_bid_137 : decode cX8_bid 137 = .ok (.getfield 89, 3) := by decide +kernel
theorem dX8_bid_140 : decode cX8_bid 140 = .ok (.iconst 1, 1) := by decide +kernel
theorem dX8_bid_141 : decode cX8_bid 141 = .ok (.isub, 1) := by decide +kernel
theorem dX8_bid_142 : decode cX8_bid 142 = .ok (.i2l, 1) := by decide +kernel
theorem dX8_bid_143 : decode cX8_bid 143 = .ok (.lreturn, 1) := by decide +kernel
theorem dX8_unbid_0 : decode cX8_unbid 0 = .ok (.aload_n 0, 1) := by decide +kernel
theorem dX8_unbid_1 : decode cX8_unbid 1 = .ok (.getfield 89, 3) := by decide +kernel
theorem dX8_unbid_4 : decode cX8_unbid 4 = .ok (.ifCond .ne 7, 3) := by decide +kernel
theorem dX8_unbid_7 : decode cX8_unbid 7 = .ok (.ldc2_w 108, 3) := by decide +kernel
theorem dX8_unbid_10 : decode cX8_unbid 10 = .ok (.lreturn, 1) := by decide +kernel
theorem dX8_unbid_11 : decode cX8_unbid 11 = .ok (.aload_n 0, 1) := by decide +kernel
theorem dX8_unbid_12 : decode cX8_unbid 12 = .ok (.dup, 1) := by decide +kernel
theorem dX8_unbid_13 : decode cX8_unbid 13 = .ok (.getfield 89, 3) := by decide +kernel
theorem dX8_unbid_16 : decode cX8_unbid 16 = .ok (.iconst 1, 1) := by decide +kernel
theorem dX8_unbid_17 : decode cX8_unbid 17 = .ok (.isub, 1) := by decide +kernel
theorem dX8_unbid_18 : decode cX8_unbid 18 = .ok (.putfield 89, 3) := by decide +kernel
theorem dX8_unbid_21 : decode cX8_unbid 21 = .ok (.aload_n 0, 1) := by decide +kernel
theorem dX8_unbid_22 : decode cX8_unbid 22 = .ok (.getfield 89, 3) := by decide +kernel
theorem dX8_unbid_25 : decode cX8_unbid 25 = .ok (.i2l, 1) := by decide +kernel
theorem dX8_unbid_26 : decode cX8_unbid 26 = .ok (.lreturn, 1) := by decide +kernel
theorem dX8_isTaken_0 : decode cX8_isTaken 0 = .ok (.lconst 0, 1) := by decide +kernel
theorem dX8_isTaken_1 : decode cX8_isTaken 1 = .ok (.lstore_n 3, 1) := by decide +kernel
theorem dX8_isTaken_2 : decode cX8_isTaken 2 = .ok (.aload_n 0, 1) := by decide +kernel
theorem dX8_isTaken_3 : decode cX8_isTaken 3 = .ok (.getfield 60, 3) := by decide +kernel
theorem dX8_isTaken_6 : decode cX8_isTaken 6 = .ok (.iconst 4, 1) := by decide +kernel
theorem dX8_isTaken_7 : decode cX8_isTaken 7 = .ok (.iload_n 1, 1) := by decide +kernel
theorem dX8_isTaken_8 : decode cX8_isTaken 8 = .ok (.imul, 1) := by decide +kernel
theorem dX8_isTaken_9 : decode cX8_isTaken 9 = .ok (.iaload, 1) := by decide +kernel
theorem dX8_isTaken_10 : decode cX8_isTaken 10 = .ok (.istore 5, 2) := by decide +kernel
theorem dX8_isTaken_12 : decode cX8_isTaken 12 = .ok (.iload 5, 2) := by decide +kernel
theorem dX8_isTaken_14 : decode cX8_isTaken 14 = .ok (.aload_n 0, 1) := by decide +kernel
theorem dX8_isTaken_15 : decode cX8_isTaken 15 = .ok (.getfield 60, 3) := by decide +kernel
theorem dX8_isTaken_18 : decode cX8_isTaken 18 = .ok (.iconst 4, 1) := by decide +kernel
theorem dX8_isTaken_19 : decode cX8_isTaken 19 = .ok (.iload_n 1, 1) := by decide +kernel
theorem dX8_isTaken_20 : decode cX8_isTaken 20 = .ok (.imul, 1) := by decide +kernel
theorem dX8_isTaken_21 : decode cX8_isTaken 21 = .ok (.iconst 1, 1) := by decide +kernel
theorem dX8_isTaken_22 : decode cX8_isTaken 22 = .ok (.iadd, 1) := by decide +kernel
theorem dX8_isTaken_23 : decode cX8_isTaken 23 = .ok (.iaload, 1) := by decide +kernel
theorem dX8_isTaken_24 : decode cX8_isTaken 24 = .ok (.if_icmp .gt 31, 3) := by decide +kernel
theorem dX8_isTaken_27 : decode cX8_isTaken 27 = .ok (.lload_n 3, 1) := by decide +kernel
theorem dX8_isTaken_28 : decode cX8_isTaken 28 = .ok (.aload_n 0, 1) := by decide +kernel
theorem dX8_isTaken_29 : decode cX8_isTaken 29 = .ok (.iload_n 2, 1) := by decide +kernel
theorem dX8_isTaken_30 : decode cX8_isTaken 30 = .ok (.iload 5, 2) := by decide +kernel
theorem dX8_isTaken_32 : decode cX8_isTaken 32 = .ok (.invokevirtual 110, 3) := by decide +kernel
theorem dX8_isTaken_35 : decode cX8_isTaken 35 = .ok (.aload_n 0, 1) := by decide +kernel
theorem dX8_isTaken_36 : decode cX8_isTaken 36 = .ok (.getfield 60, 3) := by decide +kernel
theorem dX8_isTaken_39 : decode cX8_isTaken 39 = .ok (.iconst 4, 1) := by decide +kernel
theorem dX8_isTaken_40 : decode cX8_isTaken 40 = .ok (.iload_n 1, 1) := by decide +kernel
theorem dX8_isTaken_41 : decode cX8_isTaken 41 = .ok (.imul, 1) := by decide +kernel
theorem dX8_isTaken_42 : decode cX8_isTaken 42 = .ok (.iconst 3, 1) := by decide +kernel
theorem dX8_isTaken_43 : decode cX8_isTaken 43 = .ok (.iadd, 1) := by decide +kernel
theorem dX8_isTaken_44 : decode cX8_isTaken 44 = .ok (.iaload, 1) := by decide +kernel
theorem dX8_isTaken_45 : decode cX8_isTaken 45 = .ok (.isub, 1) := by decide +kernel
theorem dX8_isTaken_46 : decode cX8_isTaken 46 = .ok (.i2l, 1) := by decide +kernel
theorem dX8_isTaken_47 : decode cX8_isTaken 47 = .ok (.ladd, 1) := by decide +kernel
theorem dX8_isTaken_48 : decode cX8_isTaken 48 = .ok (.lstore_n 3, 1) := by decide +kernel
theorem dX8_isTaken_49 : decode cX8_isTaken 49 = .ok (.iinc 5 1, 3) := by decide +kernel
theorem dX8_isTaken_52 : decode cX8_isTaken 52 = .ok (.goto (-40), 3) := by decide +kernel
theorem dX8_isTaken_55 : decode cX8_isTaken 55 = .ok (.aload_n 0, 1) := by decide +kernel
theorem dX8_isTaken_56 : decode cX8_isTaken 56 = .ok (.getfield 60, 3) := by decide +kernel
theorem dX8_isTaken_59 : decode cX8_isTaken 59 = .ok (.iconst 4, 1) := by decide +kernel
theorem dX8_isTaken_60 : decode cX8_isTaken 60 = .ok (.iload_n 1, 1) := by decide +kernel
theorem dX8_isTaken_61 : decode cX8_isTaken 61 = .ok (.imul, 1) := by decide +kernel
theorem dX8_isTaken_62 : decode cX8_isTaken 62 = .ok (.iconst 2, 1) := by decide +kernel
theorem dX8_isTaken_63 : decode cX8_isTaken 63 = .ok (.iadd, 1) := by decide +kernel
theorem dX8_isTaken_64 : decode cX8_isTaken 64 = .ok (.iaload, 1) := by decide +kernel
theorem dX8_isTaken_65 : decode cX8_isTaken 65 = .ok (.ifCond .ge 17, 3) := by decide +kernel
theorem dX8_isTaken_68 : decode cX8_isTaken 68 = .ok (.lload_n 3, 1) := by decide +kernel
theorem dX8_isTaken_69 : decode cX8_isTaken 69 = .ok (.lconst 0, 1) := by decide +kernel
theorem dX8_isTaken_70 : decode cX8_isTaken 70 = .ok (.lcmp, 1) := by decide +kernel
theorem dX8_isTaken_71 : decode cX8_isTaken 71 = .ok (.ifCond .lt 7, 3) := by decide +kernel
theorem dX8_isTaken_74 : decode cX8_isTaken 74 = .ok (.iconst 1, 1) := by decide +kernel
theorem dX8_isTaken_75 : decode cX8_isTaken 75 = .ok (.goto 18, 3) := by decide +kernel
theorem dX8_isTaken_78 : decode cX8_isTaken 78 = .ok (.iconst 0, 1) := by decide +kernel
theorem dX8_isTaken_79 : decode cX8_isTaken 79 = .ok (.goto 14, 3) := by decide +kernel
theorem dX8_isTaken_82 : decode cX8_isTaken 82 = .ok (.lload_n 3, 1) := by decide +kernel
theorem dX8_isTaken_83 : decode cX8_isTaken 83 = .ok (.lconst 0, 1) := by decide +kernel
theorem dX8_isTaken_84 : decode cX8_isTaken 84 = .ok (.lcmp, 1) := by decide +kernel
theorem dX8_isTaken_85 : decode cX8_isTaken 85 = .ok (.ifCond .gt 7, 3) := by decide +kernel
theorem dX8_isTaken_88 : decode cX8_isTaken 88 = .ok (.iconst 1, 1) := by decide +kernel
theorem dX8_isTaken_89 : decode cX8_isTaken 89 = .ok (.goto 4, 3) := by decide +kernel
theorem dX8_isTaken_92 : decode cX8_isTaken 92 = .ok (.iconst 0, 1) := by decide +kernel
theorem dX8_isTaken_93 : decode cX8_isTaken 93 = .ok (.ireturn, 1) := by decide +kernel
theorem dX8_taken_0 : decode cX8_taken 0 = .ok (.iload_n 1, 1) := by decide +kernel
theorem dX8_taken_1 : decode cX8_taken 1 = .ok (.i2l, 1) := by decide +kernel
theorem dX8_taken_2 : decode cX8_taken 2 = .ok (.lconst 0, 1) := by decide +kernel
theorem dX8_taken_3 : decode cX8_taken 3 = .ok (.aload_n 0, 1) := by decide +kernel
theorem dX8_taken_4 : decode cX8_taken 4 = .ok (.getfield 89, 3) := by decide +kernel
theorem dX8_taken_7 : decode cX8_taken 7 = .ok (.iconst 1, 1) := by decide +kernel
theorem dX8_taken_8 : decode cX8_taken 8 = .ok (.isub, 1) := by decide +kernel
theorem dX8_taken_9 : decode cX8_taken 9 = .ok (.i2l, 1) := by decide +kernel
theorem dX8_taken_10 : decode cX8_taken 10 = .ok (.invokestatic 81, 3) := by decide +kernel
theorem dX8_taken_13 : decode cX8_taken 13 = .ok (.ifCond .eq 10, 3) := by decide +kernel
theorem dX8_taken_16 : decode cX8_taken 16 = .ok (.iload_n 2, 1) := by decide +kernel
theorem dX8_taken_17 : decode cX8_taken 17 = .ok (.invokestatic 96, 3) := by decide +kernel
theorem dX8_taken_20 : decode cX8_taken 20 = .ok (.ifCond .ne 7, 3) := by decide +kernel
theorem dX8_taken_23 : decode cX8_taken 23 = .ok (.ldc2_w 87, 3) := by decide +kernel
theorem dX8_taken_26 : decode cX8_taken 26 = .ok (.lreturn, 1) := by decide +kernel
theorem dX8_taken_27 : decode cX8_taken 27 = .ok (.aload_n 0, 1) := by decide +kernel
theorem dX8_taken_28 : decode cX8_taken 28 = .ok (.iload_n 1, 1) := by decide +kernel
theorem dX8_taken_29 : decode cX8_taken 29 = .ok (.iload_n 2, 1) := by decide +kernel
theorem dX8_taken_30 : decode cX8_taken 30 = .ok (.invokevirtual 219, 3) := by decide +kernel
theorem dX8_taken_33 : decode cX8_taken 33 = .ok (.ifCond .eq 7, 3) := by decide +kernel
theorem dX8_taken_36 : decode cX8_taken 36 = .ok (.lconst 1, 1) := by decide +kernel
theorem dX8_taken_37 : decode cX8_taken 37 = .ok (.goto 4, 3) := by decide +kernel
theorem dX8_taken_40 : decode cX8_taken 40 = .ok (.lconst 0, 1) := by decide +kernel
theorem dX8_taken_41 : decode cX8_taken 41 = .ok (.lreturn, 1) := by decide +kernel
theorem dX8_wantedOf_0 : decode cX8_wantedOf 0 = .ok (.iconst 0, 1) := by decide +kernel
theorem dX8_wantedOf_1 : decode cX8_wantedOf 1 = .ok (.istore_n 3, 1) := by decide +kernel
theorem dX8_wantedOf_2 : decode cX8_wantedOf 2 = .ok (.iconst 0, 1) := by decide +kernel
theorem dX8_wantedOf_3 : decode cX8_wantedOf 3 = .ok (.istore 4, 2) := by decide +kernel
theorem dX8_wantedOf_5 : decode cX8_wantedOf 5 = .ok (.iload 4, 2) := by decide +kernel
theorem dX8_wantedOf_7 : decode cX8_wantedOf 7 = .ok (.aload_n 0, 1) := by decide +kernel
theorem dX8_wantedOf_8 : decode cX8_wantedOf 8 = .ok (.getfield 89, 3) := by decide +kernel
theorem dX8_wantedOf_11 : decode cX8_wantedOf 11 = .ok (.if_icmp .ge 65, 3) := by decide +kernel
theorem dX8_wantedOf_14 : decode cX8_wantedOf 14 = .ok (.iload_n 3, 1) := by decide +kernel
theorem dX8_wantedOf_15 : decode cX8_wantedOf 15 = .ok (.iload_n 2, 1) := by decide +kernel
theorem dX8_wantedOf_16 : decode cX8_wantedOf 16 = .ok (.aload_n 0, 1) := by decide +kernel
theorem dX8_wantedOf_17 : decode cX8_wantedOf 17 = .ok (.getfield 60, 3) := by decide +kernel
theorem dX8_wantedOf_20 : decode cX8_wantedOf 20 = .ok (.iconst 4, 1) := by decide +kernel
theorem dX8_wantedOf_21 : decode cX8_wantedOf 21 = .ok (.iload 4, 2) := by decide +kernel
theorem dX8_wantedOf_23 : decode cX8_wantedOf 23 = .ok (.imul, 1) := by decide +kernel
theorem dX8_wantedOf_24 : decode cX8_wantedOf 24 = .ok (.iaload, 1) := by decide +kernel
theorem dX8_wantedOf_25 : decode cX8_wantedOf 25 = .ok (.if_icmp .lt 42, 3) := by decide +kernel
theorem dX8_wantedOf_28 : decode cX8_wantedOf 28 = .ok (.iload_n 2, 1) := by decide +kernel
theorem dX8_wantedOf_29 : decode cX8_wantedOf 29 = .ok (.aload_n 0, 1) := by decide +kernel
theorem dX8_wantedOf_30 : decode cX8_wantedOf 30 = .ok (.getfield 60, 3) := by decide +kernel
theorem dX8_wantedOf_33 : decode cX8_wantedOf 33 = .ok (.iconst 4, 1) := by decide +kernel
theorem dX8_wantedOf_34 : decode cX8_wantedOf 34 = .ok (.iload 4, 2) := by decide +kernel
theorem dX8_wantedOf_36 : decode cX8_wantedOf 36 = .ok (.imul, 1) := by decide +kernel
theorem dX8_wantedOf_37 : decode cX8_wantedOf 37 = .ok (.iconst 1, 1) := by decide +kernel
theorem dX8_wantedOf_38 : decode cX8_wantedOf 38 = .ok (.iadd, 1) := by decide +kernel
theorem dX8_wantedOf_39 : decode cX8_wantedOf 39 = .ok (.iaload, 1) := by decide +kernel
theorem dX8_wantedOf_40 : decode cX8_wantedOf 40 = .ok (.if_icmp .gt 27, 3) := by decide +kernel
theorem dX8_wantedOf_43 : decode cX8_wantedOf 43 = .ok (.aload_n 0, 1) := by decide +kernel
theorem dX8_wantedOf_44 : decode cX8_wantedOf 44 = .ok (.iload 4, 2) := by decide +kernel
theorem dX8_wantedOf_46 : decode cX8_wantedOf 46 = .ok (.iload_n 1, 1) := by decide +kernel
theorem dX8_wantedOf_47 : decode cX8_wantedOf 47 = .ok (.invokevirtual 219, 3) := by decide +kernel
theorem dX8_wantedOf_50 : decode cX8_wantedOf 50 = .ok (.ifCond .eq 17, 3) := by decide +kernel
theorem dX8_wantedOf_53 : decode cX8_wantedOf 53 = .ok (.aload_n 0, 1) := by decide +kernel
theorem dX8_wantedOf_54 : decode cX8_wantedOf 54 = .ok (.getfield 60, 3) := by decide +kernel
theorem dX8_wantedOf_57 : decode cX8_wantedOf 57 = .ok (.iconst 4, 1) := by decide +kernel
theorem dX8_wantedOf_58 : decode cX8_wantedOf 58 = .ok (.iload 4, 2) := by decide +kernel
theorem dX8_wantedOf_60 : decode cX8_wantedOf 60 = .ok (.imul, 1) := by decide +kernel
theorem dX8_wantedOf_61 : decode cX8_wantedOf 61 = .ok (.iconst 2, 1) := by decide +kernel
theorem dX8_wantedOf_62 : decode cX8_wantedOf 62 = .ok (.iadd, 1) := by decide +kernel
theorem dX8_wantedOf_63 : decode cX8_wantedOf 63 = .ok (.iaload, 1) := by decide +kernel
theorem dX8_wantedOf_64 : decode cX8_wantedOf 64 = .ok (.goto 4, 3) := by decide +kernel
theorem dX8_wantedOf_67 : decode cX8_wantedOf 67 = .ok (.iconst 0, 1) := by decide +kernel
theorem dX8_wantedOf_68 : decode cX8_wantedOf 68 = .ok (.iadd, 1) := by decide +kernel
theorem dX8_wantedOf_69 : decode cX8_wantedOf 69 = .ok (.istore_n 3, 1) := by decide +kernel
theorem dX8_wantedOf_70 : decode cX8_wantedOf 70 = .ok (.iinc 4 1, 3) := by decide +kernel
theorem dX8_wantedOf_73 : decode cX8_wantedOf 73 = .ok (.goto (-68), 3) := by decide +kernel
theorem dX8_wantedOf_76 : decode cX8_wantedOf 76 = .ok (.iload_n 3, 1) := by decide +kernel
theorem dX8_wantedOf_77 : decode cX8_wantedOf 77 = .ok (.ireturn, 1) := by decide +kernel
theorem dX8_wanted_0 : decode cX8_wanted 0 = .ok (.iload_n 1, 1) := by decide +kernel
theorem dX8_wanted_1 : decode cX8_wanted 1 = .ok (.invokestatic 96, 3) := by decide +kernel
theorem dX8_wanted_4 : decode cX8_wanted 4 = .ok (.ifCond .ne 7, 3) := by decide +kernel
theorem dX8_wanted_7 : decode cX8_wanted 7 = .ok (.ldc2_w 87, 3) := by decide +kernel
theorem dX8_wanted_10 : decode cX8_wanted 10 = .ok (.lreturn, 1) := by decide +kernel
theorem dX8_wanted_11 : decode cX8_wanted 11 = .ok (.aload_n 0, 1) := by decide +kernel
theorem dX8_wanted_12 : decode cX8_wanted 12 = .ok (.iload_n 2, 1) := by decide +kernel
theorem dX8_wanted_13 : decode cX8_wanted 13 = .ok (.invokevirtual 158, 3) := by decide +kernel
theorem dX8_wanted_16 : decode cX8_wanted 16 = .ok (.ifCond .eq 13, 3) := by decide +kernel
theorem dX8_wanted_19 : decode cX8_wanted 19 = .ok (.aload_n 0, 1) := by decide +kernel
theorem dX8_wanted_20 : decode cX8_wanted 20 = .ok (.iload_n 1, 1) := by decide +kernel
theorem dX8_wanted_21 : decode cX8_wanted 21 = .ok (.iload_n 2, 1) := by decide +kernel
theorem dX8_wanted_22 : decode cX8_wanted 22 = .ok (.invokevirtual 223, 3) := by decide +kernel
theorem dX8_wanted_25 : decode cX8_wanted 25 = .ok (.i2l, 1) := by decide +kernel
theorem dX8_wanted_26 : decode cX8_wanted 26 = .ok (.goto 6, 3) := by decide +kernel
theorem dX8_wanted_29 : decode cX8_wanted 29 = .ok (.ldc2_w 106, 3) := by decide +kernel
theorem dX8_wanted_32 : decode cX8_wanted 32 = .ok (.lreturn, 1) := by decide +kernel
theorem dX8_between_0 : decode cX8_between 0 = .ok (.iload_n 0, 1) := by decide +kernel
theorem dX8_between_1 : decode cX8_between 1 = .ok (.iload_n 1, 1) := by decide +kernel
theorem dX8_between_2 : decode cX8_between 2 = .ok (.if_icmp .ge 7, 3) := by decide +kernel
theorem dX8_between_5 : decode cX8_between 5 = .ok (.iload_n 1, 1) := by decide +kernel
theorem dX8_between_6 : decode cX8_between 6 = .ok (.goto 13, 3) := by decide +kernel
theorem dX8_between_9 : decode cX8_between 9 = .ok (.iload_n 0, 1) := by decide +kernel
theorem dX8_between_10 : decode cX8_between 10 = .ok (.iload_n 2, 1) := by decide +kernel
theorem dX8_between_11 : decode cX8_between 11 = .ok (.if_icmp .le 7, 3) := by decide +kernel
theorem dX8_between_14 : decode cX8_between 14 = .ok (.iload_n 2, 1) := by decide +kernel
theorem dX8_between_15 : decode cX8_between 15 = .ok (.goto 4, 3) := by decide +kernel
theorem dX8_between_18 : decode cX8_between 18 = .ok (.iload_n 0, 1) := by decide +kernel
theorem dX8_between_19 : decode cX8_between 19 = .ok (.ireturn, 1) := by decide +kernel
theorem dX8_fill_0 : decode cX8_fill 0 = .ok (.iload_n 1, 1) := by decide +kernel
theorem dX8_fill_1 : decode cX8_fill 1 = .ok (.invokestatic 124, 3) := by decide +kernel
theorem dX8_fill_4 : decode cX8_fill 4 = .ok (.ifCond .eq 10, 3) := by decide +kernel
theorem dX8_fill_7 : decode cX8_fill 7 = .ok (.iload_n 2, 1) := by decide +kernel
theorem dX8_fill_8 : decode cX8_fill 8 = .ok (.invokestatic 96, 3) := by decide +kernel
theorem dX8_fill_11 : decode cX8_fill 11 = .ok (.ifCond .ne 7, 3) := by decide +kernel
theorem dX8_fill_14 : decode cX8_fill 14 = .ok (.ldc2_w 87, 3) := by decide +kernel
theorem dX8_fill_17 : decode cX8_fill 17 = .ok (.lreturn, 1) := by decide +kernel
theorem dX8_fill_18 : decode cX8_fill 18 = .ok (.aload_n 0, 1) := by decide +kernel
theorem dX8_fill_19 : decode cX8_fill 19 = .ok (.getfield 30, 3) := by decide +kernel
theorem dX8_fill_22 : decode cX8_fill 22 = .ok (.iload_n 1, 1) := by decide +kernel
theorem dX8_fill_23 : decode cX8_fill 23 = .ok (.iaload, 1) := by decide +kernel
theorem dX8_fill_24 : decode cX8_fill 24 = .ok (.ifCond .ge 7, 3) := by decide +kernel
theorem dX8_fill_27 : decode cX8_fill 27 = .ok (.ldc2_w 108, 3) := by decide +kernel
theorem dX8_fill_30 : decode cX8_fill 30 = .ok (.lreturn, 1) := by decide +kernel
theorem dX8_fill_31 : decode cX8_fill 31 = .ok (.lconst 0, 1) := by decide +kernel
theorem dX8_fill_32 : decode cX8_fill 32 = .ok (.lstore_n 3, 1) := by decide +kernel
theorem dX8_fill_33 : decode cX8_fill 33 = .ok (.aload_n 0, 1) := by decide +kernel
theorem dX8_fill_34 : decode cX8_fill 34 = .ok (.getfield 36, 3) := by decide +kernel
theorem dX8_fill_37 : decode cX8_fill 37 = .ok (.iload_n 1, 1) := by decide +kernel
theorem dX8_fill_38 : decode cX8_fill 38 = .ok (.iaload, 1) := by decide +kernel
theorem dX8_fill_39 : decode cX8_fill 39 = .ok (.istore 5, 2) := by decide +kernel
theorem dX8_fill_41 : decode cX8_fill 41 = .ok (.iconst 0, 1) := by decide +kernel
theorem dX8_fill_42 : decode cX8_fill 42 = .ok (.istore 6, 2) := by decide +kernel
theorem dX8_fill_44 : decode cX8_fill 44 = .ok (.iload 6, 2) := by decide +kernel
theorem dX8_fill_46 : decode cX8_fill 46 = .ok (.aload_n 0, 1) := by decide +kernel
theorem dX8_fill_47 : decode cX8_fill 47 = .ok (.getfield 7, 3) := by decide +kernel
theorem dX8_fill_50 : decode cX8_fill 50 = .ok (.if_icmp .ge 119, 3) := by decide +kernel
theorem dX8_fill_53 : decode cX8_fill 53 = .ok (.aload_n 0, 1) := by decide +kernel
theorem dX8_fill_54 : decode cX8_fill 54 = .ok (.iload_n 2, 1) := by decide +kernel
theorem dX8_fill_55 : decode cX8_fill 55 = .ok (.iload 6, 2) := by decide +kernel
theorem dX8_fill_57 : decode cX8_fill 57 = .ok (.invokevirtual 223, 3) := by decide +kernel
theorem dX8_fill_60 : decode cX8_fill 60 = .ok (.istore 7, 2) := by decide +kernel
theorem dX8_fill_62 : decode cX8_fill 62 = .ok (.aload_n 0, 1) := by decide +kernel
theorem dX8_fill_63 : decode cX8_fill 63 = .ok (.getfield 13, 3) := by decide +kernel
theorem dX8_fill_66 : decode cX8_fill 66 = .ok (.iload 6, 2) := by decide +kernel
theorem dX8_fill_68 : decode cX8_fill 68 = .ok (.baload, 1) := by decide +kernel
theorem dX8_fill_69 : decode cX8_fill 69 = .ok (.ifCond .eq 7, 3) := by decide +kernel
theorem dX8_fill_72 : decode cX8_fill 72 = .ok (.iconst 0, 1) := by decide +kernel
theorem dX8_fill_73 : decode cX8_fill 73 = .ok (.goto 19, 3) := by decide +kernel
theorem dX8_fill_76 : decode cX8_fill 76 = .ok (.iload 7, 2) := by decide +kernel
theorem dX8_fill_78 : decode cX8_fill 78 = .ok (.aload_n 0, 1) := by decide +kernel
theorem dX8_fill_79 : decode cX8_fill 79 = .ok (.iload_n 1, 1) := by decide +kernel
theorem dX8_fill_80 : decode cX8_fill 80 = .ok (.invokevirtual 152, 3) := by decide +kernel
theorem dX8_fill_83 : decode cX8_fill 83 = .ok (.ineg, 1) := by decide +kernel
theorem dX8_fill_84 : decode cX8_fill 84 = .ok (.aload_n 0, 1) := by decide +kernel
theorem dX8_fill_85 : decode cX8_fill 85 = .ok (.iload_n 1, 1) := by decide +kernel
theorem dX8_fill_86 : decode cX8_fill 86 = .ok (.invokevirtual 149, 3) := by decide +kernel
theorem dX8_fill_89 : decode cX8_fill 89 = .ok (.invokestatic 226, 3) := by decide +kernel
theorem dX8_fill_92 : decode cX8_fill 92 = .ok (.istore 8, 2) := by decide +kernel
theorem dX8_fill_94 : decode cX8_fill 94 = .ok (.iload 8, 2) := by decide +kernel
theorem dX8_fill_96 : decode cX8_fill 96 = .ok (.aload_n 0, 1) := by decide +kernel
theorem dX8_fill_97 : decode cX8_fill 97 = .ok (.iload_n 1, 1) := by decide +kernel
theorem dX8_fill_98 : decode cX8_fill 98 = .ok (.invokevirtual 132, 3) := by decide +kernel
theorem dX8_fill_101 : decode cX8_fill 101 = .ok (.iload 5, 2) := by decide +kernel
theorem dX8_fill_103 : decode cX8_fill 103 = .ok (.isub, 1) := by decide +kernel
theorem dX8_fill_104 : decode cX8_fill 104 = .ok (.aload_n 0, 1) := by decide +kernel
theorem dX8_fill_105 : decode cX8_fill 105 = .ok (.iload_n 1, 1) := by decide +kernel
theorem dX8_fill_106 : decode cX8_fill 106 = .ok (.invokevirtual 146, 3) := by decide +kernel
theorem dX8_fill_109 : decode cX8_fill 109 = .ok (.iload 5, 2) := by decide +kernel
theorem dX8_fill_111 : decode cX8_fill 111 = .ok (.isub, 1) := by decide +kernel
theorem dX8_fill_112 : decode cX8_fill 112 = .ok (.invokestatic 226, 3) := by decide +kernel
theorem dX8_fill_115 : decode cX8_fill 115 = .ok (.istore 8, 2) := by decide +kernel
theorem dX8_fill_117 : decode cX8_fill 117 = .ok (.aload_n 0, 1) := by decide +kernel
theorem dX8_fill_118 : decode cX8_fill 118 = .ok (.getfield 57, 3) := by decide +kernel
theorem dX8_fill_121 : decode cX8_fill 121 = .ok (.bipush 36, 2) := by decide +kernel
theorem dX8_fill_123 : decode cX8_fill 123 = .ok (.iload_n 1, 1) := by decide +kernel
theorem dX8_fill_124 : decode cX8_fill 124 = .ok (.imul, 1) := by decide +kernel
theorem dX8_fill_125 : decode cX8_fill 125 = .ok (.iload 6, 2) := by decide +kernel
theorem dX8_fill_127 : decode cX8_fill 127 = .ok (.iadd, 1) := by decide +kernel
theorem dX8_fill_128 : decode cX8_fill 128 = .ok (.iload 8, 2) := by decide +kernel
theorem dX8_fill_130 : decode cX8_fill 130 = .ok (.iastore, 1) := by decide +kernel
theorem dX8_fill_131 : decode cX8_fill 131 = .ok (.iload 5, 2) := by decide +kernel
theorem dX8_fill_133 : decode cX8_fill 133 = .ok (.iload 8, 2) := by decide +kernel
theorem dX8_fill_135 : decode cX8_fill 135 = .ok (.iadd, 1) := by decide +kernel
theorem dX8_fill_136 : decode cX8_fill 136 = .ok (.istore 5, 2) := by decide +kernel
theorem dX8_fill_138 : decode cX8_fill 138 = .ok (.lload_n 3, 1) := by decide +kernel
theorem dX8_fill_139 : decode cX8_fill 139 = .ok (.iload 7, 2) := by decide +kernel
theorem dX8_fill_141 : decode cX8_fill 141 = .ok (.iload 8, 2) := by decide +kernel
theorem dX8_fill_143 : decode cX8_fill 143 = .ok (.if_icmp .le 12, 3) := by decide +kernel
theorem dX8_fill_146 : decode cX8_fill 146 = .ok (.iload 7, 2) := by decide +kernel
theorem dX8_fill_148 : decode cX8_fill 148 = .ok (.iload 8, 2) := by decide +kernel
theorem dX8_fill_150 : decode cX8_fill 150 = .ok (.isub, 1) := by decide +kernel
theorem dX8_fill_151 : decode cX8_fill 151 = .ok (.i2l, 1) := by decide +kernel
theorem dX8_fill_152 : decode cX8_fill 152 = .ok (.goto 9, 3) := by decide +kernel
theorem dX8_fill_155 : decode cX8_fill 155 = .ok (.iload 8, 2) := by decide +kernel
theorem dX8_fill_157 : decode cX8_fill 157 = .ok (.iload 7, 2) := by decide +kernel
theorem dX8_fill_159 : decode cX8_fill 159 = .ok (.isub, 1) := by decide +kernel
theorem dX8_fill_160 : decode cX8_fill 160 = .ok (.i2l, 1) := by decide +kernel
theorem dX8_fill_161 : decode cX8_fill 161 = .ok (.ladd, 1) := by decide +kernel
theorem dX8_fill_162 : decode cX8_fill 162 = .ok (.lstore_n 3, 1) := by decide +kernel
theorem dX8_fill_163 : decode cX8_fill 163 = .ok (.iinc 6 1, 3) := by decide +kernel
theorem dX8_fill_166 : decode cX8_fill 166 = .ok (.goto (-122), 3) := by decide +kernel
theorem dX8_fill_169 : decode cX8_fill 169 = .ok (.lload_n 3, 1) := by decide +kernel
theorem dX8_fill_170 : decode cX8_fill 170 = .ok (.lreturn, 1) := by decide +kernel
theorem dX8_meter_0 : decode cX8_meter 0 = .ok (.iload_n 1, 1) := by decide +kernel
theorem dX8_meter_1 : decode cX8_meter 1 = .ok (.i2l, 1) := by decide +kernel
theorem dX8_meter_2 : decode cX8_meter 2 = .ok (.lconst 0, 1) := by decide +kernel
theorem dX8_meter_3 : decode cX8_meter 3 = .ok (.ldc2_w 92, 3) := by decide +kernel
theorem dX8_meter_6 : decode cX8_meter 6 = .ok (.invokestatic 81, 3) := by decide +kernel
theorem dX8_meter_9 : decode cX8_meter 9 = .ok (.ifCond .eq 17, 3) := by decide +kernel
theorem dX8_meter_12 : decode cX8_meter 12 = .ok (.iload_n 2, 1) := by decide +kernel
theorem dX8_meter_13 : decode cX8_meter 13 = .ok (.i2l, 1) := by decide +kernel
theorem dX8_meter_14 : decode cX8_meter 14 = .ok (.ldc2_w 230, 3) := by decide +kernel
theorem dX8_meter_17 : decode cX8_meter 17 = .ok (.ldc2_w 232, 3) := by decide +kernel
theorem dX8_meter_20 : decode cX8_meter 20 = .ok (.invokestatic 81, 3) := by decide +kernel
theorem dX8_meter_23 : decode cX8_meter 23 = .ok (.ifCond .ne 7, 3) := by decide +kernel
theorem dX8_meter_26 : decode cX8_meter 26 = .ok (.ldc2_w 87, 3) := by decide +kernel
theorem dX8_meter_29 : decode cX8_meter 29 = .ok (.lreturn, 1) := by decide +kernel
theorem dX8_meter_30 : decode cX8_meter 30 = .ok (.aload_n 0, 1) := by decide +kernel
theorem dX8_meter_31 : decode cX8_meter 31 = .ok (.getfield 63, 3) := by decide +kernel
theorem dX8_meter_34 : decode cX8_meter 34 = .ok (.iload_n 1, 1) := by decide +kernel
theorem dX8_meter_35 : decode cX8_meter 35 = .ok (.iaload, 1) := by decide +kernel
theorem dX8_meter_36 : decode cX8_meter 36 = .ok (.i2l, 1) := by decide +kernel
theorem dX8_meter_37 : decode cX8_meter 37 = .ok (.lstore_n 3, 1) := by decide +kernel
theorem dX8_meter_38 : decode cX8_meter 38 = .ok (.aload_n 0, 1) := by decide +kernel
theorem dX8_meter_39 : decode cX8_meter 39 = .ok (.getfield 63, 3) := by decide +kernel
theorem dX8_meter_42 : decode cX8_meter 42 = .ok (.iload_n 1, 1) := by decide +kernel
theorem dX8_meter_43 : decode cX8_meter 43 = .ok (.iload_n 2, 1) := by decide +kernel
theorem dX8_meter_44 : decode cX8_meter 44 = .ok (.iastore, 1) := by decide +kernel
theorem dX8_meter_45 : decode cX8_meter 45 = .ok (.lload_n 3, 1) := by decide +kernel
theorem dX8_meter_46 : decode cX8_meter 46 = .ok (.lreturn, 1) := by decide +kernel
theorem dX8_nearest_0 : decode cX8_nearest 0 = .ok (.iload_n 1, 1) := by decide +kernel
theorem dX8_nearest_1 : decode cX8_nearest 1 = .ok (.iload_n 2, 1) := by decide +kernel
theorem dX8_nearest_2 : decode cX8_nearest 2 = .ok (.iadd, 1) := by decide +kernel
theorem dX8_nearest_3 : decode cX8_nearest 3 = .ok (.istore_n 3, 1) := by decide +kernel
theorem dX8_nearest_4 : decode cX8_nearest 4 = .ok (.iload_n 3, 1) := by decide +kernel
theorem dX8_nearest_5 : decode cX8_nearest 5 = .ok (.ifCond .lt 35, 3) := by decide +kernel
theorem dX8_nearest_8 : decode cX8_nearest 8 = .ok (.iload_n 3, 1) := by decide +kernel
theorem dX8_nearest_9 : decode cX8_nearest 9 = .ok (.bipush 36, 2) := by decide +kernel
theorem dX8_nearest_11 : decode cX8_nearest 11 = .ok (.if_icmp .ge 29, 3) := by decide +kernel
theorem dX8_nearest_14 : decode cX8_nearest 14 = .ok (.aload_n 0, 1) := by decide +kernel
theorem dX8_nearest_15 : decode cX8_nearest 15 = .ok (.getfield 63, 3) := by decide +kernel
theorem dX8_nearest_18 : decode cX8_nearest 18 = .ok (.iload_n 3, 1) := by decide +kernel
theorem dX8_nearest_19 : decode cX8_nearest 19 = .ok (.iaload, 1) := by decide +kernel
theorem dX8_nearest_20 : decode cX8_nearest 20 = .ok (.sipush (-1001), 3) := by decide +kernel
theorem dX8_nearest_23 : decode cX8_nearest 23 = .ok (.if_icmp .eq 10, 3) := by decide +kernel
theorem dX8_nearest_26 : decode cX8_nearest 26 = .ok (.aload_n 0, 1) := by decide +kernel
theorem dX8_nearest_27 : decode cX8_nearest 27 = .ok (.getfield 63, 3) := by decide +kernel
theorem dX8_nearest_30 : decode cX8_nearest 30 = .ok (.iload_n 3, 1) := by decide +kernel
theorem dX8_nearest_31 : decode cX8_nearest 31 = .ok (.iaload, 1) := by decide +kernel
theorem dX8_nearest_32 : decode cX8_nearest 32 = .ok (.ireturn, 1) := by decide +kernel
theorem dX8_nearest_33 : decode cX8_nearest 33 = .ok (.iload_n 3, 1) := by decide +kernel
theorem dX8_nearest_34 : decode cX8_nearest 34 = .ok (.iload_n 2, 1) := by decide +kernel
theorem dX8_nearest_35 : decode cX8_nearest 35 = .ok (.iadd, 1) := by decide +kernel
theorem dX8_nearest_36 : decode cX8_nearest 36 = .ok (.istore_n 3, 1) := by decide +kernel
theorem dX8_nearest_37 : decode cX8_nearest 37 = .ok (.goto (-33), 3) := by decide +kernel
theorem dX8_nearest_40 : decode cX8_nearest 40 = .ok (.sipush (-1001), 3) := by decide +kernel
theorem dX8_nearest_43 : decode cX8_nearest 43 = .ok (.ireturn, 1) := by decide +kernel
theorem dX8_counts_0 : decode cX8_counts 0 = .ok (.iload_n 1, 1) := by decide +kernel
theorem dX8_counts_1 : decode cX8_counts 1 = .ok (.i2l, 1) := by decide +kernel
theorem dX8_counts_2 : decode cX8_counts 2 = .ok (.lconst 0, 1) := by decide +kernel
theorem dX8_counts_3 : decode cX8_counts 3 = .ok (.ldc2_w 92, 3) := by decide +kernel
theorem dX8_counts_6 : decode cX8_counts 6 = .ok (.invokestatic 81, 3) := by decide +kernel
theorem dX8_counts_9 : decode cX8_counts 9 = .ok (.ifCond .ne 7, 3) := by decide +kernel
theorem dX8_counts_12 : decode cX8_counts 12 = .ok (.ldc2_w 87, 3) := by decide +kernel
theorem dX8_counts_15 : decode cX8_counts 15 = .ok (.lreturn, 1) := by decide +kernel
theorem dX8_counts_16 : decode cX8_counts 16 = .ok (.aload_n 0, 1) := by decide +kernel
theorem dX8_counts_17 : decode cX8_counts 17 = .ok (.getfield 63, 3) := by decide +kernel
theorem dX8_counts_20 : decode cX8_counts 20 = .ok (.iload_n 1, 1) := by decide +kernel
theorem dX8_counts_21 : decode cX8_counts 21 = .ok (.iaload, 1) := by decide +kernel
theorem dX8_counts_22 : decode cX8_counts 22 = .ok (.sipush (-1001), 3) := by decide +kernel
theorem dX8_counts_25 : decode cX8_counts 25 = .ok (.if_icmp .eq 11, 3) := by decide +kernel
theorem dX8_counts_28 : decode cX8_counts 28 = .ok (.aload_n 0, 1) := by decide +kernel
theorem dX8_counts_29 : decode cX8_counts 29 = .ok (.getfield 63, 3) := by decide +kernel
theorem dX8_counts_32 : decode cX8_counts 32 = .ok (.iload_n 1, 1) := by decide +kernel
theorem dX8_counts_33 : decode cX8_counts 33 = .ok (.iaload, 1) := by decide +kernel
theorem dX8_counts_34 : decode cX8_counts 34 = .ok (.i2l, 1) := by decide +kernel
theorem dX8_counts_35 : decode cX8_counts 35 = .ok (.lreturn, 1) := by decide +kernel
theorem dX8_counts_36 : decode cX8_counts 36 = .ok (.aload_n 0, 1) := by decide +kernel
theorem dX8_counts_37 : decode cX8_counts 37 = .ok (.iload_n 1, 1) := by decide +kernel
theorem dX8_counts_38 : decode cX8_counts 38 = .ok (.iconst (-1), 1) := by decide +kernel
theorem dX8_counts_39 : decode cX8_counts 39 = .ok (.invokevirtual 234, 3) := by decide +kernel
theorem dX8_counts_42 : decode cX8_counts 42 = .ok (.istore_n 2, 1) := by decide +kernel
theorem dX8_counts_43 : decode cX8_counts 43 = .ok (.aload_n 0, 1) := by decide +kernel
theorem dX8_counts_44 : decode cX8_counts 44 = .ok (.iload_n 1, 1) := by decide +kernel
theorem dX8_counts_45 : decode cX8_counts 45 = .ok (.iconst 1, 1) := by decide +kernel
theorem dX8_counts_46 : decode cX8_counts 46 = .ok (.invokevirtual 234, 3) := by decide +kernel
theorem dX8_counts_49 : decode cX8_counts 49 = .ok (.istore_n 3, 1) := by decide +kernel
theorem dX8_counts_50 : decode cX8_counts 50 = .ok (.iload_n 2, 1) := by decide +kernel
theorem dX8_counts_51 : decode cX8_counts 51 = .ok (.sipush (-1001), 3) := by decide +kernel
theorem dX8_counts_54 : decode cX8_counts 54 = .ok (.if_icmp .ne 17, 3) := by decide +kernel
theorem dX8_counts_57 : decode cX8_counts 57 = .ok (.iload_n 3, 1) := by decide +kernel
theorem dX8_counts_58 : decode cX8_counts 58 = .ok (.sipush (-1001), 3) := by decide +kernel
theorem dX8_counts_61 : decode cX8_counts 61 = .ok (.if_icmp .ne 7, 3) := by decide +kernel
theorem dX8_counts_64 : decode cX8_counts 64 = .ok (.lconst 0, 1) := by decide +kernel
theorem dX8_counts_65 : decode cX8_counts 65 = .ok (.goto 5, 3) := by decide +kernel
theorem dX8_counts_68 : decode cX8_counts 68 = .ok (.iload_n 3, 1) := by decide +kernel
theorem dX8_counts_69 : decode cX8_counts 69 = .ok (.i2l, 1) := by decide +kernel
theorem dX8_counts_70 : decode cX8_counts 70 = .ok (.lreturn, 1) := by decide +kernel
theorem dX8_counts_71 : decode cX8_counts 71 = .ok (.iload_n 3, 1) := by decide +kernel
theorem dX8_counts_72 : decode cX8_counts 72 = .ok (.sipush (-1001), 3) := by decide +kernel
theorem dX8_counts_75 : decode cX8_counts 75 = .ok (.if_icmp .ne 8, 3) := by decide +kernel
theorem dX8_counts_78 : decode cX8_counts 78 = .ok (.iload_n 2, 1) := by decide +kernel
theorem dX8_counts_79 : decode cX8_counts 79 = .ok (.i2l, 1) := by decide +kernel
theorem dX8_counts_80 : decode cX8_counts 80 = .ok (.goto 11, 3) := by decide +kernel
theorem dX8_counts_83 : decode cX8_counts 83 = .ok (.iload_n 2, 1) := by decide +kernel
theorem dX8_counts_84 : decode cX8_counts 84 = .ok (.iload_n 3, 1) := by decide +kernel
theorem dX8_counts_85 : decode cX8_counts 85 = .ok (.iadd, 1) := by decide +kernel
theorem dX8_counts_86 : decode cX8_counts 86 = .ok (.iconst 2, 1) := by decide +kernel
theorem dX8_counts_87 : decode cX8_counts 87 = .ok (.invokestatic 237, 3) := by decide +kernel
theorem dX8_counts_90 : decode cX8_counts 90 = .ok (.i2l, 1) := by decide +kernel
theorem dX8_counts_91 : decode cX8_counts 91 = .ok (.lreturn, 1) := by decide +kernel
theorem dX8_live_0 : decode cX8_live 0 = .ok (.iload_n 1, 1) := by decide +kernel
theorem dX8_live_1 : decode cX8_live 1 = .ok (.invokestatic 124, 3) := by decide +kernel
theorem dX8_live_4 : decode cX8_live 4 = .ok (.ifCond .eq 10, 3) := by decide +kernel
theorem dX8_live_7 : decode cX8_live 7 = .ok (.iload_n 2, 1) := by decide +kernel
theorem dX8_live_8 : decode cX8_live 8 = .ok (.invokestatic 96, 3) := by decide +kernel
theorem dX8_live_11 : decode cX8_live 11 = .ok (.ifCond .ne 7, 3) := by decide +kernel
theorem dX8_live_14 : decode cX8_live 14 = .ok (.ldc2_w 87, 3) := by decide +kernel
theorem dX8_live_17 : decode cX8_live 17 = .ok (.lreturn, 1) := by decide +kernel
theorem dX8_live_18 : decode cX8_live 18 = .ok (.aload_n 0, 1) := by decide +kernel
theorem dX8_live_19 : decode cX8_live 19 = .ok (.getfield 30, 3) := by decide +kernel
theorem dX8_live_22 : decode cX8_live 22 = .ok (.iload_n 1, 1) := by decide +kernel
theorem dX8_live_23 : decode cX8_live 23 = .ok (.iaload, 1) := by decide +kernel
theorem dX8_live_24 : decode cX8_live 24 = .ok (.ifCond .lt 15, 3) := by decide +kernel
theorem dX8_live_27 : decode cX8_live 27 = .ok (.aload_n 0, 1) := by decide +kernel
theorem dX8_live_28 : decode cX8_live 28 = .ok (.iload_n 1, 1) := by decide +kernel
theorem dX8_live_29 : decode cX8_live 29 = .ok (.invokevirtual 177, 3) := by decide +kernel
theorem dX8_live_32 : decode cX8_live 32 = .ok (.ldc2_w 175, 3) := by decide +kernel
theorem dX8_live_35 : decode cX8_live 35 = .ok (.lcmp, 1) := by decide +kernel
theorem dX8_live_36 : decode cX8_live 36 = .ok (.ifCond .eq 7, 3) := by decide +kernel
theorem dX8_live_39 : decode cX8_live 39 = .ok (.ldc2_w 108, 3) := by decide +kernel
theorem dX8_live_42 : decode cX8_live 42 = .ok (.lreturn, 1) := by decide +kernel
theorem dX8_live_43 : decode cX8_live 43 = .ok (.aload_n 0, 1) := by decide +kernel
theorem dX8_live_44 : decode cX8_live 44 = .ok (.getfield 240, 3) := by decide +kernel
theorem dX8_live_47 : decode cX8_live 47 = .ok (.aload_n 0, 1) := by decide +kernel
theorem dX8_live_48 : decode cX8_live 48 = .ok (.getfield 7, 3) := by decide +kernel
theorem dX8_live_51 : decode cX8_live 51 = .ok (.iadd, 1) := by decide +kernel
theorem dX8_live_52 : decode cX8_live 52 = .ok (.sipush 150, 3) := by decide +kernel
theorem dX8_live_55 : decode cX8_live 55 = .ok (.if_icmp .le 7, 3) := by decide +kernel
theorem dX8_live_58 : decode cX8_live 58 = .ok (.ldc2_w 217, 3) := by decide +kernel
theorem dX8_live_61 : decode cX8_live 61 = .ok (.lreturn, 1) := by decide +kernel
theorem dX8_live_62 : decode cX8_live 62 = .ok (.iconst 0, 1) := by decide +kernel
theorem dX8_live_63 : decode cX8_live 63 = .ok (.istore_n 3, 1) := by decide +kernel
theorem dX8_live_64 : decode cX8_live 64 = .ok (.iload_n 3, 1) := by decide +kernel
theorem dX8_live_65 : decode cX8_live 65 = .ok (.aload_n 0, 1) := by decide +kernel
theorem dX8_live_66 : decode cX8_live 66 = .ok (.getfield 7, 3) := by decide +kernel
theorem dX8_live_69 : decode cX8_live 69 = .ok (.if_icmp .ge 117, 3) := by decide +kernel
theorem dX8_live_72 : decode cX8_live 72 = .ok (.aload_n 0, 1) := by decide +kernel
theorem dX8_live_73 : decode cX8_live 73 = .ok (.getfield 57, 3) := by decide +kernel
theorem dX8_live_76 : decode cX8_live 76 = .ok (.bipush 36, 2) := by decide +kernel
theorem dX8_live_78 : decode cX8_live 78 = .ok (.iload_n 1, 1) := by decide +kernel
theorem dX8_live_79 : decode cX8_live 79 = .ok (.imul, 1) := by decide +kernel
theorem dX8_live_80 : decode cX8_live 80 = .ok (.iload_n 3, 1) := by decide +kernel
theorem dX8_live_81 : decode cX8_live 81 = .ok (.iadd, 1) := by decide +kernel
theorem dX8_live_82 : decode cX8_live 82 = .ok (.iaload, 1) := by decide +kernel
theorem dX8_live_83 : decode cX8_live 83 = .ok (.istore 4, 2) := by decide +kernel
theorem dX8_live_85 : decode cX8_live 85 = .ok (.aload_n 0, 1) := by decide +kernel
theorem dX8_live_86 : decode cX8_live 86 = .ok (.getfield 66, 3) := by decide +kernel
theorem dX8_live_89 : decode cX8_live 89 = .ok (.iconst 5, 1) := by decide +kernel
theorem dX8_live_90 : decode cX8_live 90 = .ok (.aload_n 0, 1) := by decide +kernel
theorem dX8_live_91 : decode cX8_live 91 = .ok (.getfield 240, 3) := by decide +kernel
theorem dX8_live_94 : decode cX8_live 94 = .ok (.imul, 1) := by decide +kernel
theorem dX8_live_95 : decode cX8_live 95 = .ok (.iload_n 1, 1) := by decide +kernel
theorem dX8_live_96 : decode cX8_live 96 = .ok (.i2l, 1) := by decide +kernel
theorem dX8_live_97 : decode cX8_live 97 = .ok (.lastore, 1) := by decide +kernel
theorem dX8_live_98 : decode cX8_live 98 = .ok (.aload_n 0, 1) := by decide +kernel
theorem dX8_live_99 : decode cX8_live 99 = .ok (.getfield 66, 3) := by decide +kernel
theorem dX8_live_102 : decode cX8_live 102 = .ok (.iconst 5, 1) := by decide +kernel
theorem dX8_live_103 : decode cX8_live 103 = .ok (.aload_n 0, 1) := by decide +kernel
theorem dX8_live_104 : decode cX8_live 104 = .ok (.getfield 240, 3) := by decide +kernel
theorem dX8_live_107 : decode cX8_live 107 = .ok (.imul, 1) := by decide +kernel
theorem dX8_live_108 : decode cX8_live 108 = .ok (.iconst 1, 1) := by decide +kernel
theorem dX8_live_109 : decode cX8_live 109 = .ok (.iadd, 1) := by decide +kernel
theorem dX8_live_110 : decode cX8_live 110 = .ok (.iload_n 2, 1) := by decide +kernel
theorem dX8_live_111 : decode cX8_live 111 = .ok (.i2l, 1) := by decide +kernel
theorem dX8_live_112 : decode cX8_live 112 = .ok (.lastore, 1) := by decide +kernel
theorem dX8_live_113 : decode cX8_live 113 = .ok (.aload_n 0, 1) := by decide +kernel
theorem dX8_live_114 : decode cX8_live 114 = .ok (.getfield 66, 3) := by decide +kernel
theorem dX8_live_117 : decode cX8_live 117 = .ok (.iconst 5, 1) := by decide +kernel
theorem dX8_live_118 : decode cX8_live 118 = .ok (.aload_n 0, 1) := by decide +kernel
theorem dX8_live_119 : decode cX8_live 119 = .ok (.getfield 240, 3) := by decide +kernel
theorem dX8_live_122 : decode cX8_live 122 = .ok (.imul, 1) := by decide +kernel
theorem dX8_live_123 : decode cX8_live 123 = .ok (.iconst 2, 1) := by decide +kernel
theorem dX8_live_124 : decode cX8_live 124 = .ok (.iadd, 1) := by decide +kernel
theorem dX8_live_125 : decode cX8_live 125 = .ok (.iload_n 3, 1) := by decide +kernel
theorem dX8_live_126 : decode cX8_live 126 = .ok (.i2l, 1) := by decide +kernel
theorem dX8_live_127 : decode cX8_live 127 = .ok (.lastore, 1) := by decide +kernel
theorem dX8_live_128 : decode cX8_live 128 = .ok (.aload_n 0, 1) := by decide +kernel
theorem dX8_live_129 : decode cX8_live 129 = .ok (.getfield 66, 3) := by decide +kernel
theorem dX8_live_132 : decode cX8_live 132 = .ok (.iconst 5, 1) := by decide +kernel
theorem dX8_live_133 : decode cX8_live 133 = .ok (.aload_n 0, 1) := by decide +kernel
theorem dX8_live_134 : decode cX8_live 134 = .ok (.getfield 240, 3) := by decide +kernel
theorem dX8_live_137 : decode cX8_live 137 = .ok (.imul, 1) := by decide +kernel
theorem dX8_live_138 : decode cX8_live 138 = .ok (.iconst 3, 1) := by decide +kernel
theorem dX8_live_139 : decode cX8_live 139 = .ok (.iadd, 1) := by decide +kernel
theorem dX8_live_140 : decode cX8_live 140 = .ok (.iload 4, 2) := by decide +kernel
theorem dX8_live_142 : decode cX8_live 142 = .ok (.i2l, 1) := by decide +kernel
theorem dX8_live_143 : decode cX8_live 143 = .ok (.lastore, 1) := by decide +kernel
theorem dX8_live_144 : decode cX8_live 144 = .ok (.aload_n 0, 1) := by decide +kernel
theorem dX8_live_145 : decode cX8_live 145 = .ok (.getfield 66, 3) := by decide +kernel
theorem dX8_live_148 : decode cX8_live 148 = .ok (.iconst 5, 1) := by decide +kernel
theorem dX8_live_149 : decode cX8_live 149 = .ok (.aload_n 0, 1) := by decide +kernel
theorem dX8_live_150 : decode cX8_live 150 = .ok (.getfield 240, 3) := by decide +kernel
theorem dX8_live_153 : decode cX8_live 153 = .ok (.imul, 1) := by decide +kernel
theorem dX8_live_154 : decode cX8_live 154 = .ok (.iconst 4, 1) := by decide +kernel
theorem dX8_live_155 : decode cX8_live 155 = .ok (.iadd, 1) := by decide +kernel
theorem dX8_live_156 : decode cX8_live 156 = .ok (.aload_n 0, 1) := by decide +kernel
theorem dX8_live_157 : decode cX8_live 157 = .ok (.iload_n 1, 1) := by decide +kernel
theorem dX8_live_158 : decode cX8_live 158 = .ok (.iload 4, 2) := by decide +kernel
theorem dX8_live_160 : decode cX8_live 160 = .ok (.aload_n 0, 1) := by decide +kernel
theorem dX8_live_161 : decode cX8_live 161 = .ok (.iload_n 2, 1) := by decide +kernel
theorem dX8_live_162 : decode cX8_live 162 = .ok (.iload_n 3, 1) := by decide +kernel
theorem dX8_live_163 : decode cX8_live 163 = .ok (.invokevirtual 110, 3) := by decide +kernel
theorem dX8_live_166 : decode cX8_live 166 = .ok (.invokevirtual 180, 3) := by decide +kernel
theorem dX8_live_169 : decode cX8_live 169 = .ok (.lastore, 1) := by decide +kernel
theorem dX8_live_170 : decode cX8_live 170 = .ok (.aload_n 0, 1) := by decide +kernel
theorem dX8_live_171 : decode cX8_live 171 = .ok (.dup, 1) := by decide +kernel
theorem dX8_live_172 : decode cX8_live 172 = .ok (.getfield 240, 3) := by decide +kernel
theorem dX8_live_175 : decode cX8_live 175 = .ok (.iconst 1, 1) := by decide +kernel
theorem dX8_live_176 : decode cX8_live 176 = .ok (.iadd, 1) := by decide +kernel
theorem dX8_live_177 : decode cX8_live 177 = .ok (.putfield 240, 3) := by decide +kernel
theorem dX8_live_180 : decode cX8_live 180 = .ok (.iinc 3 1, 3) := by decide +kernel
theorem dX8_live_183 : decode cX8_live 183 = .ok (.goto (-119), 3) := by decide +kernel
theorem dX8_live_186 : decode cX8_live 186 = .ok (.aload_n 0, 1) := by decide +kernel
theorem dX8_live_187 : decode cX8_live 187 = .ok (.getfield 36, 3) := by decide +kernel
theorem dX8_live_190 : decode cX8_live 190 = .ok (.iload_n 1, 1) := by decide +kernel
theorem dX8_live_191 : decode cX8_live 191 = .ok (.aload_n 0, 1) := by decide +kernel
theorem dX8_live_192 : decode cX8_live 192 = .ok (.iload_n 1, 1) := by decide +kernel
theorem dX8_live_193 : decode cX8_live 193 = .ok (.aload_n 0, 1) := by decide +kernel
theorem dX8_live_194 : decode cX8_live 194 = .ok (.getfield 7, 3) := by decide +kernel
theorem dX8_live_197 : decode cX8_live 197 = .ok (.iconst 1, 1) := by decide +kernel
theorem dX8_live_198 : decode cX8_live 198 = .ok (.isub, 1) := by decide +kernel
theorem dX8_live_199 : decode cX8_live 199 = .ok (.invokevirtual 165, 3) := by decide +kernel
theorem dX8_live_202 : decode cX8_live 202 = .ok (.iastore, 1) := by decide +kernel
theorem dX8_live_203 : decode cX8_live 203 = .ok (.aload_n 0, 1) := by decide +kernel
theorem dX8_live_204 : decode cX8_live 204 = .ok (.getfield 240, 3) := by decide +kernel
theorem dX8_live_207 : decode cX8_live 207 = .ok (.i2l, 1) := by decide +kernel
theorem dX8_live_208 : decode cX8_live 208 = .ok (.lreturn, 1) := by decide +kernel
theorem dX8_row_0 : decode cX8_row 0 = .ok (.iload_n 1, 1) := by decide +kernel
theorem dX8_row_1 : decode cX8_row 1 = .ok (.i2l, 1) := by decide +kernel
theorem dX8_row_2 : decode cX8_row 2 = .ok (.lconst 0, 1) := by decide +kernel
theorem dX8_row_3 : decode cX8_row 3 = .ok (.aload_n 0, 1) := by decide +kernel
theorem dX8_row_4 : decode cX8_row 4 = .ok (.getfield 240, 3) := by decide +kernel
theorem dX8_row_7 : decode cX8_row 7 = .ok (.iconst 1, 1) := by decide +kernel
theorem dX8_row_8 : decode cX8_row 8 = .ok (.isub, 1) := by decide +kernel
theorem dX8_row_9 : decode cX8_row 9 = .ok (.i2l, 1) := by decide +kernel
theorem dX8_row_10 : decode cX8_row 10 = .ok (.invokestatic 81, 3) := by decide +kernel
theorem dX8_row_13 : decode cX8_row 13 = .ok (.ifCond .eq 28, 3) := by decide +kernel
theorem dX8_row_16 : decode cX8_row 16 = .ok (.iload_n 2, 1) := by decide +kernel
theorem dX8_row_17 : decode cX8_row 17 = .ok (.i2l, 1) := by decide +kernel
theorem dX8_row_18 : decode cX8_row 18 = .ok (.lconst 0, 1) := by decide +kernel
theorem dX8_row_19 : decode cX8_row 19 = .ok (.ldc2_w 127, 3) := by decide +kernel
theorem dX8_row_22 : decode cX8_row 22 = .ok (.invokestatic 81, 3) := by decide +kernel
theorem dX8_row_25 : decode cX8_row 25 = .ok (.ifCond .eq 16, 3) := by decide +kernel
theorem dX8_row_28 : decode cX8_row 28 = .ok (.aload_n 0, 1) := by decide +kernel
theorem dX8_row_29 : decode cX8_row 29 = .ok (.getfield 66, 3) := by decide +kernel
theorem dX8_row_32 : decode cX8_row 32 = .ok (.iconst 5, 1) := by decide +kernel
theorem dX8_row_33 : decode cX8_row 33 = .ok (.iload_n 1, 1) := by decide +kernel
theorem dX8_row_34 : decode cX8_row 34 = .ok (.imul, 1) := by decide +kernel
theorem dX8_row_35 : decode cX8_row 35 = .ok (.iload_n 2, 1) := by decide +kernel
theorem dX8_row_36 : decode cX8_row 36 = .ok (.iadd, 1) := by decide +kernel
theorem dX8_row_37 : decode cX8_row 37 = .ok (.laload, 1) := by decide +kernel
theorem dX8_row_38 : decode cX8_row 38 = .ok (.goto 6, 3) := by decide +kernel
theorem dX8_row_41 : decode cX8_row 41 = .ok (.ldc2_w 87, 3) := by decide +kernel
theorem dX8_row_44 : decode cX8_row 44 = .ok (.lreturn, 1) := by decide +kernel
theorem dX8_forge_0 : decode cX8_forge 0 = .ok (.iload_n 1, 1) := by decide +kernel
theorem dX8_forge_1 : decode cX8_forge 1 = .ok (.i2l, 1) := by decide +kernel
theorem dX8_forge_2 : decode cX8_forge 2 = .ok (.lconst 0, 1) := by decide +kernel
theorem dX8_forge_3 : decode cX8_forge 3 = .ok (.aload_n 0, 1) := by decide +kernel
theorem dX8_forge_4 : decode cX8_forge 4 = .ok (.getfield 240, 3) := by decide +kernel
theorem dX8_forge_7 : decode cX8_forge 7 = .ok (.iconst 1, 1) := by decide +kernel
theorem dX8_forge_8 : decode cX8_forge 8 = .ok (.isub, 1) := by decide +kernel
theorem dX8_forge_9 : decode cX8_forge 9 = .ok (.i2l, 1) := by decide +kernel
theorem dX8_forge_10 : decode cX8_forge 10 = .ok (.invokestatic 81, 3) := by decide +kernel
theorem dX8_forge_13 : decode cX8_forge 13 = .ok (.ifCond .eq 36, 3) := by decide +kernel
theorem dX8_forge_16 : decode cX8_forge 16 = .ok (.iload_n 2, 1) := by decide +kernel
theorem dX8_forge_17 : decode cX8_forge 17 = .ok (.i2l, 1) := by decide +kernel
theorem dX8_forge_18 : decode cX8_forge 18 = .ok (.ldc2_w 79, 3) := by decide +kernel
theorem dX8_forge_21 : decode cX8_forge 21 = .ok (.ldc2_w 127, 3) := by decide +kernel
theorem dX8_forge_24 : decode cX8_forge 24 = .ok (.invokestatic 81, 3) := by decide +kernel
theorem dX8_forge_27 : decode cX8_forge 27 = .ok (.ifCond .eq 22, 3) := by decide +kernel
theorem dX8_forge_30 : decode cX8_forge 30 = .ok (.iload_n 2, 1) := by decide +kernel
theorem dX8_forge_31 : decode cX8_forge 31 = .ok (.iconst 3, 1) := by decide +kernel
theorem dX8_forge_32 : decode cX8_forge 32 = .ok (.if_icmp .ne 21, 3) := by decide +kernel
theorem dX8_forge_35 : decode cX8_forge 35 = .ok (.iload_n 3, 1) := by decide +kernel
theorem dX8_forge_36 : decode cX8_forge 36 = .ok (.i2l, 1) := by decide +kernel
theorem dX8_forge_37 : decode cX8_forge 37 = .ok (.ldc2_w 161, 3) := by decide +kernel
theorem dX8_forge_40 : decode cX8_forge 40 = .ok (.ldc2_w 163, 3) := by decide +kernel
theorem dX8_forge_43 : decode cX8_forge 43 = .ok (.invokestatic 81, 3) := by decide +kernel
theorem dX8_forge_46 : decode cX8_forge 46 = .ok (.ifCond .ne 7, 3) := by decide +kernel
theorem dX8_forge_49 : decode cX8_forge 49 = .ok (.ldc2_w 87, 3) := by decide +kernel
theorem dX8_forge_52 : decode cX8_forge 52 = .ok (.lreturn, 1) := by decide +kernel
theorem dX8_forge_53 : decode cX8_forge 53 = .ok (.aload_n 0, 1) := by decide +kernel
theorem dX8_forge_54 : decode cX8_forge 54 = .ok (.getfield 66, 3) := by decide +kernel
theorem dX8_forge_57 : decode cX8_forge 57 = .ok (.iconst 5, 1) := by decide +kernel
theorem dX8_forge_58 : decode cX8_forge 58 = .ok (.iload_n 1, 1) := by decide +kernel
theorem dX8_forge_59 : decode cX8_forge 59 = .ok (.imul, 1) := by decide +kernel
theorem dX8_forge_60 : decode cX8_forge 60 = .ok (.iload_n 2, 1) := by decide +kernel
theorem dX8_forge_61 : decode cX8_forge 61 = .ok (.iadd, 1) := by decide +kernel
theorem dX8_forge_62 : decode cX8_forge 62 = .ok (.laload, 1) := by decide +kernel
theorem dX8_forge_63 : decode cX8_forge 63 = .ok (.lstore 4, 2) := by decide +kernel
theorem dX8_forge_65 : decode cX8_forge 65 = .ok (.aload_n 0, 1) := by decide +kernel
theorem dX8_forge_66 : decode cX8_forge 66 = .ok (.getfield 66, 3) := by decide +kernel
theorem dX8_forge_69 : decode cX8_forge 69 = .ok (.iconst 5, 1) := by decide +kernel
theorem dX8_forge_70 : decode cX8_forge 70 = .ok (.iload_n 1, 1) := by decide +kernel
theorem dX8_forge_71 : decode cX8_forge 71 = .ok (.imul, 1) := by decide +kernel
theorem dX8_forge_72 : decode cX8_forge 72 = .ok (.iload_n 2, 1) := by decide +kernel
theorem dX8_forge_73 : decode cX8_forge 73 = .ok (.iadd, 1) := by decide +kernel
theorem dX8_forge_74 : decode cX8_forge 74 = .ok (.iload_n 3, 1) := by decide +kernel
theorem dX8_forge_75 : decode cX8_forge 75 = .ok (.i2l, 1) := by decide +kernel
theorem dX8_forge_76 : decode cX8_forge 76 = .ok (.lastore, 1) := by decide +kernel
theorem dX8_forge_77 : decode cX8_forge 77 = .ok (.lload 4, 2) := by decide +kernel
theorem dX8_forge_79 : decode cX8_forge 79 = .ok (.lreturn, 1) := by decide +kernel
theorem dX8_ahead_0 : decode cX8_ahead 0 = .ok (.aload_n 0, 1) := by decide +kernel
theorem dX8_ahead_1 : decode cX8_ahead 1 = .ok (.getfield 66, 3) := by decide +kernel
theorem dX8_ahead_4 : decode cX8_ahead 4 = .ok (.iconst 5, 1) := by decide +kernel
theorem dX8_ahead_5 : decode cX8_ahead 5 = .ok (.iload_n 1, 1) := by decide +kernel
theorem dX8_ahead_6 : decode cX8_ahead 6 = .ok (.imul, 1) := by decide +kernel
theorem dX8_ahead_7 : decode cX8_ahead 7 = .ok (.laload, 1) := by decide +kernel
theorem dX8_ahead_8 : decode cX8_ahead 8 = .ok (.l2i, 1) := by decide +kernel
theorem dX8_ahead_9 : decode cX8_ahead 9 = .ok (.istore_n 2, 1) := by decide +kernel
theorem dX8_ahead_10 : decode cX8_ahead 10 = .ok (.aload_n 0, 1) := by decide +kernel
theorem dX8_ahead_11 : decode cX8_ahead 11 = .ok (.getfield 36, 3) := by decide +kernel
theorem dX8_ahead_14 : decode cX8_ahead 14 = .ok (.iload_n 2, 1) := by decide +kernel
theorem dX8_ahead_15 : decode cX8_ahead 15 = .ok (.iaload, 1) := by decide +kernel
theorem dX8_ahead_16 : decode cX8_ahead 16 = .ok (.i2l, 1) := by decide +kernel
theorem dX8_ahead_17 : decode cX8_ahead 17 = .ok (.lstore_n 3, 1) := by decide +kernel
theorem dX8_ahead_18 : decode cX8_ahead 18 = .ok (.iload_n 1, 1) := by decide +kernel
theorem dX8_ahead_19 : decode cX8_ahead 19 = .ok (.istore 5, 2) := by decide +kernel
theorem dX8_ahead_21 : decode cX8_ahead 21 = .ok (.iload 5, 2) := by decide +kernel
theorem dX8_ahead_23 : decode cX8_ahead 23 = .ok (.aload_n 0, 1) := by decide +kernel
theorem dX8_ahead_24 : decode cX8_ahead 24 = .ok (.getfield 240, 3) := by decide +kernel
theorem dX8_ahead_27 : decode cX8_ahead 27 = .ok (.if_icmp .ge 42, 3) := by decide +kernel
theorem dX8_ahead_30 : decode cX8_ahead 30 = .ok (.lload_n 3, 1) := by decide +kernel
theorem dX8_ahead_31 : decode cX8_ahead 31 = .ok (.aload_n 0, 1) := by decide +kernel
theorem dX8_ahead_32 : decode cX8_ahead 32 = .ok (.getfield 66, 3) := by decide +kernel
theorem dX8_ahead_35 : decode cX8_ahead 35 = .ok (.iconst 5, 1) := by decide +kernel
theorem dX8_ahead_36 : decode cX8_ahead 36 = .ok (.iload 5, 2) := by decide +kernel
theorem dX8_ahead_38 : decode cX8_ahead 38 = .ok (.imul, 1) := by decide +kernel
theorem dX8_ahead_39 : decode cX8_ahead 39 = .ok (.laload, 1) := by decide +kernel
theorem dX8_ahead_40 : decode cX8_ahead 40 = .ok (.iload_n 2, 1) := by decide +kernel
theorem dX8_ahead_41 : decode cX8_ahead 41 = .ok (.i2l, 1) := by decide +kernel
theorem dX8_ahead_42 : decode cX8_ahead 42 = .ok (.lcmp, 1) := by decide +kernel
theorem dX8_ahead_43 : decode cX8_ahead 43 = .ok (.ifCond .ne 17, 3) := by decide +kernel
theorem dX8_ahead_46 : decode cX8_ahead 46 = .ok (.aload_n 0, 1) := by decide +kernel
theorem dX8_ahead_47 : decode cX8_ahead 47 = .ok (.getfield 66, 3) := by decide +kernel
theorem dX8_ahead_50 : decode cX8_ahead 50 = .ok (.iconst 5, 1) := by decide +kernel
theorem dX8_ahead_51 : decode cX8_ahead 51 = .ok (.iload 5, 2) := by decide +kernel
theorem dX8_ahead_53 : decode cX8_ahead 53 = .ok (.imul, 1) := by decide +kernel
theorem dX8_ahead_54 : decode cX8_ahead 54 = .ok (.iconst 3, 1) := by decide +kernel
theorem dX8_ahead_55 : decode cX8_ahead 55 = .ok (.iadd, 1) := by decide +kernel
theorem dX8_ahead_56 : decode cX8_ahead 56 = .ok (.laload, 1) := by decide +kernel
theorem dX8_ahead_57 : decode cX8_ahead 57 = .ok (.goto 4, 3) := by decide +kernel
theorem dX8_ahead_60 : decode cX8_ahead 60 = .ok (.lconst 0, 1) := by decide +kernel
theorem dX8_ahead_61 : decode cX8_ahead 61 = .ok (.lsub, 1) := by decide +kernel
theorem dX8_ahead_62 : decode cX8_ahead 62 = .ok (.lstore_n 3, 1) := by decide +kernel
theorem dX8_ahead_63 : decode cX8_ahead 63 = .ok (.iinc 5 1, 3) := by decide +kernel
theorem dX8_ahead_66 : decode cX8_ahead 66 = .ok (.goto (-45), 3) := by decide +kernel
theorem dX8_ahead_69 : decode cX8_ahead 69 = .ok (.lload_n 3, 1) := by decide +kernel
theorem dX8_ahead_70 : decode cX8_ahead 70 = .ok (.lreturn, 1) := by decide +kernel
theorem dX8_check_0 : decode cX8_check 0 = .ok (.iconst 0, 1) := by decide +kernel
theorem dX8_check_1 : decode cX8_check 1 = .ok (.istore_n 1, 1) := by decide +kernel
theorem dX8_check_2 : decode cX8_check 2 = .ok (.iload_n 1, 1) := by decide +kernel
theorem dX8_check_3 : decode cX8_check 3 = .ok (.aload_n 0, 1) := by decide +kernel
theorem dX8_check_4 : decode cX8_check 4 = .ok (.getfield 240, 3) := by decide +kernel
theorem dX8_check_7 : decode cX8_check 7 = .ok (.if_icmp .ge 108, 3) := by decide +kernel
theorem dX8_check_10 : decode cX8_check 10 = .ok (.aload_n 0, 1) := by decide +kernel
theorem dX8_check_11 : decode cX8_check 11 = .ok (.getfield 66, 3) := by decide +kernel
theorem dX8_check_14 : decode cX8_check 14 = .ok (.iconst 5, 1) := by decide +kernel
theorem dX8_check_15 : decode cX8_check 15 = .ok (.iload_n 1, 1) := by decide +kernel
theorem dX8_check_16 : decode cX8_check 16 = .ok (.imul, 1) := by decide +kernel
theorem dX8_check_17 : decode cX8_check 17 = .ok (.laload, 1) := by decide +kernel
theorem dX8_check_18 : decode cX8_check 18 = .ok (.l2i, 1) := by decide +kernel
theorem dX8_check_19 : decode cX8_check 19 = .ok (.istore_n 2, 1) := by decide +kernel
theorem dX8_check_20 : decode cX8_check 20 = .ok (.aload_n 0, 1) := by decide +kernel
theorem dX8_check_21 : decode cX8_check 21 = .ok (.getfield 30, 3) := by decide +kernel
theorem dX8_check_24 : decode cX8_check 24 = .ok (.iload_n 2, 1) := by decide +kernel
theorem dX8_check_25 : decode cX8_check 25 = .ok (.iaload, 1) := by decide +kernel
theorem dX8_check_26 : decode cX8_check 26 = .ok (.ifCond .lt 83, 3) := by decide +kernel
theorem dX8_check_29 : decode cX8_check 29 = .ok (.aload_n 0, 1) := by decide +kernel
theorem dX8_check_30 : decode cX8_check 30 = .ok (.iload_n 2, 1) := by decide +kernel
theorem dX8_check_31 : decode cX8_check 31 = .ok (.aload_n 0, 1) := by decide +kernel
theorem dX8_check_32 : decode cX8_check 32 = .ok (.getfield 66, 3) := by decide +kernel
theorem dX8_check_35 : decode cX8_check 35 = .ok (.iconst 5, 1) := by decide +kernel
theorem dX8_check_36 : decode cX8_check 36 = .ok (.iload_n 1, 1) := by decide +kernel
theorem dX8_check_37 : decode cX8_check 37 = .ok (.imul, 1) := by decide +kernel
theorem dX8_check_38 : decode cX8_check 38 = .ok (.iconst 3, 1) := by decide +kernel
theorem dX8_check_39 : decode cX8_check 39 = .ok (.iadd, 1) := by decide +kernel
theorem dX8_check_40 : decode cX8_check 40 = .ok (.laload, 1) := by decide +kernel
theorem dX8_check_41 : decode cX8_check 41 = .ok (.l2i, 1) := by decide +kernel
theorem dX8_check_42 : decode cX8_check 42 = .ok (.aload_n 0, 1) := by decide +kernel
theorem dX8_check_43 : decode cX8_check 43 = .ok (.aload_n 0, 1) := by decide +kernel
theorem dX8_check_44 : decode cX8_check 44 = .ok (.getfield 66, 3) := by decide +kernel
theorem dX8_check_47 : decode cX8_check 47 = .ok (.iconst 5, 1) := by decide +kernel
theorem dX8_check_48 : decode cX8_check 48 = .ok (.iload_n 1, 1) := by decide +kernel
theorem dX8_check_49 : decode cX8_check 49 = .ok (.imul, 1) := by decide +kernel
theorem dX8_check_50 : decode cX8_check 50 = .ok (.iconst 1, 1) := by decide +kernel
theorem dX8_check_51 : decode cX8_check 51 = .ok (.iadd, 1) := by decide +kernel
theorem dX8_check_52 : decode cX8_check 52 = .ok (.laload, 1) := by decide +kernel
theorem dX8_check_53 : decode cX8_check 53 = .ok (.l2i, 1) := by decide +kernel
theorem dX8_check_54 : decode cX8_check 54 = .ok (.aload_n 0, 1) := by decide +kernel
theorem dX8_check_55 : decode cX8_check 55 = .ok (.getfield 66, 3) := by decide +kernel
theorem dX8_check_58 : decode cX8_check 58 = .ok (.iconst 5, 1) := by decide +kernel
theorem dX8_check_59 : decode cX8_check 59 = .ok (.iload_n 1, 1) := by decide +kernel
theorem dX8_check_60 : decode cX8_check 60 = .ok (.imul, 1) := by decide +kernel
theorem dX8_check_61 : decode cX8_check 61 = .ok (.iconst 2, 1) := by decide +kernel
theorem dX8_check_62 : decode cX8_check 62 = .ok (.iadd, 1) := by decide +kernel
theorem dX8_check_63 : decode cX8_check 63 = .ok (.laload, 1) := by decide +kernel
theorem dX8_check_64 : decode cX8_check 64 = .ok (.l2i, 1) := by decide +kernel
theorem dX8_check_65 : decode cX8_check 65 = .ok (.invokevirtual 110, 3) := by decide +kernel
theorem dX8_check_68 : decode cX8_check 68 = .ok (.invokevirtual 180, 3) := by decide +kernel
theorem dX8_check_71 : decode cX8_check 71 = .ok (.lstore_n 3, 1) := by decide +kernel
theorem dX8_check_72 : decode cX8_check 72 = .ok (.aload_n 0, 1) := by decide +kernel
theorem dX8_check_73 : decode cX8_check 73 = .ok (.getfield 66, 3) := by decide +kernel
theorem dX8_check_76 : decode cX8_check 76 = .ok (.iconst 5, 1) := by decide +kernel
theorem dX8_check_77 : decode cX8_check 77 = .ok (.iload_n 1, 1) := by decide +kernel
theorem dX8_check_78 : decode cX8_check 78 = .ok (.imul, 1) := by decide +kernel
theorem dX8_check_79 : decode cX8_check 79 = .ok (.iconst 4, 1) := by decide +kernel
theorem dX8_check_80 : decode cX8_check 80 = .ok (.iadd, 1) := by decide +kernel
theorem dX8_check_81 : decode cX8_check 81 = .ok (.laload, 1) := by decide +kernel
theorem dX8_check_82 : decode cX8_check 82 = .ok (.lload_n 3, 1) := by decide +kernel
theorem dX8_check_83 : decode cX8_check 83 = .ok (.lcmp, 1) := by decide +kernel
theorem dX8_check_84 : decode cX8_check 84 = .ok (.ifCond .ne 22, 3) := by decide +kernel
theorem dX8_check_87 : decode cX8_check 87 = .ok (.aload_n 0, 1) := by decide +kernel
theorem dX8_check_88 : decode cX8_check 88 = .ok (.iload_n 1, 1) := by decide +kernel
theorem dX8_check_89 : decode cX8_check 89 = .ok (.invokevirtual 243, 3) := by decide +kernel
theorem dX8_check_92 : decode cX8_check 92 = .ok (.lconst 0, 1) := by decide +kernel
theorem dX8_check_93 : decode cX8_check 93 = .ok (.aload_n 0, 1) := by decide +kernel
theorem dX8_check_94 : decode cX8_check 94 = .ok (.getfield 33, 3) := by decide +kernel
theorem dX8_check_97 : decode cX8_check 97 = .ok (.iload_n 2, 1) := by decide +kernel
theorem dX8_check_98 : decode cX8_check 98 = .ok (.iaload, 1) := by decide +kernel
theorem dX8_check_99 : decode cX8_check 99 = .ok (.i2l, 1) := by decide +kernel
theorem dX8_check_100 : decode cX8_check 100 = .ok (.invokestatic 81, 3) := by decide +kernel
theorem dX8_check_103 : decode cX8_check 103 = .ok (.ifCond .ne 6, 3) := by decide +kernel
theorem dX8_check_106 : decode cX8_check 106 = .ok (.iload_n 1, 1) := by decide +kernel
theorem dX8_check_107 : decode cX8_check 107 = .ok (.i2l, 1) := by decide +kernel
theorem dX8_check_108 : decode cX8_check 108 = .ok (.lreturn, 1) := by decide +kernel
theorem dX8_check_109 : decode cX8_check 109 = .ok (.iinc 1 1, 3) := by decide +kernel
theorem dX8_check_112 : decode cX8_check 112 = .ok (.goto (-110), 3) := by decide +kernel
theorem dX8_check_115 : decode cX8_check 115 = .ok (.ldc2_w 175, 3) := by decide +kernel
theorem dX8_check_118 : decode cX8_check 118 = .ok (.lreturn, 1) := by decide +kernel
theorem dX8_shut_0 : decode cX8_shut 0 = .ok (.aload_n 0, 1) := by decide +kernel
theorem dX8_shut_1 : decode cX8_shut 1 = .ok (.getfield 240, 3) := by decide +kernel
theorem dX8_shut_4 : decode cX8_shut 4 = .ok (.i2l, 1) := by decide +kernel
theorem dX8_shut_5 : decode cX8_shut 5 = .ok (.lstore_n 1, 1) := by decide +kernel
theorem dX8_shut_6 : decode cX8_shut 6 = .ok (.aload_n 0, 1) := by decide +kernel
theorem dX8_shut_7 : decode cX8_shut 7 = .ok (.iconst 0, 1) := by decide +kernel
theorem dX8_shut_8 : decode cX8_shut 8 = .ok (.putfield 240, 3) := by decide +kernel
theorem dX8_shut_11 : decode cX8_shut 11 = .ok (.lload_n 1, 1) := by decide +kernel
theorem dX8_shut_12 : decode cX8_shut 12 = .ok (.lreturn, 1) := by decide +kernel
theorem dX8_warrant_0 : decode cX8_warrant 0 = .ok (.iload_n 1, 1) := by decide +kernel
theorem dX8_warrant_1 : decode cX8_warrant 1 = .ok (.invokestatic 124, 3) := by decide +kernel
theorem dX8_warrant_4 : decode cX8_warrant 4 = .ok (.ifCond .eq 15, 3) := by decide +kernel
theorem dX8_warrant_7 : decode cX8_warrant 7 = .ok (.iload_n 2, 1) := by decide +kernel
theorem dX8_warrant_8 : decode cX8_warrant 8 = .ok (.i2l, 1) := by decide +kernel
theorem dX8_warrant_9 : decode cX8_warrant 9 = .ok (.lconst 0, 1) := by decide +kernel
theorem dX8_warrant_10 : decode cX8_warrant 10 = .ok (.ldc2_w 246, 3) := by decide +kernel
theorem dX8_warrant_13 : decode cX8_warrant 13 = .ok (.invokestatic 81, 3) := by decide +kernel
theorem dX8_warrant_16 : decode cX8_warrant 16 = .ok (.ifCond .ne 7, 3) := by decide +kernel
theorem dX8_warrant_19 : decode cX8_warrant 19 = .ok (.ldc2_w 87, 3) := by decide +kernel
theorem dX8_warrant_22 : decode cX8_warrant 22 = .ok (.lreturn, 1) := by decide +kernel
theorem dX8_warrant_23 : decode cX8_warrant 23 = .ok (.aload_n 0, 1) := by decide +kernel
theorem dX8_warrant_24 : decode cX8_warrant 24 = .ok (.getfield 30, 3) := by decide +kernel
theorem dX8_warrant_27 : decode cX8_warrant 27 = .ok (.iload_n 1, 1) := by decide +kernel
theorem dX8_warrant_28 : decode cX8_warrant 28 = .ok (.iaload, 1) := by decide +kernel
theorem dX8_warrant_29 : decode cX8_warrant 29 = .ok (.ifCond .ge 7, 3) := by decide +kernel
theorem dX8_warrant_32 : decode cX8_warrant 32 = .ok (.ldc2_w 108, 3) := by decide +kernel
theorem dX8_warrant_35 : decode cX8_warrant 35 = .ok (.lreturn, 1) := by decide +kernel
theorem dX8_warrant_36 : decode cX8_warrant 36 = .ok (.aload_n 0, 1) := by decide +kernel
theorem dX8_warrant_37 : decode cX8_warrant 37 = .ok (.getfield 54, 3) := by decide +kernel
theorem dX8_warrant_40 : decode cX8_warrant 40 = .ok (.iload_n 1, 1) := by decide +kernel
theorem dX8_warrant_41 : decode cX8_warrant 41 = .ok (.iaload, 1) := by decide +kernel
theorem dX8_warrant_42 : decode cX8_warrant 42 = .ok (.i2l, 1) := by decide +kernel
theorem dX8_warrant_43 : decode cX8_warrant 43 = .ok (.lstore_n 3, 1) := by decide +kernel
theorem dX8_warrant_44 : decode cX8_warrant 44 = .ok (.aload_n 0, 1) := by decide +kernel
theorem dX8_warrant_45 : decode cX8_warrant 45 = .ok (.getfield 54, 3) := by decide +kernel
theorem dX8_warrant_48 : decode cX8_warrant 48 = .ok (.iload_n 1, 1) := by decide +kernel
theorem dX8_warrant_49 : decode cX8_warrant 49 = .ok (.iload_n 2, 1) := by decide +kernel
theorem dX8_warrant_50 : decode cX8_warrant 50 = .ok (.iastore, 1) := by decide +kernel
theorem dX8_warrant_51 : decode cX8_warrant 51 = .ok (.lload_n 3, 1) := by decide +kernel
theorem dX8_warrant_52 : decode cX8_warrant 52 = .ok (.lreturn, 1) := by decide +kernel
theorem dX8_voided_0 : decode cX8_voided 0 = .ok (.aload_n 0, 1) := by decide +kernel
theorem dX8_voided_1 : decode cX8_voided 1 = .ok (.iload_n 1, 1) := by decide +kernel
theorem dX8_voided_2 : decode cX8_voided 2 = .ok (.invokevirtual 142, 3) := by decide +kernel
theorem dX8_voided_5 : decode cX8_voided 5 = .ok (.lstore_n 2, 1) := by decide +kernel
theorem dX8_voided_6 : decode cX8_voided 6 = .ok (.lload_n 2, 1) := by decide +kernel
theorem dX8_voided_7 : decode cX8_voided 7 = .ok (.lconst 0, 1) := by decide +kernel
theorem dX8_voided_8 : decode cX8_voided 8 = .ok (.lcmp, 1) := by decide +kernel
theorem dX8_voided_9 : decode cX8_voided 9 = .ok (.ifCond .eq 5, 3) := by decide +kernel
theorem dX8_voided_12 : decode cX8_voided 12 = .ok (.lload_n 2, 1) := by decide +kernel
theorem dX8_voided_13 : decode cX8_voided 13 = .ok (.lreturn, 1) := by decide +kernel
theorem dX8_voided_14 : decode cX8_voided 14 = .ok (.lconst 0, 1) := by decide +kernel
theorem dX8_voided_15 : decode cX8_voided 15 = .ok (.lstore 4, 2) := by decide +kernel
theorem dX8_voided_17 : decode cX8_voided 17 = .ok (.iconst 0, 1) := by decide +kernel
theorem dX8_voided_18 : decode cX8_voided 18 = .ok (.istore 6, 2) := by decide +kernel
theorem dX8_voided_20 : decode cX8_voided 20 = .ok (.iload 6, 2) := by decide +kernel
theorem dX8_voided_22 : decode cX8_voided 22 = .ok (.aload_n 0, 1) := by decide +kernel
theorem dX8_voided_23 : decode cX8_voided 23 = .ok (.getfield 240, 3) := by decide +kernel
theorem dX8_voided_26 : decode cX8_voided 26 = .ok (.if_icmp .ge 78, 3) := by decide +kernel
theorem dX8_voided_29 : decode cX8_voided 29 = .ok (.aload_n 0, 1) := by decide +kernel
theorem dX8_voided_30 : decode cX8_voided 30 = .ok (.getfield 66, 3) := by decide +kernel
theorem dX8_voided_33 : decode cX8_voided 33 = .ok (.iconst 5, 1) := by decide +kernel
theorem dX8_voided_34 : decode cX8_voided 34 = .ok (.iload 6, 2) := by decide +kernel
theorem dX8_voided_36 : decode cX8_voided 36 = .ok (.imul, 1) := by decide +kernel
theorem dX8_voided_37 : decode cX8_voided 37 = .ok (.iconst 3, 1) := by decide +kernel
theorem dX8_voided_38 : decode cX8_voided 38 = .ok (.iadd, 1) := by decide +kernel
theorem dX8_voided_39 : decode cX8_voided 39 = .ok (.laload, 1) := by decide +kernel
theorem dX8_voided_40 : decode cX8_voided 40 = .ok (.lstore 7, 2) := by decide +kernel
theorem dX8_voided_42 : decode cX8_voided 42 = .ok (.lload 4, 2) := by decide +kernel
theorem dX8_voided_44 : decode cX8_voided 44 = .ok (.aload_n 0, 1) := by decide +kernel
theorem dX8_voided_45 : decode cX8_voided 45 = .ok (.getfield 66, 3) := by decide +kernel
theorem dX8_voided_48 : decode cX8_voided 48 = .ok (.iconst 5, 1) := by decide +kernel
theorem dX8_voided_49 : decode cX8_voided 49 = .ok (.iload 6, 2) := by decide +kernel
theorem dX8_voided_51 : decode cX8_voided 51 = .ok (.imul, 1) := by decide +kernel
theorem dX8_voided_52 : decode cX8_voided 52 = .ok (.laload, 1) := by decide +kernel
theorem dX8_voided_53 : decode cX8_voided 53 = .ok (.iload_n 1, 1) := by decide +kernel
theorem dX8_voided_54 : decode cX8_voided 54 = .ok (.i2l, 1) := by decide +kernel
theorem dX8_voided_55 : decode cX8_voided 55 = .ok (.lcmp, 1) := by decide +kernel
theorem dX8_voided_56 : decode cX8_voided 56 = .ok (.ifCond .eq 7, 3) := by decide +kernel
theorem dX8_voided_59 : decode cX8_voided 59 = .ok (.lconst 0, 1) := by decide +kernel
theorem dX8_voided_60 : decode cX8_voided 60 = .ok (.goto 18, 3) := by decide +kernel
theorem dX8_voided_63 : decode cX8_voided 63 = .ok (.lload 7, 2) := by decide +kernel
theorem dX8_voided_65 : decode cX8_voided 65 = .ok (.lconst 0, 1) := by decide +kernel
theorem dX8_voided_66 : decode cX8_voided 66 = .ok (.lcmp, 1) := by decide +kernel
theorem dX8_voided_67 : decode cX8_voided 67 = .ok (.ifCond .ge 9, 3) := by decide +kernel
theorem dX8_voided_70 : decode cX8_voided 70 = .ok (.lload 7, 2) := by decide +kernel
theorem dX8_voided_72 : decode cX8_voided 72 = .ok (.lneg, 1) := by decide +kernel
theorem dX8_voided_73 : decode cX8_voided 73 = .ok (.goto 5, 3) := by decide +kernel
theorem dX8_voided_76 : decode cX8_voided 76 = .ok (.lload 7, 2) := by decide +kernel
theorem dX8_voided_78 : decode cX8_voided 78 = .ok (.ladd, 1) := by decide +kernel
theorem dX8_voided_79 : decode cX8_voided 79 = .ok (.lstore 4, 2) := by decide +kernel
theorem dX8_voided_81 : decode cX8_voided 81 = .ok (.lload 4, 2) := by decide +kernel
theorem dX8_voided_83 : decode cX8_voided 83 = .ok (.aload_n 0, 1) := by decide +kernel
theorem dX8_voided_84 : decode cX8_voided 84 = .ok (.getfield 54, 3) := by decide +kernel
theorem dX8_voided_87 : decode cX8_voided 87 = .ok (.iload_n 1, 1) := by decide +kernel
theorem dX8_voided_88 : decode cX8_voided 88 = .ok (.iaload, 1) := by decide +kernel
theorem dX8_voided_89 : decode cX8_voided 89 = .ok (.i2l, 1) := by decide +kernel
theorem dX8_voided_90 : decode cX8_voided 90 = .ok (.lcmp, 1) := by decide +kernel
theorem dX8_voided_91 : decode cX8_voided 91 = .ok (.ifCond .le 7, 3) := by decide +kernel
theorem dX8_voided_94 : decode cX8_voided 94 = .ok (.iload 6, 2) := by decide +kernel
theorem dX8_voided_96 : decode cX8_voided 96 = .ok (.i2l, 1) := by decide +kernel
theorem dX8_voided_97 : decode cX8_voided 97 = .ok (.lreturn, 1) := by decide +kernel
theorem dX8_voided_98 : decode cX8_voided 98 = .ok (.iinc 6 1, 3) := by decide +kernel
theorem dX8_voided_101 : decode cX8_voided 101 = .ok (.goto (-81), 3) := by decide +kernel
theorem dX8_voided_104 : decode cX8_voided 104 = .ok (.ldc2_w 175, 3) := by decide +kernel
theorem dX8_voided_107 : decode cX8_voided 107 = .ok (.lreturn, 1) := by decide +kernel
theorem dX8_count_0 : decode cX8_count 0 = .ok (.lconst 0, 1) := by decide +kernel
theorem dX8_count_1 : decode cX8_count 1 = .ok (.lstore_n 2, 1) := by decide +kernel
theorem dX8_count_2 : decode cX8_count 2 = .ok (.iload_n 1, 1) := by decide +kernel
theorem dX8_count_3 : decode cX8_count 3 = .ok (.tableswitch 244 0 7 #[45, 80, 86, 92, 98, 133, 172, 210], 45) := by decide +kernel
theorem dX8_count_48 : decode cX8_count 48 = .ok (.iconst 0, 1) := by decide +kernel
theorem dX8_count_49 : decode cX8_count 49 = .ok (.istore 4, 2) := by decide +kernel
theorem dX8_count_51 : decode cX8_count 51 = .ok (.iload 4, 2) := by decide +kernel
theorem dX8_count_53 : decode cX8_count 53 = .ok (.iconst 4, 1) := by decide +kernel
theorem dX8_count_54 : decode cX8_count 54 = .ok (.if_icmp .ge 27, 3) := by decide +kernel
theorem dX8_count_57 : decode cX8_count 57 = .ok (.lload_n 2, 1) := by decide +kernel
theorem dX8_count_58 : decode cX8_count 58 = .ok (.aload_n 0, 1) := by decide +kernel
theorem dX8_count_59 : decode cX8_count 59 = .ok (.getfield 30, 3) := by decide +kernel
theorem dX8_count_62 : decode cX8_count 62 = .ok (.iload 4, 2) := by decide +kernel
theorem dX8_count_64 : decode cX8_count 64 = .ok (.iaload, 1) := by decide +kernel
theorem dX8_count_65 : decode cX8_count 65 = .ok (.ifCond .lt 7, 3) := by decide +kernel
theorem dX8_count_68 : decode cX8_count 68 = .ok (.lconst 1, 1) := by decide +kernel
theorem dX8_count_69 : decode cX8_count 69 = .ok (.goto 4, 3) := by decide +kernel
theorem dX8_count_72 : decode cX8_count 72 = .ok (.lconst 0, 1) := by decide +kernel
theorem dX8_count_73 : decode cX8_count 73 = .ok (.ladd, 1) := by decide +kernel
theorem dX8_count_74 : decode cX8_count 74 = .ok (.lstore_n 2, 1) := by decide +kernel
theorem dX8_count_75 : decode cX8_count 75 = .ok (.iinc 4 1, 3) := by decide +kernel
theorem dX8_count_78 : decode cX8_count 78 = .ok (.goto (-27), 3) := by decide +kernel
theorem dX8_count_81 : decode cX8_count 81 = .ok (.lload_n 2, 1) := by decide +kernel
theorem dX8_count_82 : decode cX8_count 82 = .ok (.lreturn, 1) := by decide +kernel
theorem dX8_count_83 : decode cX8_count 83 = .ok (.aload_n 0, 1) := by decide +kernel
theorem dX8_count_84 : decode cX8_count 84 = .ok (.getfield 7, 3) := by decide +kernel
theorem dX8_count_87 : decode cX8_count 87 = .ok (.i2l, 1) := by decide +kernel
theorem dX8_count_88 : decode cX8_count 88 = .ok (.lreturn, 1) := by decide +kernel
theorem dX8_count_89 : decode cX8_count 89 = .ok (.aload_n 0, 1) := by decide +kernel
theorem dX8_count_90 : decode cX8_count 90 = .ok (.getfield 89, 3) := by decide +kernel
theorem dX8_count_93 : decode cX8_count 93 = .ok (.i2l, 1) := by decide +kernel
theorem dX8_count_94 : decode cX8_count 94 = .ok (.lreturn, 1) := by decide +kernel
theorem dX8_count_95 : decode cX8_count 95 = .ok (.aload_n 0, 1) := by decide +kernel
theorem dX8_count_96 : decode cX8_count 96 = .ok (.getfield 240, 3) := by decide +kernel
theorem dX8_count_99 : decode cX8_count 99 = .ok (.i2l, 1) := by decide +kernel
theorem dX8_count_100 : decode cX8_count 100 = .ok (.lreturn, 1) := by decide +kernel
theorem dX8_count_101 : decode cX8_count 101 = .ok (.iconst 0, 1) := by decide +kernel
theorem dX8_count_102 : decode cX8_count 102 = .ok (.istore 4, 2) := by decide +kernel
theorem dX8_count_104 : decode cX8_count 104 = .ok (.iload 4, 2) := by decide +kernel
theorem dX8_count_106 : decode cX8_count 106 = .ok (.iconst 4, 1) := by decide +kernel
theorem dX8_count_107 : decode cX8_count 107 = .ok (.if_icmp .ge 27, 3) := by decide +kernel
theorem dX8_count_110 : decode cX8_count 110 = .ok (.lload_n 2, 1) := by decide +kernel
theorem dX8_count_111 : decode cX8_count 111 = .ok (.aload_n 0, 1) := by decide +kernel
theorem dX8_count_112 : decode cX8_count 112 = .ok (.getfield 21, 3) := by decide +kernel
theorem dX8_count_115 : decode cX8_count 115 = .ok (.iload 4, 2) := by decide +kernel
theorem dX8_count_117 : decode cX8_count 117 = .ok (.iaload, 1) := by decide +kernel
theorem dX8_count_118 : decode cX8_count 118 = .ok (.ifCond .lt 7, 3) := by decide +kernel
theorem dX8_count_121 : decode cX8_count 121 = .ok (.lconst 1, 1) := by decide +kernel
theorem dX8_count_122 : decode cX8_count 122 = .ok (.goto 4, 3) := by decide +kernel
theorem dX8_count_125 : decode cX8_count 125 = .ok (.lconst 0, 1) := by decide +kernel
theorem dX8_count_126 : decode cX8_count 126 = .ok (.ladd, 1) := by decide +kernel
theorem dX8_count_127 : decode cX8_count 127 = .ok (.lstore_n 2, 1) := by decide +kernel
theorem dX8_count_128 : decode cX8_count 128 = .ok (.iinc 4 1, 3) := by decide +kernel
theorem dX8_count_131 : decode cX8_count 131 = .ok (.goto (-27), 3) := by decide +kernel
theorem dX8_count_134 : decode cX8_count 134 = .ok (.lload_n 2, 1) := by decide +kernel
theorem dX8_count_135 : decode cX8_count 135 = .ok (.lreturn, 1) := by decide +kernel
theorem dX8_count_136 : decode cX8_count 136 = .ok (.iconst 0, 1) := by decide +kernel
theorem dX8_count_137 : decode cX8_count 137 = .ok (.istore 4, 2) := by decide +kernel
theorem dX8_count_139 : decode cX8_count 139 = .ok (.iload 4, 2) := by decide +kernel
theorem dX8_count_141 : decode cX8_count 141 = .ok (.bipush 36, 2) := by decide +kernel
theorem dX8_count_143 : decode cX8_count 143 = .ok (.if_icmp .ge 30, 3) := by decide +kernel
theorem dX8_count_146 : decode cX8_count 146 = .ok (.lload_n 2, 1) := by decide +kernel
theorem dX8_count_147 : decode cX8_count 147 = .ok (.aload_n 0, 1) := by decide +kernel
theorem dX8_count_148 : decode cX8_count 148 = .ok (.getfield 63, 3) := by decide +kernel
theorem dX8_count_151 : decode cX8_count 151 = .ok (.iload 4, 2) := by decide +kernel
theorem dX8_count_153 : decode cX8_count 153 = .ok (.iaload, 1) := by decide +kernel
theorem dX8_count_154 : decode cX8_count 154 = .ok (.sipush (-1001), 3) := by decide +kernel
theorem dX8_count_157 : decode cX8_count 157 = .ok (.if_icmp .eq 7, 3) := by decide +kernel
theorem dX8_count_160 : decode cX8_count 160 = .ok (.lconst 1, 1) := by decide +kernel
theorem dX8_count_161 : decode cX8_count 161 = .ok (.goto 4, 3) := by decide +kernel
theorem dX8_count_164 : decode cX8_count 164 = .ok (.lconst 0, 1) := by decide +kernel
theorem dX8_count_165 : decode cX8_count 165 = .ok (.ladd, 1) := by decide +kernel
theorem dX8_count_166 : decode cX8_count 166 = .ok (.lstore_n 2, 1) := by decide +kernel
theorem dX8_count_167 : decode cX8_count 167 = .ok (.iinc 4 1, 3) := by decide +kernel
theorem dX8_count_170 : decode cX8_count 170 = .ok (.goto (-31), 3) := by decide +kernel
theorem dX8_count_173 : decode cX8_count 173 = .ok (.lload_n 2, 1) := by decide +kernel
theorem dX8_count_174 : decode cX8_count 174 = .ok (.lreturn, 1) := by decide +kernel
theorem dX8_count_175 : decode cX8_count 175 = .ok (.iconst 0, 1) := by decide +kernel
theorem dX8_count_176 : decode cX8_count 176 = .ok (.istore 4, 2) := by decide +kernel
theorem dX8_count_178 : decode cX8_count 178 = .ok (.iload 4, 2) := by decide +kernel
theorem dX8_count_180 : decode cX8_count 180 = .ok (.aload_n 0, 1) := by decide +kernel
theorem dX8_count_181 : decode cX8_count 181 = .ok (.getfield 7, 3) := by decide +kernel
theorem dX8_count_184 : decode cX8_count 184 = .ok (.if_icmp .ge 27, 3) := by decide +kernel
theorem dX8_count_187 : decode cX8_count 187 = .ok (.lload_n 2, 1) := by decide +kernel
theorem dX8_count_188 : decode cX8_count 188 = .ok (.aload_n 0, 1) := by decide +kernel
theorem dX8_count_189 : decode cX8_count 189 = .ok (.getfield 13, 3) := by decide +kernel
theorem dX8_count_192 : decode cX8_count 192 = .ok (.iload 4, 2) := by decide +kernel
theorem dX8_count_194 : decode cX8_count 194 = .ok (.baload, 1) := by decide +kernel
theorem dX8_count_195 : decode cX8_count 195 = .ok (.ifCond .eq 7, 3) := by decide +kernel
theorem dX8_count_198 : decode cX8_count 198 = .ok (.lconst 1, 1) := by decide +kernel
theorem dX8_count_199 : decode cX8_count 199 = .ok (.goto 4, 3) := by decide +kernel
theorem dX8_count_202 : decode cX8_count 202 = .ok (.lconst 0, 1) := by decide +kernel
theorem dX8_count_203 : decode cX8_count 203 = .ok (.ladd, 1) := by decide +kernel
theorem dX8_count_204 : decode cX8_count 204 = .ok (.lstore_n 2, 1) := by decide +kernel
theorem dX8_count_205 : decode cX8_count 205 = .ok (.iinc 4 1, 3) := by decide +kernel
theorem dX8_count_208 : decode cX8_count 208 = .ok (.goto (-30), 3) := by decide +kernel
theorem dX8_count_211 : decode cX8_count 211 = .ok (.lload_n 2, 1) := by decide +kernel
theorem dX8_count_212 : decode cX8_count 212 = .ok (.lreturn, 1) := by decide +kernel
theorem dX8_count_213 : decode cX8_count 213 = .ok (.iconst 0, 1) := by decide +kernel
theorem dX8_count_214 : decode cX8_count 214 = .ok (.istore 4, 2) := by decide +kernel
theorem dX8_count_216 : decode cX8_count 216 = .ok (.iload 4, 2) := by decide +kernel
theorem dX8_count_218 : decode cX8_count 218 = .ok (.aload_n 0, 1) := by decide +kernel
theorem dX8_count_219 : decode cX8_count 219 = .ok (.getfield 240, 3) := by decide +kernel
theorem dX8_count_222 : decode cX8_count 222 = .ok (.if_icmp .ge 23, 3) := by decide +kernel
theorem dX8_count_225 : decode cX8_count 225 = .ok (.lload_n 2, 1) := by decide +kernel
theorem dX8_count_226 : decode cX8_count 226 = .ok (.aload_n 0, 1) := by decide +kernel
theorem dX8_count_227 : decode cX8_count 227 = .ok (.getfield 66, 3) := by decide +kernel
theorem dX8_count_230 : decode cX8_count 230 = .ok (.iconst 5, 1) := by decide +kernel
theorem dX8_count_231 : decode cX8_count 231 = .ok (.iload 4, 2) := by decide +kernel
theorem dX8_count_233 : decode cX8_count 233 = .ok (.imul, 1) := by decide +kernel
theorem dX8_count_234 : decode cX8_count 234 = .ok (.iconst 4, 1) := by decide +kernel
theorem dX8_count_235 : decode cX8_count 235 = .ok (.iadd, 1) := by decide +kernel
theorem dX8_count_236 : decode cX8_count 236 = .ok (.laload, 1) := by decide +kernel
theorem dX8_count_237 : decode cX8_count 237 = .ok (.ladd, 1) := by decide +kernel
theorem dX8_count_238 : decode cX8_count 238 = .ok (.lstore_n 2, 1) := by decide +kernel
theorem dX8_count_239 : decode cX8_count 239 = .ok (.iinc 4 1, 3) := by decide +kernel
theorem dX8_count_242 : decode cX8_count 242 = .ok (.goto (-26), 3) := by decide +kernel
theorem dX8_count_245 : decode cX8_count 245 = .ok (.lload_n 2, 1) := by decide +kernel
theorem dX8_count_246 : decode cX8_count 246 = .ok (.lreturn, 1) := by decide +kernel
theorem dX8_count_247 : decode cX8_count 247 = .ok (.ldc2_w 87, 3) := by decide +kernel
theorem dX8_count_250 : decode cX8_count 250 = .ok (.lreturn, 1) := by decide +kernel
