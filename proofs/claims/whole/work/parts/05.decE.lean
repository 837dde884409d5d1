theorem dX8_about_121 : decode cX8_about 121 = .ok (.i2l, 1) := by decide +kernel
theorem dX8_about_122 : decode cX8_about 122 = .ok (.lreturn, 1) := by decide +kernel
theorem dX8_about_123 : decode cX8_about 123 = .ok (.aload_n 0, 1) := by decide +kernel
theorem dX8_about_124 : decode cX8_about 124 = .ok (.iload_n 1, 1) := by decide +kernel
theorem dX8_about_125 : decode cX8_about 125 = .ok (.invokevirtual 152, 3) := by decide +kernel
theorem dX8_about_128 : decode cX8_about 128 = .ok (.i2l, 1) := by decide +kernel
theorem dX8_about_129 : decode cX8_about 129 = .ok (.lreturn, 1) := by decide +kernel
theorem dX8_about_130 : decode cX8_about 130 = .ok (.aload_n 0, 1) := by decide +kernel
theorem dX8_about_131 : decode cX8_about 131 = .ok (.iload_n 1, 1) := by decide +kernel
theorem dX8_about_132 : decode cX8_about 132 = .ok (.invokevirtual 155, 3) := by decide +kernel
theorem dX8_about_135 : decode cX8_about 135 = .ok (.i2l, 1) := by decide +kernel
theorem dX8_about_136 : decode cX8_about 136 = .ok (.lreturn, 1) := by decide +kernel
theorem dX8_about_137 : decode cX8_about 137 = .ok (.aload_n 0, 1) := by decide +kernel
theorem dX8_about_138 : decode cX8_about 138 = .ok (.getfield 48, 3) := by decide +kernel
theorem dX8_about_141 : decode cX8_about 141 = .ok (.iload_n 1, 1) := by decide +kernel
theorem dX8_about_142 : decode cX8_about 142 = .ok (.iaload, 1) := by decide +kernel
theorem dX8_about_143 : decode cX8_about 143 = .ok (.i2l, 1) := by decide +kernel
theorem dX8_about_144 : decode cX8_about 144 = .ok (.lreturn, 1) := by decide +kernel
theorem dX8_about_145 : decode cX8_about 145 = .ok (.aload_n 0, 1) := by decide +kernel
theorem dX8_about_146 : decode cX8_about 146 = .ok (.iload_n 1, 1) := by decide +kernel
theorem dX8_about_147 : decode cX8_about 147 = .ok (.invokevirtual 132, 3) := by decide +kernel
theorem dX8_about_150 : decode cX8_about 150 = .ok (.i2l, 1) := by decide +kernel
theorem dX8_about_151 : decode cX8_about 151 = .ok (.lreturn, 1) := by decide +kernel
theorem dX8_about_152 : decode cX8_about 152 = .ok (.aload_n 0, 1) := by decide +kernel
theorem dX8_about_153 : decode cX8_about 153 = .ok (.iload_n 1, 1) := by decide +kernel
theorem dX8_about_154 : decode cX8_about 154 = .ok (.invokevirtual 146, 3) := by decide +kernel
theorem dX8_about_157 : decode cX8_about 157 = .ok (.i2l, 1) := by decide +kernel
theorem dX8_about_158 : decode cX8_about 158 = .ok (.lreturn, 1) := by decide +kernel
theorem dX8_about_159 : decode cX8_about 159 = .ok (.aload_n 0, 1) := by decide +kernel
theorem dX8_about_160 : decode cX8_about 160 = .ok (.getfield 51, 3) := by decide +kernel
theorem dX8_about_163 : decode cX8_about 163 = .ok (.iload_n 1, 1) := by decide +kernel
theorem dX8_about_164 : decode cX8_about 164 = .ok (.iaload, 1) := by decide +kernel
theorem dX8_about_165 : decode cX8_about 165 = .ok (.i2l, 1) := by decide +kernel
theorem dX8_about_166 : decode cX8_about 166 = .ok (.lreturn, 1) := by decide +kernel
theorem dX8_about_167 : decode cX8_about 167 = .ok (.aload_n 0, 1) := by decide +kernel
theorem dX8_about_168 : decode cX8_about 168 = .ok (.getfield 54, 3) := by decide +kernel
theorem dX8_about_171 : decode cX8_about 171 = .ok (.iload_n 1, 1) := by decide +kernel
theorem dX8_about_172 : decode cX8_about 172 = .ok (.iaload, 1) := by decide +kernel
theorem dX8_about_173 : decode cX8_about 173 = .ok (.i2l, 1) := by decide +kernel
theorem dX8_about_174 : decode cX8_about 174 = .ok (.lreturn, 1) := by decide +kernel
theorem dX8_isOf_0 : decode cX8_isOf 0 = .ok (.iload_n 1, 1) := by decide +kernel
theorem dX8_isOf_1 : decode cX8_isOf 1 = .ok (.invokestatic 124, 3) := by decide +kernel
theorem dX8_isOf_4 : decode cX8_isOf 4 = .ok (.ifCond .eq 15, 3) := by decide +kernel
theorem dX8_isOf_7 : decode cX8_isOf 7 = .ok (.iload_n 2, 1) := by decide +kernel
theorem dX8_isOf_8 : decode cX8_isOf 8 = .ok (.i2l, 1) := by decide +kernel
theorem dX8_isOf_9 : decode cX8_isOf 9 = .ok (.lconst 0, 1) := by decide +kernel
theorem dX8_isOf_10 : decode cX8_isOf 10 = .ok (.ldc2_w 127, 3) := by decide +kernel
theorem dX8_isOf_13 : decode cX8_isOf 13 = .ok (.invokestatic 81, 3) := by decide +kernel
theorem dX8_isOf_16 : decode cX8_isOf 16 = .ok (.ifCond .ne 7, 3) := by decide +kernel
theorem dX8_isOf_19 : decode cX8_isOf 19 = .ok (.ldc2_w 87, 3) := by decide +kernel
theorem dX8_isOf_22 : decode cX8_isOf 22 = .ok (.lreturn, 1) := by decide +kernel
theorem dX8_isOf_23 : decode cX8_isOf 23 = .ok (.aload_n 0, 1) := by decide +kernel
theorem dX8_isOf_24 : decode cX8_isOf 24 = .ok (.getfield 30, 3) := by decide +kernel
theorem dX8_isOf_27 : decode cX8_isOf 27 = .ok (.iload_n 1, 1) := by decide +kernel
theorem dX8_isOf_28 : decode cX8_isOf 28 = .ok (.iaload, 1) := by decide +kernel
theorem dX8_isOf_29 : decode cX8_isOf 29 = .ok (.ifCond .ge 7, 3) := by decide +kernel
theorem dX8_isOf_32 : decode cX8_isOf 32 = .ok (.ldc2_w 108, 3) := by decide +kernel
theorem dX8_isOf_35 : decode cX8_isOf 35 = .ok (.lreturn, 1) := by decide +kernel
theorem dX8_isOf_36 : decode cX8_isOf 36 = .ok (.iload_n 2, 1) := by decide +kernel
theorem dX8_isOf_37 : decode cX8_isOf 37 = .ok (.ifCond .eq 39, 3) := by decide +kernel
theorem dX8_isOf_40 : decode cX8_isOf 40 = .ok (.aload_n 0, 1) := by decide +kernel
theorem dX8_isOf_41 : decode cX8_isOf 41 = .ok (.getfield 30, 3) := by decide +kernel
theorem dX8_isOf_44 : decode cX8_isOf 44 = .ok (.iload_n 1, 1) := by decide +kernel
theorem dX8_isOf_45 : decode cX8_isOf 45 = .ok (.iaload, 1) := by decide +kernel
theorem dX8_isOf_46 : decode cX8_isOf 46 = .ok (.iload_n 2, 1) := by decide +kernel
theorem dX8_isOf_47 : decode cX8_isOf 47 = .ok (.if_icmp .eq 29, 3) := by decide +kernel
theorem dX8_isOf_50 : decode cX8_isOf 50 = .ok (.iload_n 2, 1) := by decide +kernel
theorem dX8_isOf_51 : decode cX8_isOf 51 = .ok (.iconst 1, 1) := by decide +kernel
theorem dX8_isOf_52 : decode cX8_isOf 52 = .ok (.if_icmp .ne 11, 3) := by decide +kernel
theorem dX8_isOf_55 : decode cX8_isOf 55 = .ok (.aload_n 0, 1) := by decide +kernel
theorem dX8_isOf_56 : decode cX8_isOf 56 = .ok (.iload_n 1, 1) := by decide +kernel
theorem dX8_isOf_57 : decode cX8_isOf 57 = .ok (.invokevirtual 136, 3) := by decide +kernel
theorem dX8_isOf_60 : decode cX8_isOf 60 = .ok (.ifCond .ne 16, 3) := by decide +kernel
theorem dX8_isOf_63 : decode cX8_isOf 63 = .ok (.iload_n 2, 1) := by decide +kernel
theorem dX8_isOf_64 : decode cX8_isOf 64 = .ok (.iconst 3, 1) := by decide +kernel
theorem dX8_isOf_65 : decode cX8_isOf 65 = .ok (.if_icmp .ne 15, 3) := by decide +kernel
theorem dX8_isOf_68 : decode cX8_isOf 68 = .ok (.aload_n 0, 1) := by decide +kernel
theorem dX8_isOf_69 : decode cX8_isOf 69 = .ok (.iload_n 1, 1) := by decide +kernel
theorem dX8_isOf_70 : decode cX8_isOf 70 = .ok (.invokevirtual 139, 3) := by decide +kernel
theorem dX8_isOf_73 : decode cX8_isOf 73 = .ok (.ifCond .eq 7, 3) := by decide +kernel
theorem dX8_isOf_76 : decode cX8_isOf 76 = .ok (.iconst 1, 1) := by decide +kernel
theorem dX8_isOf_77 : decode cX8_isOf 77 = .ok (.goto 4, 3) := by decide +kernel
theorem dX8_isOf_80 : decode cX8_isOf 80 = .ok (.iconst 0, 1) := by decide +kernel
theorem dX8_isOf_81 : decode cX8_isOf 81 = .ok (.istore_n 3, 1) := by decide +kernel
theorem dX8_isOf_82 : decode cX8_isOf 82 = .ok (.iload_n 3, 1) := by decide +kernel
theorem dX8_isOf_83 : decode cX8_isOf 83 = .ok (.ifCond .eq 7, 3) := by decide +kernel
theorem dX8_isOf_86 : decode cX8_isOf 86 = .ok (.lconst 1, 1) := by decide +kernel
theorem dX8_isOf_87 : decode cX8_isOf 87 = .ok (.goto 4, 3) := by decide +kernel
theorem dX8_isOf_90 : decode cX8_isOf 90 = .ok (.lconst 0, 1) := by decide +kernel
theorem dX8_isOf_91 : decode cX8_isOf 91 = .ok (.lreturn, 1) := by decide +kernel
theorem dX8_put_0 : decode cX8_put 0 = .ok (.aload_n 0, 1) := by decide +kernel
theorem dX8_put_1 : decode cX8_put 1 = .ok (.iload_n 1, 1) := by decide +kernel
theorem dX8_put_2 : decode cX8_put 2 = .ok (.invokevirtual 142, 3) := by decide +kernel
theorem dX8_put_5 : decode cX8_put 5 = .ok (.lstore 4, 2) := by decide +kernel
theorem dX8_put_7 : decode cX8_put 7 = .ok (.lload 4, 2) := by decide +kernel
theorem dX8_put_9 : decode cX8_put 9 = .ok (.lconst 0, 1) := by decide +kernel
theorem dX8_put_10 : decode cX8_put 10 = .ok (.lcmp, 1) := by decide +kernel
theorem dX8_put_11 : decode cX8_put 11 = .ok (.ifCond .eq 6, 3) := by decide +kernel
theorem dX8_put_14 : decode cX8_put 14 = .ok (.lload 4, 2) := by decide +kernel
theorem dX8_put_16 : decode cX8_put 16 = .ok (.lreturn, 1) := by decide +kernel
theorem dX8_put_17 : decode cX8_put 17 = .ok (.aload_n 0, 1) := by decide +kernel
theorem dX8_put_18 : decode cX8_put 18 = .ok (.iload_n 2, 1) := by decide +kernel
theorem dX8_put_19 : decode cX8_put 19 = .ok (.invokevirtual 158, 3) := by decide +kernel
theorem dX8_put_22 : decode cX8_put 22 = .ok (.ifCond .ne 7, 3) := by decide +kernel
theorem dX8_put_25 : decode cX8_put 25 = .ok (.ldc2_w 106, 3) := by decide +kernel
theorem dX8_put_28 : decode cX8_put 28 = .ok (.lreturn, 1) := by decide +kernel
theorem dX8_put_29 : decode cX8_put 29 = .ok (.iload_n 3, 1) := by decide +kernel
theorem dX8_put_30 : decode cX8_put 30 = .ok (.i2l, 1) := by decide +kernel
theorem dX8_put_31 : decode cX8_put 31 = .ok (.ldc2_w 161, 3) := by decide +kernel
theorem dX8_put_34 : decode cX8_put 34 = .ok (.ldc2_w 163, 3) := by decide +kernel
theorem dX8_put_37 : decode cX8_put 37 = .ok (.invokestatic 81, 3) := by decide +kernel
theorem dX8_put_40 : decode cX8_put 40 = .ok (.ifCond .ne 7, 3) := by decide +kernel
theorem dX8_put_43 : decode cX8_put 43 = .ok (.ldc2_w 87, 3) := by decide +kernel
theorem dX8_put_46 : decode cX8_put 46 = .ok (.lreturn, 1) := by decide +kernel
theorem dX8_put_47 : decode cX8_put 47 = .ok (.aload_n 0, 1) := by decide +kernel
theorem dX8_put_48 : decode cX8_put 48 = .ok (.getfield 57, 3) := by decide +kernel
theorem dX8_put_51 : decode cX8_put 51 = .ok (.bipush 36, 2) := by decide +kernel
theorem dX8_put_53 : decode cX8_put 53 = .ok (.iload_n 1, 1) := by decide +kernel
theorem dX8_put_54 : decode cX8_put 54 = .ok (.imul, 1) := by decide +kernel
theorem dX8_put_55 : decode cX8_put 55 = .ok (.iload_n 2, 1) := by decide +kernel
theorem dX8_put_56 : decode cX8_put 56 = .ok (.iadd, 1) := by decide +kernel
theorem dX8_put_57 : decode cX8_put 57 = .ok (.iaload, 1) := by decide +kernel
theorem dX8_put_58 : decode cX8_put 58 = .ok (.i2l, 1) := by decide +kernel
theorem dX8_put_59 : decode cX8_put 59 = .ok (.lstore 6, 2) := by decide +kernel
theorem dX8_put_61 : decode cX8_put 61 = .ok (.aload_n 0, 1) := by decide +kernel
theorem dX8_put_62 : decode cX8_put 62 = .ok (.getfield 57, 3) := by decide +kernel
theorem dX8_put_65 : decode cX8_put 65 = .ok (.bipush 36, 2) := by decide +kernel
theorem dX8_put_67 : decode cX8_put 67 = .ok (.iload_n 1, 1) := by decide +kernel
theorem dX8_put_68 : decode cX8_put 68 = .ok (.imul, 1) := by decide +kernel
theorem dX8_put_69 : decode cX8_put 69 = .ok (.iload_n 2, 1) := by decide +kernel
theorem dX8_put_70 : decode cX8_put 70 = .ok (.iadd, 1) := by decide +kernel
theorem dX8_put_71 : decode cX8_put 71 = .ok (.iload_n 3, 1) := by decide +kernel
theorem dX8_put_72 : decode cX8_put 72 = .ok (.iastore, 1) := by decide +kernel
theorem dX8_put_73 : decode cX8_put 73 = .ok (.lload 6, 2) := by decide +kernel
theorem dX8_put_75 : decode cX8_put 75 = .ok (.lreturn, 1) := by decide +kernel
theorem dX8_planned_0 : decode cX8_planned 0 = .ok (.aload_n 0, 1) := by decide +kernel
theorem dX8_planned_1 : decode cX8_planned 1 = .ok (.iload_n 1, 1) := by decide +kernel
theorem dX8_planned_2 : decode cX8_planned 2 = .ok (.invokevirtual 142, 3) := by decide +kernel
theorem dX8_planned_5 : decode cX8_planned 5 = .ok (.lstore_n 3, 1) := by decide +kernel
theorem dX8_planned_6 : decode cX8_planned 6 = .ok (.lload_n 3, 1) := by decide +kernel
theorem dX8_planned_7 : decode cX8_planned 7 = .ok (.lconst 0, 1) := by decide +kernel
theorem dX8_planned_8 : decode cX8_planned 8 = .ok (.lcmp, 1) := by decide +kernel
theorem dX8_planned_9 : decode cX8_planned 9 = .ok (.ifCond .eq 5, 3) := by decide +kernel
theorem dX8_planned_12 : decode cX8_planned 12 = .ok (.lload_n 3, 1) := by decide +kernel
theorem dX8_planned_13 : decode cX8_planned 13 = .ok (.lreturn, 1) := by decide +kernel
theorem dX8_planned_14 : decode cX8_planned 14 = .ok (.aload_n 0, 1) := by decide +kernel
theorem dX8_planned_15 : decode cX8_planned 15 = .ok (.iload_n 2, 1) := by decide +kernel
theorem dX8_planned_16 : decode cX8_planned 16 = .ok (.invokevirtual 158, 3) := by decide +kernel
theorem dX8_planned_19 : decode cX8_planned 19 = .ok (.ifCond .eq 18, 3) := by decide +kernel
theorem dX8_planned_22 : decode cX8_planned 22 = .ok (.aload_n 0, 1) := by decide +kernel
theorem dX8_planned_23 : decode cX8_planned 23 = .ok (.getfield 57, 3) := by decide +kernel
theorem dX8_planned_26 : decode cX8_planned 26 = .ok (.bipush 36, 2) := by decide +kernel
theorem dX8_planned_28 : decode cX8_planned 28 = .ok (.iload_n 1, 1) := by decide +kernel
theorem dX8_planned_29 : decode cX8_planned 29 = .ok (.imul, 1) := by decide +kernel
theorem dX8_planned_30 : decode cX8_planned 30 = .ok (.iload_n 2, 1) := by decide +kernel
theorem dX8_planned_31 : decode cX8_planned 31 = .ok (.iadd, 1) := by decide +kernel
theorem dX8_planned_32 : decode cX8_planned 32 = .ok (.iaload, 1) := by decide +kernel
theorem dX8_planned_33 : decode cX8_planned 33 = .ok (.i2l, 1) := by decide +kernel
theorem dX8_planned_34 : decode cX8_planned 34 = .ok (.goto 6, 3) := by decide +kernel
theorem dX8_planned_37 : decode cX8_planned 37 = .ok (.ldc2_w 106, 3) := by decide +kernel
theorem dX8_planned_40 : decode cX8_planned 40 = .ok (.lreturn, 1) := by decide +kernel
theorem dX8_behindOf_0 : decode cX8_behindOf 0 = .ok (.aload_n 0, 1) := by decide +kernel
theorem dX8_behindOf_1 : decode cX8_behindOf 1 = .ok (.getfield 36, 3) := by decide +kernel
theorem dX8_behindOf_4 : decode cX8_behindOf 4 = .ok (.iload_n 1, 1) := by decide +kernel
theorem dX8_behindOf_5 : decode cX8_behindOf 5 = .ok (.iaload, 1) := by decide +kernel
theorem dX8_behindOf_6 : decode cX8_behindOf 6 = .ok (.istore_n 3, 1) := by decide +kernel
theorem dX8_behindOf_7 : decode cX8_behindOf 7 = .ok (.iconst 0, 1) := by decide +kernel
theorem dX8_behindOf_8 : decode cX8_behindOf 8 = .ok (.istore 4, 2) := by decide +kernel
theorem dX8_behindOf_10 : decode cX8_behindOf 10 = .ok (.iload 4, 2) := by decide +kernel
theorem dX8_behindOf_12 : decode cX8_behindOf 12 = .ok (.iload_n 2, 1) := by decide +kernel
theorem dX8_behindOf_13 : decode cX8_behindOf 13 = .ok (.if_icmp .gt 24, 3) := by decide +kernel
theorem dX8_behindOf_16 : decode cX8_behindOf 16 = .ok (.iload_n 3, 1) := by decide +kernel
theorem dX8_behindOf_17 : decode cX8_behindOf 17 = .ok (.aload_n 0, 1) := by decide +kernel
theorem dX8_behindOf_18 : decode cX8_behindOf 18 = .ok (.getfield 57, 3) := by decide +kernel
theorem dX8_behindOf_21 : decode cX8_behindOf 21 = .ok (.bipush 36, 2) := by decide +kernel
theorem dX8_behindOf_23 : decode cX8_behindOf 23 = .ok (.iload_n 1, 1) := by decide +kernel
theorem dX8_behindOf_24 : decode cX8_behindOf 24 = .ok (.imul, 1) := by decide +kernel
theorem dX8_behindOf_25 : decode cX8_behindOf 25 = .ok (.iload 4, 2) := by decide +kernel
theorem dX8_behindOf_27 : decode cX8_behindOf 27 = .ok (.iadd, 1) := by decide +kernel
theorem dX8_behindOf_28 : decode cX8_behindOf 28 = .ok (.iaload, 1) := by decide +kernel
theorem dX8_behindOf_29 : decode cX8_behindOf 29 = .ok (.iadd, 1) := by decide +kernel
theorem dX8_behindOf_30 : decode cX8_behindOf 30 = .ok (.istore_n 3, 1) := by decide +kernel
theorem dX8_behindOf_31 : decode cX8_behindOf 31 = .ok (.iinc 4 1, 3) := by decide +kernel
theorem dX8_behindOf_34 : decode cX8_behindOf 34 = .ok (.goto (-24), 3) := by decide +kernel
theorem dX8_behindOf_37 : decode cX8_behindOf 37 = .ok (.iload_n 3, 1) := by decide +kernel
theorem dX8_behindOf_38 : decode cX8_behindOf 38 = .ok (.ireturn, 1) := by decide +kernel
theorem dX8_behind_0 : decode cX8_behind 0 = .ok (.aload_n 0, 1) := by decide +kernel
theorem dX8_behind_1 : decode cX8_behind 1 = .ok (.iload_n 1, 1) := by decide +kernel
theorem dX8_behind_2 : decode cX8_behind 2 = .ok (.invokevirtual 142, 3) := by decide +kernel
theorem dX8_behind_5 : decode cX8_behind 5 = .ok (.lstore_n 3, 1) := by decide +kernel
theorem dX8_behind_6 : decode cX8_behind 6 = .ok (.lload_n 3, 1) := by decide +kernel
theorem dX8_behind_7 : decode cX8_behind 7 = .ok (.lconst 0, 1) := by decide +kernel
theorem dX8_behind_8 : decode cX8_behind 8 = .ok (.lcmp, 1) := by decide +kernel
theorem dX8_behind_9 : decode cX8_behind 9 = .ok (.ifCond .eq 5, 3) := by decide +kernel
theorem dX8_behind_12 : decode cX8_behind 12 = .ok (.lload_n 3, 1) := by decide +kernel
theorem dX8_behind_13 : decode cX8_behind 13 = .ok (.lreturn, 1) := by decide +kernel
theorem dX8_behind_14 : decode cX8_behind 14 = .ok (.iload_n 2, 1) := by decide +kernel
theorem dX8_behind_15 : decode cX8_behind 15 = .ok (.iconst (-1), 1) := by decide +kernel
theorem dX8_behind_16 : decode cX8_behind 16 = .ok (.if_icmp .eq 11, 3) := by decide +kernel
theorem dX8_behind_19 : decode cX8_behind 19 = .ok (.aload_n 0, 1) := by decide +kernel
theorem dX8_behind_20 : decode cX8_behind 20 = .ok (.iload_n 2, 1) := by decide +kernel
theorem dX8_behind_21 : decode cX8_behind 21 = .ok (.invokevirtual 158, 3) := by decide +kernel
theorem dX8_behind_24 : decode cX8_behind 24 = .ok (.ifCond .eq 13, 3) := by decide +kernel
theorem dX8_behind_27 : decode cX8_behind 27 = .ok (.aload_n 0, 1) := by decide +kernel
theorem dX8_behind_28 : decode cX8_behind 28 = .ok (.iload_n 1, 1) := by decide +kernel
theorem dX8_behind_29 : decode cX8_behind 29 = .ok (.iload_n 2, 1) := by decide +kernel
theorem dX8_behind_30 : decode cX8_behind 30 = .ok (.invokevirtual 165, 3) := by decide +kernel
theorem dX8_behind_33 : decode cX8_behind 33 = .ok (.i2l, 1) := by decide +kernel
theorem dX8_behind_34 : decode cX8_behind 34 = .ok (.goto 6, 3) := by decide +kernel
theorem dX8_behind_37 : decode cX8_behind 37 = .ok (.ldc2_w 106, 3) := by decide +kernel
theorem dX8_behind_40 : decode cX8_behind 40 = .ok (.lreturn, 1) := by decide +kernel
theorem dX8_fault_0 : decode cX8_fault 0 = .ok (.aload_n 0, 1) := by decide +kernel
theorem dX8_fault_1 : decode cX8_fault 1 = .ok (.iload_n 2, 1) := by decide +kernel
theorem dX8_fault_2 : decode cX8_fault 2 = .ok (.invokevirtual 168, 3) := by decide +kernel
theorem dX8_fault_5 : decode cX8_fault 5 = .ok (.istore 5, 2) := by decide +kernel
theorem dX8_fault_7 : decode cX8_fault 7 = .ok (.aload_n 0, 1) := by decide +kernel
theorem dX8_fault_8 : decode cX8_fault 8 = .ok (.getfield 13, 3) := by decide +kernel
theorem dX8_fault_11 : decode cX8_fault 11 = .ok (.iload_n 2, 1) := by decide +kernel
theorem dX8_fault_12 : decode cX8_fault 12 = .ok (.baload, 1) := by decide +kernel
theorem dX8_fault_13 : decode cX8_fault 13 = .ok (.ifCond .eq 9, 3) := by decide +kernel
theorem dX8_fault_16 : decode cX8_fault 16 = .ok (.iload_n 3, 1) := by decide +kernel
theorem dX8_fault_17 : decode cX8_fault 17 = .ok (.ifCond .eq 5, 3) := by decide +kernel
theorem dX8_fault_20 : decode cX8_fault 20 = .ok (.iconst 1, 1) := by decide +kernel
theorem dX8_fault_21 : decode cX8_fault 21 = .ok (.ireturn, 1) := by decide +kernel
theorem dX8_fault_22 : decode cX8_fault 22 = .ok (.iload_n 3, 1) := by decide +kernel
theorem dX8_fault_23 : decode cX8_fault 23 = .ok (.ifCond .eq 29, 3) := by decide +kernel
theorem dX8_fault_26 : decode cX8_fault 26 = .ok (.iload_n 3, 1) := by decide +kernel
theorem dX8_fault_27 : decode cX8_fault 27 = .ok (.aload_n 0, 1) := by decide +kernel
theorem dX8_fault_28 : decode cX8_fault 28 = .ok (.iload_n 1, 1) := by decide +kernel
theorem dX8_fault_29 : decode cX8_fault 29 = .ok (.invokevirtual 149, 3) := by decide +kernel
theorem dX8_fault_32 : decode cX8_fault 32 = .ok (.iload 5, 2) := by decide +kernel
theorem dX8_fault_34 : decode cX8_fault 34 = .ok (.isub, 1) := by decide +kernel
theorem dX8_fault_35 : decode cX8_fault 35 = .ok (.if_icmp .gt 15, 3) := by decide +kernel
theorem dX8_fault_38 : decode cX8_fault 38 = .ok (.iload_n 3, 1) := by decide +kernel
theorem dX8_fault_39 : decode cX8_fault 39 = .ok (.iload 5, 2) := by decide +kernel
theorem dX8_fault_41 : decode cX8_fault 41 = .ok (.aload_n 0, 1) := by decide +kernel
theorem dX8_fault_42 : decode cX8_fault 42 = .ok (.iload_n 1, 1) := by decide +kernel
theorem dX8_fault_43 : decode cX8_fault 43 = .ok (.invokevirtual 152, 3) := by decide +kernel
theorem dX8_fault_46 : decode cX8_fault 46 = .ok (.isub, 1) := by decide +kernel
theorem dX8_fault_47 : decode cX8_fault 47 = .ok (.if_icmp .ge 5, 3) := by decide +kernel
theorem dX8_fault_50 : decode cX8_fault 50 = .ok (.iconst 2, 1) := by decide +kernel
theorem dX8_fault_51 : decode cX8_fault 51 = .ok (.ireturn, 1) := by decide +kernel
theorem dX8_fault_52 : decode cX8_fault 52 = .ok (.iload 4, 2) := by decide +kernel
theorem dX8_fault_54 : decode cX8_fault 54 = .ok (.aload_n 0, 1) := by decide +kernel
theorem dX8_fault_55 : decode cX8_fault 55 = .ok (.iload_n 1, 1) := by decide +kernel
theorem dX8_fault_56 : decode cX8_fault 56 = .ok (.invokevirtual 132, 3) := by decide +kernel
theorem dX8_fault_59 : decode cX8_fault 59 = .ok (.iload 5, 2) := by decide +kernel
theorem dX8_fault_61 : decode cX8_fault 61 = .ok (.iadd, 1) := by decide +kernel
theorem dX8_fault_62 : decode cX8_fault 62 = .ok (.if_icmp .ge 5, 3) := by decide +kernel
theorem dX8_fault_65 : decode cX8_fault 65 = .ok (.iconst 3, 1) := by decide +kernel
theorem dX8_fault_66 : decode cX8_fault 66 = .ok (.ireturn, 1) := by decide +kernel
theorem dX8_fault_67 : decode cX8_fault 67 = .ok (.iload 4, 2) := by decide +kernel
theorem dX8_fault_69 : decode cX8_fault 69 = .ok (.aload_n 0, 1) := by decide +kernel
theorem dX8_fault_70 : decode cX8_fault 70 = .ok (.iload_n 1, 1) := by decide +kernel
theorem dX8_fault_71 : decode cX8_fault 71 = .ok (.invokevirtual 146, 3) := by decide +kernel
theorem dX8_fault_74 : decode cX8_fault 74 = .ok (.iload 5, 2) := by decide +kernel
theorem dX8_fault_76 : decode cX8_fault 76 = .ok (.isub, 1) := by decide +kernel
theorem dX8_fault_77 : decode cX8_fault 77 = .ok (.if_icmp .le 5, 3) := by decide +kernel
theorem dX8_fault_80 : decode cX8_fault 80 = .ok (.iconst 4, 1) := by decide +kernel
theorem dX8_fault_81 : decode cX8_fault 81 = .ok (.ireturn, 1) := by decide +kernel
theorem dX8_fault_82 : decode cX8_fault 82 = .ok (.iload_n 2, 1) := by decide +kernel
theorem dX8_fault_83 : decode cX8_fault 83 = .ok (.aload_n 0, 1) := by decide +kernel
theorem dX8_fault_84 : decode cX8_fault 84 = .ok (.getfield 7, 3) := by decide +kernel
theorem dX8_fault_87 : decode cX8_fault 87 = .ok (.iconst 1, 1) := by decide +kernel
theorem dX8_fault_88 : decode cX8_fault 88 = .ok (.isub, 1) := by decide +kernel
theorem dX8_fault_89 : decode cX8_fault 89 = .ok (.if_icmp .ne 18, 3) := by decide +kernel
theorem dX8_fault_92 : decode cX8_fault 92 = .ok (.iload 4, 2) := by decide +kernel
theorem dX8_fault_94 : decode cX8_fault 94 = .ok (.aload_n 0, 1) := by decide +kernel
theorem dX8_fault_95 : decode cX8_fault 95 = .ok (.getfield 51, 3) := by decide +kernel
theorem dX8_fault_98 : decode cX8_fault 98 = .ok (.iload_n 1, 1) := by decide +kernel
theorem dX8_fault_99 : decode cX8_fault 99 = .ok (.iaload, 1) := by decide +kernel
theorem dX8_fault_100 : decode cX8_fault 100 = .ok (.if_icmp .ge 7, 3) := by decide +kernel
theorem dX8_fault_103 : decode cX8_fault 103 = .ok (.iconst 5, 1) := by decide +kernel
theorem dX8_fault_104 : decode cX8_fault 104 = .ok (.goto 4, 3) := by decide +kernel
theorem dX8_fault_107 : decode cX8_fault 107 = .ok (.iconst 0, 1) := by decide +kernel
theorem dX8_fault_108 : decode cX8_fault 108 = .ok (.ireturn, 1) := by decide +kernel
theorem dX8_whyNot_0 : decode cX8_whyNot 0 = .ok (.iconst 0, 1) := by decide +kernel
theorem dX8_whyNot_1 : decode cX8_whyNot 1 = .ok (.istore_n 2, 1) := by decide +kernel
theorem dX8_whyNot_2 : decode cX8_whyNot 2 = .ok (.iload_n 2, 1) := by decide +kernel
theorem dX8_whyNot_3 : decode cX8_whyNot 3 = .ok (.aload_n 0, 1) := by decide +kernel
theorem dX8_whyNot_4 : decode cX8_whyNot 4 = .ok (.getfield 7, 3) := by decide +kernel
theorem dX8_whyNot_7 : decode cX8_whyNot 7 = .ok (.if_icmp .ge 47, 3) := by decide +kernel
theorem dX8_whyNot_10 : decode cX8_whyNot 10 = .ok (.aload_n 0, 1) := by decide +kernel
theorem dX8_whyNot_11 : decode cX8_whyNot 11 = .ok (.iload_n 1, 1) := by decide +kernel
theorem dX8_whyNot_12 : decode cX8_whyNot 12 = .ok (.iload_n 2, 1) := by decide +kernel
theorem dX8_whyNot_13 : decode cX8_whyNot 13 = .ok (.aload_n 0, 1) := by decide +kernel
theorem dX8_whyNot_14 : decode cX8_whyNot 14 = .ok (.getfield 57, 3) := by decide +kernel
theorem dX8_whyNot_17 : decode cX8_whyNot 17 = .ok (.bipush 36, 2) := by decide +kernel
theorem dX8_whyNot_19 : decode cX8_whyNot 19 = .ok (.iload_n 1, 1) := by decide +kernel
theorem dX8_whyNot_20 : decode cX8_whyNot 20 = .ok (.imul, 1) := by decide +kernel
theorem dX8_whyNot_21 : decode cX8_whyNot 21 = .ok (.iload_n 2, 1) := by decide +kernel
theorem dX8_whyNot_22 : decode cX8_whyNot 22 = .ok (.iadd, 1) := by decide +kernel
theorem dX8_whyNot_23 : decode cX8_whyNot 23 = .ok (.iaload, 1) := by decide +kernel
theorem dX8_whyNot_24 : decode cX8_whyNot 24 = .ok (.aload_n 0, 1) := by decide +kernel
theorem dX8_whyNot_25 : decode cX8_whyNot 25 = .ok (.iload_n 1, 1) := by decide +kernel
theorem dX8_whyNot_26 : decode cX8_whyNot 26 = .ok (.iload_n 2, 1) := by decide +kernel
theorem dX8_whyNot_27 : decode cX8_whyNot 27 = .ok (.invokevirtual 165, 3) := by decide +kernel
theorem dX8_whyNot_30 : decode cX8_whyNot 30 = .ok (.invokevirtual 171, 3) := by decide +kernel
theorem dX8_whyNot_33 : decode cX8_whyNot 33 = .ok (.istore_n 3, 1) := by decide +kernel
theorem dX8_whyNot_34 : decode cX8_whyNot 34 = .ok (.iload_n 3, 1) := by decide +kernel
theorem dX8_whyNot_35 : decode cX8_whyNot 35 = .ok (.ifCond .eq 13, 3) := by decide +kernel
theorem dX8_whyNot_38 : decode cX8_whyNot 38 = .ok (.ldc2_w 94, 3) := by decide +kernel
theorem dX8_whyNot_41 : decode cX8_whyNot 41 = .ok (.iload_n 2, 1) := by decide +kernel
theorem dX8_whyNot_42 : decode cX8_whyNot 42 = .ok (.i2l, 1) := by decide +kernel
theorem dX8_whyNot_43 : decode cX8_whyNot 43 = .ok (.lmul, 1) := by decide +kernel
theorem dX8_whyNot_44 : decode cX8_whyNot 44 = .ok (.iload_n 3, 1) := by decide +kernel
theorem dX8_whyNot_45 : decode cX8_whyNot 45 = .ok (.i2l, 1) := by decide +kernel
theorem dX8_whyNot_46 : decode cX8_whyNot 46 = .ok (.ladd, 1) := by decide +kernel
theorem dX8_whyNot_47 : decode cX8_whyNot 47 = .ok (.lreturn, 1) := by decide +kernel
theorem dX8_whyNot_48 : decode cX8_whyNot 48 = .ok (.iinc 2 1, 3) := by decide +kernel
theorem dX8_whyNot_51 : decode cX8_whyNot 51 = .ok (.goto (-49), 3) := by decide +kernel
theorem dX8_whyNot_54 : decode cX8_whyNot 54 = .ok (.ldc2_w 175, 3) := by decide +kernel
theorem dX8_whyNot_57 : decode cX8_whyNot 57 = .ok (.lreturn, 1) := by decide +kernel
theorem dX8_why_0 : decode cX8_why 0 = .ok (.aload_n 0, 1) := by decide +kernel
theorem dX8_why_1 : decode cX8_why 1 = .ok (.iload_n 1, 1) := by decide +kernel
theorem dX8_why_2 : decode cX8_why 2 = .ok (.invokevirtual 142, 3) := by decide +kernel
theorem dX8_why_5 : decode cX8_why 5 = .ok (.lstore_n 2, 1) := by decide +kernel
theorem dX8_why_6 : decode cX8_why 6 = .ok (.lload_n 2, 1) := by decide +kernel
theorem dX8_why_7 : decode cX8_why 7 = .ok (.lconst 0, 1) := by decide +kernel
theorem dX8_why_8 : decode cX8_why 8 = .ok (.lcmp, 1) := by decide +kernel
theorem dX8_why_9 : decode cX8_why 9 = .ok (.ifCond .eq 7, 3) := by decide +kernel
theorem dX8_why_12 : decode cX8_why 12 = .ok (.lload_n 2, 1) := by decide +kernel
theorem dX8_why_13 : decode cX8_why 13 = .ok (.goto 8, 3) := by decide +kernel
theorem dX8_why_16 : decode cX8_why 16 = .ok (.aload_n 0, 1) := by decide +kernel
theorem dX8_why_17 : decode cX8_why 17 = .ok (.iload_n 1, 1) := by decide +kernel
theorem dX8_why_18 : decode cX8_why 18 = .ok (.invokevirtual 177, 3) := by decide +kernel
theorem dX8_why_21 : decode cX8_why 21 = .ok (.lreturn, 1) := by decide +kernel
theorem dX8_moneyOf_0 : decode cX8_moneyOf 0 = .ok (.iload_n 2, 1) := by decide +kernel
theorem dX8_moneyOf_1 : decode cX8_moneyOf 1 = .ok (.ifCond .le 24, 3) := by decide +kernel
theorem dX8_moneyOf_4 : decode cX8_moneyOf 4 = .ok (.iload_n 3, 1) := by decide +kernel
theorem dX8_moneyOf_5 : decode cX8_moneyOf 5 = .ok (.i2l, 1) := by decide +kernel
theorem dX8_moneyOf_6 : decode cX8_moneyOf 6 = .ok (.lneg, 1) := by decide +kernel
theorem dX8_moneyOf_7 : decode cX8_moneyOf 7 = .ok (.iload_n 2, 1) := by decide +kernel
theorem dX8_moneyOf_8 : decode cX8_moneyOf 8 = .ok (.iload_n 2, 1) := by decide +kernel
theorem dX8_moneyOf_9 : decode cX8_moneyOf 9 = .ok (.aload_n 0, 1) := by decide +kernel
theorem dX8_moneyOf_10 : decode cX8_moneyOf 10 = .ok (.iload_n 1, 1) := by decide +kernel
theorem dX8_moneyOf_11 : decode cX8_moneyOf 11 = .ok (.invokevirtual 155, 3) := by decide +kernel
theorem dX8_moneyOf_14 : decode cX8_moneyOf 14 = .ok (.imul, 1) := by decide +kernel
theorem dX8_moneyOf_15 : decode cX8_moneyOf 15 = .ok (.bipush 99, 2) := by decide +kernel
theorem dX8_moneyOf_17 : decode cX8_moneyOf 17 = .ok (.iadd, 1) := by decide +kernel
theorem dX8_moneyOf_18 : decode cX8_moneyOf 18 = .ok (.bipush 100, 2) := by decide +kernel
theorem dX8_moneyOf_20 : decode cX8_moneyOf 20 = .ok (.idiv, 1) := by decide +kernel
theorem dX8_moneyOf_21 : decode cX8_moneyOf 21 = .ok (.iadd, 1) := by decide +kernel
theorem dX8_moneyOf_22 : decode cX8_moneyOf 22 = .ok (.i2l, 1) := by decide +kernel
theorem dX8_moneyOf_23 : decode cX8_moneyOf 23 = .ok (.lmul, 1) := by decide +kernel
theorem dX8_moneyOf_24 : decode cX8_moneyOf 24 = .ok (.lreturn, 1) := by decide +kernel
theorem dX8_moneyOf_25 : decode cX8_moneyOf 25 = .ok (.iload_n 3, 1) := by decide +kernel
theorem dX8_moneyOf_26 : decode cX8_moneyOf 26 = .ok (.aload_n 0, 1) := by decide +kernel
theorem dX8_moneyOf_27 : decode cX8_moneyOf 27 = .ok (.getfield 48, 3) := by decide +kernel
theorem dX8_moneyOf_30 : decode cX8_moneyOf 30 = .ok (.iload_n 1, 1) := by decide +kernel
theorem dX8_moneyOf_31 : decode cX8_moneyOf 31 = .ok (.iaload, 1) := by decide +kernel
theorem dX8_moneyOf_32 : decode cX8_moneyOf 32 = .ok (.isub, 1) := by decide +kernel
theorem dX8_moneyOf_33 : decode cX8_moneyOf 33 = .ok (.i2l, 1) := by decide +kernel
theorem dX8_moneyOf_34 : decode cX8_moneyOf 34 = .ok (.iload_n 2, 1) := by decide +kernel
theorem dX8_moneyOf_35 : decode cX8_moneyOf 35 = .ok (.ineg, 1) := by decide +kernel
theorem dX8_moneyOf_36 : decode cX8_moneyOf 36 = .ok (.i2l, 1) := by decide +kernel
theorem dX8_moneyOf_37 : decode cX8_moneyOf 37 = .ok (.lmul, 1) := by decide +kernel
theorem dX8_moneyOf_38 : decode cX8_moneyOf 38 = .ok (.lreturn, 1) := by decide +kernel
theorem dX8_moneyIn_0 : decode cX8_moneyIn 0 = .ok (.lconst 0, 1) := by decide +kernel
theorem dX8_moneyIn_1 : decode cX8_moneyIn 1 = .ok (.lstore_n 3, 1) := by decide +kernel
theorem dX8_moneyIn_2 : decode cX8_moneyIn 2 = .ok (.iconst 0, 1) := by decide +kernel
theorem dX8_moneyIn_3 : decode cX8_moneyIn 3 = .ok (.istore 5, 2) := by decide +kernel
theorem dX8_moneyIn_5 : decode cX8_moneyIn 5 = .ok (.iload 5, 2) := by decide +kernel
theorem dX8_moneyIn_7 : decode cX8_moneyIn 7 = .ok (.aload_n 0, 1) := by decide +kernel
theorem dX8_moneyIn_8 : decode cX8_moneyIn 8 = .ok (.getfield 7, 3) := by decide +kernel
theorem dX8_moneyIn_11 : decode cX8_moneyIn 11 = .ok (.if_icmp .ge 36, 3) := by decide +kernel
theorem dX8_moneyIn_14 : decode cX8_moneyIn 14 = .ok (.lload_n 3, 1) := by decide +kernel
theorem dX8_moneyIn_15 : decode cX8_moneyIn 15 = .ok (.aload_n 0, 1) := by decide +kernel
theorem dX8_moneyIn_16 : decode cX8_moneyIn 16 = .ok (.iload_n 1, 1) := by decide +kernel
theorem dX8_moneyIn_17 : decode cX8_moneyIn 17 = .ok (.aload_n 0, 1) := by decide +kernel
theorem dX8_moneyIn_18 : decode cX8_moneyIn 18 = .ok (.getfield 57, 3) := by decide +kernel
theorem dX8_moneyIn_21 : decode cX8_moneyIn 21 = .ok (.bipush 36, 2) := by decide +kernel
theorem dX8_moneyIn_23 : decode cX8_moneyIn 23 = .ok (.iload_n 1, 1) := by decide +kernel
theorem dX8_moneyIn_24 : decode cX8_moneyIn 24 = .ok (.imul, 1) := by decide +kernel
theorem dX8_moneyIn_25 : decode cX8_moneyIn 25 = .ok (.iload 5, 2) := by decide +kernel
theorem dX8_moneyIn_27 : decode cX8_moneyIn 27 = .ok (.iadd, 1) := by decide +kernel
theorem dX8_moneyIn_28 : decode cX8_moneyIn 28 = .ok (.iaload, 1) := by decide +kernel
theorem dX8_moneyIn_29 : decode cX8_moneyIn 29 = .ok (.aload_n 0, 1) := by decide +kernel
theorem dX8_moneyIn_30 : decode cX8_moneyIn 30 = .ok (.iload_n 2, 1) := by decide +kernel
theorem dX8_moneyIn_31 : decode cX8_moneyIn 31 = .ok (.iload 5, 2) := by decide +kernel
theorem dX8_moneyIn_33 : decode cX8_moneyIn 33 = .ok (.invokevirtual 110, 3) := by decide +kernel
theorem dX8_moneyIn_36 : decode cX8_moneyIn 36 = .ok (.invokevirtual 180, 3) := by decide +kernel
theorem dX8_moneyIn_39 : decode cX8_moneyIn 39 = .ok (.ladd, 1) := by decide +kernel
theorem dX8_moneyIn_40 : decode cX8_moneyIn 40 = .ok (.lstore_n 3, 1) := by decide +kernel
theorem dX8_moneyIn_41 : decode cX8_moneyIn 41 = .ok (.iinc 5 1, 3) := by decide +kernel
theorem dX8_moneyIn_44 : decode cX8_moneyIn 44 = .ok (.goto (-39), 3) := by decide +kernel
theorem dX8_moneyIn_47 : decode cX8_moneyIn 47 = .ok (.lload_n 3, 1) := by decide +kernel
theorem dX8_moneyIn_48 : decode cX8_moneyIn 48 = .ok (.lreturn, 1) := by decide +kernel
theorem dX8_money_0 : decode cX8_money 0 = .ok (.iload_n 1, 1) := by decide +kernel
theorem dX8_money_1 : decode cX8_money 1 = .ok (.invokestatic 124, 3) := by decide +kernel
theorem dX8_money_4 : decode cX8_money 4 = .ok (.ifCond .eq 10, 3) := by decide +kernel
theorem dX8_money_7 : decode cX8_money 7 = .ok (.iload_n 2, 1) := by decide +kernel
theorem dX8_money_8 : decode cX8_money 8 = .ok (.invokestatic 96, 3) := by decide +kernel
theorem dX8_money_11 : decode cX8_money 11 = .ok (.ifCond .ne 7, 3) := by decide +kernel
theorem dX8_money_14 : decode cX8_money 14 = .ok (.ldc2_w 87, 3) := by decide +kernel
theorem dX8_money_17 : decode cX8_money 17 = .ok (.lreturn, 1) := by decide +kernel
theorem dX8_money_18 : decode cX8_money 18 = .ok (.aload_n 0, 1) := by decide +kernel
theorem dX8_money_19 : decode cX8_money 19 = .ok (.getfield 30, 3) := by decide +kernel
theorem dX8_money_22 : decode cX8_money 22 = .ok (.iload_n 1, 1) := by decide +kernel
theorem dX8_money_23 : decode cX8_money 23 = .ok (.iaload, 1) := by decide +kernel
theorem dX8_money_24 : decode cX8_money 24 = .ok (.ifCond .ge 9, 3) := by decide +kernel
theorem dX8_money_27 : decode cX8_money 27 = .ok (.ldc2_w 108, 3) := by decide +kernel
theorem dX8_money_30 : decode cX8_money 30 = .ok (.goto 9, 3) := by decide +kernel
theorem dX8_money_33 : decode cX8_money 33 = .ok (.aload_n 0, 1) := by decide +kernel
theorem dX8_money_34 : decode cX8_money 34 = .ok (.iload_n 1, 1) := by decide +kernel
theorem dX8_money_35 : decode cX8_money 35 = .ok (.iload_n 2, 1) := by decide +kernel
theorem dX8_money_36 : decode cX8_money 36 = .ok (.invokevirtual 184, 3) := by decide +kernel
theorem dX8_money_39 : decode cX8_money 39 = .ok (.lreturn, 1) := by decide +kernel
theorem dX8_areWorlds_0 : decode cX8_areWorlds 0 = .ok (.iload_n 0, 1) := by decide +kernel
theorem dX8_areWorlds_1 : decode cX8_areWorlds 1 = .ok (.i2l, 1) := by decide +kernel
theorem dX8_areWorlds_2 : decode cX8_areWorlds 2 = .ok (.lconst 1, 1) := by decide +kernel
theorem dX8_areWorlds_3 : decode cX8_areWorlds 3 = .ok (.ldc2_w 188, 3) := by decide +kernel
theorem dX8_areWorlds_6 : decode cX8_areWorlds 6 = .ok (.invokestatic 81, 3) := by decide +kernel
theorem dX8_areWorlds_9 : decode cX8_areWorlds 9 = .ok (.ireturn, 1) := by decide +kernel
theorem dX8_worst_0 : decode cX8_worst 0 = .ok (.iload_n 1, 1) := by decide +kernel
theorem dX8_worst_1 : decode cX8_worst 1 = .ok (.invokestatic 124, 3) := by decide +kernel
theorem dX8_worst_4 : decode cX8_worst 4 = .ok (.ifCond .eq 10, 3) := by decide +kernel
theorem dX8_worst_7 : decode cX8_worst 7 = .ok (.iload_n 2, 1) := by decide +kernel
theorem dX8_worst_8 : decode cX8_worst 8 = .ok (.invokestatic 190, 3) := by decide +kernel
theorem dX8_worst_11 : decode cX8_worst 11 = .ok (.ifCond .ne 7, 3) := by decide +kernel
theorem dX8_worst_14 : decode cX8_worst 14 = .ok (.ldc2_w 87, 3) := by decide +kernel
theorem dX8_worst_17 : decode cX8_worst 17 = .ok (.lreturn, 1) := by decide +kernel
theorem dX8_worst_18 : decode cX8_worst 18 = .ok (.aload_n 0, 1) := by decide +kernel
theorem dX8_worst_19 : decode cX8_worst 19 = .ok (.getfield 30, 3) := by decide +kernel
theorem dX8_worst_22 : decode cX8_worst 22 = .ok (.iload_n 1, 1) := by decide +kernel
theorem dX8_worst_23 : decode cX8_worst 23 = .ok (.iaload, 1) := by decide +kernel
theorem dX8_worst_24 : decode cX8_worst 24 = .ok (.ifCond .ge 7, 3) := by decide +kernel
theorem dX8_worst_27 : decode cX8_worst 27 = .ok (.ldc2_w 108, 3) := by decide +kernel
theorem dX8_worst_30 : decode cX8_worst 30 = .ok (.lreturn, 1) := by decide +kernel
theorem dX8_worst_31 : decode cX8_worst 31 = .ok (.lconst 0, 1) := by decide +kernel
theorem dX8_worst_32 : decode cX8_worst 32 = .ok (.lstore_n 3, 1) := by decide +kernel
theorem dX8_worst_33 : decode cX8_worst 33 = .ok (.iconst 0, 1) := by decide +kernel
theorem dX8_worst_34 : decode cX8_worst 34 = .ok (.istore 5, 2) := by decide +kernel
theorem dX8_worst_36 : decode cX8_worst 36 = .ok (.iconst 0, 1) := by decide +kernel
theorem dX8_worst_37 : decode cX8_worst 37 = .ok (.istore 6, 2) := by decide +kernel
theorem dX8_worst_39 : decode cX8_worst 39 = .ok (.iload 6, 2) := by decide +kernel
theorem dX8_worst_41 : decode cX8_worst 41 = .ok (.iconst 4, 1) := by decide +kernel
theorem dX8_worst_42 : decode cX8_worst 42 = .ok (.if_icmp .ge 50, 3) := by decide +kernel
theorem dX8_worst_45 : decode cX8_worst 45 = .ok (.iload_n 2, 1) := by decide +kernel
theorem dX8_worst_46 : decode cX8_worst 46 = .ok (.iload 6, 2) := by decide +kernel
theorem dX8_worst_48 : decode cX8_worst 48 = .ok (.ishr, 1) := by decide +kernel
theorem dX8_worst_49 : decode cX8_worst 49 = .ok (.iconst 1, 1) := by decide +kernel
theorem dX8_worst_50 : decode cX8_worst 50 = .ok (.iand, 1) := by decide +kernel
theorem dX8_worst_51 : decode cX8_worst 51 = .ok (.iconst 1, 1) := by decide +kernel
theorem dX8_worst_52 : decode cX8_worst 52 = .ok (.if_icmp .ne 34, 3) := by decide +kernel
theorem dX8_worst_55 : decode cX8_worst 55 = .ok (.aload_n 0, 1) := by decide +kernel
theorem dX8_worst_56 : decode cX8_worst 56 = .ok (.iload_n 1, 1) := by decide +kernel
theorem dX8_worst_57 : decode cX8_worst 57 = .ok (.iload 6, 2) := by decide +kernel
theorem dX8_worst_59 : decode cX8_worst 59 = .ok (.invokevirtual 184, 3) := by decide +kernel
theorem dX8_worst_62 : decode cX8_worst 62 = .ok (.lstore 7, 2) := by decide +kernel
theorem dX8_worst_64 : decode cX8_worst 64 = .ok (.iload 5, 2) := by decide +kernel
theorem dX8_worst_66 : decode cX8_worst 66 = .ok (.ifCond .eq 10, 3) := by decide +kernel
theorem dX8_worst_69 : decode cX8_worst 69 = .ok (.lload 7, 2) := by decide +kernel
theorem dX8_worst_71 : decode cX8_worst 71 = .ok (.lload_n 3, 1) := by decide +kernel
theorem dX8_worst_72 : decode cX8_worst 72 = .ok (.lcmp, 1) := by decide +kernel
theorem dX8_worst_73 : decode cX8_worst 73 = .ok (.ifCond .ge 8, 3) := by decide +kernel
theorem dX8_worst_76 : decode cX8_worst 76 = .ok (.lload 7, 2) := by decide +kernel
theorem dX8_worst_78 : decode cX8_worst 78 = .ok (.goto 4, 3) := by decide +kernel
theorem dX8_worst_81 : decode cX8_worst 81 = .ok (.lload_n 3, 1) := by decide +kernel
theorem dX8_worst_82 : decode cX8_worst 82 = .ok (.lstore_n 3, 1) := by decide +kernel
theorem dX8_worst_83 : decode cX8_worst 83 = .ok (.iconst 1, 1) := by decide +kernel
theorem dX8_worst_84 : decode cX8_worst 84 = .ok (.istore 5, 2) := by decide +kernel
theorem dX8_worst_86 : decode cX8_worst 86 = .ok (.iinc 6 1, 3) := by decide +kernel
theorem dX8_worst_89 : decode cX8_worst 89 = .ok (.goto (-50), 3) := by decide +kernel
theorem dX8_worst_92 : decode cX8_worst 92 = .ok (.lload_n 3, 1) := by decide +kernel
theorem dX8_worst_93 : decode cX8_worst 93 = .ok (.lreturn, 1) := by decide +kernel
theorem dX8_moneyTogether_0 : decode cX8_moneyTogether 0 = .ok (.lconst 0, 1) := by decide +kernel
theorem dX8_moneyTogether_1 : decode cX8_moneyTogether 1 = .ok (.lstore 5, 2) := by decide +kernel
theorem dX8_moneyTogether_3 : decode cX8_moneyTogether 3 = .ok (.iconst 0, 1) := by decide +kernel
theorem dX8_moneyTogether_4 : decode cX8_moneyTogether 4 = .ok (.istore 7, 2) := by decide +kernel
theorem dX8_moneyTogether_6 : decode cX8_moneyTogether 6 = .ok (.iload 7, 2) := by decide +kernel
theorem dX8_moneyTogether_8 : decode cX8_moneyTogether 8 = .ok (.iconst 4, 1) := by decide +kernel
theorem dX8_moneyTogether_9 : decode cX8_moneyTogether 9 = .ok (.if_icmp .ge 42, 3) := by decide +kernel
theorem dX8_moneyTogether_12 : decode cX8_moneyTogether 12 = .ok (.lload 5, 2) := by decide +kernel
theorem dX8_moneyTogether_14 : decode cX8_moneyTogether 14 = .ok (.iload_n 2, 1) := by decide +kernel
theorem dX8_moneyTogether_15 : decode cX8_moneyTogether 15 = .ok (.iload 7, 2) := by decide +kernel
theorem dX8_moneyTogether_17 : decode cX8_moneyTogether 17 = .ok (.ishr, 1) := by decide +kernel
theorem dX8_moneyTogether_18 : decode cX8_moneyTogether 18 = .ok (.iconst 1, 1) := by decide +kernel
theorem dX8_moneyTogether_19 : decode cX8_moneyTogether 19 = .ok (.iand, 1) := by decide +kernel
theorem dX8_moneyTogether_20 : decode cX8_moneyTogether 20 = .ok (.iconst 1, 1) := by decide +kernel
theorem dX8_moneyTogether_21 : decode cX8_moneyTogether 21 = .ok (.if_icmp .ne 20, 3) := by decide +kernel
theorem dX8_moneyTogether_24 : decode cX8_moneyTogether 24 = .ok (.aload_n 0, 1) := by decide +kernel
theorem dX8_moneyTogether_25 : decode cX8_moneyTogether 25 = .ok (.iload_n 1, 1) := by decide +kernel
theorem dX8_moneyTogether_26 : decode cX8_moneyTogether 26 = .ok (.iload 4, 2) := by decide +kernel
theorem dX8_moneyTogether_28 : decode cX8_moneyTogether 28 = .ok (.aload_n 0, 1) := by decide +kernel
theorem dX8_moneyTogether_29 : decode cX8_moneyTogether 29 = .ok (.iload 7, 2) := by decide +kernel
theorem dX8_moneyTogether_31 : decode cX8_moneyTogether 31 = .ok (.iload_n 3, 1) := by decide +kernel
theorem dX8_moneyTogether_32 : decode cX8_moneyTogether 32 = .ok (.invokevirtual 110, 3) := by decide +kernel
theorem dX8_moneyTogether_35 : decode cX8_moneyTogether 35 = .ok (.invokevirtual 180, 3) := by decide +kernel
theorem dX8_moneyTogether_38 : decode cX8_moneyTogether 38 = .ok (.goto 4, 3) := by decide +kernel
theorem dX8_moneyTogether_41 : decode cX8_moneyTogether 41 = .ok (.lconst 0, 1) := by decide +kernel
theorem dX8_moneyTogether_42 : decode cX8_moneyTogether 42 = .ok (.ladd, 1) := by decide +kernel
theorem dX8_moneyTogether_43 : decode cX8_moneyTogether 43 = .ok (.lstore 5, 2) := by decide +kernel
theorem dX8_moneyTogether_45 : decode cX8_moneyTogether 45 = .ok (.iinc 7 1, 3) := by decide +kernel
theorem dX8_moneyTogether_48 : decode cX8_moneyTogether 48 = .ok (.goto (-42), 3) := by decide +kernel
theorem dX8_moneyTogether_51 : decode cX8_moneyTogether 51 = .ok (.lload 5, 2) := by decide +kernel
theorem dX8_moneyTogether_53 : decode cX8_moneyTogether 53 = .ok (.lreturn, 1) := by decide +kernel
theorem dX8_with_0 : decode cX8_with 0 = .ok (.iload 4, 2) := by decide +kernel
theorem dX8_with_2 : decode cX8_with 2 = .ok (.iload 5, 2) := by decide +kernel
theorem dX8_with_4 : decode cX8_with 4 = .ok (.iadd, 1) := by decide +kernel
theorem dX8_with_5 : decode cX8_with 5 = .ok (.istore 6, 2) := by decide +kernel
theorem dX8_with_7 : decode cX8_with 7 = .ok (.iload 6, 2) := by decide +kernel
theorem dX8_with_9 : decode cX8_with 9 = .ok (.i2l, 1) := by decide +kernel
theorem dX8_with_10 : decode cX8_with 10 = .ok (.lconst 0, 1) := by decide +kernel
theorem dX8_with_11 : decode cX8_with 11 = .ok (.aload_n 0, 1) := by decide +kernel
theorem dX8_with_12 : decode cX8_with 12 = .ok (.getfield 33, 3) := by decide +kernel
theorem dX8_with_15 : decode cX8_with 15 = .ok (.iload_n 1, 1) := by decide +kernel
theorem dX8_with_16 : decode cX8_with 16 = .ok (.iaload, 1) := by decide +kernel
theorem dX8_with_17 : decode cX8_with 17 = .ok (.i2l, 1) := by decide +kernel
theorem dX8_with_18 : decode cX8_with 18 = .ok (.invokestatic 81, 3) := by decide +kernel
theorem dX8_with_21 : decode cX8_with 21 = .ok (.ifCond .eq 37, 3) := by decide +kernel
theorem dX8_with_24 : decode cX8_with 24 = .ok (.aload_n 0, 1) := by decide +kernel
theorem dX8_with_25 : decode cX8_with 25 = .ok (.iload_n 1, 1) := by decide +kernel
theorem dX8_with_26 : decode cX8_with 26 = .ok (.iload_n 3, 1) := by decide +kernel
theorem dX8_with_27 : decode cX8_with 27 = .ok (.iload 5, 2) := by decide +kernel
theorem dX8_with_29 : decode cX8_with 29 = .ok (.iload 6, 2) := by decide +kernel
theorem dX8_with_31 : decode cX8_with 31 = .ok (.invokevirtual 171, 3) := by decide +kernel
theorem dX8_with_34 : decode cX8_with 34 = .ok (.ifCond .ne 24, 3) := by decide +kernel
theorem dX8_with_37 : decode cX8_with 37 = .ok (.aload_n 0, 1) := by decide +kernel
theorem dX8_with_38 : decode cX8_with 38 = .ok (.getfield 73, 3) := by decide +kernel
theorem dX8_with_41 : decode cX8_with 41 = .ok (.bipush 61, 2) := by decide +kernel
theorem dX8_with_43 : decode cX8_with 43 = .ok (.iload_n 3, 1) := by decide +kernel
theorem dX8_with_44 : decode cX8_with 44 = .ok (.iconst 1, 1) := by decide +kernel
theorem dX8_with_45 : decode cX8_with 45 = .ok (.iadd, 1) := by decide +kernel
theorem dX8_with_46 : decode cX8_with 46 = .ok (.imul, 1) := by decide +kernel
theorem dX8_with_47 : decode cX8_with 47 = .ok (.iload 6, 2) := by decide +kernel
theorem dX8_with_49 : decode cX8_with 49 = .ok (.iadd, 1) := by decide +kernel
theorem dX8_with_50 : decode cX8_with 50 = .ok (.laload, 1) := by decide +kernel
theorem dX8_with_51 : decode cX8_with 51 = .ok (.ldc2_w 193, 3) := by decide +kernel
theorem dX8_with_54 : decode cX8_with 54 = .ok (.lcmp, 1) := by decide +kernel
theorem dX8_with_55 : decode cX8_with 55 = .ok (.ifCond .ne 7, 3) := by decide +kernel
theorem dX8_with_58 : decode cX8_with 58 = .ok (.ldc2_w 193, 3) := by decide +kernel
theorem dX8_with_61 : decode cX8_with 61 = .ok (.lreturn, 1) := by decide +kernel
theorem dX8_with_62 : decode cX8_with 62 = .ok (.aload_n 0, 1) := by decide +kernel
theorem dX8_with_63 : decode cX8_with 63 = .ok (.getfield 73, 3) := by decide +kernel
theorem dX8_with_66 : decode cX8_with 66 = .ok (.bipush 61, 2) := by decide +kernel
theorem dX8_with_68 : decode cX8_with 68 = .ok (.iload_n 3, 1) := by decide +kernel
theorem dX8_with_69 : decode cX8_with 69 = .ok (.iconst 1, 1) := by decide +kernel
theorem dX8_with_70 : decode cX8_with 70 = .ok (.iadd, 1) := by decide +kernel
theorem dX8_with_71 : decode cX8_with 71 = .ok (.imul, 1) := by decide +kernel
theorem dX8_with_72 : decode cX8_with 72 = .ok (.iload 6, 2) := by decide +kernel
theorem dX8_with_74 : decode cX8_with 74 = .ok (.iadd, 1) := by decide +kernel
theorem dX8_with_75 : decode cX8_with 75 = .ok (.laload, 1) := by decide +kernel
theorem dX8_with_76 : decode cX8_with 76 = .ok (.aload_n 0, 1) := by decide +kernel
theorem dX8_with_77 : decode cX8_with 77 = .ok (.iload_n 1, 1) := by decide +kernel
theorem dX8_with_78 : decode cX8_with 78 = .ok (.iload_n 2, 1) := by decide +kernel
theorem dX8_with_79 : decode cX8_with 79 = .ok (.iload_n 3, 1) := by decide +kernel
theorem dX8_with_80 : decode cX8_with 80 = .ok (.iload 5, 2) := by decide +kernel
theorem dX8_with_82 : decode cX8_with 82 = .ok (.invokevirtual 195, 3) := by decide +kernel
theorem dX8_with_85 : decode cX8_with 85 = .ok (.ladd, 1) := by decide +kernel
theorem dX8_with_86 : decode cX8_with 86 = .ok (.lreturn, 1) := by decide +kernel
theorem dX8_solve_0 : decode cX8_solve 0 = .ok (.iconst 0, 1) := by decide +kernel
theorem dX8_solve_1 : decode cX8_solve 1 = .ok (.istore_n 3, 1) := by decide +kernel
theorem dX8_solve_2 : decode cX8_solve 2 = .ok (.iload_n 3, 1) := by decide +kernel
theorem dX8_solve_3 : decode cX8_solve 3 = .ok (.bipush 61, 2) := by decide +kernel
theorem dX8_solve_5 : decode cX8_solve 5 = .ok (.if_icmp .ge 76, 3) := by decide +kernel
theorem dX8_solve_8 : decode cX8_solve 8 = .ok (.iload_n 3, 1) := by decide +kernel
theorem dX8_solve_9 : decode cX8_solve 9 = .ok (.aload_n 0, 1) := by decide +kernel
theorem dX8_solve_10 : decode cX8_solve 10 = .ok (.getfield 51, 3) := by decide +kernel
theorem dX8_solve_13 : decode cX8_solve 13 = .ok (.iload_n 1, 1) := by decide +kernel
theorem dX8_solve_14 : decode cX8_solve 14 = .ok (.iaload, 1) := by decide +kernel
theorem dX8_solve_15 : decode cX8_solve 15 = .ok (.if_icmp .lt 7, 3) := by decide +kernel
theorem dX8_solve_18 : decode cX8_solve 18 = .ok (.iconst 1, 1) := by decide +kernel
theorem dX8_solve_19 : decode cX8_solve 19 = .ok (.goto 4, 3) := by decide +kernel
theorem dX8_solve_22 : decode cX8_solve 22 = .ok (.iconst 0, 1) := by decide +kernel
theorem dX8_solve_23 : decode cX8_solve 23 = .ok (.istore 4, 2) := by decide +kernel
theorem dX8_solve_25 : decode cX8_solve 25 = .ok (.aload_n 0, 1) := by decide +kernel
theorem dX8_solve_26 : decode cX8_solve 26 = .ok (.getfield 73, 3) := by decide +kernel
theorem dX8_solve_29 : decode cX8_solve 29 = .ok (.bipush 61, 2) := by decide +kernel
theorem dX8_solve_31 : decode cX8_solve 31 = .ok (.aload_n 0, 1) := by decide +kernel
theorem dX8_solve_32 : decode cX8_solve 32 = .ok (.getfield 7, 3) := by decide +kernel
theorem dX8_solve_35 : decode cX8_solve 35 = .ok (.imul, 1) := by decide +kernel
theorem dX8_solve_36 : decode cX8_solve 36 = .ok (.iload_n 3, 1) := by decide +kernel
theorem dX8_solve_37 : decode cX8_solve 37 = .ok (.iadd, 1) := by decide +kernel
theorem dX8_solve_38 : decode cX8_solve 38 = .ok (.iload 4, 2) := by decide +kernel
theorem dX8_solve_40 : decode cX8_solve 40 = .ok (.ifCond .eq 7, 3) := by decide +kernel
theorem dX8_solve_43 : decode cX8_solve 43 = .ok (.lconst 0, 1) := by decide +kernel
theorem dX8_solve_44 : decode cX8_solve 44 = .ok (.goto 6, 3) := by decide +kernel
theorem dX8_solve_47 : decode cX8_solve 47 = .ok (.ldc2_w 193, 3) := by decide +kernel
theorem dX8_solve_50 : decode cX8_solve 50 = .ok (.lastore, 1) := by decide +kernel
theorem dX8_solve_51 : decode cX8_solve 51 = .ok (.aload_n 0, 1) := by decide +kernel
theorem dX8_solve_52 : decode cX8_solve 52 = .ok (.getfield 76, 3) := by decide +kernel
theorem dX8_solve_55 : decode cX8_solve 55 = .ok (.bipush 61, 2) := by decide +kernel
theorem dX8_solve_57 : decode cX8_solve 57 = .ok (.aload_n 0, 1) := by decide +kernel
theorem dX8_solve_58 : decode cX8_solve 58 = .ok (.getfield 7, 3) := by decide +kernel
theorem dX8_solve_61 : decode cX8_solve 61 = .ok (.imul, 1) := by decide +kernel
theorem dX8_solve_62 : decode cX8_solve 62 = .ok (.iload_n 3, 1) := by decide +kernel
theorem dX8_solve_63 : decode cX8_solve 63 = .ok (.iadd, 1) := by decide +kernel
theorem dX8_solve_64 : decode cX8_solve 64 = .ok (.iload 4, 2) := by decide +kernel
theorem dX8_solve_66 : decode cX8_solve 66 = .ok (.ifCond .eq 7, 3) := by decide +kernel
theorem dX8_solve_69 : decode cX8_solve 69 = .ok (.lconst 1, 1) := by decide +kernel
theorem dX8_solve_70 : decode cX8_solve 70 = .ok (.goto 4, 3) := by decide +kernel
theorem dX8_solve_73 : decode cX8_solve 73 = .ok (.lconst 0, 1) := by decide +kernel
theorem dX8_solve_74 : decode cX8_solve 74 = .ok (.lastore, 1) := by decide +kernel
theorem dX8_solve_75 : decode cX8_solve 75 = .ok (.iinc 3 1, 3) := by decide +kernel
theorem dX8_solve_78 : decode cX8_solve 78 = .ok (.goto (-76), 3) := by decide +kernel
theorem dX8_solve_81 : decode cX8_solve 81 = .ok (.aload_n 0, 1) := by decide +kernel
theorem dX8_solve_82 : decode cX8_solve 82 = .ok (.getfield 7, 3) := by decide +kernel
theorem dX8_solve_85 : decode cX8_solve 85 = .ok (.iconst 1, 1) := by decide +kernel
theorem dX8_solve_86 : decode cX8_solve 86 = .ok (.isub, 1) := by decide +kernel
theorem dX8_solve_87 : decode cX8_solve 87 = .ok (.istore_n 3, 1) := by decide +kernel
theorem dX8_solve_88 : decode cX8_solve 88 = .ok (.iload_n 3, 1) := by decide +kernel
theorem dX8_solve_89 : decode cX8_solve 89 = .ok (.ifCond .lt 180, 3) := by decide +kernel
theorem dX8_solve_92 : decode cX8_solve 92 = .ok (.iconst 0, 1) := by decide +kernel
theorem dX8_solve_93 : decode cX8_solve 93 = .ok (.istore 4, 2) := by decide +kernel
theorem dX8_solve_95 : decode cX8_solve 95 = .ok (.iload 4, 2) := by decide +kernel
theorem dX8_solve_97 : decode cX8_solve 97 = .ok (.aload_n 0, 1) := by decide +kernel
theorem dX8_solve_98 : decode cX8_solve 98 = .ok (.getfield 33, 3) := by decide +kernel
theorem dX8_solve_101 : decode cX8_solve 101 = .ok (.iload_n 1, 1) := by decide +kernel
theorem dX8_solve_102 : decode cX8_solve 102 = .ok (.iaload, 1) := by decide +kernel
theorem dX8_solve_103 : decode cX8_solve 103 = .ok (.if_icmp .gt 160, 3) := by decide +kernel
theorem dX8_solve_106 : decode cX8_solve 106 = .ok (.ldc2_w 193, 3) := by decide +kernel
theorem dX8_solve_109 : decode cX8_solve 109 = .ok (.lstore 5, 2) := by decide +kernel
theorem dX8_solve_111 : decode cX8_solve 111 = .ok (.lconst 0, 1) := by decide +kernel
theorem dX8_solve_112 : decode cX8_solve 112 = .ok (.lstore 7, 2) := by decide +kernel
theorem dX8_solve_114 : decode cX8_solve 114 = .ok (.aload_n 0, 1) := by decide +kernel
theorem dX8_solve_115 : decode cX8_solve 115 = .ok (.iload_n 1, 1) := by decide +kernel
theorem dX8_solve_116 : decode cX8_solve 116 = .ok (.invokevirtual 152, 3) := by decide +kernel
theorem dX8_solve_119 : decode cX8_solve 119 = .ok (.ineg, 1) := by decide +kernel
theorem dX8_solve_120 : decode cX8_solve 120 = .ok (.istore 9, 2) := by decide +kernel
theorem dX8_solve_122 : decode cX8_solve 122 = .ok (.iload 9, 2) := by decide +kernel
theorem dX8_solve_124 : decode cX8_solve 124 = .ok (.aload_n 0, 1) := by decide +kernel
theorem dX8_solve_125 : decode cX8_solve 125 = .ok (.iload_n 1, 1) := by decide +kernel
theorem dX8_solve_126 : decode cX8_solve 126 = .ok (.invokevirtual 149, 3) := by decide +kernel
theorem dX8_solve_129 : decode cX8_solve 129 = .ok (.if_icmp .gt 100, 3) := by decide +kernel
theorem dX8_solve_132 : decode cX8_solve 132 = .ok (.aload_n 0, 1) := by decide +kernel
theorem dX8_solve_133 : decode cX8_solve 133 = .ok (.iload_n 1, 1) := by decide +kernel
theorem dX8_solve_134 : decode cX8_solve 134 = .ok (.iload_n 2, 1) := by decide +kernel
theorem dX8_solve_135 : decode cX8_solve 135 = .ok (.iload_n 3, 1) := by decide +kernel
theorem dX8_solve_136 : decode cX8_solve 136 = .ok (.iload 4, 2) := by decide +kernel
theorem dX8_solve_138 : decode cX8_solve 138 = .ok (.iload 9, 2) := by decide +kernel
theorem dX8_solve_140 : decode cX8_solve 140 = .ok (.invokevirtual 199, 3) := by decide +kernel
theorem dX8_solve_143 : decode cX8_solve 143 = .ok (.lstore 10, 2) := by decide +kernel
theorem dX8_solve_145 : decode cX8_solve 145 = .ok (.lload 10, 2) := by decide +kernel
theorem dX8_solve_147 : decode cX8_solve 147 = .ok (.ldc2_w 193, 3) := by decide +kernel
theorem dX8_solve_150 : decode cX8_solve 150 = .ok (.lcmp, 1) := by decide +kernel
theorem dX8_solve_151 : decode cX8_solve 151 = .ok (.ifCond .eq 72, 3) := by decide +kernel
theorem dX8_solve_154 : decode cX8_solve 154 = .ok (.lload 10, 2) := by decide +kernel
theorem dX8_solve_156 : decode cX8_solve 156 = .ok (.lload 5, 2) := by decide +kernel
theorem dX8_solve_158 : decode cX8_solve 158 = .ok (.lcmp, 1) := by decide +kernel
theorem dX8_solve_159 : decode cX8_solve 159 = .ok (.ifCond .lt 64, 3) := by decide +kernel
theorem dX8_solve_162 : decode cX8_solve 162 = .ok (.lload 10, 2) := by decide +kernel
theorem dX8_solve_164 : decode cX8_solve 164 = .ok (.lload 5, 2) := by decide +kernel
theorem dX8_solve_166 : decode cX8_solve 166 = .ok (.lcmp, 1) := by decide +kernel
theorem dX8_solve_167 : decode cX8_solve 167 = .ok (.ifCond .le 7, 3) := by decide +kernel
theorem dX8_solve_170 : decode cX8_solve 170 = .ok (.lconst 0, 1) := by decide +kernel
theorem dX8_solve_171 : decode cX8_solve 171 = .ok (.goto 5, 3) := by decide +kernel
theorem dX8_solve_174 : decode cX8_solve 174 = .ok (.lload 7, 2) := by decide +kernel
theorem dX8_solve_176 : decode cX8_solve 176 = .ok (.lstore 7, 2) := by decide +kernel
theorem dX8_solve_178 : decode cX8_solve 178 = .ok (.lload 10, 2) := by decide +kernel
theorem dX8_solve_180 : decode cX8_solve 180 = .ok (.lstore 5, 2) := by decide +kernel
theorem dX8_solve_182 : decode cX8_solve 182 = .ok (.lload 7, 2) := by decide +kernel
theorem dX8_solve_184 : decode cX8_solve 184 = .ok (.aload_n 0, 1) := by decide +kernel
theorem dX8_solve_185 : decode cX8_solve 185 = .ok (.getfield 76, 3) := by decide +kernel
theorem dX8_solve_188 : decode cX8_solve 188 = .ok (.bipush 61, 2) := by decide +kernel
theorem dX8_solve_190 : decode cX8_solve 190 = .ok (.iload_n 3, 1) := by decide +kernel
theorem dX8_solve_191 : decode cX8_solve 191 = .ok (.iconst 1, 1) := by decide +kernel
theorem dX8_solve_192 : decode cX8_solve 192 = .ok (.iadd, 1) := by decide +kernel
theorem dX8_solve_193 : decode cX8_solve 193 = .ok (.imul, 1) := by decide +kernel
theorem dX8_solve_194 : decode cX8_solve 194 = .ok (.iload 4, 2) := by decide +kernel
theorem dX8_solve_196 : decode cX8_solve 196 = .ok (.iadd, 1) := by decide +kernel
theorem dX8_solve_197 : decode cX8_solve 197 = .ok (.iload 9, 2) := by decide +kernel
theorem dX8_solve_199 : decode cX8_solve 199 = .ok (.iadd, 1) := by decide +kernel
theorem dX8_solve_200 : decode cX8_solve 200 = .ok (.laload, 1) := by decide +kernel
theorem dX8_solve_201 : decode cX8_solve 201 = .ok (.ladd, 1) := by decide +kernel
theorem dX8_solve_202 : decode cX8_solve 202 = .ok (.lstore 7, 2) := by decide +kernel
theorem dX8_solve_204 : decode cX8_solve 204 = .ok (.lload 7, 2) := by decide +kernel
theorem dX8_solve_206 : decode cX8_solve 206 = .ok (.ldc2_w 203, 3) := by decide +kernel
theorem dX8_solve_209 : decode cX8_solve 209 = .ok (.lcmp, 1) := by decide +kernel
theorem dX8_solve_210 : decode cX8_solve 210 = .ok (.ifCond .le 9, 3) := by decide +kernel
theorem dX8_solve_213 : decode cX8_solve 213 = .ok (.ldc2_w 205, 3) := by decide +kernel
theorem dX8_solve_216 : decode cX8_solve 216 = .ok (.goto 5, 3) := by decide +kernel
theorem dX8_solve_219 : decode cX8_solve 219 = .ok (.lload 7, 2) := by decide +kernel
theorem dX8_solve_221 : decode cX8_solve 221 = .ok (.lstore 7, 2) := by decide +kernel
theorem dX8_solve_223 : decode cX8_solve 223 = .ok (.iinc 9 1, 3) := by decide +kernel
theorem dX8_solve_226 : decode cX8_solve 226 = .ok (.goto (-104), 3) := by decide +kernel
theorem dX8_solve_229 : decode cX8_solve 229 = .ok (.aload_n 0, 1) := by decide +kernel
theorem dX8_solve_230 : decode cX8_solve 230 = .ok (.getfield 73, 3) := by decide +kernel
theorem dX8_solve_233 : decode cX8_solve 233 = .ok (.bipush 61, 2) := by decide +kernel
theorem dX8_solve_235 : decode cX8_solve 235 = .ok (.iload_n 3, 1) := by decide +kernel
theorem dX8_solve_236 : decode cX8_solve 236 = .ok (.imul, 1) := by decide +kernel
theorem dX8_solve_237 : decode cX8_solve 237 = .ok (.iload 4, 2) := by decide +kernel
theorem dX8_solve_239 : decode cX8_solve 239 = .ok (.iadd, 1) := by decide +kernel
theorem dX8_solve_240 : decode cX8_solve 240 = .ok (.lload 5, 2) := by decide +kernel
theorem dX8_solve_242 : decode cX8_solve 242 = .ok (.lastore, 1) := by decide +kernel
theorem dX8_solve_243 : decode cX8_solve 243 = .ok (.aload_n 0, 1) := by decide +kernel
theorem dX8_solve_244 : decode cX8_solve 244 = .ok (.getfield 76, 3) := by decide +kernel
theorem dX8_solve_247 : decode cX8_solve 247 = .ok (.bipush 61, 2) := by decide +kernel
theorem dX8_solve_249 : decode cX8_solve 249 = .ok (.iload_n 3, 1) := by decide +kernel
theorem dX8_solve_250 : decode cX8_solve 250 = .ok (.imul, 1) := by decide +kernel
theorem dX8_solve_251 : decode cX8_solve 251 = .ok (.iload 4, 2) := by decide +kernel
theorem dX8_solve_253 : decode cX8_solve 253 = .ok (.iadd, 1) := by decide +kernel
theorem dX8_solve_254 : decode cX8_solve 254 = .ok (.lload 7, 2) := by decide +kernel
theorem dX8_solve_256 : decode cX8_solve 256 = .ok (.lastore, 1) := by decide +kernel
theorem dX8_solve_257 : decode cX8_solve 257 = .ok (.iinc 4 1, 3) := by decide +kernel
theorem dX8_solve_260 : decode cX8_solve 260 = .ok (.goto (-165), 3) := by decide +kernel
theorem dX8_solve_263 : decode cX8_solve 263 = .ok (.iinc 3 (-1), 3) := by decide +kernel
theorem dX8_solve_266 : decode cX8_solve 266 = .ok (.goto (-178), 3) := by decide +kernel
theorem dX8_solve_269 : decode cX8_solve 269 = .ok (.return_, 1) := by decide +kernel
theorem dX8_best_0 : decode cX8_best 0 = .ok (.iload_n 1, 1) := by decide +kernel
theorem dX8_best_1 : decode cX8_best 1 = .ok (.invokestatic 124, 3) := by decide +kernel
theorem dX8_best_4 : decode cX8_best 4 = .ok (.ifCond .eq 10, 3) := by decide +kernel
theorem dX8_best_7 : decode cX8_best 7 = .ok (.iload_n 2, 1) := by decide +kernel
theorem dX8_best_8 : decode cX8_best 8 = .ok (.invokestatic 190, 3) := by decide +kernel
theorem dX8_best_11 : decode cX8_best 11 = .ok (.ifCond .ne 7, 3) := by decide +kernel
theorem dX8_best_14 : decode cX8_best 14 = .ok (.ldc2_w 87, 3) := by decide +kernel
theorem dX8_best_17 : decode cX8_best 17 = .ok (.lreturn, 1) := by decide +kernel
theorem dX8_best_18 : decode cX8_best 18 = .ok (.aload_n 0, 1) := by decide +kernel
theorem dX8_best_19 : decode cX8_best 19 = .ok (.getfield 30, 3) := by decide +kernel
theorem dX8_best_22 : decode cX8_best 22 = .ok (.iload_n 1, 1) := by decide +kernel
theorem dX8_best_23 : decode cX8_best 23 = .ok (.iaload, 1) := by decide +kernel
theorem dX8_best_24 : decode cX8_best 24 = .ok (.ifCond .ge 7, 3) := by decide +kernel
theorem dX8_best_27 : decode cX8_best 27 = .ok (.ldc2_w 108, 3) := by decide +kernel
theorem dX8_best_30 : decode cX8_best 30 = .ok (.lreturn, 1) := by decide +kernel
theorem dX8_best_31 : decode cX8_best 31 = .ok (.aload_n 0, 1) := by decide +kernel
theorem dX8_best_32 : decode cX8_best 32 = .ok (.iload_n 1, 1) := by decide +kernel
theorem dX8_best_33 : decode cX8_best 33 = .ok (.iload_n 2, 1) := by decide +kernel
theorem dX8_best_34 : decode cX8_best 34 = .ok (.invokevirtual 207, 3) := by decide +kernel
theorem dX8_best_37 : decode cX8_best 37 = .ok (.aload_n 0, 1) := by decide +kernel
theorem dX8_best_38 : decode cX8_best 38 = .ok (.getfield 36, 3) := by decide +kernel
theorem dX8_best_41 : decode cX8_best 41 = .ok (.iload_n 1, 1) := by decide +kernel
theorem dX8_best_42 : decode cX8_best 42 = .ok (.iaload, 1) := by decide +kernel
theorem dX8_best_43 : decode cX8_best 43 = .ok (.istore_n 3, 1) := by decide +kernel
theorem dX8_best_44 : decode cX8_best 44 = .ok (.aload_n 0, 1) := by decide +kernel
theorem dX8_best_45 : decode cX8_best 45 = .ok (.getfield 73, 3) := by decide +kernel
theorem dX8_best_48 : decode cX8_best 48 = .ok (.iload_n 3, 1) := by decide +kernel
theorem dX8_best_49 : decode cX8_best 49 = .ok (.laload, 1) := by decide +kernel
theorem dX8_best_50 : decode cX8_best 50 = .ok (.ldc2_w 193, 3) := by decide +kernel
theorem dX8_best_53 : decode cX8_best 53 = .ok (.lcmp, 1) := by decide +kernel
theorem dX8_best_54 : decode cX8_best 54 = .ok (.ifCond .ne 7, 3) := by decide +kernel
theorem dX8_best_57 : decode cX8_best 57 = .ok (.ldc2_w 175, 3) := by decide +kernel
theorem dX8_best_60 : decode cX8_best 60 = .ok (.lreturn, 1) := by decide +kernel
theorem dX8_best_61 : decode cX8_best 61 = .ok (.iconst 0, 1) := by decide +kernel
theorem dX8_best_62 : decode cX8_best 62 = .ok (.istore 4, 2) := by decide +kernel
theorem dX8_best_64 : decode cX8_best 64 = .ok (.iload 4, 2) := by decide +kernel
theorem dX8_best_66 : decode cX8_best 66 = .ok (.aload_n 0, 1) := by decide +kernel
theorem dX8_best_67 : decode cX8_best 67 = .ok (.getfield 7, 3) := by decide +kernel
theorem dX8_best_70 : decode cX8_best 70 = .ok (.if_icmp .ge 69, 3) := by decide +kernel
theorem dX8_best_73 : decode cX8_best 73 = .ok (.aload_n 0, 1) := by decide +kernel
theorem dX8_best_74 : decode cX8_best 74 = .ok (.iload_n 1, 1) := by decide +kernel
theorem dX8_best_75 : decode cX8_best 75 = .ok (.invokevirtual 152, 3) := by decide +kernel
theorem dX8_best_78 : decode cX8_best 78 = .ok (.ineg, 1) := by decide +kernel
theorem dX8_best_79 : decode cX8_best 79 = .ok (.istore 5, 2) := by decide +kernel
theorem dX8_best_81 : decode cX8_best 81 = .ok (.aload_n 0, 1) := by decide +kernel
theorem dX8_best_82 : decode cX8_best 82 = .ok (.iload_n 1, 1) := by decide +kernel
theorem dX8_best_83 : decode cX8_best 83 = .ok (.iload_n 2, 1) := by decide +kernel
theorem dX8_best_84 : decode cX8_best 84 = .ok (.iload 4, 2) := by decide +kernel
theorem dX8_best_86 : decode cX8_best 86 = .ok (.iload_n 3, 1) := by decide +kernel
theorem dX8_best_87 : decode cX8_best 87 = .ok (.iload 5, 2) := by decide +kernel
theorem dX8_best_89 : decode cX8_best 89 = .ok (.invokevirtual 199, 3) := by decide +kernel
theorem dX8_best_92 : decode cX8_best 92 = .ok (.aload_n 0, 1) := by decide +kernel
theorem dX8_best_93 : decode cX8_best 93 = .ok (.getfield 73, 3) := by decide +kernel
theorem dX8_best_96 : decode cX8_best 96 = .ok (.bipush 61, 2) := by decide +kernel
theorem dX8_best_98 : decode cX8_best 98 = .ok (.iload 4, 2) := by decide +kernel
theorem dX8_best_100 : decode cX8_best 100 = .ok (.imul, 1) := by decide +kernel
theorem dX8_best_101 : decode cX8_best 101 = .ok (.iload_n 3, 1) := by decide +kernel
theorem dX8_best_102 : decode cX8_best 102 = .ok (.iadd, 1) := by decide +kernel
theorem dX8_best_103 : decode cX8_best 103 = .ok (.laload, 1) := by decide +kernel
theorem dX8_best_104 : decode cX8_best 104 = .ok (.lcmp, 1) := by decide +kernel
theorem dX8_best_105 : decode cX8_best 105 = .ok (.ifCond .eq 9, 3) := by decide +kernel
theorem dX8_best_108 : decode cX8_best 108 = .ok (.iinc 5 1, 3) := by decide +kernel
theorem dX8_best_111 : decode cX8_best 111 = .ok (.goto (-30), 3) := by decide +kernel
theorem dX8_best_114 : decode cX8_best 114 = .ok (.aload_n 0, 1) := by decide +kernel
theorem dX8_best_115 : decode cX8_best 115 = .ok (.getfield 57, 3) := by decide +kernel
theorem dX8_best_118 : decode cX8_best 118 = .ok (.bipush 36, 2) := by decide +kernel
theorem dX8_best_120 : decode cX8_best 120 = .ok (.iload_n 1, 1) := by decide +kernel
theorem dX8_best_121 : decode cX8_best 121 = .ok (.imul, 1) := by decide +kernel
theorem dX8_best_122 : decode cX8_best 122 = .ok (.iload 4, 2) := by decide +kernel
theorem dX8_best_124 : decode cX8_best 124 = .ok (.iadd, 1) := by decide +kernel
theorem dX8_best_125 : decode cX8_best 125 = .ok (.iload 5, 2) := by decide +kernel
theorem dX8_best_127 : decode cX8_best 127 = .ok (.iastore, 1) := by decide +kernel
theorem dX8_best_128 : decode cX8_best 128 = .ok (.iload_n 3, 1) := by decide +kernel
theorem dX8_best_129 : decode cX8_best 129 = .ok (.iload 5, 2) := by decide +kernel
theorem dX8_best_131 : decode cX8_best 131 = .ok (.iadd, 1) := by decide +kernel
theorem dX8_best_132 : decode cX8_best 132 = .ok (.istore_n 3, 1) := by decide +kernel
theorem dX8_best_133 : decode cX8_best 133 = .ok (.iinc 4 1, 3) := by decide +kernel
theorem dX8_best_136 : decode cX8_best 136 = .ok (.goto (-72), 3) := by decide +kernel
theorem dX8_best_139 : decode cX8_best 139 = .ok (.aload_n 0, 1) := by decide +kernel
theorem dX8_best_140 : decode cX8_best 140 = .ok (.getfield 73, 3) := by decide +kernel
theorem dX8_best_143 : decode cX8_best 143 = .ok (.aload_n 0, 1) := by decide +kernel
theorem dX8_best_144 : decode cX8_best 144 = .ok (.getfield 36, 3) := by decide +kernel
theorem dX8_best_147 : decode cX8_best 147 = .ok (.iload_n 1, 1) := by decide +kernel
theorem dX8_best_148 : decode cX8_best 148 = .ok (.iaload, 1) := by decide +kernel
theorem dX8_best_149 : decode cX8_best 149 = .ok (.laload, 1) := by decide +kernel
theorem dX8_best_150 : decode cX8_best 150 = .ok (.lreturn, 1) := by decide +kernel
theorem dX8_many_0 : decode cX8_many 0 = .ok (.iload_n 1, 1) := by decide +kernel
theorem dX8_many_1 : decode cX8_many 1 = .ok (.invokestatic 124, 3) := by decide +kernel
theorem dX8_many_4 : decode cX8_many 4 = .ok (.ifCond .eq 10, 3) := by decide +kernel
theorem dX8_many_7 : decode cX8_many 7 = .ok (.iload_n 2, 1) := by decide +kernel
theorem dX8_many_8 : decode cX8_many 8 = .ok (.invokestatic 190, 3) := by decide +kernel
theorem dX8_many_11 : decode cX8_many 11 = .ok (.ifCond .ne 7, 3) := by decide +kernel
theorem dX8_many_14 : decode cX8_many 14 = .ok (.ldc2_w 87, 3) := by decide +kernel
theorem dX8_many_17 : decode cX8_many 17 = .ok (.lreturn, 1) := by decide +kernel
theorem dX8_many_18 : decode cX8_many 18 = .ok (.aload_n 0, 1) := by decide +kernel
theorem dX8_many_19 : decode cX8_many 19 = .ok (.getfield 30, 3) := by decide +kernel
theorem dX8_many_22 : decode cX8_many 22 = .ok (.iload_n 1, 1) := by decide +kernel
theorem dX8_many_23 : decode cX8_many 23 = .ok (.iaload, 1) := by decide +kernel
theorem dX8_many_24 : decode cX8_many 24 = .ok (.ifCond .ge 7, 3) := by decide +kernel
theorem dX8_many_27 : decode cX8_many 27 = .ok (.ldc2_w 108, 3) := by decide +kernel
theorem dX8_many_30 : decode cX8_many 30 = .ok (.lreturn, 1) := by decide +kernel
theorem dX8_many_31 : decode cX8_many 31 = .ok (.aload_n 0, 1) := by decide +kernel
theorem dX8_many_32 : decode cX8_many 32 = .ok (.iload_n 1, 1) := by decide +kernel
theorem dX8_many_33 : decode cX8_many 33 = .ok (.iload_n 2, 1) := by decide +kernel
theorem dX8_many_34 : decode cX8_many 34 = .ok (.invokevirtual 207, 3) := by decide +kernel
theorem dX8_many_37 : decode cX8_many 37 = .ok (.aload_n 0, 1) := by decide +kernel
theorem dX8_many_38 : decode cX8_many 38 = .ok (.getfield 76, 3) := by decide +kernel
theorem dX8_many_41 : decode cX8_many 41 = .ok (.aload_n 0, 1) := by decide +kernel
theorem dX8_many_42 : decode cX8_many 42 = .ok (.getfield 36, 3) := by decide +kernel
theorem dX8_many_45 : decode cX8_many 45 = .ok (.iload_n 1, 1) := by decide +kernel
theorem dX8_many_46 : decode cX8_many 46 = .ok (.iaload, 1) := by decide +kernel
theorem dX8_many_47 : decode cX8_many 47 = .ok (.laload, 1) := by decide +kernel
theorem dX8_many_48 : decode cX8_many 48 = .ok (.lstore_n 3, 1) := by decide +kernel
theorem dX8_many_49 : decode cX8_many 49 = .ok (.lload_n 3, 1) := by decide +kernel
theorem dX8_many_50 : decode cX8_many 50 = .ok (.ldc2_w 203, 3) := by decide +kernel
theorem dX8_many_53 : decode cX8_many 53 = .ok (.lcmp, 1) := by decide +kernel
theorem dX8_many_54 : decode cX8_many 54 = .ok (.ifCond .le 9, 3) := by decide +kernel
theorem dX8_many_57 : decode cX8_many 57 = .ok (.ldc2_w 203, 3) := by decide +kernel
theorem dX8_many_60 : decode cX8_many 60 = .ok (.goto 4, 3) := by decide +kernel
theorem dX8_many_63 : decode cX8_many 63 = .ok (.lload_n 3, 1) := by decide +kernel
theorem dX8_many_64 : decode cX8_many 64 = .ok (.lreturn, 1) := by decide +kernel
theorem dX8_value_0 : decode cX8_value 0 = .ok (.iload_n 1, 1) := by decide +kernel
theorem dX8_value_1 : decode cX8_value 1 = .ok (.invokestatic 124, 3) := by decide +kernel
theorem dX8_value_4 : decode cX8_value 4 = .ok (.ifCond .eq 10, 3) := by decide +kernel
theorem dX8_value_7 : decode cX8_value 7 = .ok (.iload_n 2, 1) := by decide +kernel
theorem dX8_value_8 : decode cX8_value 8 = .ok (.invokestatic 190, 3) := by decide +kernel
theorem dX8_value_11 : decode cX8_value 11 = .ok (.ifCond .ne 7, 3) := by decide +kernel
theorem dX8_value_14 : decode cX8_value 14 = .ok (.ldc2_w 87, 3) := by decide +kernel
theorem dX8_value_17 : decode cX8_value 17 = .ok (.lreturn, 1) := by decide +kernel
theorem dX8_value_18 : decode cX8_value 18 = .ok (.aload_n 0, 1) := by decide +kernel
theorem dX8_value_19 : decode cX8_value 19 = .ok (.getfield 30, 3) := by decide +kernel
theorem dX8_value_22 : decode cX8_value 22 = .ok (.iload_n 1, 1) := by decide +kernel
theorem dX8_value_23 : decode cX8_value 23 = .ok (.iaload, 1) := by decide +kernel
theorem dX8_value_24 : decode cX8_value 24 = .ok (.ifCond .ge 7, 3) := by decide +kernel
theorem dX8_value_27 : decode cX8_value 27 = .ok (.ldc2_w 108, 3) := by decide +kernel
theorem dX8_value_30 : decode cX8_value 30 = .ok (.lreturn, 1) := by decide +kernel
theorem dX8_value_31 : decode cX8_value 31 = .ok (.iload_n 3, 1) := by decide +kernel
theorem dX8_value_32 : decode cX8_value 32 = .ok (.i2l, 1) := by decide +kernel
theorem dX8_value_33 : decode cX8_value 33 = .ok (.lconst 0, 1) := by decide +kernel
theorem dX8_value_34 : decode cX8_value 34 = .ok (.aload_n 0, 1) := by decide +kernel
theorem dX8_value_35 : decode cX8_value 35 = .ok (.getfield 7, 3) := by decide +kernel
theorem dX8_value_38 : decode cX8_value 38 = .ok (.i2l, 1) := by decide +kernel
theorem dX8_value_39 : decode cX8_value 39 = .ok (.invokestatic 81, 3) := by decide +kernel
theorem dX8_value_42 : decode cX8_value 42 = .ok (.ifCond .eq 20, 3) := by decide +kernel
theorem dX8_value_45 : decode cX8_value 45 = .ok (.iload 4, 2) := by decide +kernel
theorem dX8_value_47 : decode cX8_value 47 = .ok (.i2l, 1) := by decide +kernel
theorem dX8_value_48 : decode cX8_value 48 = .ok (.lconst 0, 1) := by decide +kernel
theorem dX8_value_49 : decode cX8_value 49 = .ok (.aload_n 0, 1) := by decide +kernel
theorem dX8_value_50 : decode cX8_value 50 = .ok (.getfield 33, 3) := by decide +kernel
theorem dX8_value_53 : decode cX8_value 53 = .ok (.iload_n 1, 1) := by decide +kernel
theorem dX8_value_54 : decode cX8_value 54 = .ok (.iaload, 1) := by decide +kernel
theorem dX8_value_55 : decode cX8_value 55 = .ok (.i2l, 1) := by decide +kernel
theorem dX8_value_56 : decode cX8_value 56 = .ok (.invokestatic 81, 3) := by decide +kernel
theorem dX8_value_59 : decode cX8_value 59 = .ok (.ifCond .ne 7, 3) := by decide +kernel
theorem dX8_value_62 : decode cX8_value 62 = .ok (.ldc2_w 87, 3) := by decide +kernel
theorem dX8_value_65 : decode cX8_value 65 = .ok (.lreturn, 1) := by decide +kernel
theorem dX8_value_66 : decode cX8_value 66 = .ok (.aload_n 0, 1) := by decide +kernel
theorem dX8_value_67 : decode cX8_value 67 = .ok (.iload_n 1, 1) := by decide +kernel
theorem dX8_value_68 : decode cX8_value 68 = .ok (.iload_n 2, 1) := by decide +kernel
theorem dX8_value_69 : decode cX8_value 69 = .ok (.invokevirtual 207, 3) := by decide +kernel
theorem dX8_value_72 : decode cX8_value 72 = .ok (.aload_n 0, 1) := by decide +kernel
theorem dX8_value_73 : decode cX8_value 73 = .ok (.getfield 73, 3) := by decide +kernel
theorem dX8_value_76 : decode cX8_value 76 = .ok (.bipush 61, 2) := by decide +kernel
theorem dX8_value_78 : decode cX8_value 78 = .ok (.iload_n 3, 1) := by decide +kernel
theorem dX8_value_79 : decode cX8_value 79 = .ok (.imul, 1) := by decide +kernel
theorem dX8_value_80 : decode cX8_value 80 = .ok (.iload 4, 2) := by decide +kernel
theorem dX8_value_82 : decode cX8_value 82 = .ok (.iadd, 1) := by decide +kernel
theorem dX8_value_83 : decode cX8_value 83 = .ok (.laload, 1) := by decide +kernel
theorem dX8_value_84 : decode cX8_value 84 = .ok (.lstore 5, 2) := by decide +kernel
theorem dX8_value_86 : decode cX8_value 86 = .ok (.lload 5, 2) := by decide +kernel
theorem dX8_value_88 : decode cX8_value 88 = .ok (.ldc2_w 193, 3) := by decide +kernel
theorem dX8_value_91 : decode cX8_value 91 = .ok (.lcmp, 1) := by decide +kernel
theorem dX8_value_92 : decode cX8_value 92 = .ok (.ifCond .ne 9, 3) := by decide +kernel
theorem dX8_value_95 : decode cX8_value 95 = .ok (.ldc2_w 175, 3) := by decide +kernel
theorem dX8_value_98 : decode cX8_value 98 = .ok (.goto 5, 3) := by decide +kernel
theorem dX8_value_101 : decode cX8_value 101 = .ok (.lload 5, 2) := by decide +kernel
theorem dX8_value_103 : decode cX8_value 103 = .ok (.lreturn, 1) := by decide +kernel
theorem dX8_bid_0 : decode cX8_bid 0 = .ok (.aload_n 0, 1) := by decide +kernel
theorem dX8_bid_1 : decode cX8_bid 1 = .ok (.iload_n 1, 1) := by decide +kernel
theorem dX8_bid_2 : decode cX8_bid 2 = .ok (.invokevirtual 158, 3) := by decide +kernel
theorem dX8_bid_5 : decode cX8_bid 5 = .ok (.ifCond .eq 49, 3) := by decide +kernel
theorem dX8_bid_8 : decode cX8_bid 8 = .ok (.aload_n 0, 1) := by decide +kernel
theorem dX8_bid_9 : decode cX8_bid 9 = .ok (.iload_n 2, 1) := by decide +kernel
theorem dX8_bid_10 : decode cX8_bid 10 = .ok (.invokevirtual 158, 3) := by decide +kernel
theorem dX8_bid_13 : decode cX8_bid 13 = .ok (.ifCond .eq 41, 3) := by decide +kernel
theorem dX8_bid_16 : decode cX8_bid 16 = .ok (.iload_n 1, 1) := by decide +kernel
theorem dX8_bid_17 : decode cX8_bid 17 = .ok (.iload_n 2, 1) := by decide +kernel
theorem dX8_bid_18 : decode cX8_bid 18 = .ok (.if_icmp .gt 36, 3) := by decide +kernel
theorem dX8_bid_21 : decode cX8_bid 21 = .ok (.iload_n 3, 1) := by decide +kernel
theorem dX8_bid_22 : decode cX8_bid 22 = .ok (.i2l, 1) := by decide +kernel
theorem dX8_bid_23 : decode cX8_bid 23 = .ok (.ldc2_w 211, 3) := by decide +kernel
theorem dX8_bid_26 : decode cX8_bid 26 = .ok (.ldc2_w 118, 3) := by decide +kernel
theorem dX8_bid_29 : decode cX8_bid 29 = .ok (.invokestatic 81, 3) := by decide +kernel
theorem dX8_bid_32 : decode cX8_bid 32 = .ok (.ifCond .eq 22, 3) := by decide +kernel
theorem dX8_bid_35 : decode cX8_bid 35 = .ok (.iload_n 3, 1) := by decide +kernel
theorem dX8_bid_36 : decode cX8_bid 36 = .ok (.ifCond .eq 18, 3) := by decide +kernel
theorem dX8_bid_39 : decode cX8_bid 39 = .ok (.iload 4, 2) := by decide +kernel
theorem dX8_bid_41 : decode cX8_bid 41 = .ok (.i2l, 1) := by decide +kernel
theorem dX8_bid_42 : decode cX8_bid 42 = .ok (.ldc2_w 213, 3) := by decide +kernel
theorem dX8_bid_45 : decode cX8_bid 45 = .ok (.ldc2_w 215, 3) := by decide +kernel
theorem dX8_bid_48 : decode cX8_bid 48 = .ok (.invokestatic 81, 3) := by decide +kernel
theorem dX8_bid_51 : decode cX8_bid 51 = .ok (.ifCond .ne 7, 3) := by decide +kernel
theorem dX8_bid_54 : decode cX8_bid 54 = .ok (.ldc2_w 87, 3) := by decide +kernel
theorem dX8_bid_57 : decode cX8_bid 57 = .ok (.lreturn, 1) := by decide +kernel
theorem dX8_bid_58 : decode cX8_bid 58 = .ok (.aload_n 0, 1) := by decide +kernel
theorem dX8_bid_59 : decode cX8_bid 59 = .ok (.getfield 89, 3) := by decide +kernel
theorem dX8_bid_62 : decode cX8_bid 62 = .ok (.bipush 12, 2) := by decide +kernel
theorem dX8_bid_64 : decode cX8_bid 64 = .ok (.if_icmp .ne 7, 3) := by decide +kernel
theorem dX8_bid_67 : decode cX8_bid 67 = .ok (.ldc2_w 217, 3) := by decide +kernel
theorem dX8_bid_70 : decode cX8_bid 70 = .ok (.lreturn, 1) := by decide +kernel
theorem dX8_bid_71 : decode cX8_bid 71 = .ok (.aload_n 0, 1) := by decide +kernel
theorem dX8_bid_72 : decode cX8_bid 72 = .ok (.getfield 60, 3) := by decide +kernel
theorem dX8_bid_75 : decode cX8_bid 75 = .ok (.iconst 4, 1) := by decide +kernel
theorem dX8_bid_76 : decode cX8_bid 76 = .ok (.aload_n 0, 1) := by decide +kernel
theorem dX8_bid_77 : decode cX8_bid 77 = .ok (.getfield 89, 3) := by decide +kernel
theorem dX8_bid_80 : decode cX8_bid 80 = .ok (.imul, 1) := by decide +kernel
theorem dX8_bid_81 : decode cX8_bid 81 = .ok (.iload_n 1, 1) := by decide +kernel
theorem dX8_bid_82 : decode cX8_bid 82 = .ok (.iastore, 1) := by decide +kernel
theorem dX8_bid_83 : decode cX8_bid 83 = .ok (.aload_n 0, 1) := by decide +kernel
theorem dX8_bid_84 : decode cX8_bid 84 = .ok (.getfield 60, 3) := by decide +kernel
theorem dX8_bid_87 : decode cX8_bid 87 = .ok (.iconst 4, 1) := by decide +kernel
theorem dX8_bid_88 : decode cX8_bid 88 = .ok (.aload_n 0, 1) := by decide +kernel
theorem dX8_bid_89 : decode cX8_bid 89 = .ok (.getfield 89, 3) := by decide +kernel
theorem dX8_bid_92 : decode cX8_bid 92 = .ok (.imul, 1) := by decide +kernel
theorem dX8_bid_93 : decode cX8_bid 93 = .ok (.iconst 1, 1) := by decide +kernel
theorem dX8_bid_94 : decode cX8_bid 94 = .ok (.iadd, 1) := by decide +kernel
theorem dX8_bid_95 : decode cX8_bid 95 = .ok (.iload_n 2, 1) := by decide +kernel
theorem dX8_bid_96 : decode cX8_bid 96 = .ok (.iastore, 1) := by decide +kernel
theorem dX8_bid_97 : decode cX8_bid 97 = .ok (.aload_n 0, 1) := by decide +kernel
theorem dX8_bid_98 : decode cX8_bid 98 = .ok (.getfield 60, 3) := by decide +kernel
theorem dX8_bid_101 : decode cX8_bid 101 = .ok (.iconst 4, 1) := by decide +kernel
theorem dX8_bid_102 : decode cX8_bid 102 = .ok (.aload_n 0, 1) := by decide +kernel
theorem dX8_bid_103 : decode cX8_bid 103 = .ok (.getfield 89, 3) := by decide +kernel
theorem dX8_bid_106 : decode cX8_bid 106 = .ok (.imul, 1) := by decide +kernel
theorem dX8_bid_107 : decode cX8_bid 107 = .ok (.iconst 2, 1) := by decide +kernel
theorem dX8_bid_108 : decode cX8_bid 108 = .ok (.iadd, 1) := by decide +kernel
theorem dX8_bid_109 : decode cX8_bid 109 = .ok (.iload_n 3, 1) := by decide +kernel
theorem dX8_bid_110 : decode cX8_bid 110 = .ok (.iastore, 1) := by decide +kernel
theorem dX8_bid_111 : decode cX8_bid 111 = .ok (.aload_n 0, 1) := by decide +kernel
theorem dX8_bid_112 : decode cX8_bid 112 = .ok (.getfield 60, 3) := by decide +kernel
theorem dX8_bid_115 : decode cX8_bid 115 = .ok (.iconst 4, 1) := by decide +kernel
theorem dX8_bid_116 : decode cX8_bid 116 = .ok (.aload_n 0, 1) := by decide +kernel
theorem dX8_bid_117 : decode cX8_bid 117 = .ok (.getfield 89, 3) := by decide +kernel
theorem dX8_bid_120 : decode cX8_bid 120 = .ok (.imul, 1) := by decide +kernel
theorem dX8_bid_121 : decode cX8_bid 121 = .ok (.iconst 3, 1) := by decide +kernel
theorem dX8_bid_122 : decode cX8_bid 122 = .ok (.iadd, 1) := by decide +kernel
theorem dX8_bid_123 : decode cX8_bid 123 = .ok (.iload 4, 2) := by decide +kernel
theorem dX8_bid_125 : decode cX8_bid 125 = .ok (.iastore, 1) := by decide +kernel
theorem dX8_bid_126 : decode cX8_bid 126 = .ok (.aload_n 0, 1) := by decide +kernel
theorem dX8_bid_127 : decode cX8_bid 127 = .ok (.dup, 1) := by decide +kernel
theorem dX8_bid_128 : decode cX8_bid 128 = .ok (.getfield 89, 3) := by decide +kernel
