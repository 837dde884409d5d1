theorem dX8_init_0 : decode cX8_init 0 = .ok (.aload_n 0, 1) := by decide +kernel
theorem dX8_init_1 : decode cX8_init 1 = .ok (.invokespecial 1, 3) := by decide +kernel
theorem dX8_init_4 : decode cX8_init 4 = .ok (.aload_n 0, 1) := by decide +kernel
theorem dX8_init_5 : decode cX8_init 5 = .ok (.bipush 24, 2) := by decide +kernel
theorem dX8_init_7 : decode cX8_init 7 = .ok (.putfield 7, 3) := by decide +kernel
theorem dX8_init_10 : decode cX8_init 10 = .ok (.aload_n 0, 1) := by decide +kernel
theorem dX8_init_11 : decode cX8_init 11 = .ok (.bipush 36, 2) := by decide +kernel
theorem dX8_init_13 : decode cX8_init 13 = .ok (.newarray .boolean, 2) := by decide +kernel
theorem dX8_init_15 : decode cX8_init 15 = .ok (.putfield 13, 3) := by decide +kernel
theorem dX8_init_18 : decode cX8_init 18 = .ok (.aload_n 0, 1) := by decide +kernel
theorem dX8_init_19 : decode cX8_init 19 = .ok (.bipush 36, 2) := by decide +kernel
theorem dX8_init_21 : decode cX8_init 21 = .ok (.newarray .int, 2) := by decide +kernel
theorem dX8_init_23 : decode cX8_init 23 = .ok (.putfield 17, 3) := by decide +kernel
theorem dX8_init_26 : decode cX8_init 26 = .ok (.aload_n 0, 1) := by decide +kernel
theorem dX8_init_27 : decode cX8_init 27 = .ok (.iconst 4, 1) := by decide +kernel
theorem dX8_init_28 : decode cX8_init 28 = .ok (.newarray .int, 2) := by decide +kernel
theorem dX8_init_30 : decode cX8_init 30 = .ok (.putfield 21, 3) := by decide +kernel
theorem dX8_init_33 : decode cX8_init 33 = .ok (.aload_n 0, 1) := by decide +kernel
theorem dX8_init_34 : decode cX8_init 34 = .ok (.iconst 4, 1) := by decide +kernel
theorem dX8_init_35 : decode cX8_init 35 = .ok (.newarray .int, 2) := by decide +kernel
theorem dX8_init_37 : decode cX8_init 37 = .ok (.putfield 24, 3) := by decide +kernel
theorem dX8_init_40 : decode cX8_init 40 = .ok (.aload_n 0, 1) := by decide +kernel
theorem dX8_init_41 : decode cX8_init 41 = .ok (.sipush 144, 3) := by decide +kernel
theorem dX8_init_44 : decode cX8_init 44 = .ok (.newarray .int, 2) := by decide +kernel
theorem dX8_init_46 : decode cX8_init 46 = .ok (.putfield 27, 3) := by decide +kernel
theorem dX8_init_49 : decode cX8_init 49 = .ok (.aload_n 0, 1) := by decide +kernel
theorem dX8_init_50 : decode cX8_init 50 = .ok (.iconst 4, 1) := by decide +kernel
theorem dX8_init_51 : decode cX8_init 51 = .ok (.newarray .int, 2) := by decide +kernel
theorem dX8_init_53 : decode cX8_init 53 = .ok (.putfield 30, 3) := by decide +kernel
theorem dX8_init_56 : decode cX8_init 56 = .ok (.aload_n 0, 1) := by decide +kernel
theorem dX8_init_57 : decode cX8_init 57 = .ok (.iconst 4, 1) := by decide +kernel
theorem dX8_init_58 : decode cX8_init 58 = .ok (.newarray .int, 2) := by decide +kernel
theorem dX8_init_60 : decode cX8_init 60 = .ok (.putfield 33, 3) := by decide +kernel
theorem dX8_init_63 : decode cX8_init 63 = .ok (.aload_n 0, 1) := by decide +kernel
theorem dX8_init_64 : decode cX8_init 64 = .ok (.iconst 4, 1) := by decide +kernel
theorem dX8_init_65 : decode cX8_init 65 = .ok (.newarray .int, 2) := by decide +kernel
theorem dX8_init_67 : decode cX8_init 67 = .ok (.putfield 36, 3) := by decide +kernel
theorem dX8_init_70 : decode cX8_init 70 = .ok (.aload_n 0, 1) := by decide +kernel
theorem dX8_init_71 : decode cX8_init 71 = .ok (.iconst 4, 1) := by decide +kernel
theorem dX8_init_72 : decode cX8_init 72 = .ok (.newarray .int, 2) := by decide +kernel
theorem dX8_init_74 : decode cX8_init 74 = .ok (.putfield 39, 3) := by decide +kernel
theorem dX8_init_77 : decode cX8_init 77 = .ok (.aload_n 0, 1) := by decide +kernel
theorem dX8_init_78 : decode cX8_init 78 = .ok (.iconst 4, 1) := by decide +kernel
theorem dX8_init_79 : decode cX8_init 79 = .ok (.newarray .int, 2) := by decide +kernel
theorem dX8_init_81 : decode cX8_init 81 = .ok (.putfield 42, 3) := by decide +kernel
theorem dX8_init_84 : decode cX8_init 84 = .ok (.aload_n 0, 1) := by decide +kernel
theorem dX8_init_85 : decode cX8_init 85 = .ok (.iconst 4, 1) := by decide +kernel
theorem dX8_init_86 : decode cX8_init 86 = .ok (.newarray .int, 2) := by decide +kernel
theorem dX8_init_88 : decode cX8_init 88 = .ok (.putfield 45, 3) := by decide +kernel
theorem dX8_init_91 : decode cX8_init 91 = .ok (.aload_n 0, 1) := by decide +kernel
theorem dX8_init_92 : decode cX8_init 92 = .ok (.iconst 4, 1) := by decide +kernel
theorem dX8_init_93 : decode cX8_init 93 = .ok (.newarray .int, 2) := by decide +kernel
theorem dX8_init_95 : decode cX8_init 95 = .ok (.putfield 48, 3) := by decide +kernel
theorem dX8_init_98 : decode cX8_init 98 = .ok (.aload_n 0, 1) := by decide +kernel
theorem dX8_init_99 : decode cX8_init 99 = .ok (.iconst 4, 1) := by decide +kernel
theorem dX8_init_100 : decode cX8_init 100 = .ok (.newarray .int, 2) := by decide +kernel
theorem dX8_init_102 : decode cX8_init 102 = .ok (.putfield 51, 3) := by decide +kernel
theorem dX8_init_105 : decode cX8_init 105 = .ok (.aload_n 0, 1) := by decide +kernel
theorem dX8_init_106 : decode cX8_init 106 = .ok (.iconst 4, 1) := by decide +kernel
theorem dX8_init_107 : decode cX8_init 107 = .ok (.newarray .int, 2) := by decide +kernel
theorem dX8_init_109 : decode cX8_init 109 = .ok (.putfield 54, 3) := by decide +kernel
theorem dX8_init_112 : decode cX8_init 112 = .ok (.aload_n 0, 1) := by decide +kernel
theorem dX8_init_113 : decode cX8_init 113 = .ok (.sipush 144, 3) := by decide +kernel
theorem dX8_init_116 : decode cX8_init 116 = .ok (.newarray .int, 2) := by decide +kernel
theorem dX8_init_118 : decode cX8_init 118 = .ok (.putfield 57, 3) := by decide +kernel
theorem dX8_init_121 : decode cX8_init 121 = .ok (.aload_n 0, 1) := by decide +kernel
theorem dX8_init_122 : decode cX8_init 122 = .ok (.bipush 48, 2) := by decide +kernel
theorem dX8_init_124 : decode cX8_init 124 = .ok (.newarray .int, 2) := by decide +kernel
theorem dX8_init_126 : decode cX8_init 126 = .ok (.putfield 60, 3) := by decide +kernel
theorem dX8_init_129 : decode cX8_init 129 = .ok (.aload_n 0, 1) := by decide +kernel
theorem dX8_init_130 : decode cX8_init 130 = .ok (.bipush 36, 2) := by decide +kernel
theorem dX8_init_132 : decode cX8_init 132 = .ok (.newarray .int, 2) := by decide +kernel
theorem dX8_init_134 : decode cX8_init 134 = .ok (.putfield 63, 3) := by decide +kernel
theorem dX8_init_137 : decode cX8_init 137 = .ok (.aload_n 0, 1) := by decide +kernel
theorem dX8_init_138 : decode cX8_init 138 = .ok (.sipush 750, 3) := by decide +kernel
theorem dX8_init_141 : decode cX8_init 141 = .ok (.newarray .long, 2) := by decide +kernel
theorem dX8_init_143 : decode cX8_init 143 = .ok (.putfield 66, 3) := by decide +kernel
theorem dX8_init_146 : decode cX8_init 146 = .ok (.aload_n 0, 1) := by decide +kernel
theorem dX8_init_147 : decode cX8_init 147 = .ok (.bipush 36, 2) := by decide +kernel
theorem dX8_init_149 : decode cX8_init 149 = .ok (.newarray .int, 2) := by decide +kernel
theorem dX8_init_151 : decode cX8_init 151 = .ok (.putfield 70, 3) := by decide +kernel
theorem dX8_init_154 : decode cX8_init 154 = .ok (.aload_n 0, 1) := by decide +kernel
theorem dX8_init_155 : decode cX8_init 155 = .ok (.sipush 2257, 3) := by decide +kernel
theorem dX8_init_158 : decode cX8_init 158 = .ok (.newarray .long, 2) := by decide +kernel
theorem dX8_init_160 : decode cX8_init 160 = .ok (.putfield 73, 3) := by decide +kernel
theorem dX8_init_163 : decode cX8_init 163 = .ok (.aload_n 0, 1) := by decide +kernel
theorem dX8_init_164 : decode cX8_init 164 = .ok (.sipush 2257, 3) := by decide +kernel
theorem dX8_init_167 : decode cX8_init 167 = .ok (.newarray .long, 2) := by decide +kernel
theorem dX8_init_169 : decode cX8_init 169 = .ok (.putfield 76, 3) := by decide +kernel
theorem dX8_init_172 : decode cX8_init 172 = .ok (.iconst 0, 1) := by decide +kernel
theorem dX8_init_173 : decode cX8_init 173 = .ok (.istore_n 1, 1) := by decide +kernel
theorem dX8_init_174 : decode cX8_init 174 = .ok (.iload_n 1, 1) := by decide +kernel
theorem dX8_init_175 : decode cX8_init 175 = .ok (.iconst 4, 1) := by decide +kernel
theorem dX8_init_176 : decode cX8_init 176 = .ok (.if_icmp .ge 23, 3) := by decide +kernel
theorem dX8_init_179 : decode cX8_init 179 = .ok (.aload_n 0, 1) := by decide +kernel
theorem dX8_init_180 : decode cX8_init 180 = .ok (.getfield 21, 3) := by decide +kernel
theorem dX8_init_183 : decode cX8_init 183 = .ok (.iload_n 1, 1) := by decide +kernel
theorem dX8_init_184 : decode cX8_init 184 = .ok (.iconst (-1), 1) := by decide +kernel
theorem dX8_init_185 : decode cX8_init 185 = .ok (.iastore, 1) := by decide +kernel
theorem dX8_init_186 : decode cX8_init 186 = .ok (.aload_n 0, 1) := by decide +kernel
theorem dX8_init_187 : decode cX8_init 187 = .ok (.getfield 30, 3) := by decide +kernel
theorem dX8_init_190 : decode cX8_init 190 = .ok (.iload_n 1, 1) := by decide +kernel
theorem dX8_init_191 : decode cX8_init 191 = .ok (.iconst (-1), 1) := by decide +kernel
theorem dX8_init_192 : decode cX8_init 192 = .ok (.iastore, 1) := by decide +kernel
theorem dX8_init_193 : decode cX8_init 193 = .ok (.iinc 1 1, 3) := by decide +kernel
theorem dX8_init_196 : decode cX8_init 196 = .ok (.goto (-22), 3) := by decide +kernel
theorem dX8_init_199 : decode cX8_init 199 = .ok (.iconst 0, 1) := by decide +kernel
theorem dX8_init_200 : decode cX8_init 200 = .ok (.istore_n 1, 1) := by decide +kernel
theorem dX8_init_201 : decode cX8_init 201 = .ok (.iload_n 1, 1) := by decide +kernel
theorem dX8_init_202 : decode cX8_init 202 = .ok (.bipush 36, 2) := by decide +kernel
theorem dX8_init_204 : decode cX8_init 204 = .ok (.if_icmp .ge 18, 3) := by decide +kernel
theorem dX8_init_207 : decode cX8_init 207 = .ok (.aload_n 0, 1) := by decide +kernel
theorem dX8_init_208 : decode cX8_init 208 = .ok (.getfield 63, 3) := by decide +kernel
theorem dX8_init_211 : decode cX8_init 211 = .ok (.iload_n 1, 1) := by decide +kernel
theorem dX8_init_212 : decode cX8_init 212 = .ok (.sipush (-1001), 3) := by decide +kernel
theorem dX8_init_215 : decode cX8_init 215 = .ok (.iastore, 1) := by decide +kernel
theorem dX8_init_216 : decode cX8_init 216 = .ok (.iinc 1 1, 3) := by decide +kernel
theorem dX8_init_219 : decode cX8_init 219 = .ok (.goto (-18), 3) := by decide +kernel
theorem dX8_init_222 : decode cX8_init 222 = .ok (.return_, 1) := by decide +kernel
theorem dX8_isIn_0 : decode cX8_isIn 0 = .ok (.lload_n 0, 1) := by decide +kernel
theorem dX8_isIn_1 : decode cX8_isIn 1 = .ok (.lload_n 2, 1) := by decide +kernel
theorem dX8_isIn_2 : decode cX8_isIn 2 = .ok (.lcmp, 1) := by decide +kernel
theorem dX8_isIn_3 : decode cX8_isIn 3 = .ok (.ifCond .lt 14, 3) := by decide +kernel
theorem dX8_isIn_6 : decode cX8_isIn 6 = .ok (.lload_n 0, 1) := by decide +kernel
theorem dX8_isIn_7 : decode cX8_isIn 7 = .ok (.lload 4, 2) := by decide +kernel
theorem dX8_isIn_9 : decode cX8_isIn 9 = .ok (.lcmp, 1) := by decide +kernel
theorem dX8_isIn_10 : decode cX8_isIn 10 = .ok (.ifCond .gt 7, 3) := by decide +kernel
theorem dX8_isIn_13 : decode cX8_isIn 13 = .ok (.iconst 1, 1) := by decide +kernel
theorem dX8_isIn_14 : decode cX8_isIn 14 = .ok (.goto 4, 3) := by decide +kernel
theorem dX8_isIn_17 : decode cX8_isIn 17 = .ok (.iconst 0, 1) := by decide +kernel
theorem dX8_isIn_18 : decode cX8_isIn 18 = .ok (.ireturn, 1) := by decide +kernel
theorem dX8_isWorld_0 : decode cX8_isWorld 0 = .ok (.iload_n 0, 1) := by decide +kernel
theorem dX8_isWorld_1 : decode cX8_isWorld 1 = .ok (.i2l, 1) := by decide +kernel
theorem dX8_isWorld_2 : decode cX8_isWorld 2 = .ok (.lconst 0, 1) := by decide +kernel
theorem dX8_isWorld_3 : decode cX8_isWorld 3 = .ok (.ldc2_w 79, 3) := by decide +kernel
theorem dX8_isWorld_6 : decode cX8_isWorld 6 = .ok (.invokestatic 81, 3) := by decide +kernel
theorem dX8_isWorld_9 : decode cX8_isWorld 9 = .ok (.ireturn, 1) := by decide +kernel
theorem dX8_isStore_0 : decode cX8_isStore 0 = .ok (.iload_n 0, 1) := by decide +kernel
theorem dX8_isStore_1 : decode cX8_isStore 1 = .ok (.i2l, 1) := by decide +kernel
theorem dX8_isStore_2 : decode cX8_isStore 2 = .ok (.lconst 0, 1) := by decide +kernel
theorem dX8_isStore_3 : decode cX8_isStore 3 = .ok (.ldc2_w 79, 3) := by decide +kernel
theorem dX8_isStore_6 : decode cX8_isStore 6 = .ok (.invokestatic 81, 3) := by decide +kernel
theorem dX8_isStore_9 : decode cX8_isStore 9 = .ok (.ireturn, 1) := by decide +kernel
theorem dX8_isStep_0 : decode cX8_isStep 0 = .ok (.iload_n 1, 1) := by decide +kernel
theorem dX8_isStep_1 : decode cX8_isStep 1 = .ok (.i2l, 1) := by decide +kernel
theorem dX8_isStep_2 : decode cX8_isStep 2 = .ok (.lconst 0, 1) := by decide +kernel
theorem dX8_isStep_3 : decode cX8_isStep 3 = .ok (.aload_n 0, 1) := by decide +kernel
theorem dX8_isStep_4 : decode cX8_isStep 4 = .ok (.getfield 7, 3) := by decide +kernel
theorem dX8_isStep_7 : decode cX8_isStep 7 = .ok (.iconst 1, 1) := by decide +kernel
theorem dX8_isStep_8 : decode cX8_isStep 8 = .ok (.isub, 1) := by decide +kernel
theorem dX8_isStep_9 : decode cX8_isStep 9 = .ok (.i2l, 1) := by decide +kernel
theorem dX8_isStep_10 : decode cX8_isStep 10 = .ok (.invokestatic 81, 3) := by decide +kernel
theorem dX8_isStep_13 : decode cX8_isStep 13 = .ok (.ireturn, 1) := by decide +kernel
theorem dX8_cut_0 : decode cX8_cut 0 = .ok (.iload_n 0, 1) := by decide +kernel
theorem dX8_cut_1 : decode cX8_cut 1 = .ok (.iload_n 1, 1) := by decide +kernel
theorem dX8_cut_2 : decode cX8_cut 2 = .ok (.idiv, 1) := by decide +kernel
theorem dX8_cut_3 : decode cX8_cut 3 = .ok (.istore_n 2, 1) := by decide +kernel
theorem dX8_cut_4 : decode cX8_cut 4 = .ok (.iload_n 0, 1) := by decide +kernel
theorem dX8_cut_5 : decode cX8_cut 5 = .ok (.iload_n 1, 1) := by decide +kernel
theorem dX8_cut_6 : decode cX8_cut 6 = .ok (.irem, 1) := by decide +kernel
theorem dX8_cut_7 : decode cX8_cut 7 = .ok (.ifCond .eq 13, 3) := by decide +kernel
theorem dX8_cut_10 : decode cX8_cut 10 = .ok (.iload_n 0, 1) := by decide +kernel
theorem dX8_cut_11 : decode cX8_cut 11 = .ok (.ifCond .ge 9, 3) := by decide +kernel
theorem dX8_cut_14 : decode cX8_cut 14 = .ok (.iload_n 2, 1) := by decide +kernel
theorem dX8_cut_15 : decode cX8_cut 15 = .ok (.iconst 1, 1) := by decide +kernel
theorem dX8_cut_16 : decode cX8_cut 16 = .ok (.isub, 1) := by decide +kernel
theorem dX8_cut_17 : decode cX8_cut 17 = .ok (.goto 4, 3) := by decide +kernel
theorem dX8_cut_20 : decode cX8_cut 20 = .ok (.iload_n 2, 1) := by decide +kernel
theorem dX8_cut_21 : decode cX8_cut 21 = .ok (.ireturn, 1) := by decide +kernel
theorem dX8_room_0 : decode cX8_room 0 = .ok (.aload_n 0, 1) := by decide +kernel
theorem dX8_room_1 : decode cX8_room 1 = .ok (.getfield 13, 3) := by decide +kernel
theorem dX8_room_4 : decode cX8_room 4 = .ok (.iload_n 1, 1) := by decide +kernel
theorem dX8_room_5 : decode cX8_room 5 = .ok (.baload, 1) := by decide +kernel
theorem dX8_room_6 : decode cX8_room 6 = .ok (.ifCond .eq 7, 3) := by decide +kernel
theorem dX8_room_9 : decode cX8_room 9 = .ok (.iconst 0, 1) := by decide +kernel
theorem dX8_room_10 : decode cX8_room 10 = .ok (.goto 9, 3) := by decide +kernel
theorem dX8_room_13 : decode cX8_room 13 = .ok (.aload_n 0, 1) := by decide +kernel
theorem dX8_room_14 : decode cX8_room 14 = .ok (.getfield 17, 3) := by decide +kernel
theorem dX8_room_17 : decode cX8_room 17 = .ok (.iload_n 1, 1) := by decide +kernel
theorem dX8_room_18 : decode cX8_room 18 = .ok (.iaload, 1) := by decide +kernel
theorem dX8_room_19 : decode cX8_room 19 = .ok (.ireturn, 1) := by decide +kernel
theorem dX8_time_0 : decode cX8_time 0 = .ok (.iload_n 1, 1) := by decide +kernel
theorem dX8_time_1 : decode cX8_time 1 = .ok (.i2l, 1) := by decide +kernel
theorem dX8_time_2 : decode cX8_time 2 = .ok (.lconst 1, 1) := by decide +kernel
theorem dX8_time_3 : decode cX8_time 3 = .ok (.ldc2_w 85, 3) := by decide +kernel
theorem dX8_time_6 : decode cX8_time 6 = .ok (.invokestatic 81, 3) := by decide +kernel
theorem dX8_time_9 : decode cX8_time 9 = .ok (.ifCond .ne 7, 3) := by decide +kernel
theorem dX8_time_12 : decode cX8_time 12 = .ok (.ldc2_w 87, 3) := by decide +kernel
theorem dX8_time_15 : decode cX8_time 15 = .ok (.lreturn, 1) := by decide +kernel
theorem dX8_time_16 : decode cX8_time 16 = .ok (.aload_n 0, 1) := by decide +kernel
theorem dX8_time_17 : decode cX8_time 17 = .ok (.getfield 89, 3) := by decide +kernel
theorem dX8_time_20 : decode cX8_time 20 = .ok (.istore_n 2, 1) := by decide +kernel
theorem dX8_time_21 : decode cX8_time 21 = .ok (.aload_n 0, 1) := by decide +kernel
theorem dX8_time_22 : decode cX8_time 22 = .ok (.iload_n 1, 1) := by decide +kernel
theorem dX8_time_23 : decode cX8_time 23 = .ok (.putfield 7, 3) := by decide +kernel
theorem dX8_time_26 : decode cX8_time 26 = .ok (.aload_n 0, 1) := by decide +kernel
theorem dX8_time_27 : decode cX8_time 27 = .ok (.iconst 0, 1) := by decide +kernel
theorem dX8_time_28 : decode cX8_time 28 = .ok (.putfield 89, 3) := by decide +kernel
theorem dX8_time_31 : decode cX8_time 31 = .ok (.iconst 0, 1) := by decide +kernel
theorem dX8_time_32 : decode cX8_time 32 = .ok (.istore_n 3, 1) := by decide +kernel
theorem dX8_time_33 : decode cX8_time 33 = .ok (.iload_n 3, 1) := by decide +kernel
theorem dX8_time_34 : decode cX8_time 34 = .ok (.sipush 144, 3) := by decide +kernel
theorem dX8_time_37 : decode cX8_time 37 = .ok (.if_icmp .ge 16, 3) := by decide +kernel
theorem dX8_time_40 : decode cX8_time 40 = .ok (.aload_n 0, 1) := by decide +kernel
theorem dX8_time_41 : decode cX8_time 41 = .ok (.getfield 57, 3) := by decide +kernel
theorem dX8_time_44 : decode cX8_time 44 = .ok (.iload_n 3, 1) := by decide +kernel
theorem dX8_time_45 : decode cX8_time 45 = .ok (.iconst 0, 1) := by decide +kernel
theorem dX8_time_46 : decode cX8_time 46 = .ok (.iastore, 1) := by decide +kernel
theorem dX8_time_47 : decode cX8_time 47 = .ok (.iinc 3 1, 3) := by decide +kernel
theorem dX8_time_50 : decode cX8_time 50 = .ok (.goto (-17), 3) := by decide +kernel
theorem dX8_time_53 : decode cX8_time 53 = .ok (.iload_n 2, 1) := by decide +kernel
theorem dX8_time_54 : decode cX8_time 54 = .ok (.i2l, 1) := by decide +kernel
theorem dX8_time_55 : decode cX8_time 55 = .ok (.lreturn, 1) := by decide +kernel
theorem dX8_dark_0 : decode cX8_dark 0 = .ok (.iload_n 1, 1) := by decide +kernel
theorem dX8_dark_1 : decode cX8_dark 1 = .ok (.i2l, 1) := by decide +kernel
theorem dX8_dark_2 : decode cX8_dark 2 = .ok (.lconst 0, 1) := by decide +kernel
theorem dX8_dark_3 : decode cX8_dark 3 = .ok (.ldc2_w 92, 3) := by decide +kernel
theorem dX8_dark_6 : decode cX8_dark 6 = .ok (.invokestatic 81, 3) := by decide +kernel
theorem dX8_dark_9 : decode cX8_dark 9 = .ok (.ifCond .eq 13, 3) := by decide +kernel
theorem dX8_dark_12 : decode cX8_dark 12 = .ok (.iload_n 2, 1) := by decide +kernel
theorem dX8_dark_13 : decode cX8_dark 13 = .ok (.i2l, 1) := by decide +kernel
theorem dX8_dark_14 : decode cX8_dark 14 = .ok (.lconst 0, 1) := by decide +kernel
theorem dX8_dark_15 : decode cX8_dark 15 = .ok (.lconst 1, 1) := by decide +kernel
theorem dX8_dark_16 : decode cX8_dark 16 = .ok (.invokestatic 81, 3) := by decide +kernel
theorem dX8_dark_19 : decode cX8_dark 19 = .ok (.ifCond .ne 7, 3) := by decide +kernel
theorem dX8_dark_22 : decode cX8_dark 22 = .ok (.ldc2_w 87, 3) := by decide +kernel
theorem dX8_dark_25 : decode cX8_dark 25 = .ok (.lreturn, 1) := by decide +kernel
theorem dX8_dark_26 : decode cX8_dark 26 = .ok (.aload_n 0, 1) := by decide +kernel
theorem dX8_dark_27 : decode cX8_dark 27 = .ok (.getfield 13, 3) := by decide +kernel
theorem dX8_dark_30 : decode cX8_dark 30 = .ok (.iload_n 1, 1) := by decide +kernel
theorem dX8_dark_31 : decode cX8_dark 31 = .ok (.baload, 1) := by decide +kernel
theorem dX8_dark_32 : decode cX8_dark 32 = .ok (.istore_n 3, 1) := by decide +kernel
theorem dX8_dark_33 : decode cX8_dark 33 = .ok (.aload_n 0, 1) := by decide +kernel
theorem dX8_dark_34 : decode cX8_dark 34 = .ok (.getfield 13, 3) := by decide +kernel
theorem dX8_dark_37 : decode cX8_dark 37 = .ok (.iload_n 1, 1) := by decide +kernel
theorem dX8_dark_38 : decode cX8_dark 38 = .ok (.iload_n 2, 1) := by decide +kernel
theorem dX8_dark_39 : decode cX8_dark 39 = .ok (.iconst 1, 1) := by decide +kernel
theorem dX8_dark_40 : decode cX8_dark 40 = .ok (.if_icmp .ne 7, 3) := by decide +kernel
theorem dX8_dark_43 : decode cX8_dark 43 = .ok (.iconst 1, 1) := by decide +kernel
theorem dX8_dark_44 : decode cX8_dark 44 = .ok (.goto 4, 3) := by decide +kernel
theorem dX8_dark_47 : decode cX8_dark 47 = .ok (.iconst 0, 1) := by decide +kernel
theorem dX8_dark_48 : decode cX8_dark 48 = .ok (.bastore, 1) := by decide +kernel
theorem dX8_dark_49 : decode cX8_dark 49 = .ok (.iload_n 3, 1) := by decide +kernel
theorem dX8_dark_50 : decode cX8_dark 50 = .ok (.ifCond .eq 7, 3) := by decide +kernel
theorem dX8_dark_53 : decode cX8_dark 53 = .ok (.lconst 1, 1) := by decide +kernel
theorem dX8_dark_54 : decode cX8_dark 54 = .ok (.goto 4, 3) := by decide +kernel
theorem dX8_dark_57 : decode cX8_dark 57 = .ok (.lconst 0, 1) := by decide +kernel
theorem dX8_dark_58 : decode cX8_dark 58 = .ok (.lreturn, 1) := by decide +kernel
theorem dX8_keep_0 : decode cX8_keep 0 = .ok (.iload_n 1, 1) := by decide +kernel
theorem dX8_keep_1 : decode cX8_keep 1 = .ok (.i2l, 1) := by decide +kernel
theorem dX8_keep_2 : decode cX8_keep 2 = .ok (.lconst 0, 1) := by decide +kernel
theorem dX8_keep_3 : decode cX8_keep 3 = .ok (.ldc2_w 92, 3) := by decide +kernel
theorem dX8_keep_6 : decode cX8_keep 6 = .ok (.invokestatic 81, 3) := by decide +kernel
theorem dX8_keep_9 : decode cX8_keep 9 = .ok (.ifCond .eq 15, 3) := by decide +kernel
theorem dX8_keep_12 : decode cX8_keep 12 = .ok (.iload_n 2, 1) := by decide +kernel
theorem dX8_keep_13 : decode cX8_keep 13 = .ok (.i2l, 1) := by decide +kernel
theorem dX8_keep_14 : decode cX8_keep 14 = .ok (.lconst 0, 1) := by decide +kernel
theorem dX8_keep_15 : decode cX8_keep 15 = .ok (.ldc2_w 94, 3) := by decide +kernel
theorem dX8_keep_18 : decode cX8_keep 18 = .ok (.invokestatic 81, 3) := by decide +kernel
theorem dX8_keep_21 : decode cX8_keep 21 = .ok (.ifCond .ne 7, 3) := by decide +kernel
theorem dX8_keep_24 : decode cX8_keep 24 = .ok (.ldc2_w 87, 3) := by decide +kernel
theorem dX8_keep_27 : decode cX8_keep 27 = .ok (.lreturn, 1) := by decide +kernel
theorem dX8_keep_28 : decode cX8_keep 28 = .ok (.aload_n 0, 1) := by decide +kernel
theorem dX8_keep_29 : decode cX8_keep 29 = .ok (.getfield 17, 3) := by decide +kernel
theorem dX8_keep_32 : decode cX8_keep 32 = .ok (.iload_n 1, 1) := by decide +kernel
theorem dX8_keep_33 : decode cX8_keep 33 = .ok (.iaload, 1) := by decide +kernel
theorem dX8_keep_34 : decode cX8_keep 34 = .ok (.i2l, 1) := by decide +kernel
theorem dX8_keep_35 : decode cX8_keep 35 = .ok (.lstore_n 3, 1) := by decide +kernel
theorem dX8_keep_36 : decode cX8_keep 36 = .ok (.aload_n 0, 1) := by decide +kernel
theorem dX8_keep_37 : decode cX8_keep 37 = .ok (.getfield 17, 3) := by decide +kernel
theorem dX8_keep_40 : decode cX8_keep 40 = .ok (.iload_n 1, 1) := by decide +kernel
theorem dX8_keep_41 : decode cX8_keep 41 = .ok (.iload_n 2, 1) := by decide +kernel
theorem dX8_keep_42 : decode cX8_keep 42 = .ok (.iastore, 1) := by decide +kernel
theorem dX8_keep_43 : decode cX8_keep 43 = .ok (.lload_n 3, 1) := by decide +kernel
theorem dX8_keep_44 : decode cX8_keep 44 = .ok (.lreturn, 1) := by decide +kernel
theorem dX8_world_0 : decode cX8_world 0 = .ok (.iload_n 1, 1) := by decide +kernel
theorem dX8_world_1 : decode cX8_world 1 = .ok (.invokestatic 96, 3) := by decide +kernel
theorem dX8_world_4 : decode cX8_world 4 = .ok (.ifCond .eq 21, 3) := by decide +kernel
theorem dX8_world_7 : decode cX8_world 7 = .ok (.iload_n 2, 1) := by decide +kernel
theorem dX8_world_8 : decode cX8_world 8 = .ok (.i2l, 1) := by decide +kernel
theorem dX8_world_9 : decode cX8_world 9 = .ok (.lconst 0, 1) := by decide +kernel
theorem dX8_world_10 : decode cX8_world 10 = .ok (.ldc2_w 100, 3) := by decide +kernel
theorem dX8_world_13 : decode cX8_world 13 = .ok (.invokestatic 81, 3) := by decide +kernel
theorem dX8_world_16 : decode cX8_world 16 = .ok (.ifCond .eq 9, 3) := by decide +kernel
theorem dX8_world_19 : decode cX8_world 19 = .ok (.iload_n 3, 1) := by decide +kernel
theorem dX8_world_20 : decode cX8_world 20 = .ok (.bipush 36, 2) := by decide +kernel
theorem dX8_world_22 : decode cX8_world 22 = .ok (.if_icmp .le 7, 3) := by decide +kernel
theorem dX8_world_25 : decode cX8_world 25 = .ok (.ldc2_w 87, 3) := by decide +kernel
theorem dX8_world_28 : decode cX8_world 28 = .ok (.lreturn, 1) := by decide +kernel
theorem dX8_world_29 : decode cX8_world 29 = .ok (.iload_n 3, 1) := by decide +kernel
theorem dX8_world_30 : decode cX8_world 30 = .ok (.ifCond .ge 7, 3) := by decide +kernel
theorem dX8_world_33 : decode cX8_world 33 = .ok (.ldc2_w 102, 3) := by decide +kernel
theorem dX8_world_36 : decode cX8_world 36 = .ok (.lreturn, 1) := by decide +kernel
theorem dX8_world_37 : decode cX8_world 37 = .ok (.aload_n 0, 1) := by decide +kernel
theorem dX8_world_38 : decode cX8_world 38 = .ok (.getfield 21, 3) := by decide +kernel
theorem dX8_world_41 : decode cX8_world 41 = .ok (.iload_n 1, 1) := by decide +kernel
theorem dX8_world_42 : decode cX8_world 42 = .ok (.iload_n 2, 1) := by decide +kernel
theorem dX8_world_43 : decode cX8_world 43 = .ok (.iastore, 1) := by decide +kernel
theorem dX8_world_44 : decode cX8_world 44 = .ok (.aload_n 0, 1) := by decide +kernel
theorem dX8_world_45 : decode cX8_world 45 = .ok (.getfield 24, 3) := by decide +kernel
theorem dX8_world_48 : decode cX8_world 48 = .ok (.iload_n 1, 1) := by decide +kernel
theorem dX8_world_49 : decode cX8_world 49 = .ok (.iload_n 3, 1) := by decide +kernel
theorem dX8_world_50 : decode cX8_world 50 = .ok (.iastore, 1) := by decide +kernel
theorem dX8_world_51 : decode cX8_world 51 = .ok (.iconst 0, 1) := by decide +kernel
theorem dX8_world_52 : decode cX8_world 52 = .ok (.istore 4, 2) := by decide +kernel
theorem dX8_world_54 : decode cX8_world 54 = .ok (.iload 4, 2) := by decide +kernel
theorem dX8_world_56 : decode cX8_world 56 = .ok (.bipush 36, 2) := by decide +kernel
theorem dX8_world_58 : decode cX8_world 58 = .ok (.if_icmp .ge 22, 3) := by decide +kernel
theorem dX8_world_61 : decode cX8_world 61 = .ok (.aload_n 0, 1) := by decide +kernel
theorem dX8_world_62 : decode cX8_world 62 = .ok (.getfield 27, 3) := by decide +kernel
theorem dX8_world_65 : decode cX8_world 65 = .ok (.bipush 36, 2) := by decide +kernel
theorem dX8_world_67 : decode cX8_world 67 = .ok (.iload_n 1, 1) := by decide +kernel
theorem dX8_world_68 : decode cX8_world 68 = .ok (.imul, 1) := by decide +kernel
theorem dX8_world_69 : decode cX8_world 69 = .ok (.iload 4, 2) := by decide +kernel
theorem dX8_world_71 : decode cX8_world 71 = .ok (.iadd, 1) := by decide +kernel
theorem dX8_world_72 : decode cX8_world 72 = .ok (.iconst 0, 1) := by decide +kernel
theorem dX8_world_73 : decode cX8_world 73 = .ok (.iastore, 1) := by decide +kernel
theorem dX8_world_74 : decode cX8_world 74 = .ok (.iinc 4 1, 3) := by decide +kernel
theorem dX8_world_77 : decode cX8_world 77 = .ok (.goto (-23), 3) := by decide +kernel
theorem dX8_world_80 : decode cX8_world 80 = .ok (.iload_n 3, 1) := by decide +kernel
theorem dX8_world_81 : decode cX8_world 81 = .ok (.i2l, 1) := by decide +kernel
theorem dX8_world_82 : decode cX8_world 82 = .ok (.lreturn, 1) := by decide +kernel
theorem dX8_lose_0 : decode cX8_lose 0 = .ok (.iload_n 1, 1) := by decide +kernel
theorem dX8_lose_1 : decode cX8_lose 1 = .ok (.invokestatic 96, 3) := by decide +kernel
theorem dX8_lose_4 : decode cX8_lose 4 = .ok (.ifCond .ne 7, 3) := by decide +kernel
theorem dX8_lose_7 : decode cX8_lose 7 = .ok (.ldc2_w 87, 3) := by decide +kernel
theorem dX8_lose_10 : decode cX8_lose 10 = .ok (.lreturn, 1) := by decide +kernel
theorem dX8_lose_11 : decode cX8_lose 11 = .ok (.aload_n 0, 1) := by decide +kernel
theorem dX8_lose_12 : decode cX8_lose 12 = .ok (.getfield 21, 3) := by decide +kernel
theorem dX8_lose_15 : decode cX8_lose 15 = .ok (.iload_n 1, 1) := by decide +kernel
theorem dX8_lose_16 : decode cX8_lose 16 = .ok (.iaload, 1) := by decide +kernel
theorem dX8_lose_17 : decode cX8_lose 17 = .ok (.ifCond .ge 7, 3) := by decide +kernel
theorem dX8_lose_20 : decode cX8_lose 20 = .ok (.ldc2_w 104, 3) := by decide +kernel
theorem dX8_lose_23 : decode cX8_lose 23 = .ok (.lreturn, 1) := by decide +kernel
theorem dX8_lose_24 : decode cX8_lose 24 = .ok (.aload_n 0, 1) := by decide +kernel
theorem dX8_lose_25 : decode cX8_lose 25 = .ok (.getfield 24, 3) := by decide +kernel
theorem dX8_lose_28 : decode cX8_lose 28 = .ok (.iload_n 1, 1) := by decide +kernel
theorem dX8_lose_29 : decode cX8_lose 29 = .ok (.iaload, 1) := by decide +kernel
theorem dX8_lose_30 : decode cX8_lose 30 = .ok (.i2l, 1) := by decide +kernel
theorem dX8_lose_31 : decode cX8_lose 31 = .ok (.lstore_n 2, 1) := by decide +kernel
theorem dX8_lose_32 : decode cX8_lose 32 = .ok (.aload_n 0, 1) := by decide +kernel
theorem dX8_lose_33 : decode cX8_lose 33 = .ok (.getfield 21, 3) := by decide +kernel
theorem dX8_lose_36 : decode cX8_lose 36 = .ok (.iload_n 1, 1) := by decide +kernel
theorem dX8_lose_37 : decode cX8_lose 37 = .ok (.iconst (-1), 1) := by decide +kernel
theorem dX8_lose_38 : decode cX8_lose 38 = .ok (.iastore, 1) := by decide +kernel
theorem dX8_lose_39 : decode cX8_lose 39 = .ok (.aload_n 0, 1) := by decide +kernel
theorem dX8_lose_40 : decode cX8_lose 40 = .ok (.getfield 24, 3) := by decide +kernel
theorem dX8_lose_43 : decode cX8_lose 43 = .ok (.iload_n 1, 1) := by decide +kernel
theorem dX8_lose_44 : decode cX8_lose 44 = .ok (.iconst 0, 1) := by decide +kernel
theorem dX8_lose_45 : decode cX8_lose 45 = .ok (.iastore, 1) := by decide +kernel
theorem dX8_lose_46 : decode cX8_lose 46 = .ok (.lload_n 2, 1) := by decide +kernel
theorem dX8_lose_47 : decode cX8_lose 47 = .ok (.lreturn, 1) := by decide +kernel
theorem dX8_price_0 : decode cX8_price 0 = .ok (.iload_n 1, 1) := by decide +kernel
theorem dX8_price_1 : decode cX8_price 1 = .ok (.invokestatic 96, 3) := by decide +kernel
theorem dX8_price_4 : decode cX8_price 4 = .ok (.ifCond .ne 7, 3) := by decide +kernel
theorem dX8_price_7 : decode cX8_price 7 = .ok (.ldc2_w 87, 3) := by decide +kernel
theorem dX8_price_10 : decode cX8_price 10 = .ok (.lreturn, 1) := by decide +kernel
theorem dX8_price_11 : decode cX8_price 11 = .ok (.aload_n 0, 1) := by decide +kernel
theorem dX8_price_12 : decode cX8_price 12 = .ok (.getfield 21, 3) := by decide +kernel
theorem dX8_price_15 : decode cX8_price 15 = .ok (.iload_n 1, 1) := by decide +kernel
theorem dX8_price_16 : decode cX8_price 16 = .ok (.iaload, 1) := by decide +kernel
theorem dX8_price_17 : decode cX8_price 17 = .ok (.ifCond .ge 7, 3) := by decide +kernel
theorem dX8_price_20 : decode cX8_price 20 = .ok (.ldc2_w 104, 3) := by decide +kernel
theorem dX8_price_23 : decode cX8_price 23 = .ok (.lreturn, 1) := by decide +kernel
theorem dX8_price_24 : decode cX8_price 24 = .ok (.iload_n 2, 1) := by decide +kernel
theorem dX8_price_25 : decode cX8_price 25 = .ok (.i2l, 1) := by decide +kernel
theorem dX8_price_26 : decode cX8_price 26 = .ok (.lconst 0, 1) := by decide +kernel
theorem dX8_price_27 : decode cX8_price 27 = .ok (.aload_n 0, 1) := by decide +kernel
theorem dX8_price_28 : decode cX8_price 28 = .ok (.getfield 24, 3) := by decide +kernel
theorem dX8_price_31 : decode cX8_price 31 = .ok (.iload_n 1, 1) := by decide +kernel
theorem dX8_price_32 : decode cX8_price 32 = .ok (.iaload, 1) := by decide +kernel
theorem dX8_price_33 : decode cX8_price 33 = .ok (.iconst 1, 1) := by decide +kernel
theorem dX8_price_34 : decode cX8_price 34 = .ok (.isub, 1) := by decide +kernel
theorem dX8_price_35 : decode cX8_price 35 = .ok (.i2l, 1) := by decide +kernel
theorem dX8_price_36 : decode cX8_price 36 = .ok (.invokestatic 81, 3) := by decide +kernel
theorem dX8_price_39 : decode cX8_price 39 = .ok (.ifCond .ne 7, 3) := by decide +kernel
theorem dX8_price_42 : decode cX8_price 42 = .ok (.ldc2_w 106, 3) := by decide +kernel
theorem dX8_price_45 : decode cX8_price 45 = .ok (.lreturn, 1) := by decide +kernel
theorem dX8_price_46 : decode cX8_price 46 = .ok (.aload_n 0, 1) := by decide +kernel
theorem dX8_price_47 : decode cX8_price 47 = .ok (.getfield 21, 3) := by decide +kernel
theorem dX8_price_50 : decode cX8_price 50 = .ok (.iload_n 1, 1) := by decide +kernel
theorem dX8_price_51 : decode cX8_price 51 = .ok (.iaload, 1) := by decide +kernel
theorem dX8_price_52 : decode cX8_price 52 = .ok (.ifCond .ne 8, 3) := by decide +kernel
theorem dX8_price_55 : decode cX8_price 55 = .ok (.bipush 100, 2) := by decide +kernel
theorem dX8_price_57 : decode cX8_price 57 = .ok (.goto 22, 3) := by decide +kernel
theorem dX8_price_60 : decode cX8_price 60 = .ok (.aload_n 0, 1) := by decide +kernel
theorem dX8_price_61 : decode cX8_price 61 = .ok (.getfield 21, 3) := by decide +kernel
theorem dX8_price_64 : decode cX8_price 64 = .ok (.iload_n 1, 1) := by decide +kernel
theorem dX8_price_65 : decode cX8_price 65 = .ok (.iaload, 1) := by decide +kernel
theorem dX8_price_66 : decode cX8_price 66 = .ok (.iconst 1, 1) := by decide +kernel
theorem dX8_price_67 : decode cX8_price 67 = .ok (.if_icmp .ne 9, 3) := by decide +kernel
theorem dX8_price_70 : decode cX8_price 70 = .ok (.sipush 1000, 3) := by decide +kernel
theorem dX8_price_73 : decode cX8_price 73 = .ok (.goto 6, 3) := by decide +kernel
theorem dX8_price_76 : decode cX8_price 76 = .ok (.sipush 10000, 3) := by decide +kernel
theorem dX8_price_79 : decode cX8_price 79 = .ok (.istore 4, 2) := by decide +kernel
theorem dX8_price_81 : decode cX8_price 81 = .ok (.iload_n 3, 1) := by decide +kernel
theorem dX8_price_82 : decode cX8_price 82 = .ok (.i2l, 1) := by decide +kernel
theorem dX8_price_83 : decode cX8_price 83 = .ok (.iload 4, 2) := by decide +kernel
theorem dX8_price_85 : decode cX8_price 85 = .ok (.ineg, 1) := by decide +kernel
theorem dX8_price_86 : decode cX8_price 86 = .ok (.i2l, 1) := by decide +kernel
theorem dX8_price_87 : decode cX8_price 87 = .ok (.iload 4, 2) := by decide +kernel
theorem dX8_price_89 : decode cX8_price 89 = .ok (.i2l, 1) := by decide +kernel
theorem dX8_price_90 : decode cX8_price 90 = .ok (.invokestatic 81, 3) := by decide +kernel
theorem dX8_price_93 : decode cX8_price 93 = .ok (.ifCond .ne 7, 3) := by decide +kernel
theorem dX8_price_96 : decode cX8_price 96 = .ok (.ldc2_w 87, 3) := by decide +kernel
theorem dX8_price_99 : decode cX8_price 99 = .ok (.lreturn, 1) := by decide +kernel
theorem dX8_price_100 : decode cX8_price 100 = .ok (.aload_n 0, 1) := by decide +kernel
theorem dX8_price_101 : decode cX8_price 101 = .ok (.getfield 27, 3) := by decide +kernel
theorem dX8_price_104 : decode cX8_price 104 = .ok (.bipush 36, 2) := by decide +kernel
theorem dX8_price_106 : decode cX8_price 106 = .ok (.iload_n 1, 1) := by decide +kernel
theorem dX8_price_107 : decode cX8_price 107 = .ok (.imul, 1) := by decide +kernel
theorem dX8_price_108 : decode cX8_price 108 = .ok (.iload_n 2, 1) := by decide +kernel
theorem dX8_price_109 : decode cX8_price 109 = .ok (.iadd, 1) := by decide +kernel
theorem dX8_price_110 : decode cX8_price 110 = .ok (.iaload, 1) := by decide +kernel
theorem dX8_price_111 : decode cX8_price 111 = .ok (.i2l, 1) := by decide +kernel
theorem dX8_price_112 : decode cX8_price 112 = .ok (.lstore 5, 2) := by decide +kernel
theorem dX8_price_114 : decode cX8_price 114 = .ok (.aload_n 0, 1) := by decide +kernel
theorem dX8_price_115 : decode cX8_price 115 = .ok (.getfield 27, 3) := by decide +kernel
theorem dX8_price_118 : decode cX8_price 118 = .ok (.bipush 36, 2) := by decide +kernel
theorem dX8_price_120 : decode cX8_price 120 = .ok (.iload_n 1, 1) := by decide +kernel
theorem dX8_price_121 : decode cX8_price 121 = .ok (.imul, 1) := by decide +kernel
theorem dX8_price_122 : decode cX8_price 122 = .ok (.iload_n 2, 1) := by decide +kernel
theorem dX8_price_123 : decode cX8_price 123 = .ok (.iadd, 1) := by decide +kernel
theorem dX8_price_124 : decode cX8_price 124 = .ok (.iload_n 3, 1) := by decide +kernel
theorem dX8_price_125 : decode cX8_price 125 = .ok (.iastore, 1) := by decide +kernel
theorem dX8_price_126 : decode cX8_price 126 = .ok (.lload 5, 2) := by decide +kernel
theorem dX8_price_128 : decode cX8_price 128 = .ok (.lreturn, 1) := by decide +kernel
theorem dX8_copy_0 : decode cX8_copy 0 = .ok (.iload_n 1, 1) := by decide +kernel
theorem dX8_copy_1 : decode cX8_copy 1 = .ok (.invokestatic 96, 3) := by decide +kernel
theorem dX8_copy_4 : decode cX8_copy 4 = .ok (.ifCond .eq 10, 3) := by decide +kernel
theorem dX8_copy_7 : decode cX8_copy 7 = .ok (.iload_n 3, 1) := by decide +kernel
theorem dX8_copy_8 : decode cX8_copy 8 = .ok (.invokestatic 96, 3) := by decide +kernel
theorem dX8_copy_11 : decode cX8_copy 11 = .ok (.ifCond .ne 7, 3) := by decide +kernel
theorem dX8_copy_14 : decode cX8_copy 14 = .ok (.ldc2_w 87, 3) := by decide +kernel
theorem dX8_copy_17 : decode cX8_copy 17 = .ok (.lreturn, 1) := by decide +kernel
theorem dX8_copy_18 : decode cX8_copy 18 = .ok (.aload_n 0, 1) := by decide +kernel
theorem dX8_copy_19 : decode cX8_copy 19 = .ok (.getfield 21, 3) := by decide +kernel
theorem dX8_copy_22 : decode cX8_copy 22 = .ok (.iload_n 1, 1) := by decide +kernel
theorem dX8_copy_23 : decode cX8_copy 23 = .ok (.iaload, 1) := by decide +kernel
theorem dX8_copy_24 : decode cX8_copy 24 = .ok (.ifCond .lt 12, 3) := by decide +kernel
theorem dX8_copy_27 : decode cX8_copy 27 = .ok (.aload_n 0, 1) := by decide +kernel
theorem dX8_copy_28 : decode cX8_copy 28 = .ok (.getfield 21, 3) := by decide +kernel
theorem dX8_copy_31 : decode cX8_copy 31 = .ok (.iload_n 3, 1) := by decide +kernel
theorem dX8_copy_32 : decode cX8_copy 32 = .ok (.iaload, 1) := by decide +kernel
theorem dX8_copy_33 : decode cX8_copy 33 = .ok (.ifCond .ge 7, 3) := by decide +kernel
theorem dX8_copy_36 : decode cX8_copy 36 = .ok (.ldc2_w 104, 3) := by decide +kernel
theorem dX8_copy_39 : decode cX8_copy 39 = .ok (.lreturn, 1) := by decide +kernel
theorem dX8_copy_40 : decode cX8_copy 40 = .ok (.aload_n 0, 1) := by decide +kernel
theorem dX8_copy_41 : decode cX8_copy 41 = .ok (.getfield 21, 3) := by decide +kernel
theorem dX8_copy_44 : decode cX8_copy 44 = .ok (.iload_n 1, 1) := by decide +kernel
theorem dX8_copy_45 : decode cX8_copy 45 = .ok (.iaload, 1) := by decide +kernel
theorem dX8_copy_46 : decode cX8_copy 46 = .ok (.aload_n 0, 1) := by decide +kernel
theorem dX8_copy_47 : decode cX8_copy 47 = .ok (.getfield 21, 3) := by decide +kernel
theorem dX8_copy_50 : decode cX8_copy 50 = .ok (.iload_n 3, 1) := by decide +kernel
theorem dX8_copy_51 : decode cX8_copy 51 = .ok (.iaload, 1) := by decide +kernel
theorem dX8_copy_52 : decode cX8_copy 52 = .ok (.if_icmp .eq 7, 3) := by decide +kernel
theorem dX8_copy_55 : decode cX8_copy 55 = .ok (.ldc2_w 108, 3) := by decide +kernel
theorem dX8_copy_58 : decode cX8_copy 58 = .ok (.lreturn, 1) := by decide +kernel
theorem dX8_copy_59 : decode cX8_copy 59 = .ok (.iload 5, 2) := by decide +kernel
theorem dX8_copy_61 : decode cX8_copy 61 = .ok (.ifCond .lt 47, 3) := by decide +kernel
theorem dX8_copy_64 : decode cX8_copy 64 = .ok (.iload_n 2, 1) := by decide +kernel
theorem dX8_copy_65 : decode cX8_copy 65 = .ok (.ifCond .lt 43, 3) := by decide +kernel
theorem dX8_copy_68 : decode cX8_copy 68 = .ok (.iload 4, 2) := by decide +kernel
theorem dX8_copy_70 : decode cX8_copy 70 = .ok (.ifCond .lt 38, 3) := by decide +kernel
theorem dX8_copy_73 : decode cX8_copy 73 = .ok (.iload_n 2, 1) := by decide +kernel
theorem dX8_copy_74 : decode cX8_copy 74 = .ok (.i2l, 1) := by decide +kernel
theorem dX8_copy_75 : decode cX8_copy 75 = .ok (.iload 5, 2) := by decide +kernel
theorem dX8_copy_77 : decode cX8_copy 77 = .ok (.i2l, 1) := by decide +kernel
theorem dX8_copy_78 : decode cX8_copy 78 = .ok (.ladd, 1) := by decide +kernel
theorem dX8_copy_79 : decode cX8_copy 79 = .ok (.aload_n 0, 1) := by decide +kernel
theorem dX8_copy_80 : decode cX8_copy 80 = .ok (.getfield 24, 3) := by decide +kernel
theorem dX8_copy_83 : decode cX8_copy 83 = .ok (.iload_n 1, 1) := by decide +kernel
theorem dX8_copy_84 : decode cX8_copy 84 = .ok (.iaload, 1) := by decide +kernel
theorem dX8_copy_85 : decode cX8_copy 85 = .ok (.i2l, 1) := by decide +kernel
theorem dX8_copy_86 : decode cX8_copy 86 = .ok (.lcmp, 1) := by decide +kernel
theorem dX8_copy_87 : decode cX8_copy 87 = .ok (.ifCond .gt 21, 3) := by decide +kernel
theorem dX8_copy_90 : decode cX8_copy 90 = .ok (.iload 4, 2) := by decide +kernel
theorem dX8_copy_92 : decode cX8_copy 92 = .ok (.i2l, 1) := by decide +kernel
theorem dX8_copy_93 : decode cX8_copy 93 = .ok (.iload 5, 2) := by decide +kernel
theorem dX8_copy_95 : decode cX8_copy 95 = .ok (.i2l, 1) := by decide +kernel
theorem dX8_copy_96 : decode cX8_copy 96 = .ok (.ladd, 1) := by decide +kernel
theorem dX8_copy_97 : decode cX8_copy 97 = .ok (.aload_n 0, 1) := by decide +kernel
theorem dX8_copy_98 : decode cX8_copy 98 = .ok (.getfield 24, 3) := by decide +kernel
theorem dX8_copy_101 : decode cX8_copy 101 = .ok (.iload_n 3, 1) := by decide +kernel
theorem dX8_copy_102 : decode cX8_copy 102 = .ok (.iaload, 1) := by decide +kernel
theorem dX8_copy_103 : decode cX8_copy 103 = .ok (.i2l, 1) := by decide +kernel
theorem dX8_copy_104 : decode cX8_copy 104 = .ok (.lcmp, 1) := by decide +kernel
theorem dX8_copy_105 : decode cX8_copy 105 = .ok (.ifCond .le 7, 3) := by decide +kernel
theorem dX8_copy_108 : decode cX8_copy 108 = .ok (.ldc2_w 106, 3) := by decide +kernel
theorem dX8_copy_111 : decode cX8_copy 111 = .ok (.lreturn, 1) := by decide +kernel
theorem dX8_copy_112 : decode cX8_copy 112 = .ok (.iconst 0, 1) := by decide +kernel
theorem dX8_copy_113 : decode cX8_copy 113 = .ok (.istore 6, 2) := by decide +kernel
theorem dX8_copy_115 : decode cX8_copy 115 = .ok (.iload 6, 2) := by decide +kernel
theorem dX8_copy_117 : decode cX8_copy 117 = .ok (.iload 5, 2) := by decide +kernel
theorem dX8_copy_119 : decode cX8_copy 119 = .ok (.if_icmp .ge 30, 3) := by decide +kernel
theorem dX8_copy_122 : decode cX8_copy 122 = .ok (.aload_n 0, 1) := by decide +kernel
theorem dX8_copy_123 : decode cX8_copy 123 = .ok (.getfield 70, 3) := by decide +kernel
theorem dX8_copy_126 : decode cX8_copy 126 = .ok (.iload 6, 2) := by decide +kernel
theorem dX8_copy_128 : decode cX8_copy 128 = .ok (.aload_n 0, 1) := by decide +kernel
theorem dX8_copy_129 : decode cX8_copy 129 = .ok (.getfield 27, 3) := by decide +kernel
theorem dX8_copy_132 : decode cX8_copy 132 = .ok (.bipush 36, 2) := by decide +kernel
theorem dX8_copy_134 : decode cX8_copy 134 = .ok (.iload_n 1, 1) := by decide +kernel
theorem dX8_copy_135 : decode cX8_copy 135 = .ok (.imul, 1) := by decide +kernel
theorem dX8_copy_136 : decode cX8_copy 136 = .ok (.iload_n 2, 1) := by decide +kernel
theorem dX8_copy_137 : decode cX8_copy 137 = .ok (.iadd, 1) := by decide +kernel
theorem dX8_copy_138 : decode cX8_copy 138 = .ok (.iload 6, 2) := by decide +kernel
theorem dX8_copy_140 : decode cX8_copy 140 = .ok (.iadd, 1) := by decide +kernel
theorem dX8_copy_141 : decode cX8_copy 141 = .ok (.iaload, 1) := by decide +kernel
theorem dX8_copy_142 : decode cX8_copy 142 = .ok (.iastore, 1) := by decide +kernel
theorem dX8_copy_143 : decode cX8_copy 143 = .ok (.iinc 6 1, 3) := by decide +kernel
theorem dX8_copy_146 : decode cX8_copy 146 = .ok (.goto (-31), 3) := by decide +kernel
theorem dX8_copy_149 : decode cX8_copy 149 = .ok (.iconst 0, 1) := by decide +kernel
theorem dX8_copy_150 : decode cX8_copy 150 = .ok (.istore 6, 2) := by decide +kernel
theorem dX8_copy_152 : decode cX8_copy 152 = .ok (.iload 6, 2) := by decide +kernel
theorem dX8_copy_154 : decode cX8_copy 154 = .ok (.iload 5, 2) := by decide +kernel
theorem dX8_copy_156 : decode cX8_copy 156 = .ok (.if_icmp .ge 31, 3) := by decide +kernel
theorem dX8_copy_159 : decode cX8_copy 159 = .ok (.aload_n 0, 1) := by decide +kernel
theorem dX8_copy_160 : decode cX8_copy 160 = .ok (.getfield 27, 3) := by decide +kernel
theorem dX8_copy_163 : decode cX8_copy 163 = .ok (.bipush 36, 2) := by decide +kernel
theorem dX8_copy_165 : decode cX8_copy 165 = .ok (.iload_n 3, 1) := by decide +kernel
theorem dX8_copy_166 : decode cX8_copy 166 = .ok (.imul, 1) := by decide +kernel
theorem dX8_copy_167 : decode cX8_copy 167 = .ok (.iload 4, 2) := by decide +kernel
theorem dX8_copy_169 : decode cX8_copy 169 = .ok (.iadd, 1) := by decide +kernel
theorem dX8_copy_170 : decode cX8_copy 170 = .ok (.iload 6, 2) := by decide +kernel
theorem dX8_copy_172 : decode cX8_copy 172 = .ok (.iadd, 1) := by decide +kernel
theorem dX8_copy_173 : decode cX8_copy 173 = .ok (.aload_n 0, 1) := by decide +kernel
theorem dX8_copy_174 : decode cX8_copy 174 = .ok (.getfield 70, 3) := by decide +kernel
theorem dX8_copy_177 : decode cX8_copy 177 = .ok (.iload 6, 2) := by decide +kernel
theorem dX8_copy_179 : decode cX8_copy 179 = .ok (.iaload, 1) := by decide +kernel
theorem dX8_copy_180 : decode cX8_copy 180 = .ok (.iastore, 1) := by decide +kernel
theorem dX8_copy_181 : decode cX8_copy 181 = .ok (.iinc 6 1, 3) := by decide +kernel
theorem dX8_copy_184 : decode cX8_copy 184 = .ok (.goto (-32), 3) := by decide +kernel
theorem dX8_copy_187 : decode cX8_copy 187 = .ok (.iload 5, 2) := by decide +kernel
theorem dX8_copy_189 : decode cX8_copy 189 = .ok (.i2l, 1) := by decide +kernel
theorem dX8_copy_190 : decode cX8_copy 190 = .ok (.lreturn, 1) := by decide +kernel
theorem dX8_priceOf_0 : decode cX8_priceOf 0 = .ok (.aload_n 0, 1) := by decide +kernel
theorem dX8_priceOf_1 : decode cX8_priceOf 1 = .ok (.getfield 21, 3) := by decide +kernel
theorem dX8_priceOf_4 : decode cX8_priceOf 4 = .ok (.iload_n 1, 1) := by decide +kernel
theorem dX8_priceOf_5 : decode cX8_priceOf 5 = .ok (.iaload, 1) := by decide +kernel
theorem dX8_priceOf_6 : decode cX8_priceOf 6 = .ok (.ifCond .lt 27, 3) := by decide +kernel
theorem dX8_priceOf_9 : decode cX8_priceOf 9 = .ok (.iload_n 2, 1) := by decide +kernel
theorem dX8_priceOf_10 : decode cX8_priceOf 10 = .ok (.aload_n 0, 1) := by decide +kernel
theorem dX8_priceOf_11 : decode cX8_priceOf 11 = .ok (.getfield 24, 3) := by decide +kernel
theorem dX8_priceOf_14 : decode cX8_priceOf 14 = .ok (.iload_n 1, 1) := by decide +kernel
theorem dX8_priceOf_15 : decode cX8_priceOf 15 = .ok (.iaload, 1) := by decide +kernel
theorem dX8_priceOf_16 : decode cX8_priceOf 16 = .ok (.if_icmp .ge 17, 3) := by decide +kernel
theorem dX8_priceOf_19 : decode cX8_priceOf 19 = .ok (.aload_n 0, 1) := by decide +kernel
theorem dX8_priceOf_20 : decode cX8_priceOf 20 = .ok (.getfield 27, 3) := by decide +kernel
theorem dX8_priceOf_23 : decode cX8_priceOf 23 = .ok (.bipush 36, 2) := by decide +kernel
theorem dX8_priceOf_25 : decode cX8_priceOf 25 = .ok (.iload_n 1, 1) := by decide +kernel
theorem dX8_priceOf_26 : decode cX8_priceOf 26 = .ok (.imul, 1) := by decide +kernel
theorem dX8_priceOf_27 : decode cX8_priceOf 27 = .ok (.iload_n 2, 1) := by decide +kernel
theorem dX8_priceOf_28 : decode cX8_priceOf 28 = .ok (.iadd, 1) := by decide +kernel
theorem dX8_priceOf_29 : decode cX8_priceOf 29 = .ok (.iaload, 1) := by decide +kernel
theorem dX8_priceOf_30 : decode cX8_priceOf 30 = .ok (.goto 4, 3) := by decide +kernel
theorem dX8_priceOf_33 : decode cX8_priceOf 33 = .ok (.iconst 0, 1) := by decide +kernel
theorem dX8_priceOf_34 : decode cX8_priceOf 34 = .ok (.ireturn, 1) := by decide +kernel
theorem dX8_told_0 : decode cX8_told 0 = .ok (.iload_n 1, 1) := by decide +kernel
theorem dX8_told_1 : decode cX8_told 1 = .ok (.invokestatic 96, 3) := by decide +kernel
theorem dX8_told_4 : decode cX8_told 4 = .ok (.ifCond .eq 25, 3) := by decide +kernel
theorem dX8_told_7 : decode cX8_told 7 = .ok (.iload_n 2, 1) := by decide +kernel
theorem dX8_told_8 : decode cX8_told 8 = .ok (.i2l, 1) := by decide +kernel
theorem dX8_told_9 : decode cX8_told 9 = .ok (.lconst 0, 1) := by decide +kernel
theorem dX8_told_10 : decode cX8_told 10 = .ok (.ldc2_w 92, 3) := by decide +kernel
theorem dX8_told_13 : decode cX8_told 13 = .ok (.invokestatic 81, 3) := by decide +kernel
theorem dX8_told_16 : decode cX8_told 16 = .ok (.ifCond .eq 13, 3) := by decide +kernel
theorem dX8_told_19 : decode cX8_told 19 = .ok (.aload_n 0, 1) := by decide +kernel
theorem dX8_told_20 : decode cX8_told 20 = .ok (.iload_n 1, 1) := by decide +kernel
theorem dX8_told_21 : decode cX8_told 21 = .ok (.iload_n 2, 1) := by decide +kernel
theorem dX8_told_22 : decode cX8_told 22 = .ok (.invokevirtual 110, 3) := by decide +kernel
theorem dX8_told_25 : decode cX8_told 25 = .ok (.i2l, 1) := by decide +kernel
theorem dX8_told_26 : decode cX8_told 26 = .ok (.goto 6, 3) := by decide +kernel
theorem dX8_told_29 : decode cX8_told 29 = .ok (.ldc2_w 87, 3) := by decide +kernel
theorem dX8_told_32 : decode cX8_told 32 = .ok (.lreturn, 1) := by decide +kernel
theorem dX8_store_0 : decode cX8_store 0 = .ok (.iload 4, 2) := by decide +kernel
theorem dX8_store_2 : decode cX8_store 2 = .ok (.i2l, 1) := by decide +kernel
theorem dX8_store_3 : decode cX8_store 3 = .ok (.ldc2_w 114, 3) := by decide +kernel
theorem dX8_store_6 : decode cX8_store 6 = .ok (.ldc2_w 116, 3) := by decide +kernel
theorem dX8_store_9 : decode cX8_store 9 = .ok (.invokestatic 81, 3) := by decide +kernel
theorem dX8_store_12 : decode cX8_store 12 = .ok (.ifCond .eq 39, 3) := by decide +kernel
theorem dX8_store_15 : decode cX8_store 15 = .ok (.iload 4, 2) := by decide +kernel
theorem dX8_store_17 : decode cX8_store 17 = .ok (.bipush 21, 2) := by decide +kernel
theorem dX8_store_19 : decode cX8_store 19 = .ok (.idiv, 1) := by decide +kernel
theorem dX8_store_20 : decode cX8_store 20 = .ok (.i2l, 1) := by decide +kernel
theorem dX8_store_21 : decode cX8_store 21 = .ok (.lconst 1, 1) := by decide +kernel
theorem dX8_store_22 : decode cX8_store 22 = .ok (.ldc2_w 118, 3) := by decide +kernel
theorem dX8_store_25 : decode cX8_store 25 = .ok (.invokestatic 81, 3) := by decide +kernel
theorem dX8_store_28 : decode cX8_store 28 = .ok (.ifCond .eq 23, 3) := by decide +kernel
theorem dX8_store_31 : decode cX8_store 31 = .ok (.iload 4, 2) := by decide +kernel
theorem dX8_store_33 : decode cX8_store 33 = .ok (.bipush 21, 2) := by decide +kernel
theorem dX8_store_35 : decode cX8_store 35 = .ok (.irem, 1) := by decide +kernel
theorem dX8_store_36 : decode cX8_store 36 = .ok (.i2l, 1) := by decide +kernel
theorem dX8_store_37 : decode cX8_store 37 = .ok (.lconst 1, 1) := by decide +kernel
theorem dX8_store_38 : decode cX8_store 38 = .ok (.ldc2_w 118, 3) := by decide +kernel
theorem dX8_store_41 : decode cX8_store 41 = .ok (.invokestatic 81, 3) := by decide +kernel
theorem dX8_store_44 : decode cX8_store 44 = .ok (.ifCond .eq 7, 3) := by decide +kernel
theorem dX8_store_47 : decode cX8_store 47 = .ok (.iconst 1, 1) := by decide +kernel
theorem dX8_store_48 : decode cX8_store 48 = .ok (.goto 4, 3) := by decide +kernel
theorem dX8_store_51 : decode cX8_store 51 = .ok (.iconst 0, 1) := by decide +kernel
theorem dX8_store_52 : decode cX8_store 52 = .ok (.istore 6, 2) := by decide +kernel
theorem dX8_store_54 : decode cX8_store 54 = .ok (.iload 5, 2) := by decide +kernel
theorem dX8_store_56 : decode cX8_store 56 = .ok (.i2l, 1) := by decide +kernel
theorem dX8_store_57 : decode cX8_store 57 = .ok (.lconst 0, 1) := by decide +kernel
theorem dX8_store_58 : decode cX8_store 58 = .ok (.ldc2_w 120, 3) := by decide +kernel
theorem dX8_store_61 : decode cX8_store 61 = .ok (.invokestatic 81, 3) := by decide +kernel
theorem dX8_store_64 : decode cX8_store 64 = .ok (.ifCond .eq 23, 3) := by decide +kernel
theorem dX8_store_67 : decode cX8_store 67 = .ok (.iload 5, 2) := by decide +kernel
theorem dX8_store_69 : decode cX8_store 69 = .ok (.bipush 101, 2) := by decide +kernel
theorem dX8_store_71 : decode cX8_store 71 = .ok (.idiv, 1) := by decide +kernel
theorem dX8_store_72 : decode cX8_store 72 = .ok (.i2l, 1) := by decide +kernel
theorem dX8_store_73 : decode cX8_store 73 = .ok (.lconst 0, 1) := by decide +kernel
theorem dX8_store_74 : decode cX8_store 74 = .ok (.ldc2_w 122, 3) := by decide +kernel
theorem dX8_store_77 : decode cX8_store 77 = .ok (.invokestatic 81, 3) := by decide +kernel
theorem dX8_store_80 : decode cX8_store 80 = .ok (.ifCond .eq 7, 3) := by decide +kernel
theorem dX8_store_83 : decode cX8_store 83 = .ok (.iconst 1, 1) := by decide +kernel
theorem dX8_store_84 : decode cX8_store 84 = .ok (.goto 4, 3) := by decide +kernel
theorem dX8_store_87 : decode cX8_store 87 = .ok (.iconst 0, 1) := by decide +kernel
theorem dX8_store_88 : decode cX8_store 88 = .ok (.istore 7, 2) := by decide +kernel
theorem dX8_store_90 : decode cX8_store 90 = .ok (.iload_n 1, 1) := by decide +kernel
theorem dX8_store_91 : decode cX8_store 91 = .ok (.invokestatic 124, 3) := by decide +kernel
theorem dX8_store_94 : decode cX8_store 94 = .ok (.ifCond .eq 37, 3) := by decide +kernel
theorem dX8_store_97 : decode cX8_store 97 = .ok (.iload_n 2, 1) := by decide +kernel
theorem dX8_store_98 : decode cX8_store 98 = .ok (.i2l, 1) := by decide +kernel
theorem dX8_store_99 : decode cX8_store 99 = .ok (.lconst 0, 1) := by decide +kernel
theorem dX8_store_100 : decode cX8_store 100 = .ok (.ldc2_w 127, 3) := by decide +kernel
theorem dX8_store_103 : decode cX8_store 103 = .ok (.invokestatic 81, 3) := by decide +kernel
theorem dX8_store_106 : decode cX8_store 106 = .ok (.ifCond .eq 25, 3) := by decide +kernel
theorem dX8_store_109 : decode cX8_store 109 = .ok (.iload_n 3, 1) := by decide +kernel
theorem dX8_store_110 : decode cX8_store 110 = .ok (.i2l, 1) := by decide +kernel
theorem dX8_store_111 : decode cX8_store 111 = .ok (.lconst 1, 1) := by decide +kernel
theorem dX8_store_112 : decode cX8_store 112 = .ok (.ldc2_w 129, 3) := by decide +kernel
theorem dX8_store_115 : decode cX8_store 115 = .ok (.invokestatic 81, 3) := by decide +kernel
theorem dX8_store_118 : decode cX8_store 118 = .ok (.ifCond .eq 13, 3) := by decide +kernel
theorem dX8_store_121 : decode cX8_store 121 = .ok (.iload 6, 2) := by decide +kernel
theorem dX8_store_123 : decode cX8_store 123 = .ok (.ifCond .eq 8, 3) := by decide +kernel
theorem dX8_store_126 : decode cX8_store 126 = .ok (.iload 7, 2) := by decide +kernel
theorem dX8_store_128 : decode cX8_store 128 = .ok (.ifCond .ne 7, 3) := by decide +kernel
theorem dX8_store_131 : decode cX8_store 131 = .ok (.ldc2_w 87, 3) := by decide +kernel
theorem dX8_store_134 : decode cX8_store 134 = .ok (.lreturn, 1) := by decide +kernel
theorem dX8_store_135 : decode cX8_store 135 = .ok (.aload_n 0, 1) := by decide +kernel
theorem dX8_store_136 : decode cX8_store 136 = .ok (.getfield 30, 3) := by decide +kernel
theorem dX8_store_139 : decode cX8_store 139 = .ok (.iload_n 1, 1) := by decide +kernel
theorem dX8_store_140 : decode cX8_store 140 = .ok (.iload_n 2, 1) := by decide +kernel
theorem dX8_store_141 : decode cX8_store 141 = .ok (.iastore, 1) := by decide +kernel
theorem dX8_store_142 : decode cX8_store 142 = .ok (.aload_n 0, 1) := by decide +kernel
theorem dX8_store_143 : decode cX8_store 143 = .ok (.getfield 33, 3) := by decide +kernel
theorem dX8_store_146 : decode cX8_store 146 = .ok (.iload_n 1, 1) := by decide +kernel
theorem dX8_store_147 : decode cX8_store 147 = .ok (.iload_n 3, 1) := by decide +kernel
theorem dX8_store_148 : decode cX8_store 148 = .ok (.iastore, 1) := by decide +kernel
theorem dX8_store_149 : decode cX8_store 149 = .ok (.aload_n 0, 1) := by decide +kernel
theorem dX8_store_150 : decode cX8_store 150 = .ok (.getfield 39, 3) := by decide +kernel
theorem dX8_store_153 : decode cX8_store 153 = .ok (.iload_n 1, 1) := by decide +kernel
theorem dX8_store_154 : decode cX8_store 154 = .ok (.iload 4, 2) := by decide +kernel
theorem dX8_store_156 : decode cX8_store 156 = .ok (.bipush 21, 2) := by decide +kernel
theorem dX8_store_158 : decode cX8_store 158 = .ok (.idiv, 1) := by decide +kernel
theorem dX8_store_159 : decode cX8_store 159 = .ok (.iastore, 1) := by decide +kernel
theorem dX8_store_160 : decode cX8_store 160 = .ok (.aload_n 0, 1) := by decide +kernel
theorem dX8_store_161 : decode cX8_store 161 = .ok (.getfield 42, 3) := by decide +kernel
theorem dX8_store_164 : decode cX8_store 164 = .ok (.iload_n 1, 1) := by decide +kernel
theorem dX8_store_165 : decode cX8_store 165 = .ok (.iload 4, 2) := by decide +kernel
theorem dX8_store_167 : decode cX8_store 167 = .ok (.bipush 21, 2) := by decide +kernel
theorem dX8_store_169 : decode cX8_store 169 = .ok (.irem, 1) := by decide +kernel
theorem dX8_store_170 : decode cX8_store 170 = .ok (.iastore, 1) := by decide +kernel
theorem dX8_store_171 : decode cX8_store 171 = .ok (.aload_n 0, 1) := by decide +kernel
theorem dX8_store_172 : decode cX8_store 172 = .ok (.getfield 45, 3) := by decide +kernel
theorem dX8_store_175 : decode cX8_store 175 = .ok (.iload_n 1, 1) := by decide +kernel
theorem dX8_store_176 : decode cX8_store 176 = .ok (.iload 5, 2) := by decide +kernel
theorem dX8_store_178 : decode cX8_store 178 = .ok (.bipush 101, 2) := by decide +kernel
theorem dX8_store_180 : decode cX8_store 180 = .ok (.idiv, 1) := by decide +kernel
theorem dX8_store_181 : decode cX8_store 181 = .ok (.iastore, 1) := by decide +kernel
theorem dX8_store_182 : decode cX8_store 182 = .ok (.aload_n 0, 1) := by decide +kernel
theorem dX8_store_183 : decode cX8_store 183 = .ok (.getfield 48, 3) := by decide +kernel
theorem dX8_store_186 : decode cX8_store 186 = .ok (.iload_n 1, 1) := by decide +kernel
theorem dX8_store_187 : decode cX8_store 187 = .ok (.iload 5, 2) := by decide +kernel
theorem dX8_store_189 : decode cX8_store 189 = .ok (.bipush 101, 2) := by decide +kernel
theorem dX8_store_191 : decode cX8_store 191 = .ok (.irem, 1) := by decide +kernel
theorem dX8_store_192 : decode cX8_store 192 = .ok (.iastore, 1) := by decide +kernel
theorem dX8_store_193 : decode cX8_store 193 = .ok (.aload_n 0, 1) := by decide +kernel
theorem dX8_store_194 : decode cX8_store 194 = .ok (.getfield 51, 3) := by decide +kernel
theorem dX8_store_197 : decode cX8_store 197 = .ok (.iload_n 1, 1) := by decide +kernel
theorem dX8_store_198 : decode cX8_store 198 = .ok (.iconst 0, 1) := by decide +kernel
theorem dX8_store_199 : decode cX8_store 199 = .ok (.iastore, 1) := by decide +kernel
theorem dX8_store_200 : decode cX8_store 200 = .ok (.aload_n 0, 1) := by decide +kernel
theorem dX8_store_201 : decode cX8_store 201 = .ok (.getfield 54, 3) := by decide +kernel
theorem dX8_store_204 : decode cX8_store 204 = .ok (.iload_n 1, 1) := by decide +kernel
theorem dX8_store_205 : decode cX8_store 205 = .ok (.ldc 131, 2) := by decide +kernel
theorem dX8_store_207 : decode cX8_store 207 = .ok (.iastore, 1) := by decide +kernel
theorem dX8_store_208 : decode cX8_store 208 = .ok (.aload_n 0, 1) := by decide +kernel
theorem dX8_store_209 : decode cX8_store 209 = .ok (.getfield 36, 3) := by decide +kernel
theorem dX8_store_212 : decode cX8_store 212 = .ok (.iload_n 1, 1) := by decide +kernel
theorem dX8_store_213 : decode cX8_store 213 = .ok (.aload_n 0, 1) := by decide +kernel
theorem dX8_store_214 : decode cX8_store 214 = .ok (.iload_n 1, 1) := by decide +kernel
theorem dX8_store_215 : decode cX8_store 215 = .ok (.invokevirtual 132, 3) := by decide +kernel
theorem dX8_store_218 : decode cX8_store 218 = .ok (.iastore, 1) := by decide +kernel
theorem dX8_store_219 : decode cX8_store 219 = .ok (.iconst 0, 1) := by decide +kernel
theorem dX8_store_220 : decode cX8_store 220 = .ok (.istore 8, 2) := by decide +kernel
theorem dX8_store_222 : decode cX8_store 222 = .ok (.iload 8, 2) := by decide +kernel
theorem dX8_store_224 : decode cX8_store 224 = .ok (.bipush 36, 2) := by decide +kernel
theorem dX8_store_226 : decode cX8_store 226 = .ok (.if_icmp .ge 22, 3) := by decide +kernel
theorem dX8_store_229 : decode cX8_store 229 = .ok (.aload_n 0, 1) := by decide +kernel
theorem dX8_store_230 : decode cX8_store 230 = .ok (.getfield 57, 3) := by decide +kernel
theorem dX8_store_233 : decode cX8_store 233 = .ok (.bipush 36, 2) := by decide +kernel
theorem dX8_store_235 : decode cX8_store 235 = .ok (.iload_n 1, 1) := by decide +kernel
theorem dX8_store_236 : decode cX8_store 236 = .ok (.imul, 1) := by decide +kernel
theorem dX8_store_237 : decode cX8_store 237 = .ok (.iload 8, 2) := by decide +kernel
theorem dX8_store_239 : decode cX8_store 239 = .ok (.iadd, 1) := by decide +kernel
theorem dX8_store_240 : decode cX8_store 240 = .ok (.iconst 0, 1) := by decide +kernel
theorem dX8_store_241 : decode cX8_store 241 = .ok (.iastore, 1) := by decide +kernel
theorem dX8_store_242 : decode cX8_store 242 = .ok (.iinc 8 1, 3) := by decide +kernel
theorem dX8_store_245 : decode cX8_store 245 = .ok (.goto (-23), 3) := by decide +kernel
theorem dX8_store_248 : decode cX8_store 248 = .ok (.lconst 0, 1) := by decide +kernel
theorem dX8_store_249 : decode cX8_store 249 = .ok (.lreturn, 1) := by decide +kernel
theorem dX8_isQuick_0 : decode cX8_isQuick 0 = .ok (.aload_n 0, 1) := by decide +kernel
theorem dX8_isQuick_1 : decode cX8_isQuick 1 = .ok (.getfield 30, 3) := by decide +kernel
theorem dX8_isQuick_4 : decode cX8_isQuick 4 = .ok (.iload_n 1, 1) := by decide +kernel
theorem dX8_isQuick_5 : decode cX8_isQuick 5 = .ok (.iaload, 1) := by decide +kernel
theorem dX8_isQuick_6 : decode cX8_isQuick 6 = .ok (.iconst 1, 1) := by decide +kernel
theorem dX8_isQuick_7 : decode cX8_isQuick 7 = .ok (.if_icmp .eq 13, 3) := by decide +kernel
theorem dX8_isQuick_10 : decode cX8_isQuick 10 = .ok (.aload_n 0, 1) := by decide +kernel
theorem dX8_isQuick_11 : decode cX8_isQuick 11 = .ok (.getfield 30, 3) := by decide +kernel
theorem dX8_isQuick_14 : decode cX8_isQuick 14 = .ok (.iload_n 1, 1) := by decide +kernel
theorem dX8_isQuick_15 : decode cX8_isQuick 15 = .ok (.iaload, 1) := by decide +kernel
theorem dX8_isQuick_16 : decode cX8_isQuick 16 = .ok (.iconst 2, 1) := by decide +kernel
theorem dX8_isQuick_17 : decode cX8_isQuick 17 = .ok (.if_icmp .ne 7, 3) := by decide +kernel
theorem dX8_isQuick_20 : decode cX8_isQuick 20 = .ok (.iconst 1, 1) := by decide +kernel
theorem dX8_isQuick_21 : decode cX8_isQuick 21 = .ok (.goto 4, 3) := by decide +kernel
theorem dX8_isQuick_24 : decode cX8_isQuick 24 = .ok (.iconst 0, 1) := by decide +kernel
theorem dX8_isQuick_25 : decode cX8_isQuick 25 = .ok (.ireturn, 1) := by decide +kernel
theorem dX8_isOld_0 : decode cX8_isOld 0 = .ok (.aload_n 0, 1) := by decide +kernel
theorem dX8_isOld_1 : decode cX8_isOld 1 = .ok (.getfield 30, 3) := by decide +kernel
theorem dX8_isOld_4 : decode cX8_isOld 4 = .ok (.iload_n 1, 1) := by decide +kernel
theorem dX8_isOld_5 : decode cX8_isOld 5 = .ok (.iaload, 1) := by decide +kernel
theorem dX8_isOld_6 : decode cX8_isOld 6 = .ok (.iconst 3, 1) := by decide +kernel
theorem dX8_isOld_7 : decode cX8_isOld 7 = .ok (.if_icmp .eq 13, 3) := by decide +kernel
theorem dX8_isOld_10 : decode cX8_isOld 10 = .ok (.aload_n 0, 1) := by decide +kernel
theorem dX8_isOld_11 : decode cX8_isOld 11 = .ok (.getfield 30, 3) := by decide +kernel
theorem dX8_isOld_14 : decode cX8_isOld 14 = .ok (.iload_n 1, 1) := by decide +kernel
theorem dX8_isOld_15 : decode cX8_isOld 15 = .ok (.iaload, 1) := by decide +kernel
theorem dX8_isOld_16 : decode cX8_isOld 16 = .ok (.iconst 4, 1) := by decide +kernel
theorem dX8_isOld_17 : decode cX8_isOld 17 = .ok (.if_icmp .ne 7, 3) := by decide +kernel
theorem dX8_isOld_20 : decode cX8_isOld 20 = .ok (.iconst 1, 1) := by decide +kernel
theorem dX8_isOld_21 : decode cX8_isOld 21 = .ok (.goto 4, 3) := by decide +kernel
theorem dX8_isOld_24 : decode cX8_isOld 24 = .ok (.iconst 0, 1) := by decide +kernel
theorem dX8_isOld_25 : decode cX8_isOld 25 = .ok (.ireturn, 1) := by decide +kernel
theorem dX8_in_0 : decode cX8_in 0 = .ok (.aload_n 0, 1) := by decide +kernel
theorem dX8_in_1 : decode cX8_in 1 = .ok (.iload_n 1, 1) := by decide +kernel
theorem dX8_in_2 : decode cX8_in 2 = .ok (.invokevirtual 136, 3) := by decide +kernel
theorem dX8_in_5 : decode cX8_in 5 = .ok (.ifCond .eq 14, 3) := by decide +kernel
theorem dX8_in_8 : decode cX8_in 8 = .ok (.iconst 2, 1) := by decide +kernel
theorem dX8_in_9 : decode cX8_in 9 = .ok (.aload_n 0, 1) := by decide +kernel
theorem dX8_in_10 : decode cX8_in 10 = .ok (.getfield 39, 3) := by decide +kernel
theorem dX8_in_13 : decode cX8_in 13 = .ok (.iload_n 1, 1) := by decide +kernel
theorem dX8_in_14 : decode cX8_in 14 = .ok (.iaload, 1) := by decide +kernel
theorem dX8_in_15 : decode cX8_in 15 = .ok (.imul, 1) := by decide +kernel
theorem dX8_in_16 : decode cX8_in 16 = .ok (.goto 9, 3) := by decide +kernel
theorem dX8_in_19 : decode cX8_in 19 = .ok (.aload_n 0, 1) := by decide +kernel
theorem dX8_in_20 : decode cX8_in 20 = .ok (.getfield 39, 3) := by decide +kernel
theorem dX8_in_23 : decode cX8_in 23 = .ok (.iload_n 1, 1) := by decide +kernel
theorem dX8_in_24 : decode cX8_in 24 = .ok (.iaload, 1) := by decide +kernel
theorem dX8_in_25 : decode cX8_in 25 = .ok (.ireturn, 1) := by decide +kernel
theorem dX8_out_0 : decode cX8_out 0 = .ok (.aload_n 0, 1) := by decide +kernel
theorem dX8_out_1 : decode cX8_out 1 = .ok (.iload_n 1, 1) := by decide +kernel
theorem dX8_out_2 : decode cX8_out 2 = .ok (.invokevirtual 136, 3) := by decide +kernel
theorem dX8_out_5 : decode cX8_out 5 = .ok (.ifCond .eq 14, 3) := by decide +kernel
theorem dX8_out_8 : decode cX8_out 8 = .ok (.iconst 2, 1) := by decide +kernel
theorem dX8_out_9 : decode cX8_out 9 = .ok (.aload_n 0, 1) := by decide +kernel
theorem dX8_out_10 : decode cX8_out 10 = .ok (.getfield 42, 3) := by decide +kernel
theorem dX8_out_13 : decode cX8_out 13 = .ok (.iload_n 1, 1) := by decide +kernel
theorem dX8_out_14 : decode cX8_out 14 = .ok (.iaload, 1) := by decide +kernel
theorem dX8_out_15 : decode cX8_out 15 = .ok (.imul, 1) := by decide +kernel
theorem dX8_out_16 : decode cX8_out 16 = .ok (.goto 9, 3) := by decide +kernel
theorem dX8_out_19 : decode cX8_out 19 = .ok (.aload_n 0, 1) := by decide +kernel
theorem dX8_out_20 : decode cX8_out 20 = .ok (.getfield 42, 3) := by decide +kernel
theorem dX8_out_23 : decode cX8_out 23 = .ok (.iload_n 1, 1) := by decide +kernel
theorem dX8_out_24 : decode cX8_out 24 = .ok (.iaload, 1) := by decide +kernel
theorem dX8_out_25 : decode cX8_out 25 = .ok (.ireturn, 1) := by decide +kernel
theorem dX8_loss_0 : decode cX8_loss 0 = .ok (.aload_n 0, 1) := by decide +kernel
theorem dX8_loss_1 : decode cX8_loss 1 = .ok (.getfield 30, 3) := by decide +kernel
theorem dX8_loss_4 : decode cX8_loss 4 = .ok (.iload_n 1, 1) := by decide +kernel
theorem dX8_loss_5 : decode cX8_loss 5 = .ok (.iaload, 1) := by decide +kernel
theorem dX8_loss_6 : decode cX8_loss 6 = .ok (.iconst 2, 1) := by decide +kernel
theorem dX8_loss_7 : decode cX8_loss 7 = .ok (.if_icmp .ne 14, 3) := by decide +kernel
theorem dX8_loss_10 : decode cX8_loss 10 = .ok (.aload_n 0, 1) := by decide +kernel
theorem dX8_loss_11 : decode cX8_loss 11 = .ok (.getfield 45, 3) := by decide +kernel
theorem dX8_loss_14 : decode cX8_loss 14 = .ok (.iload_n 1, 1) := by decide +kernel
theorem dX8_loss_15 : decode cX8_loss 15 = .ok (.iaload, 1) := by decide +kernel
theorem dX8_loss_16 : decode cX8_loss 16 = .ok (.iconst 2, 1) := by decide +kernel
theorem dX8_loss_17 : decode cX8_loss 17 = .ok (.idiv, 1) := by decide +kernel
theorem dX8_loss_18 : decode cX8_loss 18 = .ok (.goto 9, 3) := by decide +kernel
theorem dX8_loss_21 : decode cX8_loss 21 = .ok (.aload_n 0, 1) := by decide +kernel
theorem dX8_loss_22 : decode cX8_loss 22 = .ok (.getfield 45, 3) := by decide +kernel
theorem dX8_loss_25 : decode cX8_loss 25 = .ok (.iload_n 1, 1) := by decide +kernel
theorem dX8_loss_26 : decode cX8_loss 26 = .ok (.iaload, 1) := by decide +kernel
theorem dX8_loss_27 : decode cX8_loss 27 = .ok (.ireturn, 1) := by decide +kernel
theorem dX8_topOf_0 : decode cX8_topOf 0 = .ok (.aload_n 0, 1) := by decide +kernel
theorem dX8_topOf_1 : decode cX8_topOf 1 = .ok (.iload_n 1, 1) := by decide +kernel
theorem dX8_topOf_2 : decode cX8_topOf 2 = .ok (.invokevirtual 139, 3) := by decide +kernel
theorem dX8_topOf_5 : decode cX8_topOf 5 = .ok (.ifCond .eq 16, 3) := by decide +kernel
theorem dX8_topOf_8 : decode cX8_topOf 8 = .ok (.aload_n 0, 1) := by decide +kernel
theorem dX8_topOf_9 : decode cX8_topOf 9 = .ok (.getfield 33, 3) := by decide +kernel
theorem dX8_topOf_12 : decode cX8_topOf 12 = .ok (.iload_n 1, 1) := by decide +kernel
theorem dX8_topOf_13 : decode cX8_topOf 13 = .ok (.iaload, 1) := by decide +kernel
theorem dX8_topOf_14 : decode cX8_topOf 14 = .ok (.iconst 4, 1) := by decide +kernel
theorem dX8_topOf_15 : decode cX8_topOf 15 = .ok (.imul, 1) := by decide +kernel
theorem dX8_topOf_16 : decode cX8_topOf 16 = .ok (.iconst 5, 1) := by decide +kernel
theorem dX8_topOf_17 : decode cX8_topOf 17 = .ok (.idiv, 1) := by decide +kernel
theorem dX8_topOf_18 : decode cX8_topOf 18 = .ok (.goto 9, 3) := by decide +kernel
theorem dX8_topOf_21 : decode cX8_topOf 21 = .ok (.aload_n 0, 1) := by decide +kernel
theorem dX8_topOf_22 : decode cX8_topOf 22 = .ok (.getfield 33, 3) := by decide +kernel
theorem dX8_topOf_25 : decode cX8_topOf 25 = .ok (.iload_n 1, 1) := by decide +kernel
theorem dX8_topOf_26 : decode cX8_topOf 26 = .ok (.iaload, 1) := by decide +kernel
theorem dX8_topOf_27 : decode cX8_topOf 27 = .ok (.ireturn, 1) := by decide +kernel
theorem dX8_floorOf_0 : decode cX8_floorOf 0 = .ok (.aload_n 0, 1) := by decide +kernel
theorem dX8_floorOf_1 : decode cX8_floorOf 1 = .ok (.getfield 30, 3) := by decide +kernel
theorem dX8_floorOf_4 : decode cX8_floorOf 4 = .ok (.iload_n 1, 1) := by decide +kernel
theorem dX8_floorOf_5 : decode cX8_floorOf 5 = .ok (.iaload, 1) := by decide +kernel
theorem dX8_floorOf_6 : decode cX8_floorOf 6 = .ok (.iconst 4, 1) := by decide +kernel
theorem dX8_floorOf_7 : decode cX8_floorOf 7 = .ok (.if_icmp .ne 15, 3) := by decide +kernel
theorem dX8_floorOf_10 : decode cX8_floorOf 10 = .ok (.aload_n 0, 1) := by decide +kernel
theorem dX8_floorOf_11 : decode cX8_floorOf 11 = .ok (.getfield 33, 3) := by decide +kernel
theorem dX8_floorOf_14 : decode cX8_floorOf 14 = .ok (.iload_n 1, 1) := by decide +kernel
theorem dX8_floorOf_15 : decode cX8_floorOf 15 = .ok (.iaload, 1) := by decide +kernel
theorem dX8_floorOf_16 : decode cX8_floorOf 16 = .ok (.bipush 10, 2) := by decide +kernel
theorem dX8_floorOf_18 : decode cX8_floorOf 18 = .ok (.idiv, 1) := by decide +kernel
theorem dX8_floorOf_19 : decode cX8_floorOf 19 = .ok (.goto 4, 3) := by decide +kernel
theorem dX8_floorOf_22 : decode cX8_floorOf 22 = .ok (.iconst 0, 1) := by decide +kernel
theorem dX8_floorOf_23 : decode cX8_floorOf 23 = .ok (.ireturn, 1) := by decide +kernel
theorem dX8_asked_0 : decode cX8_asked 0 = .ok (.iload_n 1, 1) := by decide +kernel
theorem dX8_asked_1 : decode cX8_asked 1 = .ok (.invokestatic 124, 3) := by decide +kernel
theorem dX8_asked_4 : decode cX8_asked 4 = .ok (.ifCond .ne 9, 3) := by decide +kernel
theorem dX8_asked_7 : decode cX8_asked 7 = .ok (.ldc2_w 87, 3) := by decide +kernel
theorem dX8_asked_10 : decode cX8_asked 10 = .ok (.goto 19, 3) := by decide +kernel
theorem dX8_asked_13 : decode cX8_asked 13 = .ok (.aload_n 0, 1) := by decide +kernel
theorem dX8_asked_14 : decode cX8_asked 14 = .ok (.getfield 30, 3) := by decide +kernel
theorem dX8_asked_17 : decode cX8_asked 17 = .ok (.iload_n 1, 1) := by decide +kernel
theorem dX8_asked_18 : decode cX8_asked 18 = .ok (.iaload, 1) := by decide +kernel
theorem dX8_asked_19 : decode cX8_asked 19 = .ok (.ifCond .ge 9, 3) := by decide +kernel
theorem dX8_asked_22 : decode cX8_asked 22 = .ok (.ldc2_w 108, 3) := by decide +kernel
theorem dX8_asked_25 : decode cX8_asked 25 = .ok (.goto 4, 3) := by decide +kernel
theorem dX8_asked_28 : decode cX8_asked 28 = .ok (.lconst 0, 1) := by decide +kernel
theorem dX8_asked_29 : decode cX8_asked 29 = .ok (.lreturn, 1) := by decide +kernel
theorem dX8_charge_0 : decode cX8_charge 0 = .ok (.aload_n 0, 1) := by decide +kernel
theorem dX8_charge_1 : decode cX8_charge 1 = .ok (.iload_n 1, 1) := by decide +kernel
theorem dX8_charge_2 : decode cX8_charge 2 = .ok (.invokevirtual 142, 3) := by decide +kernel
theorem dX8_charge_5 : decode cX8_charge 5 = .ok (.lstore_n 3, 1) := by decide +kernel
theorem dX8_charge_6 : decode cX8_charge 6 = .ok (.lload_n 3, 1) := by decide +kernel
theorem dX8_charge_7 : decode cX8_charge 7 = .ok (.lconst 0, 1) := by decide +kernel
theorem dX8_charge_8 : decode cX8_charge 8 = .ok (.lcmp, 1) := by decide +kernel
theorem dX8_charge_9 : decode cX8_charge 9 = .ok (.ifCond .eq 5, 3) := by decide +kernel
theorem dX8_charge_12 : decode cX8_charge 12 = .ok (.lload_n 3, 1) := by decide +kernel
theorem dX8_charge_13 : decode cX8_charge 13 = .ok (.lreturn, 1) := by decide +kernel
theorem dX8_charge_14 : decode cX8_charge 14 = .ok (.iload_n 2, 1) := by decide +kernel
theorem dX8_charge_15 : decode cX8_charge 15 = .ok (.i2l, 1) := by decide +kernel
theorem dX8_charge_16 : decode cX8_charge 16 = .ok (.aload_n 0, 1) := by decide +kernel
theorem dX8_charge_17 : decode cX8_charge 17 = .ok (.iload_n 1, 1) := by decide +kernel
theorem dX8_charge_18 : decode cX8_charge 18 = .ok (.invokevirtual 132, 3) := by decide +kernel
theorem dX8_charge_21 : decode cX8_charge 21 = .ok (.i2l, 1) := by decide +kernel
theorem dX8_charge_22 : decode cX8_charge 22 = .ok (.aload_n 0, 1) := by decide +kernel
theorem dX8_charge_23 : decode cX8_charge 23 = .ok (.iload_n 1, 1) := by decide +kernel
theorem dX8_charge_24 : decode cX8_charge 24 = .ok (.invokevirtual 146, 3) := by decide +kernel
theorem dX8_charge_27 : decode cX8_charge 27 = .ok (.i2l, 1) := by decide +kernel
theorem dX8_charge_28 : decode cX8_charge 28 = .ok (.invokestatic 81, 3) := by decide +kernel
theorem dX8_charge_31 : decode cX8_charge 31 = .ok (.ifCond .ne 7, 3) := by decide +kernel
theorem dX8_charge_34 : decode cX8_charge 34 = .ok (.ldc2_w 87, 3) := by decide +kernel
theorem dX8_charge_37 : decode cX8_charge 37 = .ok (.lreturn, 1) := by decide +kernel
theorem dX8_charge_38 : decode cX8_charge 38 = .ok (.aload_n 0, 1) := by decide +kernel
theorem dX8_charge_39 : decode cX8_charge 39 = .ok (.getfield 36, 3) := by decide +kernel
theorem dX8_charge_42 : decode cX8_charge 42 = .ok (.iload_n 1, 1) := by decide +kernel
theorem dX8_charge_43 : decode cX8_charge 43 = .ok (.iaload, 1) := by decide +kernel
theorem dX8_charge_44 : decode cX8_charge 44 = .ok (.i2l, 1) := by decide +kernel
theorem dX8_charge_45 : decode cX8_charge 45 = .ok (.lstore 5, 2) := by decide +kernel
theorem dX8_charge_47 : decode cX8_charge 47 = .ok (.aload_n 0, 1) := by decide +kernel
theorem dX8_charge_48 : decode cX8_charge 48 = .ok (.getfield 36, 3) := by decide +kernel
theorem dX8_charge_51 : decode cX8_charge 51 = .ok (.iload_n 1, 1) := by decide +kernel
theorem dX8_charge_52 : decode cX8_charge 52 = .ok (.iload_n 2, 1) := by decide +kernel
theorem dX8_charge_53 : decode cX8_charge 53 = .ok (.iastore, 1) := by decide +kernel
theorem dX8_charge_54 : decode cX8_charge 54 = .ok (.lload 5, 2) := by decide +kernel
theorem dX8_charge_56 : decode cX8_charge 56 = .ok (.lreturn, 1) := by decide +kernel
theorem dX8_end_0 : decode cX8_end 0 = .ok (.iload_n 1, 1) := by decide +kernel
theorem dX8_end_1 : decode cX8_end 1 = .ok (.invokestatic 124, 3) := by decide +kernel
theorem dX8_end_4 : decode cX8_end 4 = .ok (.ifCond .eq 15, 3) := by decide +kernel
theorem dX8_end_7 : decode cX8_end 7 = .ok (.iload_n 2, 1) := by decide +kernel
theorem dX8_end_8 : decode cX8_end 8 = .ok (.i2l, 1) := by decide +kernel
theorem dX8_end_9 : decode cX8_end 9 = .ok (.lconst 0, 1) := by decide +kernel
theorem dX8_end_10 : decode cX8_end 10 = .ok (.ldc2_w 129, 3) := by decide +kernel
theorem dX8_end_13 : decode cX8_end 13 = .ok (.invokestatic 81, 3) := by decide +kernel
theorem dX8_end_16 : decode cX8_end 16 = .ok (.ifCond .ne 7, 3) := by decide +kernel
theorem dX8_end_19 : decode cX8_end 19 = .ok (.ldc2_w 87, 3) := by decide +kernel
theorem dX8_end_22 : decode cX8_end 22 = .ok (.lreturn, 1) := by decide +kernel
theorem dX8_end_23 : decode cX8_end 23 = .ok (.aload_n 0, 1) := by decide +kernel
theorem dX8_end_24 : decode cX8_end 24 = .ok (.getfield 30, 3) := by decide +kernel
theorem dX8_end_27 : decode cX8_end 27 = .ok (.iload_n 1, 1) := by decide +kernel
theorem dX8_end_28 : decode cX8_end 28 = .ok (.iaload, 1) := by decide +kernel
theorem dX8_end_29 : decode cX8_end 29 = .ok (.ifCond .ge 7, 3) := by decide +kernel
theorem dX8_end_32 : decode cX8_end 32 = .ok (.ldc2_w 108, 3) := by decide +kernel
theorem dX8_end_35 : decode cX8_end 35 = .ok (.lreturn, 1) := by decide +kernel
theorem dX8_end_36 : decode cX8_end 36 = .ok (.aload_n 0, 1) := by decide +kernel
theorem dX8_end_37 : decode cX8_end 37 = .ok (.getfield 51, 3) := by decide +kernel
theorem dX8_end_40 : decode cX8_end 40 = .ok (.iload_n 1, 1) := by decide +kernel
theorem dX8_end_41 : decode cX8_end 41 = .ok (.iaload, 1) := by decide +kernel
theorem dX8_end_42 : decode cX8_end 42 = .ok (.i2l, 1) := by decide +kernel
theorem dX8_end_43 : decode cX8_end 43 = .ok (.lstore_n 3, 1) := by decide +kernel
theorem dX8_end_44 : decode cX8_end 44 = .ok (.aload_n 0, 1) := by decide +kernel
theorem dX8_end_45 : decode cX8_end 45 = .ok (.getfield 51, 3) := by decide +kernel
theorem dX8_end_48 : decode cX8_end 48 = .ok (.iload_n 1, 1) := by decide +kernel
theorem dX8_end_49 : decode cX8_end 49 = .ok (.iload_n 2, 1) := by decide +kernel
theorem dX8_end_50 : decode cX8_end 50 = .ok (.iastore, 1) := by decide +kernel
theorem dX8_end_51 : decode cX8_end 51 = .ok (.lload_n 3, 1) := by decide +kernel
theorem dX8_end_52 : decode cX8_end 52 = .ok (.lreturn, 1) := by decide +kernel
theorem dX8_about_0 : decode cX8_about 0 = .ok (.iload_n 1, 1) := by decide +kernel
theorem dX8_about_1 : decode cX8_about 1 = .ok (.invokestatic 124, 3) := by decide +kernel
theorem dX8_about_4 : decode cX8_about 4 = .ok (.ifCond .eq 15, 3) := by decide +kernel
theorem dX8_about_7 : decode cX8_about 7 = .ok (.iload_n 2, 1) := by decide +kernel
theorem dX8_about_8 : decode cX8_about 8 = .ok (.i2l, 1) := by decide +kernel
theorem dX8_about_9 : decode cX8_about 9 = .ok (.lconst 0, 1) := by decide +kernel
theorem dX8_about_10 : decode cX8_about 10 = .ok (.ldc2_w 94, 3) := by decide +kernel
theorem dX8_about_13 : decode cX8_about 13 = .ok (.invokestatic 81, 3) := by decide +kernel
theorem dX8_about_16 : decode cX8_about 16 = .ok (.ifCond .ne 7, 3) := by decide +kernel
theorem dX8_about_19 : decode cX8_about 19 = .ok (.ldc2_w 87, 3) := by decide +kernel
theorem dX8_about_22 : decode cX8_about 22 = .ok (.lreturn, 1) := by decide +kernel
theorem dX8_about_23 : decode cX8_about 23 = .ok (.aload_n 0, 1) := by decide +kernel
theorem dX8_about_24 : decode cX8_about 24 = .ok (.getfield 30, 3) := by decide +kernel
theorem dX8_about_27 : decode cX8_about 27 = .ok (.iload_n 1, 1) := by decide +kernel
theorem dX8_about_28 : decode cX8_about 28 = .ok (.iaload, 1) := by decide +kernel
theorem dX8_about_29 : decode cX8_about 29 = .ok (.ifCond .ge 7, 3) := by decide +kernel
theorem dX8_about_32 : decode cX8_about 32 = .ok (.ldc2_w 108, 3) := by decide +kernel
theorem dX8_about_35 : decode cX8_about 35 = .ok (.lreturn, 1) := by decide +kernel
theorem dX8_about_36 : decode cX8_about 36 = .ok (.iload_n 2, 1) := by decide +kernel
theorem dX8_about_37 : decode cX8_about 37 = .ok (.tableswitch 130 0 9 #[55, 63, 71, 79, 86, 93, 100, 108, 115, 122], 55) := by decide +kernel
theorem dX8_about_92 : decode cX8_about 92 = .ok (.aload_n 0, 1) := by decide +kernel
theorem dX8_about_93 : decode cX8_about 93 = .ok (.getfield 30, 3) := by decide +kernel
theorem dX8_about_96 : decode cX8_about 96 = .ok (.iload_n 1, 1) := by decide +kernel
theorem dX8_about_97 : decode cX8_about 97 = .ok (.iaload, 1) := by decide +kernel
theorem dX8_about_98 : decode cX8_about 98 = .ok (.i2l, 1) := by decide +kernel
theorem dX8_about_99 : decode cX8_about 99 = .ok (.lreturn, 1) := by decide +kernel
theorem dX8_about_100 : decode cX8_about 100 = .ok (.aload_n 0, 1) := by decide +kernel
theorem dX8_about_101 : decode cX8_about 101 = .ok (.getfield 33, 3) := by decide +kernel
theorem dX8_about_104 : decode cX8_about 104 = .ok (.iload_n 1, 1) := by decide +kernel
theorem dX8_about_105 : decode cX8_about 105 = .ok (.iaload, 1) := by decide +kernel
theorem dX8_about_106 : decode cX8_about 106 = .ok (.i2l, 1) := by decide +kernel
theorem dX8_about_107 : decode cX8_about 107 = .ok (.lreturn, 1) := by decide +kernel
theorem dX8_about_108 : decode cX8_about 108 = .ok (.aload_n 0, 1) := by decide +kernel
theorem dX8_about_109 : decode cX8_about 109 = .ok (.getfield 36, 3) := by decide +kernel
theorem dX8_about_112 : decode cX8_about 112 = .ok (.iload_n 1, 1) := by decide +kernel
theorem dX8_about_113 : decode cX8_about 113 = .ok (.iaload, 1) := by decide +kernel
theorem dX8_about_114 : decode cX8_about 114 = .ok (.i2l, 1) := by decide +kernel
theorem dX8_about_115 : decode cX8_about 115 = .ok (.lreturn, 1) := by decide +kernel
theorem dX8_about_116 : decode cX8_about 116 = .ok (.aload_n 0, 1) := by decide +kernel
theorem dX8_about_117 : decode cX8_about 117 = .ok (.iload_n 1, 1) := by decide +kernel
theorem dX8_about_118 : decode cX8_about 118 = .ok (.invokevirtual 149, 3) := by decide +kernel
