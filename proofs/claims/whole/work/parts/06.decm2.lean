theorem dX7_set_20 : decode cX7_set 20 = .ok (.iconst 0, 1) := by decide +kernel
theorem dX7_set_21 : decode cX7_set 21 = .ok (.iconst 4, 1) := by decide +kernel
theorem dX7_set_22 : decode cX7_set 22 = .ok (.invokestatic 74, 3) := by decide +kernel
theorem dX7_set_25 : decode cX7_set 25 = .ok (.ifCond .ne 5, 3) := by decide +kernel
theorem dX7_set_28 : decode cX7_set 28 = .ok (.iconst (-1), 1) := by decide +kernel
theorem dX7_set_29 : decode cX7_set 29 = .ok (.ireturn, 1) := by decide +kernel
theorem dX7_set_30 : decode cX7_set 30 = .ok (.iload_n 1, 1) := by decide +kernel
theorem dX7_set_31 : decode cX7_set 31 = .ok (.tableswitch 177 0 4 #[33, 63, 94, 125, 152], 33) := by decide +kernel
theorem dX7_set_64 : decode cX7_set 64 = .ok (.iload_n 3, 1) := by decide +kernel
theorem dX7_set_65 : decode cX7_set 65 = .ok (.iconst 1, 1) := by decide +kernel
theorem dX7_set_66 : decode cX7_set 66 = .ok (.bipush 100, 2) := by decide +kernel
theorem dX7_set_68 : decode cX7_set 68 = .ok (.invokestatic 74, 3) := by decide +kernel
theorem dX7_set_71 : decode cX7_set 71 = .ok (.ifCond .ne 5, 3) := by decide +kernel
theorem dX7_set_74 : decode cX7_set 74 = .ok (.iconst (-1), 1) := by decide +kernel
theorem dX7_set_75 : decode cX7_set 75 = .ok (.ireturn, 1) := by decide +kernel
theorem dX7_set_76 : decode cX7_set 76 = .ok (.aload_n 0, 1) := by decide +kernel
theorem dX7_set_77 : decode cX7_set 77 = .ok (.getfield 25, 3) := by decide +kernel
theorem dX7_set_80 : decode cX7_set 80 = .ok (.iload_n 2, 1) := by decide +kernel
theorem dX7_set_81 : decode cX7_set 81 = .ok (.iaload, 1) := by decide +kernel
theorem dX7_set_82 : decode cX7_set 82 = .ok (.istore 4, 2) := by decide +kernel
theorem dX7_set_84 : decode cX7_set 84 = .ok (.aload_n 0, 1) := by decide +kernel
theorem dX7_set_85 : decode cX7_set 85 = .ok (.getfield 25, 3) := by decide +kernel
theorem dX7_set_88 : decode cX7_set 88 = .ok (.iload_n 2, 1) := by decide +kernel
theorem dX7_set_89 : decode cX7_set 89 = .ok (.iload_n 3, 1) := by decide +kernel
theorem dX7_set_90 : decode cX7_set 90 = .ok (.iastore, 1) := by decide +kernel
theorem dX7_set_91 : decode cX7_set 91 = .ok (.iload 4, 2) := by decide +kernel
theorem dX7_set_93 : decode cX7_set 93 = .ok (.ireturn, 1) := by decide +kernel
theorem dX7_set_94 : decode cX7_set 94 = .ok (.iload_n 3, 1) := by decide +kernel
theorem dX7_set_95 : decode cX7_set 95 = .ok (.iconst 0, 1) := by decide +kernel
theorem dX7_set_96 : decode cX7_set 96 = .ok (.sipush 500, 3) := by decide +kernel
theorem dX7_set_99 : decode cX7_set 99 = .ok (.invokestatic 74, 3) := by decide +kernel
theorem dX7_set_102 : decode cX7_set 102 = .ok (.ifCond .ne 5, 3) := by decide +kernel
theorem dX7_set_105 : decode cX7_set 105 = .ok (.iconst (-1), 1) := by decide +kernel
theorem dX7_set_106 : decode cX7_set 106 = .ok (.ireturn, 1) := by decide +kernel
theorem dX7_set_107 : decode cX7_set 107 = .ok (.aload_n 0, 1) := by decide +kernel
theorem dX7_set_108 : decode cX7_set 108 = .ok (.getfield 28, 3) := by decide +kernel
theorem dX7_set_111 : decode cX7_set 111 = .ok (.iload_n 2, 1) := by decide +kernel
theorem dX7_set_112 : decode cX7_set 112 = .ok (.iaload, 1) := by decide +kernel
theorem dX7_set_113 : decode cX7_set 113 = .ok (.istore 4, 2) := by decide +kernel
theorem dX7_set_115 : decode cX7_set 115 = .ok (.aload_n 0, 1) := by decide +kernel
theorem dX7_set_116 : decode cX7_set 116 = .ok (.getfield 28, 3) := by decide +kernel
theorem dX7_set_119 : decode cX7_set 119 = .ok (.iload_n 2, 1) := by decide +kernel
theorem dX7_set_120 : decode cX7_set 120 = .ok (.iload_n 3, 1) := by decide +kernel
theorem dX7_set_121 : decode cX7_set 121 = .ok (.iastore, 1) := by decide +kernel
theorem dX7_set_122 : decode cX7_set 122 = .ok (.iload 4, 2) := by decide +kernel
theorem dX7_set_124 : decode cX7_set 124 = .ok (.ireturn, 1) := by decide +kernel
theorem dX7_set_125 : decode cX7_set 125 = .ok (.iload_n 3, 1) := by decide +kernel
theorem dX7_set_126 : decode cX7_set 126 = .ok (.iconst 1, 1) := by decide +kernel
theorem dX7_set_127 : decode cX7_set 127 = .ok (.sipush 1000, 3) := by decide +kernel
theorem dX7_set_130 : decode cX7_set 130 = .ok (.invokestatic 74, 3) := by decide +kernel
theorem dX7_set_133 : decode cX7_set 133 = .ok (.ifCond .ne 5, 3) := by decide +kernel
theorem dX7_set_136 : decode cX7_set 136 = .ok (.iconst (-1), 1) := by decide +kernel
theorem dX7_set_137 : decode cX7_set 137 = .ok (.ireturn, 1) := by decide +kernel
theorem dX7_set_138 : decode cX7_set 138 = .ok (.aload_n 0, 1) := by decide +kernel
theorem dX7_set_139 : decode cX7_set 139 = .ok (.getfield 31, 3) := by decide +kernel
theorem dX7_set_142 : decode cX7_set 142 = .ok (.iload_n 2, 1) := by decide +kernel
theorem dX7_set_143 : decode cX7_set 143 = .ok (.iaload, 1) := by decide +kernel
theorem dX7_set_144 : decode cX7_set 144 = .ok (.istore 4, 2) := by decide +kernel
theorem dX7_set_146 : decode cX7_set 146 = .ok (.aload_n 0, 1) := by decide +kernel
theorem dX7_set_147 : decode cX7_set 147 = .ok (.getfield 31, 3) := by decide +kernel
theorem dX7_set_150 : decode cX7_set 150 = .ok (.iload_n 2, 1) := by decide +kernel
theorem dX7_set_151 : decode cX7_set 151 = .ok (.iload_n 3, 1) := by decide +kernel
theorem dX7_set_152 : decode cX7_set 152 = .ok (.iastore, 1) := by decide +kernel
theorem dX7_set_153 : decode cX7_set 153 = .ok (.iload 4, 2) := by decide +kernel
theorem dX7_set_155 : decode cX7_set 155 = .ok (.ireturn, 1) := by decide +kernel
theorem dX7_set_156 : decode cX7_set 156 = .ok (.iload_n 3, 1) := by decide +kernel
theorem dX7_set_157 : decode cX7_set 157 = .ok (.iconst 0, 1) := by decide +kernel
theorem dX7_set_158 : decode cX7_set 158 = .ok (.sipush 500, 3) := by decide +kernel
theorem dX7_set_161 : decode cX7_set 161 = .ok (.invokestatic 74, 3) := by decide +kernel
theorem dX7_set_164 : decode cX7_set 164 = .ok (.ifCond .ne 5, 3) := by decide +kernel
theorem dX7_set_167 : decode cX7_set 167 = .ok (.iconst (-1), 1) := by decide +kernel
theorem dX7_set_168 : decode cX7_set 168 = .ok (.ireturn, 1) := by decide +kernel
theorem dX7_set_169 : decode cX7_set 169 = .ok (.aload_n 0, 1) := by decide +kernel
theorem dX7_set_170 : decode cX7_set 170 = .ok (.getfield 34, 3) := by decide +kernel
theorem dX7_set_173 : decode cX7_set 173 = .ok (.istore 4, 2) := by decide +kernel
theorem dX7_set_175 : decode cX7_set 175 = .ok (.aload_n 0, 1) := by decide +kernel
theorem dX7_set_176 : decode cX7_set 176 = .ok (.iload_n 3, 1) := by decide +kernel
theorem dX7_set_177 : decode cX7_set 177 = .ok (.putfield 34, 3) := by decide +kernel
theorem dX7_set_180 : decode cX7_set 180 = .ok (.iload 4, 2) := by decide +kernel
theorem dX7_set_182 : decode cX7_set 182 = .ok (.ireturn, 1) := by decide +kernel
theorem dX7_set_183 : decode cX7_set 183 = .ok (.iload_n 3, 1) := by decide +kernel
theorem dX7_set_184 : decode cX7_set 184 = .ok (.iconst 0, 1) := by decide +kernel
theorem dX7_set_185 : decode cX7_set 185 = .ok (.iconst 1, 1) := by decide +kernel
theorem dX7_set_186 : decode cX7_set 186 = .ok (.invokestatic 74, 3) := by decide +kernel
theorem dX7_set_189 : decode cX7_set 189 = .ok (.ifCond .ne 5, 3) := by decide +kernel
theorem dX7_set_192 : decode cX7_set 192 = .ok (.iconst (-1), 1) := by decide +kernel
theorem dX7_set_193 : decode cX7_set 193 = .ok (.ireturn, 1) := by decide +kernel
theorem dX7_set_194 : decode cX7_set 194 = .ok (.aload_n 0, 1) := by decide +kernel
theorem dX7_set_195 : decode cX7_set 195 = .ok (.getfield 38, 3) := by decide +kernel
theorem dX7_set_198 : decode cX7_set 198 = .ok (.istore 4, 2) := by decide +kernel
theorem dX7_set_200 : decode cX7_set 200 = .ok (.aload_n 0, 1) := by decide +kernel
theorem dX7_set_201 : decode cX7_set 201 = .ok (.iload_n 3, 1) := by decide +kernel
theorem dX7_set_202 : decode cX7_set 202 = .ok (.putfield 38, 3) := by decide +kernel
theorem dX7_set_205 : decode cX7_set 205 = .ok (.iload 4, 2) := by decide +kernel
theorem dX7_set_207 : decode cX7_set 207 = .ok (.ireturn, 1) := by decide +kernel
theorem dX7_set_208 : decode cX7_set 208 = .ok (.iload_n 3, 1) := by decide +kernel
theorem dX7_set_209 : decode cX7_set 209 = .ok (.iconst 0, 1) := by decide +kernel
theorem dX7_set_210 : decode cX7_set 210 = .ok (.bipush 50, 2) := by decide +kernel
theorem dX7_set_212 : decode cX7_set 212 = .ok (.invokestatic 74, 3) := by decide +kernel
theorem dX7_set_215 : decode cX7_set 215 = .ok (.ifCond .ne 5, 3) := by decide +kernel
theorem dX7_set_218 : decode cX7_set 218 = .ok (.iconst (-1), 1) := by decide +kernel
theorem dX7_set_219 : decode cX7_set 219 = .ok (.ireturn, 1) := by decide +kernel
theorem dX7_set_220 : decode cX7_set 220 = .ok (.aload_n 0, 1) := by decide +kernel
theorem dX7_set_221 : decode cX7_set 221 = .ok (.getfield 41, 3) := by decide +kernel
theorem dX7_set_224 : decode cX7_set 224 = .ok (.istore 4, 2) := by decide +kernel
theorem dX7_set_226 : decode cX7_set 226 = .ok (.aload_n 0, 1) := by decide +kernel
theorem dX7_set_227 : decode cX7_set 227 = .ok (.iload_n 3, 1) := by decide +kernel
theorem dX7_set_228 : decode cX7_set 228 = .ok (.putfield 41, 3) := by decide +kernel
theorem dX7_set_231 : decode cX7_set 231 = .ok (.iload 4, 2) := by decide +kernel
theorem dX7_set_233 : decode cX7_set 233 = .ok (.ireturn, 1) := by decide +kernel
theorem dX7_rate_0 : decode cX7_rate 0 = .ok (.aload_n 0, 1) := by decide +kernel
theorem dX7_rate_1 : decode cX7_rate 1 = .ok (.iconst 0, 1) := by decide +kernel
theorem dX7_rate_2 : decode cX7_rate 2 = .ok (.putfield 68, 3) := by decide +kernel
theorem dX7_rate_5 : decode cX7_rate 5 = .ok (.iload_n 1, 1) := by decide +kernel
theorem dX7_rate_6 : decode cX7_rate 6 = .ok (.iconst 0, 1) := by decide +kernel
theorem dX7_rate_7 : decode cX7_rate 7 = .ok (.iconst 4, 1) := by decide +kernel
theorem dX7_rate_8 : decode cX7_rate 8 = .ok (.invokestatic 74, 3) := by decide +kernel
theorem dX7_rate_11 : decode cX7_rate 11 = .ok (.ifCond .eq 11, 3) := by decide +kernel
theorem dX7_rate_14 : decode cX7_rate 14 = .ok (.aload_n 0, 1) := by decide +kernel
theorem dX7_rate_15 : decode cX7_rate 15 = .ok (.iload_n 1, 1) := by decide +kernel
theorem dX7_rate_16 : decode cX7_rate 16 = .ok (.invokevirtual 113, 3) := by decide +kernel
theorem dX7_rate_19 : decode cX7_rate 19 = .ok (.goto 4, 3) := by decide +kernel
theorem dX7_rate_22 : decode cX7_rate 22 = .ok (.iconst (-1), 1) := by decide +kernel
theorem dX7_rate_23 : decode cX7_rate 23 = .ok (.ireturn, 1) := by decide +kernel
theorem dX7_rich_0 : decode cX7_rich 0 = .ok (.aload_n 0, 1) := by decide +kernel
theorem dX7_rich_1 : decode cX7_rich 1 = .ok (.iconst 0, 1) := by decide +kernel
theorem dX7_rich_2 : decode cX7_rich 2 = .ok (.putfield 68, 3) := by decide +kernel
theorem dX7_rich_5 : decode cX7_rich 5 = .ok (.iload_n 1, 1) := by decide +kernel
theorem dX7_rich_6 : decode cX7_rich 6 = .ok (.iconst 0, 1) := by decide +kernel
theorem dX7_rich_7 : decode cX7_rich 7 = .ok (.bipush 9, 2) := by decide +kernel
theorem dX7_rich_9 : decode cX7_rich 9 = .ok (.invokestatic 74, 3) := by decide +kernel
theorem dX7_rich_12 : decode cX7_rich 12 = .ok (.ifCond .ne 5, 3) := by decide +kernel
theorem dX7_rich_15 : decode cX7_rich 15 = .ok (.iconst (-1), 1) := by decide +kernel
theorem dX7_rich_16 : decode cX7_rich 16 = .ok (.ireturn, 1) := by decide +kernel
theorem dX7_rich_17 : decode cX7_rich 17 = .ok (.iconst 0, 1) := by decide +kernel
theorem dX7_rich_18 : decode cX7_rich 18 = .ok (.istore_n 2, 1) := by decide +kernel
theorem dX7_rich_19 : decode cX7_rich 19 = .ok (.iconst 0, 1) := by decide +kernel
theorem dX7_rich_20 : decode cX7_rich 20 = .ok (.istore_n 3, 1) := by decide +kernel
theorem dX7_rich_21 : decode cX7_rich 21 = .ok (.iload_n 3, 1) := by decide +kernel
theorem dX7_rich_22 : decode cX7_rich 22 = .ok (.aload_n 0, 1) := by decide +kernel
theorem dX7_rich_23 : decode cX7_rich 23 = .ok (.getfield 71, 3) := by decide +kernel
theorem dX7_rich_26 : decode cX7_rich 26 = .ok (.if_icmp .ge 27, 3) := by decide +kernel
theorem dX7_rich_29 : decode cX7_rich 29 = .ok (.aload_n 0, 1) := by decide +kernel
theorem dX7_rich_30 : decode cX7_rich 30 = .ok (.getfield 19, 3) := by decide +kernel
theorem dX7_rich_33 : decode cX7_rich 33 = .ok (.iload_n 3, 1) := by decide +kernel
theorem dX7_rich_34 : decode cX7_rich 34 = .ok (.iaload, 1) := by decide +kernel
theorem dX7_rich_35 : decode cX7_rich 35 = .ok (.iload_n 1, 1) := by decide +kernel
theorem dX7_rich_36 : decode cX7_rich 36 = .ok (.if_icmp .ne 11, 3) := by decide +kernel
theorem dX7_rich_39 : decode cX7_rich 39 = .ok (.iload_n 2, 1) := by decide +kernel
theorem dX7_rich_40 : decode cX7_rich 40 = .ok (.aload_n 0, 1) := by decide +kernel
theorem dX7_rich_41 : decode cX7_rich 41 = .ok (.iload_n 3, 1) := by decide +kernel
theorem dX7_rich_42 : decode cX7_rich 42 = .ok (.invokevirtual 129, 3) := by decide +kernel
theorem dX7_rich_45 : decode cX7_rich 45 = .ok (.iadd, 1) := by decide +kernel
theorem dX7_rich_46 : decode cX7_rich 46 = .ok (.istore_n 2, 1) := by decide +kernel
theorem dX7_rich_47 : decode cX7_rich 47 = .ok (.iinc 3 1, 3) := by decide +kernel
theorem dX7_rich_50 : decode cX7_rich 50 = .ok (.goto (-29), 3) := by decide +kernel
theorem dX7_rich_53 : decode cX7_rich 53 = .ok (.iload_n 2, 1) := by decide +kernel
theorem dX7_rich_54 : decode cX7_rich 54 = .ok (.ireturn, 1) := by decide +kernel
theorem dX7_drawn_0 : decode cX7_drawn 0 = .ok (.aload_n 0, 1) := by decide +kernel
theorem dX7_drawn_1 : decode cX7_drawn 1 = .ok (.iconst 0, 1) := by decide +kernel
theorem dX7_drawn_2 : decode cX7_drawn 2 = .ok (.putfield 68, 3) := by decide +kernel
theorem dX7_drawn_5 : decode cX7_drawn 5 = .ok (.aload_n 0, 1) := by decide +kernel
theorem dX7_drawn_6 : decode cX7_drawn 6 = .ok (.iload_n 1, 1) := by decide +kernel
theorem dX7_drawn_7 : decode cX7_drawn 7 = .ok (.invokevirtual 95, 3) := by decide +kernel
theorem dX7_drawn_10 : decode cX7_drawn 10 = .ok (.ifCond .eq 34, 3) := by decide +kernel
theorem dX7_drawn_13 : decode cX7_drawn 13 = .ok (.iload_n 2, 1) := by decide +kernel
theorem dX7_drawn_14 : decode cX7_drawn 14 = .ok (.ifCond .lt 30, 3) := by decide +kernel
theorem dX7_drawn_17 : decode cX7_drawn 17 = .ok (.iload_n 3, 1) := by decide +kernel
theorem dX7_drawn_18 : decode cX7_drawn 18 = .ok (.iconst 1, 1) := by decide +kernel
theorem dX7_drawn_19 : decode cX7_drawn 19 = .ok (.if_icmp .lt 25, 3) := by decide +kernel
theorem dX7_drawn_22 : decode cX7_drawn 22 = .ok (.iload_n 3, 1) := by decide +kernel
theorem dX7_drawn_23 : decode cX7_drawn 23 = .ok (.aload_n 0, 1) := by decide +kernel
theorem dX7_drawn_24 : decode cX7_drawn 24 = .ok (.getfield 16, 3) := by decide +kernel
theorem dX7_drawn_27 : decode cX7_drawn 27 = .ok (.iload_n 1, 1) := by decide +kernel
theorem dX7_drawn_28 : decode cX7_drawn 28 = .ok (.iaload, 1) := by decide +kernel
theorem dX7_drawn_29 : decode cX7_drawn 29 = .ok (.if_icmp .gt 15, 3) := by decide +kernel
theorem dX7_drawn_32 : decode cX7_drawn 32 = .ok (.iload_n 2, 1) := by decide +kernel
theorem dX7_drawn_33 : decode cX7_drawn 33 = .ok (.aload_n 0, 1) := by decide +kernel
theorem dX7_drawn_34 : decode cX7_drawn 34 = .ok (.getfield 16, 3) := by decide +kernel
theorem dX7_drawn_37 : decode cX7_drawn 37 = .ok (.iload_n 1, 1) := by decide +kernel
theorem dX7_drawn_38 : decode cX7_drawn 38 = .ok (.iaload, 1) := by decide +kernel
theorem dX7_drawn_39 : decode cX7_drawn 39 = .ok (.iload_n 3, 1) := by decide +kernel
theorem dX7_drawn_40 : decode cX7_drawn 40 = .ok (.isub, 1) := by decide +kernel
theorem dX7_drawn_41 : decode cX7_drawn 41 = .ok (.if_icmp .le 5, 3) := by decide +kernel
theorem dX7_drawn_44 : decode cX7_drawn 44 = .ok (.iconst (-1), 1) := by decide +kernel
theorem dX7_drawn_45 : decode cX7_drawn 45 = .ok (.ireturn, 1) := by decide +kernel
theorem dX7_drawn_46 : decode cX7_drawn 46 = .ok (.aload_n 0, 1) := by decide +kernel
theorem dX7_drawn_47 : decode cX7_drawn 47 = .ok (.iload_n 1, 1) := by decide +kernel
theorem dX7_drawn_48 : decode cX7_drawn 48 = .ok (.iload_n 2, 1) := by decide +kernel
theorem dX7_drawn_49 : decode cX7_drawn 49 = .ok (.iload_n 2, 1) := by decide +kernel
theorem dX7_drawn_50 : decode cX7_drawn 50 = .ok (.iload_n 3, 1) := by decide +kernel
theorem dX7_drawn_51 : decode cX7_drawn 51 = .ok (.iadd, 1) := by decide +kernel
theorem dX7_drawn_52 : decode cX7_drawn 52 = .ok (.invokevirtual 116, 3) := by decide +kernel
theorem dX7_drawn_55 : decode cX7_drawn 55 = .ok (.ireturn, 1) := by decide +kernel
theorem dX7_cheat_0 : decode cX7_cheat 0 = .ok (.aload_n 0, 1) := by decide +kernel
theorem dX7_cheat_1 : decode cX7_cheat 1 = .ok (.iconst 0, 1) := by decide +kernel
theorem dX7_cheat_2 : decode cX7_cheat 2 = .ok (.putfield 68, 3) := by decide +kernel
theorem dX7_cheat_5 : decode cX7_cheat 5 = .ok (.aload_n 0, 1) := by decide +kernel
theorem dX7_cheat_6 : decode cX7_cheat 6 = .ok (.iload_n 1, 1) := by decide +kernel
theorem dX7_cheat_7 : decode cX7_cheat 7 = .ok (.invokevirtual 95, 3) := by decide +kernel
theorem dX7_cheat_10 : decode cX7_cheat 10 = .ok (.ifCond .ne 5, 3) := by decide +kernel
theorem dX7_cheat_13 : decode cX7_cheat 13 = .ok (.iconst (-1), 1) := by decide +kernel
theorem dX7_cheat_14 : decode cX7_cheat 14 = .ok (.ireturn, 1) := by decide +kernel
theorem dX7_cheat_15 : decode cX7_cheat 15 = .ok (.iconst 0, 1) := by decide +kernel
theorem dX7_cheat_16 : decode cX7_cheat 16 = .ok (.istore_n 3, 1) := by decide +kernel
theorem dX7_cheat_17 : decode cX7_cheat 17 = .ok (.iload_n 3, 1) := by decide +kernel
theorem dX7_cheat_18 : decode cX7_cheat 18 = .ok (.aload_n 0, 1) := by decide +kernel
theorem dX7_cheat_19 : decode cX7_cheat 19 = .ok (.getfield 16, 3) := by decide +kernel
theorem dX7_cheat_22 : decode cX7_cheat 22 = .ok (.iload_n 1, 1) := by decide +kernel
theorem dX7_cheat_23 : decode cX7_cheat 23 = .ok (.iaload, 1) := by decide +kernel
theorem dX7_cheat_24 : decode cX7_cheat 24 = .ok (.if_icmp .ge 26, 3) := by decide +kernel
theorem dX7_cheat_27 : decode cX7_cheat 27 = .ok (.aload_n 0, 1) := by decide +kernel
theorem dX7_cheat_28 : decode cX7_cheat 28 = .ok (.getfield 9, 3) := by decide +kernel
theorem dX7_cheat_31 : decode cX7_cheat 31 = .ok (.bipush 80, 2) := by decide +kernel
theorem dX7_cheat_33 : decode cX7_cheat 33 = .ok (.iload_n 1, 1) := by decide +kernel
theorem dX7_cheat_34 : decode cX7_cheat 34 = .ok (.imul, 1) := by decide +kernel
theorem dX7_cheat_35 : decode cX7_cheat 35 = .ok (.iload_n 3, 1) := by decide +kernel
theorem dX7_cheat_36 : decode cX7_cheat 36 = .ok (.iadd, 1) := by decide +kernel
theorem dX7_cheat_37 : decode cX7_cheat 37 = .ok (.iaload, 1) := by decide +kernel
theorem dX7_cheat_38 : decode cX7_cheat 38 = .ok (.iload_n 2, 1) := by decide +kernel
theorem dX7_cheat_39 : decode cX7_cheat 39 = .ok (.if_icmp .ge 5, 3) := by decide +kernel
theorem dX7_cheat_42 : decode cX7_cheat 42 = .ok (.iload_n 3, 1) := by decide +kernel
theorem dX7_cheat_43 : decode cX7_cheat 43 = .ok (.ireturn, 1) := by decide +kernel
theorem dX7_cheat_44 : decode cX7_cheat 44 = .ok (.iinc 3 1, 3) := by decide +kernel
theorem dX7_cheat_47 : decode cX7_cheat 47 = .ok (.goto (-30), 3) := by decide +kernel
theorem dX7_cheat_50 : decode cX7_cheat 50 = .ok (.iconst (-1), 1) := by decide +kernel
theorem dX7_cheat_51 : decode cX7_cheat 51 = .ok (.ireturn, 1) := by decide +kernel
theorem dX7_blame_0 : decode cX7_blame 0 = .ok (.aload_n 0, 1) := by decide +kernel
theorem dX7_blame_1 : decode cX7_blame 1 = .ok (.iconst 0, 1) := by decide +kernel
theorem dX7_blame_2 : decode cX7_blame 2 = .ok (.putfield 68, 3) := by decide +kernel
theorem dX7_blame_5 : decode cX7_blame 5 = .ok (.iload_n 1, 1) := by decide +kernel
theorem dX7_blame_6 : decode cX7_blame 6 = .ok (.iconst 0, 1) := by decide +kernel
theorem dX7_blame_7 : decode cX7_blame 7 = .ok (.iconst 4, 1) := by decide +kernel
theorem dX7_blame_8 : decode cX7_blame 8 = .ok (.invokestatic 74, 3) := by decide +kernel
theorem dX7_blame_11 : decode cX7_blame 11 = .ok (.ifCond .ne 5, 3) := by decide +kernel
theorem dX7_blame_14 : decode cX7_blame 14 = .ok (.iconst (-1), 1) := by decide +kernel
theorem dX7_blame_15 : decode cX7_blame 15 = .ok (.ireturn, 1) := by decide +kernel
theorem dX7_blame_16 : decode cX7_blame 16 = .ok (.iconst (-1), 1) := by decide +kernel
theorem dX7_blame_17 : decode cX7_blame 17 = .ok (.istore_n 2, 1) := by decide +kernel
theorem dX7_blame_18 : decode cX7_blame 18 = .ok (.iconst 0, 1) := by decide +kernel
theorem dX7_blame_19 : decode cX7_blame 19 = .ok (.istore_n 3, 1) := by decide +kernel
theorem dX7_blame_20 : decode cX7_blame 20 = .ok (.iconst 0, 1) := by decide +kernel
theorem dX7_blame_21 : decode cX7_blame 21 = .ok (.istore 4, 2) := by decide +kernel
theorem dX7_blame_23 : decode cX7_blame 23 = .ok (.iload 4, 2) := by decide +kernel
theorem dX7_blame_25 : decode cX7_blame 25 = .ok (.bipush 10, 2) := by decide +kernel
theorem dX7_blame_27 : decode cX7_blame 27 = .ok (.if_icmp .ge 104, 3) := by decide +kernel
theorem dX7_blame_30 : decode cX7_blame 30 = .ok (.iconst 0, 1) := by decide +kernel
theorem dX7_blame_31 : decode cX7_blame 31 = .ok (.istore 5, 2) := by decide +kernel
theorem dX7_blame_33 : decode cX7_blame 33 = .ok (.iconst 0, 1) := by decide +kernel
theorem dX7_blame_34 : decode cX7_blame 34 = .ok (.istore 6, 2) := by decide +kernel
theorem dX7_blame_36 : decode cX7_blame 36 = .ok (.iload 6, 2) := by decide +kernel
theorem dX7_blame_38 : decode cX7_blame 38 = .ok (.aload_n 0, 1) := by decide +kernel
theorem dX7_blame_39 : decode cX7_blame 39 = .ok (.getfield 71, 3) := by decide +kernel
theorem dX7_blame_42 : decode cX7_blame 42 = .ok (.if_icmp .ge 68, 3) := by decide +kernel
theorem dX7_blame_45 : decode cX7_blame 45 = .ok (.iconst 0, 1) := by decide +kernel
theorem dX7_blame_46 : decode cX7_blame 46 = .ok (.istore 7, 2) := by decide +kernel
theorem dX7_blame_48 : decode cX7_blame 48 = .ok (.iload 7, 2) := by decide +kernel
theorem dX7_blame_50 : decode cX7_blame 50 = .ok (.aload_n 0, 1) := by decide +kernel
theorem dX7_blame_51 : decode cX7_blame 51 = .ok (.getfield 16, 3) := by decide +kernel
theorem dX7_blame_54 : decode cX7_blame 54 = .ok (.iload 6, 2) := by decide +kernel
theorem dX7_blame_56 : decode cX7_blame 56 = .ok (.iaload, 1) := by decide +kernel
theorem dX7_blame_57 : decode cX7_blame 57 = .ok (.if_icmp .ge 47, 3) := by decide +kernel
theorem dX7_blame_60 : decode cX7_blame 60 = .ok (.aload_n 0, 1) := by decide +kernel
theorem dX7_blame_61 : decode cX7_blame 61 = .ok (.getfield 13, 3) := by decide +kernel
theorem dX7_blame_64 : decode cX7_blame 64 = .ok (.bipush 80, 2) := by decide +kernel
theorem dX7_blame_66 : decode cX7_blame 66 = .ok (.iload 6, 2) := by decide +kernel
theorem dX7_blame_68 : decode cX7_blame 68 = .ok (.imul, 1) := by decide +kernel
theorem dX7_blame_69 : decode cX7_blame 69 = .ok (.iload 7, 2) := by decide +kernel
theorem dX7_blame_71 : decode cX7_blame 71 = .ok (.iadd, 1) := by decide +kernel
theorem dX7_blame_72 : decode cX7_blame 72 = .ok (.iaload, 1) := by decide +kernel
theorem dX7_blame_73 : decode cX7_blame 73 = .ok (.iload 4, 2) := by decide +kernel
theorem dX7_blame_75 : decode cX7_blame 75 = .ok (.if_icmp .ne 23, 3) := by decide +kernel
theorem dX7_blame_78 : decode cX7_blame 78 = .ok (.aload_n 0, 1) := by decide +kernel
theorem dX7_blame_79 : decode cX7_blame 79 = .ok (.getfield 9, 3) := by decide +kernel
theorem dX7_blame_82 : decode cX7_blame 82 = .ok (.bipush 80, 2) := by decide +kernel
theorem dX7_blame_84 : decode cX7_blame 84 = .ok (.iload 6, 2) := by decide +kernel
theorem dX7_blame_86 : decode cX7_blame 86 = .ok (.imul, 1) := by decide +kernel
theorem dX7_blame_87 : decode cX7_blame 87 = .ok (.iload 7, 2) := by decide +kernel
theorem dX7_blame_89 : decode cX7_blame 89 = .ok (.iadd, 1) := by decide +kernel
theorem dX7_blame_90 : decode cX7_blame 90 = .ok (.iaload, 1) := by decide +kernel
theorem dX7_blame_91 : decode cX7_blame 91 = .ok (.iload_n 1, 1) := by decide +kernel
theorem dX7_blame_92 : decode cX7_blame 92 = .ok (.if_icmp .ge 6, 3) := by decide +kernel
theorem dX7_blame_95 : decode cX7_blame 95 = .ok (.iinc 5 1, 3) := by decide +kernel
theorem dX7_blame_98 : decode cX7_blame 98 = .ok (.iinc 7 1, 3) := by decide +kernel
theorem dX7_blame_101 : decode cX7_blame 101 = .ok (.goto (-53), 3) := by decide +kernel
theorem dX7_blame_104 : decode cX7_blame 104 = .ok (.iinc 6 1, 3) := by decide +kernel
theorem dX7_blame_107 : decode cX7_blame 107 = .ok (.goto (-71), 3) := by decide +kernel
theorem dX7_blame_110 : decode cX7_blame 110 = .ok (.iload 5, 2) := by decide +kernel
theorem dX7_blame_112 : decode cX7_blame 112 = .ok (.iload_n 3, 1) := by decide +kernel
theorem dX7_blame_113 : decode cX7_blame 113 = .ok (.if_icmp .gt 6, 3) := by decide +kernel
theorem dX7_blame_116 : decode cX7_blame 116 = .ok (.goto 9, 3) := by decide +kernel
theorem dX7_blame_119 : decode cX7_blame 119 = .ok (.iload 5, 2) := by decide +kernel
theorem dX7_blame_121 : decode cX7_blame 121 = .ok (.istore_n 3, 1) := by decide +kernel
theorem dX7_blame_122 : decode cX7_blame 122 = .ok (.iload 4, 2) := by decide +kernel
theorem dX7_blame_124 : decode cX7_blame 124 = .ok (.istore_n 2, 1) := by decide +kernel
theorem dX7_blame_125 : decode cX7_blame 125 = .ok (.iinc 4 1, 3) := by decide +kernel
theorem dX7_blame_128 : decode cX7_blame 128 = .ok (.goto (-105), 3) := by decide +kernel
theorem dX7_blame_131 : decode cX7_blame 131 = .ok (.iload_n 2, 1) := by decide +kernel
theorem dX7_blame_132 : decode cX7_blame 132 = .ok (.ireturn, 1) := by decide +kernel
theorem dX7_gather_0 : decode cX7_gather 0 = .ok (.aload_n 0, 1) := by decide +kernel
theorem dX7_gather_1 : decode cX7_gather 1 = .ok (.iconst 0, 1) := by decide +kernel
theorem dX7_gather_2 : decode cX7_gather 2 = .ok (.putfield 135, 3) := by decide +kernel
theorem dX7_gather_5 : decode cX7_gather 5 = .ok (.iconst 0, 1) := by decide +kernel
theorem dX7_gather_6 : decode cX7_gather 6 = .ok (.istore_n 2, 1) := by decide +kernel
theorem dX7_gather_7 : decode cX7_gather 7 = .ok (.iload_n 2, 1) := by decide +kernel
theorem dX7_gather_8 : decode cX7_gather 8 = .ok (.aload_n 0, 1) := by decide +kernel
theorem dX7_gather_9 : decode cX7_gather 9 = .ok (.getfield 71, 3) := by decide +kernel
theorem dX7_gather_12 : decode cX7_gather 12 = .ok (.if_icmp .ge 76, 3) := by decide +kernel
theorem dX7_gather_15 : decode cX7_gather 15 = .ok (.aload_n 0, 1) := by decide +kernel
theorem dX7_gather_16 : decode cX7_gather 16 = .ok (.getfield 16, 3) := by decide +kernel
theorem dX7_gather_19 : decode cX7_gather 19 = .ok (.iload_n 2, 1) := by decide +kernel
theorem dX7_gather_20 : decode cX7_gather 20 = .ok (.iaload, 1) := by decide +kernel
theorem dX7_gather_21 : decode cX7_gather 21 = .ok (.ifCond .eq 61, 3) := by decide +kernel
theorem dX7_gather_24 : decode cX7_gather 24 = .ok (.aload_n 0, 1) := by decide +kernel
theorem dX7_gather_25 : decode cX7_gather 25 = .ok (.getfield 19, 3) := by decide +kernel
theorem dX7_gather_28 : decode cX7_gather 28 = .ok (.iload_n 2, 1) := by decide +kernel
theorem dX7_gather_29 : decode cX7_gather 29 = .ok (.iaload, 1) := by decide +kernel
theorem dX7_gather_30 : decode cX7_gather 30 = .ok (.iload_n 1, 1) := by decide +kernel
theorem dX7_gather_31 : decode cX7_gather 31 = .ok (.if_icmp .eq 6, 3) := by decide +kernel
theorem dX7_gather_34 : decode cX7_gather 34 = .ok (.goto 48, 3) := by decide +kernel
theorem dX7_gather_37 : decode cX7_gather 37 = .ok (.aload_n 0, 1) := by decide +kernel
theorem dX7_gather_38 : decode cX7_gather 38 = .ok (.getfield 135, 3) := by decide +kernel
theorem dX7_gather_41 : decode cX7_gather 41 = .ok (.bipush 12, 2) := by decide +kernel
theorem dX7_gather_43 : decode cX7_gather 43 = .ok (.if_icmp .ne 5, 3) := by decide +kernel
theorem dX7_gather_46 : decode cX7_gather 46 = .ok (.iconst 0, 1) := by decide +kernel
theorem dX7_gather_47 : decode cX7_gather 47 = .ok (.ireturn, 1) := by decide +kernel
theorem dX7_gather_48 : decode cX7_gather 48 = .ok (.aload_n 0, 1) := by decide +kernel
theorem dX7_gather_49 : decode cX7_gather 49 = .ok (.getfield 53, 3) := by decide +kernel
theorem dX7_gather_52 : decode cX7_gather 52 = .ok (.aload_n 0, 1) := by decide +kernel
theorem dX7_gather_53 : decode cX7_gather 53 = .ok (.getfield 135, 3) := by decide +kernel
theorem dX7_gather_56 : decode cX7_gather 56 = .ok (.iload_n 2, 1) := by decide +kernel
theorem dX7_gather_57 : decode cX7_gather 57 = .ok (.iastore, 1) := by decide +kernel
theorem dX7_gather_58 : decode cX7_gather 58 = .ok (.aload_n 0, 1) := by decide +kernel
theorem dX7_gather_59 : decode cX7_gather 59 = .ok (.getfield 56, 3) := by decide +kernel
theorem dX7_gather_62 : decode cX7_gather 62 = .ok (.aload_n 0, 1) := by decide +kernel
theorem dX7_gather_63 : decode cX7_gather 63 = .ok (.getfield 135, 3) := by decide +kernel
theorem dX7_gather_66 : decode cX7_gather 66 = .ok (.aload_n 0, 1) := by decide +kernel
theorem dX7_gather_67 : decode cX7_gather 67 = .ok (.iload_n 2, 1) := by decide +kernel
theorem dX7_gather_68 : decode cX7_gather 68 = .ok (.invokevirtual 129, 3) := by decide +kernel
theorem dX7_gather_71 : decode cX7_gather 71 = .ok (.iastore, 1) := by decide +kernel
theorem dX7_gather_72 : decode cX7_gather 72 = .ok (.aload_n 0, 1) := by decide +kernel
theorem dX7_gather_73 : decode cX7_gather 73 = .ok (.dup, 1) := by decide +kernel
theorem dX7_gather_74 : decode cX7_gather 74 = .ok (.getfield 135, 3) := by decide +kernel
theorem dX7_gather_77 : decode cX7_gather 77 = .ok (.iconst 1, 1) := by decide +kernel
theorem dX7_gather_78 : decode cX7_gather 78 = .ok (.iadd, 1) := by decide +kernel
theorem dX7_gather_79 : decode cX7_gather 79 = .ok (.putfield 135, 3) := by decide +kernel
theorem dX7_gather_82 : decode cX7_gather 82 = .ok (.iinc 2 1, 3) := by decide +kernel
theorem dX7_gather_85 : decode cX7_gather 85 = .ok (.goto (-78), 3) := by decide +kernel
theorem dX7_gather_88 : decode cX7_gather 88 = .ok (.iconst 1, 1) := by decide +kernel
theorem dX7_gather_89 : decode cX7_gather 89 = .ok (.ireturn, 1) := by decide +kernel
theorem dX7_worthOf_0 : decode cX7_worthOf 0 = .ok (.iconst 0, 1) := by decide +kernel
theorem dX7_worthOf_1 : decode cX7_worthOf 1 = .ok (.istore_n 2, 1) := by decide +kernel
theorem dX7_worthOf_2 : decode cX7_worthOf 2 = .ok (.iconst 0, 1) := by decide +kernel
theorem dX7_worthOf_3 : decode cX7_worthOf 3 = .ok (.istore_n 3, 1) := by decide +kernel
theorem dX7_worthOf_4 : decode cX7_worthOf 4 = .ok (.iload_n 3, 1) := by decide +kernel
theorem dX7_worthOf_5 : decode cX7_worthOf 5 = .ok (.aload_n 0, 1) := by decide +kernel
theorem dX7_worthOf_6 : decode cX7_worthOf 6 = .ok (.getfield 135, 3) := by decide +kernel
theorem dX7_worthOf_9 : decode cX7_worthOf 9 = .ok (.if_icmp .ge 27, 3) := by decide +kernel
theorem dX7_worthOf_12 : decode cX7_worthOf 12 = .ok (.iload_n 1, 1) := by decide +kernel
theorem dX7_worthOf_13 : decode cX7_worthOf 13 = .ok (.iload_n 3, 1) := by decide +kernel
theorem dX7_worthOf_14 : decode cX7_worthOf 14 = .ok (.ishr, 1) := by decide +kernel
theorem dX7_worthOf_15 : decode cX7_worthOf 15 = .ok (.iconst 1, 1) := by decide +kernel
theorem dX7_worthOf_16 : decode cX7_worthOf 16 = .ok (.iand, 1) := by decide +kernel
theorem dX7_worthOf_17 : decode cX7_worthOf 17 = .ok (.iconst 1, 1) := by decide +kernel
theorem dX7_worthOf_18 : decode cX7_worthOf 18 = .ok (.if_icmp .ne 12, 3) := by decide +kernel
theorem dX7_worthOf_21 : decode cX7_worthOf 21 = .ok (.iload_n 2, 1) := by decide +kernel
theorem dX7_worthOf_22 : decode cX7_worthOf 22 = .ok (.aload_n 0, 1) := by decide +kernel
theorem dX7_worthOf_23 : decode cX7_worthOf 23 = .ok (.getfield 56, 3) := by decide +kernel
theorem dX7_worthOf_26 : decode cX7_worthOf 26 = .ok (.iload_n 3, 1) := by decide +kernel
theorem dX7_worthOf_27 : decode cX7_worthOf 27 = .ok (.iaload, 1) := by decide +kernel
theorem dX7_worthOf_28 : decode cX7_worthOf 28 = .ok (.iadd, 1) := by decide +kernel
theorem dX7_worthOf_29 : decode cX7_worthOf 29 = .ok (.istore_n 2, 1) := by decide +kernel
theorem dX7_worthOf_30 : decode cX7_worthOf 30 = .ok (.iinc 3 1, 3) := by decide +kernel
theorem dX7_worthOf_33 : decode cX7_worthOf 33 = .ok (.goto (-29), 3) := by decide +kernel
theorem dX7_worthOf_36 : decode cX7_worthOf 36 = .ok (.iload_n 2, 1) := by decide +kernel
theorem dX7_worthOf_37 : decode cX7_worthOf 37 = .ok (.ireturn, 1) := by decide +kernel
theorem dX7_serving_0 : decode cX7_serving 0 = .ok (.iconst 0, 1) := by decide +kernel
theorem dX7_serving_1 : decode cX7_serving 1 = .ok (.istore_n 2, 1) := by decide +kernel
theorem dX7_serving_2 : decode cX7_serving 2 = .ok (.iconst 0, 1) := by decide +kernel
theorem dX7_serving_3 : decode cX7_serving 3 = .ok (.istore_n 3, 1) := by decide +kernel
theorem dX7_serving_4 : decode cX7_serving 4 = .ok (.iconst 1, 1) := by decide +kernel
theorem dX7_serving_5 : decode cX7_serving 5 = .ok (.istore 4, 2) := by decide +kernel
theorem dX7_serving_7 : decode cX7_serving 7 = .ok (.iload 4, 2) := by decide +kernel
theorem dX7_serving_9 : decode cX7_serving 9 = .ok (.iconst 1, 1) := by decide +kernel
theorem dX7_serving_10 : decode cX7_serving 10 = .ok (.aload_n 0, 1) := by decide +kernel
theorem dX7_serving_11 : decode cX7_serving 11 = .ok (.getfield 135, 3) := by decide +kernel
theorem dX7_serving_14 : decode cX7_serving 14 = .ok (.ishl, 1) := by decide +kernel
theorem dX7_serving_15 : decode cX7_serving 15 = .ok (.if_icmp .ge 60, 3) := by decide +kernel
theorem dX7_serving_18 : decode cX7_serving 18 = .ok (.aload_n 0, 1) := by decide +kernel
theorem dX7_serving_19 : decode cX7_serving 19 = .ok (.iload 4, 2) := by decide +kernel
theorem dX7_serving_21 : decode cX7_serving 21 = .ok (.invokevirtual 138, 3) := by decide +kernel
theorem dX7_serving_24 : decode cX7_serving 24 = .ok (.istore 5, 2) := by decide +kernel
theorem dX7_serving_26 : decode cX7_serving 26 = .ok (.iload 5, 2) := by decide +kernel
theorem dX7_serving_28 : decode cX7_serving 28 = .ok (.iload_n 1, 1) := by decide +kernel
theorem dX7_serving_29 : decode cX7_serving 29 = .ok (.if_icmp .lt 40, 3) := by decide +kernel
theorem dX7_serving_32 : decode cX7_serving 32 = .ok (.iload_n 2, 1) := by decide +kernel
theorem dX7_serving_33 : decode cX7_serving 33 = .ok (.ifCond .eq 30, 3) := by decide +kernel
theorem dX7_serving_36 : decode cX7_serving 36 = .ok (.iload 5, 2) := by decide +kernel
theorem dX7_serving_38 : decode cX7_serving 38 = .ok (.iload_n 3, 1) := by decide +kernel
theorem dX7_serving_39 : decode cX7_serving 39 = .ok (.if_icmp .gt 30, 3) := by decide +kernel
theorem dX7_serving_42 : decode cX7_serving 42 = .ok (.iload 5, 2) := by decide +kernel
theorem dX7_serving_44 : decode cX7_serving 44 = .ok (.iload_n 3, 1) := by decide +kernel
theorem dX7_serving_45 : decode cX7_serving 45 = .ok (.if_icmp .ne 18, 3) := by decide +kernel
theorem dX7_serving_48 : decode cX7_serving 48 = .ok (.iload 4, 2) := by decide +kernel
theorem dX7_serving_50 : decode cX7_serving 50 = .ok (.invokestatic 124, 3) := by decide +kernel
theorem dX7_serving_53 : decode cX7_serving 53 = .ok (.iload_n 2, 1) := by decide +kernel
theorem dX7_serving_54 : decode cX7_serving 54 = .ok (.invokestatic 124, 3) := by decide +kernel
theorem dX7_serving_57 : decode cX7_serving 57 = .ok (.if_icmp .lt 6, 3) := by decide +kernel
theorem dX7_serving_60 : decode cX7_serving 60 = .ok (.goto 9, 3) := by decide +kernel
theorem dX7_serving_63 : decode cX7_serving 63 = .ok (.iload 4, 2) := by decide +kernel
theorem dX7_serving_65 : decode cX7_serving 65 = .ok (.istore_n 2, 1) := by decide +kernel
theorem dX7_serving_66 : decode cX7_serving 66 = .ok (.iload 5, 2) := by decide +kernel
theorem dX7_serving_68 : decode cX7_serving 68 = .ok (.istore_n 3, 1) := by decide +kernel
theorem dX7_serving_69 : decode cX7_serving 69 = .ok (.iinc 4 1, 3) := by decide +kernel
theorem dX7_serving_72 : decode cX7_serving 72 = .ok (.goto (-65), 3) := by decide +kernel
theorem dX7_serving_75 : decode cX7_serving 75 = .ok (.iload_n 2, 1) := by decide +kernel
theorem dX7_serving_76 : decode cX7_serving 76 = .ok (.ireturn, 1) := by decide +kernel
theorem dX7_serves_0 : decode cX7_serves 0 = .ok (.aload_n 0, 1) := by decide +kernel
theorem dX7_serves_1 : decode cX7_serves 1 = .ok (.iconst 0, 1) := by decide +kernel
theorem dX7_serves_2 : decode cX7_serves 2 = .ok (.putfield 68, 3) := by decide +kernel
theorem dX7_serves_5 : decode cX7_serves 5 = .ok (.iload_n 1, 1) := by decide +kernel
theorem dX7_serves_6 : decode cX7_serves 6 = .ok (.iconst 0, 1) := by decide +kernel
theorem dX7_serves_7 : decode cX7_serves 7 = .ok (.bipush 9, 2) := by decide +kernel
theorem dX7_serves_9 : decode cX7_serves 9 = .ok (.invokestatic 74, 3) := by decide +kernel
theorem dX7_serves_12 : decode cX7_serves 12 = .ok (.ifCond .eq 21, 3) := by decide +kernel
theorem dX7_serves_15 : decode cX7_serves 15 = .ok (.iload_n 2, 1) := by decide +kernel
theorem dX7_serves_16 : decode cX7_serves 16 = .ok (.iconst 1, 1) := by decide +kernel
theorem dX7_serves_17 : decode cX7_serves 17 = .ok (.ldc 141, 2) := by decide +kernel
theorem dX7_serves_19 : decode cX7_serves 19 = .ok (.invokestatic 74, 3) := by decide +kernel
theorem dX7_serves_22 : decode cX7_serves 22 = .ok (.ifCond .eq 11, 3) := by decide +kernel
theorem dX7_serves_25 : decode cX7_serves 25 = .ok (.aload_n 0, 1) := by decide +kernel
theorem dX7_serves_26 : decode cX7_serves 26 = .ok (.iload_n 1, 1) := by decide +kernel
theorem dX7_serves_27 : decode cX7_serves 27 = .ok (.invokevirtual 142, 3) := by decide +kernel
theorem dX7_serves_30 : decode cX7_serves 30 = .ok (.ifCond .ne 5, 3) := by decide +kernel
theorem dX7_serves_33 : decode cX7_serves 33 = .ok (.iconst (-1), 1) := by decide +kernel
theorem dX7_serves_34 : decode cX7_serves 34 = .ok (.ireturn, 1) := by decide +kernel
theorem dX7_serves_35 : decode cX7_serves 35 = .ok (.aload_n 0, 1) := by decide +kernel
theorem dX7_serves_36 : decode cX7_serves 36 = .ok (.iload_n 2, 1) := by decide +kernel
theorem dX7_serves_37 : decode cX7_serves 37 = .ok (.invokevirtual 145, 3) := by decide +kernel
theorem dX7_serves_40 : decode cX7_serves 40 = .ok (.istore_n 3, 1) := by decide +kernel
theorem dX7_serves_41 : decode cX7_serves 41 = .ok (.iload_n 3, 1) := by decide +kernel
theorem dX7_serves_42 : decode cX7_serves 42 = .ok (.ifCond .ne 8, 3) := by decide +kernel
theorem dX7_serves_45 : decode cX7_serves 45 = .ok (.bipush (-2), 2) := by decide +kernel
theorem dX7_serves_47 : decode cX7_serves 47 = .ok (.goto 8, 3) := by decide +kernel
theorem dX7_serves_50 : decode cX7_serves 50 = .ok (.aload_n 0, 1) := by decide +kernel
theorem dX7_serves_51 : decode cX7_serves 51 = .ok (.iload_n 3, 1) := by decide +kernel
theorem dX7_serves_52 : decode cX7_serves 52 = .ok (.invokevirtual 138, 3) := by decide +kernel
theorem dX7_serves_55 : decode cX7_serves 55 = .ok (.ireturn, 1) := by decide +kernel
theorem dX7_pay_0 : decode cX7_pay 0 = .ok (.aload_n 0, 1) := by decide +kernel
theorem dX7_pay_1 : decode cX7_pay 1 = .ok (.iconst 0, 1) := by decide +kernel
theorem dX7_pay_2 : decode cX7_pay 2 = .ok (.putfield 68, 3) := by decide +kernel
theorem dX7_pay_5 : decode cX7_pay 5 = .ok (.iload_n 1, 1) := by decide +kernel
theorem dX7_pay_6 : decode cX7_pay 6 = .ok (.iconst 0, 1) := by decide +kernel
theorem dX7_pay_7 : decode cX7_pay 7 = .ok (.bipush 9, 2) := by decide +kernel
theorem dX7_pay_9 : decode cX7_pay 9 = .ok (.invokestatic 74, 3) := by decide +kernel
theorem dX7_pay_12 : decode cX7_pay 12 = .ok (.ifCond .eq 36, 3) := by decide +kernel
theorem dX7_pay_15 : decode cX7_pay 15 = .ok (.iload_n 2, 1) := by decide +kernel
theorem dX7_pay_16 : decode cX7_pay 16 = .ok (.iconst 0, 1) := by decide +kernel
theorem dX7_pay_17 : decode cX7_pay 17 = .ok (.bipush 9, 2) := by decide +kernel
theorem dX7_pay_19 : decode cX7_pay 19 = .ok (.invokestatic 74, 3) := by decide +kernel
theorem dX7_pay_22 : decode cX7_pay 22 = .ok (.ifCond .eq 26, 3) := by decide +kernel
theorem dX7_pay_25 : decode cX7_pay 25 = .ok (.iload_n 1, 1) := by decide +kernel
theorem dX7_pay_26 : decode cX7_pay 26 = .ok (.iload_n 2, 1) := by decide +kernel
theorem dX7_pay_27 : decode cX7_pay 27 = .ok (.if_icmp .eq 21, 3) := by decide +kernel
theorem dX7_pay_30 : decode cX7_pay 30 = .ok (.iload_n 3, 1) := by decide +kernel
theorem dX7_pay_31 : decode cX7_pay 31 = .ok (.iconst 1, 1) := by decide +kernel
theorem dX7_pay_32 : decode cX7_pay 32 = .ok (.ldc 141, 2) := by decide +kernel
theorem dX7_pay_34 : decode cX7_pay 34 = .ok (.invokestatic 74, 3) := by decide +kernel
theorem dX7_pay_37 : decode cX7_pay 37 = .ok (.ifCond .eq 11, 3) := by decide +kernel
theorem dX7_pay_40 : decode cX7_pay 40 = .ok (.aload_n 0, 1) := by decide +kernel
theorem dX7_pay_41 : decode cX7_pay 41 = .ok (.iload_n 1, 1) := by decide +kernel
theorem dX7_pay_42 : decode cX7_pay 42 = .ok (.invokevirtual 142, 3) := by decide +kernel
theorem dX7_pay_45 : decode cX7_pay 45 = .ok (.ifCond .ne 5, 3) := by decide +kernel
theorem dX7_pay_48 : decode cX7_pay 48 = .ok (.iconst (-1), 1) := by decide +kernel
theorem dX7_pay_49 : decode cX7_pay 49 = .ok (.ireturn, 1) := by decide +kernel
theorem dX7_pay_50 : decode cX7_pay 50 = .ok (.aload_n 0, 1) := by decide +kernel
theorem dX7_pay_51 : decode cX7_pay 51 = .ok (.iload_n 3, 1) := by decide +kernel
theorem dX7_pay_52 : decode cX7_pay 52 = .ok (.invokevirtual 145, 3) := by decide +kernel
theorem dX7_pay_55 : decode cX7_pay 55 = .ok (.istore 4, 2) := by decide +kernel
theorem dX7_pay_57 : decode cX7_pay 57 = .ok (.iload 4, 2) := by decide +kernel
theorem dX7_pay_59 : decode cX7_pay 59 = .ok (.ifCond .ne 6, 3) := by decide +kernel
theorem dX7_pay_62 : decode cX7_pay 62 = .ok (.bipush (-2), 2) := by decide +kernel
theorem dX7_pay_64 : decode cX7_pay 64 = .ok (.ireturn, 1) := by decide +kernel
theorem dX7_pay_65 : decode cX7_pay 65 = .ok (.iconst 0, 1) := by decide +kernel
theorem dX7_pay_66 : decode cX7_pay 66 = .ok (.istore 5, 2) := by decide +kernel
theorem dX7_pay_68 : decode cX7_pay 68 = .ok (.iconst 0, 1) := by decide +kernel
theorem dX7_pay_69 : decode cX7_pay 69 = .ok (.istore 6, 2) := by decide +kernel
theorem dX7_pay_71 : decode cX7_pay 71 = .ok (.iload 6, 2) := by decide +kernel
theorem dX7_pay_73 : decode cX7_pay 73 = .ok (.aload_n 0, 1) := by decide +kernel
theorem dX7_pay_74 : decode cX7_pay 74 = .ok (.getfield 135, 3) := by decide +kernel
theorem dX7_pay_77 : decode cX7_pay 77 = .ok (.if_icmp .ge 38, 3) := by decide +kernel
theorem dX7_pay_80 : decode cX7_pay 80 = .ok (.iload 4, 2) := by decide +kernel
theorem dX7_pay_82 : decode cX7_pay 82 = .ok (.iload 6, 2) := by decide +kernel
theorem dX7_pay_84 : decode cX7_pay 84 = .ok (.ishr, 1) := by decide +kernel
theorem dX7_pay_85 : decode cX7_pay 85 = .ok (.iconst 1, 1) := by decide +kernel
theorem dX7_pay_86 : decode cX7_pay 86 = .ok (.iand, 1) := by decide +kernel
theorem dX7_pay_87 : decode cX7_pay 87 = .ok (.iconst 1, 1) := by decide +kernel
theorem dX7_pay_88 : decode cX7_pay 88 = .ok (.if_icmp .ne 21, 3) := by decide +kernel
theorem dX7_pay_91 : decode cX7_pay 91 = .ok (.aload_n 0, 1) := by decide +kernel
theorem dX7_pay_92 : decode cX7_pay 92 = .ok (.getfield 22, 3) := by decide +kernel
theorem dX7_pay_95 : decode cX7_pay 95 = .ok (.aload_n 0, 1) := by decide +kernel
theorem dX7_pay_96 : decode cX7_pay 96 = .ok (.getfield 53, 3) := by decide +kernel
theorem dX7_pay_99 : decode cX7_pay 99 = .ok (.iload 6, 2) := by decide +kernel
theorem dX7_pay_101 : decode cX7_pay 101 = .ok (.iaload, 1) := by decide +kernel
theorem dX7_pay_102 : decode cX7_pay 102 = .ok (.iaload, 1) := by decide +kernel
theorem dX7_pay_103 : decode cX7_pay 103 = .ok (.ifCond .le 6, 3) := by decide +kernel
theorem dX7_pay_106 : decode cX7_pay 106 = .ok (.iinc 5 1, 3) := by decide +kernel
theorem dX7_pay_109 : decode cX7_pay 109 = .ok (.iinc 6 1, 3) := by decide +kernel
theorem dX7_pay_112 : decode cX7_pay 112 = .ok (.goto (-41), 3) := by decide +kernel
theorem dX7_pay_115 : decode cX7_pay 115 = .ok (.aload_n 0, 1) := by decide +kernel
theorem dX7_pay_116 : decode cX7_pay 116 = .ok (.iload 5, 2) := by decide +kernel
theorem dX7_pay_118 : decode cX7_pay 118 = .ok (.invokevirtual 99, 3) := by decide +kernel
theorem dX7_pay_121 : decode cX7_pay 121 = .ok (.ifCond .ne 5, 3) := by decide +kernel
theorem dX7_pay_124 : decode cX7_pay 124 = .ok (.iconst (-1), 1) := by decide +kernel
theorem dX7_pay_125 : decode cX7_pay 125 = .ok (.ireturn, 1) := by decide +kernel
theorem dX7_pay_126 : decode cX7_pay 126 = .ok (.iconst 0, 1) := by decide +kernel
theorem dX7_pay_127 : decode cX7_pay 127 = .ok (.istore 6, 2) := by decide +kernel
theorem dX7_pay_129 : decode cX7_pay 129 = .ok (.iload 6, 2) := by decide +kernel
theorem dX7_pay_131 : decode cX7_pay 131 = .ok (.aload_n 0, 1) := by decide +kernel
theorem dX7_pay_132 : decode cX7_pay 132 = .ok (.getfield 135, 3) := by decide +kernel
theorem dX7_pay_135 : decode cX7_pay 135 = .ok (.if_icmp .ge 32, 3) := by decide +kernel
theorem dX7_pay_138 : decode cX7_pay 138 = .ok (.iload 4, 2) := by decide +kernel
theorem dX7_pay_140 : decode cX7_pay 140 = .ok (.iload 6, 2) := by decide +kernel
theorem dX7_pay_142 : decode cX7_pay 142 = .ok (.ishr, 1) := by decide +kernel
theorem dX7_pay_143 : decode cX7_pay 143 = .ok (.iconst 1, 1) := by decide +kernel
theorem dX7_pay_144 : decode cX7_pay 144 = .ok (.iand, 1) := by decide +kernel
theorem dX7_pay_145 : decode cX7_pay 145 = .ok (.iconst 1, 1) := by decide +kernel
theorem dX7_pay_146 : decode cX7_pay 146 = .ok (.if_icmp .ne 15, 3) := by decide +kernel
theorem dX7_pay_149 : decode cX7_pay 149 = .ok (.aload_n 0, 1) := by decide +kernel
theorem dX7_pay_150 : decode cX7_pay 150 = .ok (.aload_n 0, 1) := by decide +kernel
theorem dX7_pay_151 : decode cX7_pay 151 = .ok (.getfield 53, 3) := by decide +kernel
theorem dX7_pay_154 : decode cX7_pay 154 = .ok (.iload 6, 2) := by decide +kernel
theorem dX7_pay_156 : decode cX7_pay 156 = .ok (.iaload, 1) := by decide +kernel
theorem dX7_pay_157 : decode cX7_pay 157 = .ok (.iload_n 2, 1) := by decide +kernel
theorem dX7_pay_158 : decode cX7_pay 158 = .ok (.invokevirtual 109, 3) := by decide +kernel
theorem dX7_pay_161 : decode cX7_pay 161 = .ok (.iinc 6 1, 3) := by decide +kernel
theorem dX7_pay_164 : decode cX7_pay 164 = .ok (.goto (-35), 3) := by decide +kernel
theorem dX7_pay_167 : decode cX7_pay 167 = .ok (.aload_n 0, 1) := by decide +kernel
theorem dX7_pay_168 : decode cX7_pay 168 = .ok (.iload 4, 2) := by decide +kernel
theorem dX7_pay_170 : decode cX7_pay 170 = .ok (.invokevirtual 138, 3) := by decide +kernel
theorem dX7_pay_173 : decode cX7_pay 173 = .ok (.iload_n 3, 1) := by decide +kernel
theorem dX7_pay_174 : decode cX7_pay 174 = .ok (.isub, 1) := by decide +kernel
theorem dX7_pay_175 : decode cX7_pay 175 = .ok (.ireturn, 1) := by decide +kernel
theorem dX7_owe_0 : decode cX7_owe 0 = .ok (.aload_n 0, 1) := by decide +kernel
theorem dX7_owe_1 : decode cX7_owe 1 = .ok (.iconst 0, 1) := by decide +kernel
theorem dX7_owe_2 : decode cX7_owe 2 = .ok (.putfield 68, 3) := by decide +kernel
theorem dX7_owe_5 : decode cX7_owe 5 = .ok (.iload_n 1, 1) := by decide +kernel
theorem dX7_owe_6 : decode cX7_owe 6 = .ok (.iconst 0, 1) := by decide +kernel
theorem dX7_owe_7 : decode cX7_owe 7 = .ok (.bipush 9, 2) := by decide +kernel
theorem dX7_owe_9 : decode cX7_owe 9 = .ok (.invokestatic 74, 3) := by decide +kernel
theorem dX7_owe_12 : decode cX7_owe 12 = .ok (.ifCond .eq 47, 3) := by decide +kernel
theorem dX7_owe_15 : decode cX7_owe 15 = .ok (.iload_n 2, 1) := by decide +kernel
theorem dX7_owe_16 : decode cX7_owe 16 = .ok (.iconst 0, 1) := by decide +kernel
theorem dX7_owe_17 : decode cX7_owe 17 = .ok (.bipush 9, 2) := by decide +kernel
theorem dX7_owe_19 : decode cX7_owe 19 = .ok (.invokestatic 74, 3) := by decide +kernel
theorem dX7_owe_22 : decode cX7_owe 22 = .ok (.ifCond .eq 37, 3) := by decide +kernel
theorem dX7_owe_25 : decode cX7_owe 25 = .ok (.iload_n 1, 1) := by decide +kernel
theorem dX7_owe_26 : decode cX7_owe 26 = .ok (.iload_n 2, 1) := by decide +kernel
theorem dX7_owe_27 : decode cX7_owe 27 = .ok (.if_icmp .eq 32, 3) := by decide +kernel
theorem dX7_owe_30 : decode cX7_owe 30 = .ok (.iload_n 3, 1) := by decide +kernel
theorem dX7_owe_31 : decode cX7_owe 31 = .ok (.iconst 1, 1) := by decide +kernel
theorem dX7_owe_32 : decode cX7_owe 32 = .ok (.bipush 99, 2) := by decide +kernel
theorem dX7_owe_34 : decode cX7_owe 34 = .ok (.invokestatic 74, 3) := by decide +kernel
theorem dX7_owe_37 : decode cX7_owe 37 = .ok (.ifCond .eq 22, 3) := by decide +kernel
theorem dX7_owe_40 : decode cX7_owe 40 = .ok (.iload 4, 2) := by decide +kernel
theorem dX7_owe_42 : decode cX7_owe 42 = .ok (.iconst 0, 1) := by decide +kernel
theorem dX7_owe_43 : decode cX7_owe 43 = .ok (.iconst 4, 1) := by decide +kernel
theorem dX7_owe_44 : decode cX7_owe 44 = .ok (.invokestatic 74, 3) := by decide +kernel
theorem dX7_owe_47 : decode cX7_owe 47 = .ok (.ifCond .eq 12, 3) := by decide +kernel
theorem dX7_owe_50 : decode cX7_owe 50 = .ok (.aload_n 0, 1) := by decide +kernel
theorem dX7_owe_51 : decode cX7_owe 51 = .ok (.getfield 148, 3) := by decide +kernel
theorem dX7_owe_54 : decode cX7_owe 54 = .ok (.bipush 60, 2) := by decide +kernel
theorem dX7_owe_56 : decode cX7_owe 56 = .ok (.if_icmp .ne 5, 3) := by decide +kernel
theorem dX7_owe_59 : decode cX7_owe 59 = .ok (.iconst (-1), 1) := by decide +kernel
theorem dX7_owe_60 : decode cX7_owe 60 = .ok (.ireturn, 1) := by decide +kernel
theorem dX7_owe_61 : decode cX7_owe 61 = .ok (.iconst 5, 1) := by decide +kernel
theorem dX7_owe_62 : decode cX7_owe 62 = .ok (.aload_n 0, 1) := by decide +kernel
theorem dX7_owe_63 : decode cX7_owe 63 = .ok (.getfield 148, 3) := by decide +kernel
theorem dX7_owe_66 : decode cX7_owe 66 = .ok (.imul, 1) := by decide +kernel
theorem dX7_owe_67 : decode cX7_owe 67 = .ok (.istore 5, 2) := by decide +kernel
theorem dX7_owe_69 : decode cX7_owe 69 = .ok (.aload_n 0, 1) := by decide +kernel
theorem dX7_owe_70 : decode cX7_owe 70 = .ok (.getfield 47, 3) := by decide +kernel
theorem dX7_owe_73 : decode cX7_owe 73 = .ok (.iload 5, 2) := by decide +kernel
theorem dX7_owe_75 : decode cX7_owe 75 = .ok (.iload_n 1, 1) := by decide +kernel
theorem dX7_owe_76 : decode cX7_owe 76 = .ok (.iastore, 1) := by decide +kernel
theorem dX7_owe_77 : decode cX7_owe 77 = .ok (.aload_n 0, 1) := by decide +kernel
theorem dX7_owe_78 : decode cX7_owe 78 = .ok (.getfield 47, 3) := by decide +kernel
theorem dX7_owe_81 : decode cX7_owe 81 = .ok (.iload 5, 2) := by decide +kernel
theorem dX7_owe_83 : decode cX7_owe 83 = .ok (.iconst 1, 1) := by decide +kernel
theorem dX7_owe_84 : decode cX7_owe 84 = .ok (.iadd, 1) := by decide +kernel
theorem dX7_owe_85 : decode cX7_owe 85 = .ok (.iload_n 2, 1) := by decide +kernel
theorem dX7_owe_86 : decode cX7_owe 86 = .ok (.iastore, 1) := by decide +kernel
theorem dX7_owe_87 : decode cX7_owe 87 = .ok (.aload_n 0, 1) := by decide +kernel
theorem dX7_owe_88 : decode cX7_owe 88 = .ok (.getfield 47, 3) := by decide +kernel
theorem dX7_owe_91 : decode cX7_owe 91 = .ok (.iload 5, 2) := by decide +kernel
theorem dX7_owe_93 : decode cX7_owe 93 = .ok (.iconst 2, 1) := by decide +kernel
theorem dX7_owe_94 : decode cX7_owe 94 = .ok (.iadd, 1) := by decide +kernel
theorem dX7_owe_95 : decode cX7_owe 95 = .ok (.iload_n 3, 1) := by decide +kernel
theorem dX7_owe_96 : decode cX7_owe 96 = .ok (.iastore, 1) := by decide +kernel
theorem dX7_owe_97 : decode cX7_owe 97 = .ok (.aload_n 0, 1) := by decide +kernel
theorem dX7_owe_98 : decode cX7_owe 98 = .ok (.getfield 47, 3) := by decide +kernel
theorem dX7_owe_101 : decode cX7_owe 101 = .ok (.iload 5, 2) := by decide +kernel
theorem dX7_owe_103 : decode cX7_owe 103 = .ok (.iconst 3, 1) := by decide +kernel
theorem dX7_owe_104 : decode cX7_owe 104 = .ok (.iadd, 1) := by decide +kernel
theorem dX7_owe_105 : decode cX7_owe 105 = .ok (.iload 4, 2) := by decide +kernel
theorem dX7_owe_107 : decode cX7_owe 107 = .ok (.iastore, 1) := by decide +kernel
theorem dX7_owe_108 : decode cX7_owe 108 = .ok (.aload_n 0, 1) := by decide +kernel
theorem dX7_owe_109 : decode cX7_owe 109 = .ok (.getfield 47, 3) := by decide +kernel
theorem dX7_owe_112 : decode cX7_owe 112 = .ok (.iload 5, 2) := by decide +kernel
theorem dX7_owe_114 : decode cX7_owe 114 = .ok (.iconst 4, 1) := by decide +kernel
theorem dX7_owe_115 : decode cX7_owe 115 = .ok (.iadd, 1) := by decide +kernel
theorem dX7_owe_116 : decode cX7_owe 116 = .ok (.iconst (-1), 1) := by decide +kernel
theorem dX7_owe_117 : decode cX7_owe 117 = .ok (.iastore, 1) := by decide +kernel
theorem dX7_owe_118 : decode cX7_owe 118 = .ok (.aload_n 0, 1) := by decide +kernel
theorem dX7_owe_119 : decode cX7_owe 119 = .ok (.dup, 1) := by decide +kernel
theorem dX7_owe_120 : decode cX7_owe 120 = .ok (.getfield 148, 3) := by decide +kernel
theorem dX7_owe_123 : decode cX7_owe 123 = .ok (.iconst 1, 1) := by decide +kernel
theorem dX7_owe_124 : decode cX7_owe 124 = .ok (.iadd, 1) := by decide +kernel
theorem dX7_owe_125 : decode cX7_owe 125 = .ok (.putfield 148, 3) := by decide +kernel
theorem dX7_owe_128 : decode cX7_owe 128 = .ok (.aload_n 0, 1) := by decide +kernel
theorem dX7_owe_129 : decode cX7_owe 129 = .ok (.getfield 148, 3) := by decide +kernel
theorem dX7_owe_132 : decode cX7_owe 132 = .ok (.iconst 1, 1) := by decide +kernel
theorem dX7_owe_133 : decode cX7_owe 133 = .ok (.isub, 1) := by decide +kernel
theorem dX7_owe_134 : decode cX7_owe 134 = .ok (.ireturn, 1) := by decide +kernel
theorem dX7_settle_0 : decode cX7_settle 0 = .ok (.aload_n 0, 1) := by decide +kernel
theorem dX7_settle_1 : decode cX7_settle 1 = .ok (.iconst 0, 1) := by decide +kernel
theorem dX7_settle_2 : decode cX7_settle 2 = .ok (.putfield 68, 3) := by decide +kernel
theorem dX7_settle_5 : decode cX7_settle 5 = .ok (.iload_n 1, 1) := by decide +kernel
theorem dX7_settle_6 : decode cX7_settle 6 = .ok (.iconst 0, 1) := by decide +kernel
theorem dX7_settle_7 : decode cX7_settle 7 = .ok (.aload_n 0, 1) := by decide +kernel
theorem dX7_settle_8 : decode cX7_settle 8 = .ok (.getfield 148, 3) := by decide +kernel
theorem dX7_settle_11 : decode cX7_settle 11 = .ok (.iconst 1, 1) := by decide +kernel
theorem dX7_settle_12 : decode cX7_settle 12 = .ok (.isub, 1) := by decide +kernel
theorem dX7_settle_13 : decode cX7_settle 13 = .ok (.invokestatic 74, 3) := by decide +kernel
theorem dX7_settle_16 : decode cX7_settle 16 = .ok (.ifCond .eq 11, 3) := by decide +kernel
theorem dX7_settle_19 : decode cX7_settle 19 = .ok (.aload_n 0, 1) := by decide +kernel
theorem dX7_settle_20 : decode cX7_settle 20 = .ok (.iload_n 2, 1) := by decide +kernel
theorem dX7_settle_21 : decode cX7_settle 21 = .ok (.invokevirtual 95, 3) := by decide +kernel
theorem dX7_settle_24 : decode cX7_settle 24 = .ok (.ifCond .ne 5, 3) := by decide +kernel
theorem dX7_settle_27 : decode cX7_settle 27 = .ok (.iconst 0, 1) := by decide +kernel
theorem dX7_settle_28 : decode cX7_settle 28 = .ok (.ireturn, 1) := by decide +kernel
theorem dX7_settle_29 : decode cX7_settle 29 = .ok (.iconst 5, 1) := by decide +kernel
theorem dX7_settle_30 : decode cX7_settle 30 = .ok (.iload_n 1, 1) := by decide +kernel
theorem dX7_settle_31 : decode cX7_settle 31 = .ok (.imul, 1) := by decide +kernel
theorem dX7_settle_32 : decode cX7_settle 32 = .ok (.istore_n 3, 1) := by decide +kernel
theorem dX7_settle_33 : decode cX7_settle 33 = .ok (.aload_n 0, 1) := by decide +kernel
theorem dX7_settle_34 : decode cX7_settle 34 = .ok (.getfield 47, 3) := by decide +kernel
theorem dX7_settle_37 : decode cX7_settle 37 = .ok (.iload_n 3, 1) := by decide +kernel
theorem dX7_settle_38 : decode cX7_settle 38 = .ok (.iconst 4, 1) := by decide +kernel
theorem dX7_settle_39 : decode cX7_settle 39 = .ok (.iadd, 1) := by decide +kernel
theorem dX7_settle_40 : decode cX7_settle 40 = .ok (.iaload, 1) := by decide +kernel
theorem dX7_settle_41 : decode cX7_settle 41 = .ok (.iconst (-1), 1) := by decide +kernel
theorem dX7_settle_42 : decode cX7_settle 42 = .ok (.if_icmp .ne 78, 3) := by decide +kernel
theorem dX7_settle_45 : decode cX7_settle 45 = .ok (.aload_n 0, 1) := by decide +kernel
theorem dX7_settle_46 : decode cX7_settle 46 = .ok (.getfield 19, 3) := by decide +kernel
theorem dX7_settle_49 : decode cX7_settle 49 = .ok (.iload_n 2, 1) := by decide +kernel
theorem dX7_settle_50 : decode cX7_settle 50 = .ok (.iaload, 1) := by decide +kernel
theorem dX7_settle_51 : decode cX7_settle 51 = .ok (.aload_n 0, 1) := by decide +kernel
theorem dX7_settle_52 : decode cX7_settle 52 = .ok (.getfield 47, 3) := by decide +kernel
theorem dX7_settle_55 : decode cX7_settle 55 = .ok (.iload_n 3, 1) := by decide +kernel
theorem dX7_settle_56 : decode cX7_settle 56 = .ok (.iaload, 1) := by decide +kernel
theorem dX7_settle_57 : decode cX7_settle 57 = .ok (.if_icmp .ne 63, 3) := by decide +kernel
theorem dX7_settle_60 : decode cX7_settle 60 = .ok (.aload_n 0, 1) := by decide +kernel
theorem dX7_settle_61 : decode cX7_settle 61 = .ok (.getfield 16, 3) := by decide +kernel
theorem dX7_settle_64 : decode cX7_settle 64 = .ok (.iload_n 2, 1) := by decide +kernel
theorem dX7_settle_65 : decode cX7_settle 65 = .ok (.iaload, 1) := by decide +kernel
theorem dX7_settle_66 : decode cX7_settle 66 = .ok (.bipush 10, 2) := by decide +kernel
theorem dX7_settle_68 : decode cX7_settle 68 = .ok (.idiv, 1) := by decide +kernel
theorem dX7_settle_69 : decode cX7_settle 69 = .ok (.aload_n 0, 1) := by decide +kernel
theorem dX7_settle_70 : decode cX7_settle 70 = .ok (.getfield 47, 3) := by decide +kernel
theorem dX7_settle_73 : decode cX7_settle 73 = .ok (.iload_n 3, 1) := by decide +kernel
theorem dX7_settle_74 : decode cX7_settle 74 = .ok (.iconst 2, 1) := by decide +kernel
theorem dX7_settle_75 : decode cX7_settle 75 = .ok (.iadd, 1) := by decide +kernel
theorem dX7_settle_76 : decode cX7_settle 76 = .ok (.iaload, 1) := by decide +kernel
theorem dX7_settle_77 : decode cX7_settle 77 = .ok (.if_icmp .lt 43, 3) := by decide +kernel
theorem dX7_settle_80 : decode cX7_settle 80 = .ok (.aload_n 0, 1) := by decide +kernel
theorem dX7_settle_81 : decode cX7_settle 81 = .ok (.iload_n 2, 1) := by decide +kernel
theorem dX7_settle_82 : decode cX7_settle 82 = .ok (.iconst 0, 1) := by decide +kernel
theorem dX7_settle_83 : decode cX7_settle 83 = .ok (.aload_n 0, 1) := by decide +kernel
theorem dX7_settle_84 : decode cX7_settle 84 = .ok (.getfield 16, 3) := by decide +kernel
theorem dX7_settle_87 : decode cX7_settle 87 = .ok (.iload_n 2, 1) := by decide +kernel
theorem dX7_settle_88 : decode cX7_settle 88 = .ok (.iaload, 1) := by decide +kernel
theorem dX7_settle_89 : decode cX7_settle 89 = .ok (.invokevirtual 116, 3) := by decide +kernel
theorem dX7_settle_92 : decode cX7_settle 92 = .ok (.aload_n 0, 1) := by decide +kernel
theorem dX7_settle_93 : decode cX7_settle 93 = .ok (.getfield 47, 3) := by decide +kernel
theorem dX7_settle_96 : decode cX7_settle 96 = .ok (.iload_n 3, 1) := by decide +kernel
theorem dX7_settle_97 : decode cX7_settle 97 = .ok (.iconst 3, 1) := by decide +kernel
theorem dX7_settle_98 : decode cX7_settle 98 = .ok (.iadd, 1) := by decide +kernel
theorem dX7_settle_99 : decode cX7_settle 99 = .ok (.iaload, 1) := by decide +kernel
theorem dX7_settle_100 : decode cX7_settle 100 = .ok (.if_icmp .lt 20, 3) := by decide +kernel
theorem dX7_settle_103 : decode cX7_settle 103 = .ok (.aload_n 0, 1) := by decide +kernel
theorem dX7_settle_104 : decode cX7_settle 104 = .ok (.getfield 22, 3) := by decide +kernel
theorem dX7_settle_107 : decode cX7_settle 107 = .ok (.iload_n 2, 1) := by decide +kernel
theorem dX7_settle_108 : decode cX7_settle 108 = .ok (.iaload, 1) := by decide +kernel
theorem dX7_settle_109 : decode cX7_settle 109 = .ok (.ifCond .le 13, 3) := by decide +kernel
theorem dX7_settle_112 : decode cX7_settle 112 = .ok (.aload_n 0, 1) := by decide +kernel
theorem dX7_settle_113 : decode cX7_settle 113 = .ok (.iconst 1, 1) := by decide +kernel
theorem dX7_settle_114 : decode cX7_settle 114 = .ok (.invokevirtual 99, 3) := by decide +kernel
theorem dX7_settle_117 : decode cX7_settle 117 = .ok (.ifCond .ne 5, 3) := by decide +kernel
theorem dX7_settle_120 : decode cX7_settle 120 = .ok (.iconst 0, 1) := by decide +kernel
theorem dX7_settle_121 : decode cX7_settle 121 = .ok (.ireturn, 1) := by decide +kernel
theorem dX7_settle_122 : decode cX7_settle 122 = .ok (.aload_n 0, 1) := by decide +kernel
theorem dX7_settle_123 : decode cX7_settle 123 = .ok (.iload_n 2, 1) := by decide +kernel
theorem dX7_settle_124 : decode cX7_settle 124 = .ok (.aload_n 0, 1) := by decide +kernel
theorem dX7_settle_125 : decode cX7_settle 125 = .ok (.getfield 47, 3) := by decide +kernel
theorem dX7_settle_128 : decode cX7_settle 128 = .ok (.iload_n 3, 1) := by decide +kernel
theorem dX7_settle_129 : decode cX7_settle 129 = .ok (.iconst 1, 1) := by decide +kernel
theorem dX7_settle_130 : decode cX7_settle 130 = .ok (.iadd, 1) := by decide +kernel
theorem dX7_settle_131 : decode cX7_settle 131 = .ok (.iaload, 1) := by decide +kernel
theorem dX7_settle_132 : decode cX7_settle 132 = .ok (.invokevirtual 109, 3) := by decide +kernel
theorem dX7_settle_135 : decode cX7_settle 135 = .ok (.aload_n 0, 1) := by decide +kernel
theorem dX7_settle_136 : decode cX7_settle 136 = .ok (.getfield 47, 3) := by decide +kernel
theorem dX7_settle_139 : decode cX7_settle 139 = .ok (.iload_n 3, 1) := by decide +kernel
theorem dX7_settle_140 : decode cX7_settle 140 = .ok (.iconst 4, 1) := by decide +kernel
theorem dX7_settle_141 : decode cX7_settle 141 = .ok (.iadd, 1) := by decide +kernel
theorem dX7_settle_142 : decode cX7_settle 142 = .ok (.aload_n 0, 1) := by decide +kernel
theorem dX7_settle_143 : decode cX7_settle 143 = .ok (.getfield 81, 3) := by decide +kernel
theorem dX7_settle_146 : decode cX7_settle 146 = .ok (.iastore, 1) := by decide +kernel
theorem dX7_settle_147 : decode cX7_settle 147 = .ok (.iconst 1, 1) := by decide +kernel
theorem dX7_settle_148 : decode cX7_settle 148 = .ok (.ireturn, 1) := by decide +kernel
theorem dX7_debt_0 : decode cX7_debt 0 = .ok (.aload_n 0, 1) := by decide +kernel
theorem dX7_debt_1 : decode cX7_debt 1 = .ok (.iconst 0, 1) := by decide +kernel
theorem dX7_debt_2 : decode cX7_debt 2 = .ok (.putfield 68, 3) := by decide +kernel
theorem dX7_debt_5 : decode cX7_debt 5 = .ok (.iload_n 1, 1) := by decide +kernel
theorem dX7_debt_6 : decode cX7_debt 6 = .ok (.iconst 0, 1) := by decide +kernel
theorem dX7_debt_7 : decode cX7_debt 7 = .ok (.aload_n 0, 1) := by decide +kernel
theorem dX7_debt_8 : decode cX7_debt 8 = .ok (.getfield 148, 3) := by decide +kernel
theorem dX7_debt_11 : decode cX7_debt 11 = .ok (.iconst 1, 1) := by decide +kernel
theorem dX7_debt_12 : decode cX7_debt 12 = .ok (.isub, 1) := by decide +kernel
theorem dX7_debt_13 : decode cX7_debt 13 = .ok (.invokestatic 74, 3) := by decide +kernel
theorem dX7_debt_16 : decode cX7_debt 16 = .ok (.ifCond .eq 12, 3) := by decide +kernel
theorem dX7_debt_19 : decode cX7_debt 19 = .ok (.iload_n 2, 1) := by decide +kernel
theorem dX7_debt_20 : decode cX7_debt 20 = .ok (.iconst 0, 1) := by decide +kernel
theorem dX7_debt_21 : decode cX7_debt 21 = .ok (.iconst 4, 1) := by decide +kernel
theorem dX7_debt_22 : decode cX7_debt 22 = .ok (.invokestatic 74, 3) := by decide +kernel
theorem dX7_debt_25 : decode cX7_debt 25 = .ok (.ifCond .ne 5, 3) := by decide +kernel
theorem dX7_debt_28 : decode cX7_debt 28 = .ok (.iconst (-1), 1) := by decide +kernel
theorem dX7_debt_29 : decode cX7_debt 29 = .ok (.ireturn, 1) := by decide +kernel
theorem dX7_debt_30 : decode cX7_debt 30 = .ok (.iconst 5, 1) := by decide +kernel
theorem dX7_debt_31 : decode cX7_debt 31 = .ok (.iload_n 1, 1) := by decide +kernel
theorem dX7_debt_32 : decode cX7_debt 32 = .ok (.imul, 1) := by decide +kernel
theorem dX7_debt_33 : decode cX7_debt 33 = .ok (.istore_n 3, 1) := by decide +kernel
theorem dX7_debt_34 : decode cX7_debt 34 = .ok (.iload_n 2, 1) := by decide +kernel
theorem dX7_debt_35 : decode cX7_debt 35 = .ok (.iconst 2, 1) := by decide +kernel
theorem dX7_debt_36 : decode cX7_debt 36 = .ok (.if_icmp .ne 19, 3) := by decide +kernel
theorem dX7_debt_39 : decode cX7_debt 39 = .ok (.aload_n 0, 1) := by decide +kernel
theorem dX7_debt_40 : decode cX7_debt 40 = .ok (.getfield 47, 3) := by decide +kernel
theorem dX7_debt_43 : decode cX7_debt 43 = .ok (.iload_n 3, 1) := by decide +kernel
theorem dX7_debt_44 : decode cX7_debt 44 = .ok (.iconst 4, 1) := by decide +kernel
theorem dX7_debt_45 : decode cX7_debt 45 = .ok (.iadd, 1) := by decide +kernel
theorem dX7_debt_46 : decode cX7_debt 46 = .ok (.iaload, 1) := by decide +kernel
theorem dX7_debt_47 : decode cX7_debt 47 = .ok (.iconst (-1), 1) := by decide +kernel
theorem dX7_debt_48 : decode cX7_debt 48 = .ok (.if_icmp .eq 7, 3) := by decide +kernel
theorem dX7_debt_51 : decode cX7_debt 51 = .ok (.iconst 0, 1) := by decide +kernel
theorem dX7_debt_52 : decode cX7_debt 52 = .ok (.goto 11, 3) := by decide +kernel
theorem dX7_debt_55 : decode cX7_debt 55 = .ok (.aload_n 0, 1) := by decide +kernel
theorem dX7_debt_56 : decode cX7_debt 56 = .ok (.getfield 47, 3) := by decide +kernel
theorem dX7_debt_59 : decode cX7_debt 59 = .ok (.iload_n 3, 1) := by decide +kernel
theorem dX7_debt_60 : decode cX7_debt 60 = .ok (.iload_n 2, 1) := by decide +kernel
theorem dX7_debt_61 : decode cX7_debt 61 = .ok (.iadd, 1) := by decide +kernel
theorem dX7_debt_62 : decode cX7_debt 62 = .ok (.iaload, 1) := by decide +kernel
theorem dX7_debt_63 : decode cX7_debt 63 = .ok (.ireturn, 1) := by decide +kernel
theorem dX7_year_0 : decode cX7_year 0 = .ok (.aload_n 0, 1) := by decide +kernel
theorem dX7_year_1 : decode cX7_year 1 = .ok (.iconst 0, 1) := by decide +kernel
theorem dX7_year_2 : decode cX7_year 2 = .ok (.putfield 68, 3) := by decide +kernel
theorem dX7_year_5 : decode cX7_year 5 = .ok (.aload_n 0, 1) := by decide +kernel
theorem dX7_year_6 : decode cX7_year 6 = .ok (.getfield 81, 3) := by decide +kernel
theorem dX7_year_9 : decode cX7_year 9 = .ok (.bipush 100, 2) := by decide +kernel
theorem dX7_year_11 : decode cX7_year 11 = .ok (.if_icmp .ne 5, 3) := by decide +kernel
theorem dX7_year_14 : decode cX7_year 14 = .ok (.iconst (-1), 1) := by decide +kernel
theorem dX7_year_15 : decode cX7_year 15 = .ok (.ireturn, 1) := by decide +kernel
theorem dX7_year_16 : decode cX7_year 16 = .ok (.aload_n 0, 1) := by decide +kernel
theorem dX7_year_17 : decode cX7_year 17 = .ok (.dup, 1) := by decide +kernel
theorem dX7_year_18 : decode cX7_year 18 = .ok (.getfield 81, 3) := by decide +kernel
theorem dX7_year_21 : decode cX7_year 21 = .ok (.iconst 1, 1) := by decide +kernel
theorem dX7_year_22 : decode cX7_year 22 = .ok (.iadd, 1) := by decide +kernel
theorem dX7_year_23 : decode cX7_year 23 = .ok (.putfield 81, 3) := by decide +kernel
theorem dX7_year_26 : decode cX7_year 26 = .ok (.iconst 0, 1) := by decide +kernel
theorem dX7_year_27 : decode cX7_year 27 = .ok (.istore_n 1, 1) := by decide +kernel
theorem dX7_year_28 : decode cX7_year 28 = .ok (.iload_n 1, 1) := by decide +kernel
theorem dX7_year_29 : decode cX7_year 29 = .ok (.aload_n 0, 1) := by decide +kernel
theorem dX7_year_30 : decode cX7_year 30 = .ok (.getfield 148, 3) := by decide +kernel
theorem dX7_year_33 : decode cX7_year 33 = .ok (.if_icmp .ge 76, 3) := by decide +kernel
theorem dX7_year_36 : decode cX7_year 36 = .ok (.iconst 5, 1) := by decide +kernel
theorem dX7_year_37 : decode cX7_year 37 = .ok (.iload_n 1, 1) := by decide +kernel
theorem dX7_year_38 : decode cX7_year 38 = .ok (.imul, 1) := by decide +kernel
theorem dX7_year_39 : decode cX7_year 39 = .ok (.istore_n 2, 1) := by decide +kernel
theorem dX7_year_40 : decode cX7_year 40 = .ok (.aload_n 0, 1) := by decide +kernel
theorem dX7_year_41 : decode cX7_year 41 = .ok (.getfield 47, 3) := by decide +kernel
theorem dX7_year_44 : decode cX7_year 44 = .ok (.iload_n 2, 1) := by decide +kernel
theorem dX7_year_45 : decode cX7_year 45 = .ok (.iconst 4, 1) := by decide +kernel
theorem dX7_year_46 : decode cX7_year 46 = .ok (.iadd, 1) := by decide +kernel
theorem dX7_year_47 : decode cX7_year 47 = .ok (.iaload, 1) := by decide +kernel
theorem dX7_year_48 : decode cX7_year 48 = .ok (.iconst (-1), 1) := by decide +kernel
theorem dX7_year_49 : decode cX7_year 49 = .ok (.if_icmp .eq 6, 3) := by decide +kernel
theorem dX7_year_52 : decode cX7_year 52 = .ok (.goto 51, 3) := by decide +kernel
theorem dX7_year_55 : decode cX7_year 55 = .ok (.aload_n 0, 1) := by decide +kernel
theorem dX7_year_56 : decode cX7_year 56 = .ok (.getfield 47, 3) := by decide +kernel
theorem dX7_year_59 : decode cX7_year 59 = .ok (.iload_n 2, 1) := by decide +kernel
theorem dX7_year_60 : decode cX7_year 60 = .ok (.iconst 2, 1) := by decide +kernel
theorem dX7_year_61 : decode cX7_year 61 = .ok (.iadd, 1) := by decide +kernel
theorem dX7_year_62 : decode cX7_year 62 = .ok (.iaload, 1) := by decide +kernel
theorem dX7_year_63 : decode cX7_year 63 = .ok (.aload_n 0, 1) := by decide +kernel
theorem dX7_year_64 : decode cX7_year 64 = .ok (.getfield 47, 3) := by decide +kernel
theorem dX7_year_67 : decode cX7_year 67 = .ok (.iload_n 2, 1) := by decide +kernel
theorem dX7_year_68 : decode cX7_year 68 = .ok (.iconst 2, 1) := by decide +kernel
theorem dX7_year_69 : decode cX7_year 69 = .ok (.iadd, 1) := by decide +kernel
theorem dX7_year_70 : decode cX7_year 70 = .ok (.iaload, 1) := by decide +kernel
theorem dX7_year_71 : decode cX7_year 71 = .ok (.aload_n 0, 1) := by decide +kernel
theorem dX7_year_72 : decode cX7_year 72 = .ok (.getfield 41, 3) := by decide +kernel
theorem dX7_year_75 : decode cX7_year 75 = .ok (.imul, 1) := by decide +kernel
theorem dX7_year_76 : decode cX7_year 76 = .ok (.bipush 100, 2) := by decide +kernel
theorem dX7_year_78 : decode cX7_year 78 = .ok (.idiv, 1) := by decide +kernel
theorem dX7_year_79 : decode cX7_year 79 = .ok (.iadd, 1) := by decide +kernel
theorem dX7_year_80 : decode cX7_year 80 = .ok (.istore_n 3, 1) := by decide +kernel
theorem dX7_year_81 : decode cX7_year 81 = .ok (.aload_n 0, 1) := by decide +kernel
theorem dX7_year_82 : decode cX7_year 82 = .ok (.getfield 47, 3) := by decide +kernel
theorem dX7_year_85 : decode cX7_year 85 = .ok (.iload_n 2, 1) := by decide +kernel
theorem dX7_year_86 : decode cX7_year 86 = .ok (.iconst 2, 1) := by decide +kernel
theorem dX7_year_87 : decode cX7_year 87 = .ok (.iadd, 1) := by decide +kernel
theorem dX7_year_88 : decode cX7_year 88 = .ok (.iload_n 3, 1) := by decide +kernel
theorem dX7_year_89 : decode cX7_year 89 = .ok (.sipush 10000, 3) := by decide +kernel
theorem dX7_year_92 : decode cX7_year 92 = .ok (.if_icmp .le 9, 3) := by decide +kernel
theorem dX7_year_95 : decode cX7_year 95 = .ok (.sipush 10000, 3) := by decide +kernel
theorem dX7_year_98 : decode cX7_year 98 = .ok (.goto 4, 3) := by decide +kernel
theorem dX7_year_101 : decode cX7_year 101 = .ok (.iload_n 3, 1) := by decide +kernel
theorem dX7_year_102 : decode cX7_year 102 = .ok (.iastore, 1) := by decide +kernel
theorem dX7_year_103 : decode cX7_year 103 = .ok (.iinc 1 1, 3) := by decide +kernel
theorem dX7_year_106 : decode cX7_year 106 = .ok (.goto (-78), 3) := by decide +kernel
theorem dX7_year_109 : decode cX7_year 109 = .ok (.aload_n 0, 1) := by decide +kernel
theorem dX7_year_110 : decode cX7_year 110 = .ok (.getfield 81, 3) := by decide +kernel
theorem dX7_year_113 : decode cX7_year 113 = .ok (.ireturn, 1) := by decide +kernel
theorem dX7_count_0 : decode cX7_count 0 = .ok (.aload_n 0, 1) := by decide +kernel
theorem dX7_count_1 : decode cX7_count 1 = .ok (.iconst 0, 1) := by decide +kernel
theorem dX7_count_2 : decode cX7_count 2 = .ok (.putfield 68, 3) := by decide +kernel
theorem dX7_count_5 : decode cX7_count 5 = .ok (.iconst 0, 1) := by decide +kernel
theorem dX7_count_6 : decode cX7_count 6 = .ok (.istore_n 2, 1) := by decide +kernel
theorem dX7_count_7 : decode cX7_count 7 = .ok (.iload_n 1, 1) := by decide +kernel
theorem dX7_count_8 : decode cX7_count 8 = .ok (.tableswitch 165 0 7 #[48, 53, 83, 88, 123, 128, 133, 160], 48) := by decide +kernel
theorem dX7_count_56 : decode cX7_count 56 = .ok (.aload_n 0, 1) := by decide +kernel
theorem dX7_count_57 : decode cX7_count 57 = .ok (.getfield 71, 3) := by decide +kernel
theorem dX7_count_60 : decode cX7_count 60 = .ok (.ireturn, 1) := by decide +kernel
theorem dX7_count_61 : decode cX7_count 61 = .ok (.iconst 0, 1) := by decide +kernel
theorem dX7_count_62 : decode cX7_count 62 = .ok (.istore_n 3, 1) := by decide +kernel
theorem dX7_count_63 : decode cX7_count 63 = .ok (.iload_n 3, 1) := by decide +kernel
theorem dX7_count_64 : decode cX7_count 64 = .ok (.aload_n 0, 1) := by decide +kernel
theorem dX7_count_65 : decode cX7_count 65 = .ok (.getfield 71, 3) := by decide +kernel
theorem dX7_count_68 : decode cX7_count 68 = .ok (.if_icmp .ge 21, 3) := by decide +kernel
theorem dX7_count_71 : decode cX7_count 71 = .ok (.aload_n 0, 1) := by decide +kernel
theorem dX7_count_72 : decode cX7_count 72 = .ok (.getfield 16, 3) := by decide +kernel
theorem dX7_count_75 : decode cX7_count 75 = .ok (.iload_n 3, 1) := by decide +kernel
theorem dX7_count_76 : decode cX7_count 76 = .ok (.iaload, 1) := by decide +kernel
theorem dX7_count_77 : decode cX7_count 77 = .ok (.ifCond .ne 6, 3) := by decide +kernel
theorem dX7_count_80 : decode cX7_count 80 = .ok (.iinc 2 1, 3) := by decide +kernel
theorem dX7_count_83 : decode cX7_count 83 = .ok (.iinc 3 1, 3) := by decide +kernel
theorem dX7_count_86 : decode cX7_count 86 = .ok (.goto (-23), 3) := by decide +kernel
theorem dX7_count_89 : decode cX7_count 89 = .ok (.iload_n 2, 1) := by decide +kernel
theorem dX7_count_90 : decode cX7_count 90 = .ok (.ireturn, 1) := by decide +kernel
theorem dX7_count_91 : decode cX7_count 91 = .ok (.aload_n 0, 1) := by decide +kernel
theorem dX7_count_92 : decode cX7_count 92 = .ok (.getfield 148, 3) := by decide +kernel
theorem dX7_count_95 : decode cX7_count 95 = .ok (.ireturn, 1) := by decide +kernel
theorem dX7_count_96 : decode cX7_count 96 = .ok (.iconst 0, 1) := by decide +kernel
theorem dX7_count_97 : decode cX7_count 97 = .ok (.istore_n 3, 1) := by decide +kernel
theorem dX7_count_98 : decode cX7_count 98 = .ok (.iload_n 3, 1) := by decide +kernel
theorem dX7_count_99 : decode cX7_count 99 = .ok (.aload_n 0, 1) := by decide +kernel
theorem dX7_count_100 : decode cX7_count 100 = .ok (.getfield 148, 3) := by decide +kernel
theorem dX7_count_103 : decode cX7_count 103 = .ok (.if_icmp .ge 26, 3) := by decide +kernel
theorem dX7_count_106 : decode cX7_count 106 = .ok (.aload_n 0, 1) := by decide +kernel
theorem dX7_count_107 : decode cX7_count 107 = .ok (.getfield 47, 3) := by decide +kernel
theorem dX7_count_110 : decode cX7_count 110 = .ok (.iconst 5, 1) := by decide +kernel
theorem dX7_count_111 : decode cX7_count 111 = .ok (.iload_n 3, 1) := by decide +kernel
theorem dX7_count_112 : decode cX7_count 112 = .ok (.imul, 1) := by decide +kernel
theorem dX7_count_113 : decode cX7_count 113 = .ok (.iconst 4, 1) := by decide +kernel
theorem dX7_count_114 : decode cX7_count 114 = .ok (.iadd, 1) := by decide +kernel
theorem dX7_count_115 : decode cX7_count 115 = .ok (.iaload, 1) := by decide +kernel
theorem dX7_count_116 : decode cX7_count 116 = .ok (.iconst (-1), 1) := by decide +kernel
theorem dX7_count_117 : decode cX7_count 117 = .ok (.if_icmp .eq 6, 3) := by decide +kernel
theorem dX7_count_120 : decode cX7_count 120 = .ok (.iinc 2 1, 3) := by decide +kernel
theorem dX7_count_123 : decode cX7_count 123 = .ok (.iinc 3 1, 3) := by decide +kernel
theorem dX7_count_126 : decode cX7_count 126 = .ok (.goto (-28), 3) := by decide +kernel
theorem dX7_count_129 : decode cX7_count 129 = .ok (.iload_n 2, 1) := by decide +kernel
theorem dX7_count_130 : decode cX7_count 130 = .ok (.ireturn, 1) := by decide +kernel
theorem dX7_count_131 : decode cX7_count 131 = .ok (.aload_n 0, 1) := by decide +kernel
theorem dX7_count_132 : decode cX7_count 132 = .ok (.getfield 81, 3) := by decide +kernel
theorem dX7_count_135 : decode cX7_count 135 = .ok (.ireturn, 1) := by decide +kernel
theorem dX7_count_136 : decode cX7_count 136 = .ok (.aload_n 0, 1) := by decide +kernel
theorem dX7_count_137 : decode cX7_count 137 = .ok (.getfield 78, 3) := by decide +kernel
theorem dX7_count_140 : decode cX7_count 140 = .ok (.ireturn, 1) := by decide +kernel
theorem dX7_count_141 : decode cX7_count 141 = .ok (.iconst 0, 1) := by decide +kernel
theorem dX7_count_142 : decode cX7_count 142 = .ok (.istore_n 3, 1) := by decide +kernel
theorem dX7_count_143 : decode cX7_count 143 = .ok (.iload_n 3, 1) := by decide +kernel
theorem dX7_count_144 : decode cX7_count 144 = .ok (.aload_n 0, 1) := by decide +kernel
theorem dX7_count_145 : decode cX7_count 145 = .ok (.getfield 71, 3) := by decide +kernel
theorem dX7_count_148 : decode cX7_count 148 = .ok (.if_icmp .ge 18, 3) := by decide +kernel
theorem dX7_count_151 : decode cX7_count 151 = .ok (.iload_n 2, 1) := by decide +kernel
theorem dX7_count_152 : decode cX7_count 152 = .ok (.aload_n 0, 1) := by decide +kernel
theorem dX7_count_153 : decode cX7_count 153 = .ok (.getfield 16, 3) := by decide +kernel
theorem dX7_count_156 : decode cX7_count 156 = .ok (.iload_n 3, 1) := by decide +kernel
theorem dX7_count_157 : decode cX7_count 157 = .ok (.iaload, 1) := by decide +kernel
theorem dX7_count_158 : decode cX7_count 158 = .ok (.iadd, 1) := by decide +kernel
theorem dX7_count_159 : decode cX7_count 159 = .ok (.istore_n 2, 1) := by decide +kernel
theorem dX7_count_160 : decode cX7_count 160 = .ok (.iinc 3 1, 3) := by decide +kernel
theorem dX7_count_163 : decode cX7_count 163 = .ok (.goto (-20), 3) := by decide +kernel
theorem dX7_count_166 : decode cX7_count 166 = .ok (.iload_n 2, 1) := by decide +kernel
theorem dX7_count_167 : decode cX7_count 167 = .ok (.ireturn, 1) := by decide +kernel
theorem dX7_count_168 : decode cX7_count 168 = .ok (.aload_n 0, 1) := by decide +kernel
theorem dX7_count_169 : decode cX7_count 169 = .ok (.invokevirtual 151, 3) := by decide +kernel
theorem dX7_count_172 : decode cX7_count 172 = .ok (.ireturn, 1) := by decide +kernel
theorem dX7_count_173 : decode cX7_count 173 = .ok (.iconst (-1), 1) := by decide +kernel
theorem dX7_count_174 : decode cX7_count 174 = .ok (.ireturn, 1) := by decide +kernel
theorem dX7_heaped_0 : decode cX7_heaped 0 = .ok (.iconst 0, 1) := by decide +kernel
theorem dX7_heaped_1 : decode cX7_heaped 1 = .ok (.istore_n 1, 1) := by decide +kernel
theorem dX7_heaped_2 : decode cX7_heaped 2 = .ok (.iconst 0, 1) := by decide +kernel
theorem dX7_heaped_3 : decode cX7_heaped 3 = .ok (.istore_n 2, 1) := by decide +kernel
theorem dX7_heaped_4 : decode cX7_heaped 4 = .ok (.iload_n 2, 1) := by decide +kernel
theorem dX7_heaped_5 : decode cX7_heaped 5 = .ok (.iconst 5, 1) := by decide +kernel
theorem dX7_heaped_6 : decode cX7_heaped 6 = .ok (.if_icmp .ge 18, 3) := by decide +kernel
theorem dX7_heaped_9 : decode cX7_heaped 9 = .ok (.iload_n 1, 1) := by decide +kernel
theorem dX7_heaped_10 : decode cX7_heaped 10 = .ok (.aload_n 0, 1) := by decide +kernel
theorem dX7_heaped_11 : decode cX7_heaped 11 = .ok (.getfield 50, 3) := by decide +kernel
theorem dX7_heaped_14 : decode cX7_heaped 14 = .ok (.iload_n 2, 1) := by decide +kernel
theorem dX7_heaped_15 : decode cX7_heaped 15 = .ok (.iaload, 1) := by decide +kernel
theorem dX7_heaped_16 : decode cX7_heaped 16 = .ok (.iadd, 1) := by decide +kernel
theorem dX7_heaped_17 : decode cX7_heaped 17 = .ok (.istore_n 1, 1) := by decide +kernel
theorem dX7_heaped_18 : decode cX7_heaped 18 = .ok (.iinc 2 1, 3) := by decide +kernel
theorem dX7_heaped_21 : decode cX7_heaped 21 = .ok (.goto (-17), 3) := by decide +kernel
theorem dX7_heaped_24 : decode cX7_heaped 24 = .ok (.iload_n 1, 1) := by decide +kernel
theorem dX7_heaped_25 : decode cX7_heaped 25 = .ok (.ireturn, 1) := by decide +kernel
theorem dX7_heap_0 : decode cX7_heap 0 = .ok (.aload_n 0, 1) := by decide +kernel
theorem dX7_heap_1 : decode cX7_heap 1 = .ok (.iconst 0, 1) := by decide +kernel
theorem dX7_heap_2 : decode cX7_heap 2 = .ok (.putfield 68, 3) := by decide +kernel
theorem dX7_heap_5 : decode cX7_heap 5 = .ok (.iload_n 1, 1) := by decide +kernel
theorem dX7_heap_6 : decode cX7_heap 6 = .ok (.iconst 0, 1) := by decide +kernel
theorem dX7_heap_7 : decode cX7_heap 7 = .ok (.iconst 4, 1) := by decide +kernel
theorem dX7_heap_8 : decode cX7_heap 8 = .ok (.invokestatic 74, 3) := by decide +kernel
theorem dX7_heap_11 : decode cX7_heap 11 = .ok (.ifCond .eq 31, 3) := by decide +kernel
theorem dX7_heap_14 : decode cX7_heap 14 = .ok (.iload_n 2, 1) := by decide +kernel
theorem dX7_heap_15 : decode cX7_heap 15 = .ok (.iconst 0, 1) := by decide +kernel
theorem dX7_heap_16 : decode cX7_heap 16 = .ok (.bipush 60, 2) := by decide +kernel
theorem dX7_heap_18 : decode cX7_heap 18 = .ok (.invokestatic 74, 3) := by decide +kernel
theorem dX7_heap_21 : decode cX7_heap 21 = .ok (.ifCond .eq 21, 3) := by decide +kernel
theorem dX7_heap_24 : decode cX7_heap 24 = .ok (.aload_n 0, 1) := by decide +kernel
theorem dX7_heap_25 : decode cX7_heap 25 = .ok (.invokevirtual 151, 3) := by decide +kernel
theorem dX7_heap_28 : decode cX7_heap 28 = .ok (.aload_n 0, 1) := by decide +kernel
theorem dX7_heap_29 : decode cX7_heap 29 = .ok (.getfield 50, 3) := by decide +kernel
theorem dX7_heap_32 : decode cX7_heap 32 = .ok (.iload_n 1, 1) := by decide +kernel
theorem dX7_heap_33 : decode cX7_heap 33 = .ok (.iaload, 1) := by decide +kernel
theorem dX7_heap_34 : decode cX7_heap 34 = .ok (.isub, 1) := by decide +kernel
theorem dX7_heap_35 : decode cX7_heap 35 = .ok (.iload_n 2, 1) := by decide +kernel
theorem dX7_heap_36 : decode cX7_heap 36 = .ok (.iadd, 1) := by decide +kernel
theorem dX7_heap_37 : decode cX7_heap 37 = .ok (.bipush 60, 2) := by decide +kernel
theorem dX7_heap_39 : decode cX7_heap 39 = .ok (.if_icmp .le 5, 3) := by decide +kernel
theorem dX7_heap_42 : decode cX7_heap 42 = .ok (.iconst 0, 1) := by decide +kernel
theorem dX7_heap_43 : decode cX7_heap 43 = .ok (.ireturn, 1) := by decide +kernel
theorem dX7_heap_44 : decode cX7_heap 44 = .ok (.aload_n 0, 1) := by decide +kernel
theorem dX7_heap_45 : decode cX7_heap 45 = .ok (.getfield 50, 3) := by decide +kernel
theorem dX7_heap_48 : decode cX7_heap 48 = .ok (.iload_n 1, 1) := by decide +kernel
theorem dX7_heap_49 : decode cX7_heap 49 = .ok (.iload_n 2, 1) := by decide +kernel
theorem dX7_heap_50 : decode cX7_heap 50 = .ok (.iastore, 1) := by decide +kernel
theorem dX7_heap_51 : decode cX7_heap 51 = .ok (.iconst 1, 1) := by decide +kernel
theorem dX7_heap_52 : decode cX7_heap 52 = .ok (.ireturn, 1) := by decide +kernel
theorem dX7_gradeAt_0 : decode cX7_gradeAt 0 = .ok (.iload_n 1, 1) := by decide +kernel
theorem dX7_gradeAt_1 : decode cX7_gradeAt 1 = .ok (.istore_n 2, 1) := by decide +kernel
theorem dX7_gradeAt_2 : decode cX7_gradeAt 2 = .ok (.iconst 4, 1) := by decide +kernel
theorem dX7_gradeAt_3 : decode cX7_gradeAt 3 = .ok (.istore_n 3, 1) := by decide +kernel
theorem dX7_gradeAt_4 : decode cX7_gradeAt 4 = .ok (.iload_n 2, 1) := by decide +kernel
theorem dX7_gradeAt_5 : decode cX7_gradeAt 5 = .ok (.aload_n 0, 1) := by decide +kernel
theorem dX7_gradeAt_6 : decode cX7_gradeAt 6 = .ok (.getfield 50, 3) := by decide +kernel
theorem dX7_gradeAt_9 : decode cX7_gradeAt 9 = .ok (.iload_n 3, 1) := by decide +kernel
theorem dX7_gradeAt_10 : decode cX7_gradeAt 10 = .ok (.iaload, 1) := by decide +kernel
theorem dX7_gradeAt_11 : decode cX7_gradeAt 11 = .ok (.if_icmp .lt 18, 3) := by decide +kernel
theorem dX7_gradeAt_14 : decode cX7_gradeAt 14 = .ok (.iload_n 2, 1) := by decide +kernel
theorem dX7_gradeAt_15 : decode cX7_gradeAt 15 = .ok (.aload_n 0, 1) := by decide +kernel
theorem dX7_gradeAt_16 : decode cX7_gradeAt 16 = .ok (.getfield 50, 3) := by decide +kernel
theorem dX7_gradeAt_19 : decode cX7_gradeAt 19 = .ok (.iload_n 3, 1) := by decide +kernel
theorem dX7_gradeAt_20 : decode cX7_gradeAt 20 = .ok (.iaload, 1) := by decide +kernel
theorem dX7_gradeAt_21 : decode cX7_gradeAt 21 = .ok (.isub, 1) := by decide +kernel
theorem dX7_gradeAt_22 : decode cX7_gradeAt 22 = .ok (.istore_n 2, 1) := by decide +kernel
theorem dX7_gradeAt_23 : decode cX7_gradeAt 23 = .ok (.iinc 3 (-1), 3) := by decide +kernel
theorem dX7_gradeAt_26 : decode cX7_gradeAt 26 = .ok (.goto (-22), 3) := by decide +kernel
theorem dX7_gradeAt_29 : decode cX7_gradeAt 29 = .ok (.iload_n 3, 1) := by decide +kernel
theorem dX7_gradeAt_30 : decode cX7_gradeAt 30 = .ok (.ireturn, 1) := by decide +kernel
theorem dX7_string__0 : decode cX7_string_ 0 = .ok (.aload_n 0, 1) := by decide +kernel
theorem dX7_string__1 : decode cX7_string_ 1 = .ok (.invokevirtual 151, 3) := by decide +kernel
theorem dX7_string__4 : decode cX7_string_ 4 = .ok (.istore_n 1, 1) := by decide +kernel
theorem dX7_string__5 : decode cX7_string_ 5 = .ok (.aload_n 0, 1) := by decide +kernel
theorem dX7_string__6 : decode cX7_string_ 6 = .ok (.getfield 59, 3) := by decide +kernel
theorem dX7_string__9 : decode cX7_string_ 9 = .ok (.iload_n 1, 1) := by decide +kernel
theorem dX7_string__10 : decode cX7_string_ 10 = .ok (.iconst 0, 1) := by decide +kernel
theorem dX7_string__11 : decode cX7_string_ 11 = .ok (.iastore, 1) := by decide +kernel
theorem dX7_string__12 : decode cX7_string_ 12 = .ok (.aload_n 0, 1) := by decide +kernel
theorem dX7_string__13 : decode cX7_string_ 13 = .ok (.getfield 62, 3) := by decide +kernel
theorem dX7_string__16 : decode cX7_string_ 16 = .ok (.iload_n 1, 1) := by decide +kernel
theorem dX7_string__17 : decode cX7_string_ 17 = .ok (.iconst 0, 1) := by decide +kernel
theorem dX7_string__18 : decode cX7_string_ 18 = .ok (.iastore, 1) := by decide +kernel
theorem dX7_string__19 : decode cX7_string_ 19 = .ok (.iload_n 1, 1) := by decide +kernel
theorem dX7_string__20 : decode cX7_string_ 20 = .ok (.iconst 1, 1) := by decide +kernel
theorem dX7_string__21 : decode cX7_string_ 21 = .ok (.isub, 1) := by decide +kernel
theorem dX7_string__22 : decode cX7_string_ 22 = .ok (.istore_n 2, 1) := by decide +kernel
theorem dX7_string__23 : decode cX7_string_ 23 = .ok (.iload_n 2, 1) := by decide +kernel
theorem dX7_string__24 : decode cX7_string_ 24 = .ok (.ifCond .lt 121, 3) := by decide +kernel
theorem dX7_string__27 : decode cX7_string_ 27 = .ok (.aload_n 0, 1) := by decide +kernel
theorem dX7_string__28 : decode cX7_string_ 28 = .ok (.getfield 59, 3) := by decide +kernel
theorem dX7_string__31 : decode cX7_string_ 31 = .ok (.iload_n 2, 1) := by decide +kernel
theorem dX7_string__32 : decode cX7_string_ 32 = .ok (.iconst (-1), 1) := by decide +kernel
theorem dX7_string__33 : decode cX7_string_ 33 = .ok (.iastore, 1) := by decide +kernel
theorem dX7_string__34 : decode cX7_string_ 34 = .ok (.iload_n 1, 1) := by decide +kernel
theorem dX7_string__35 : decode cX7_string_ 35 = .ok (.istore_n 3, 1) := by decide +kernel
theorem dX7_string__36 : decode cX7_string_ 36 = .ok (.iload_n 3, 1) := by decide +kernel
theorem dX7_string__37 : decode cX7_string_ 37 = .ok (.iload_n 2, 1) := by decide +kernel
theorem dX7_string__38 : decode cX7_string_ 38 = .ok (.if_icmp .le 101, 3) := by decide +kernel
theorem dX7_string__41 : decode cX7_string_ 41 = .ok (.aload_n 0, 1) := by decide +kernel
theorem dX7_string__42 : decode cX7_string_ 42 = .ok (.iload_n 3, 1) := by decide +kernel
theorem dX7_string__43 : decode cX7_string_ 43 = .ok (.iload_n 2, 1) := by decide +kernel
theorem dX7_string__44 : decode cX7_string_ 44 = .ok (.isub, 1) := by decide +kernel
theorem dX7_string__45 : decode cX7_string_ 45 = .ok (.aload_n 0, 1) := by decide +kernel
theorem dX7_string__46 : decode cX7_string_ 46 = .ok (.iload_n 3, 1) := by decide +kernel
theorem dX7_string__47 : decode cX7_string_ 47 = .ok (.iconst 1, 1) := by decide +kernel
theorem dX7_string__48 : decode cX7_string_ 48 = .ok (.isub, 1) := by decide +kernel
theorem dX7_string__49 : decode cX7_string_ 49 = .ok (.invokevirtual 155, 3) := by decide +kernel
theorem dX7_string__52 : decode cX7_string_ 52 = .ok (.invokevirtual 120, 3) := by decide +kernel
theorem dX7_string__55 : decode cX7_string_ 55 = .ok (.aload_n 0, 1) := by decide +kernel
theorem dX7_string__56 : decode cX7_string_ 56 = .ok (.getfield 59, 3) := by decide +kernel
theorem dX7_string__59 : decode cX7_string_ 59 = .ok (.iload_n 3, 1) := by decide +kernel
theorem dX7_string__60 : decode cX7_string_ 60 = .ok (.iaload, 1) := by decide +kernel
theorem dX7_string__61 : decode cX7_string_ 61 = .ok (.iadd, 1) := by decide +kernel
theorem dX7_string__62 : decode cX7_string_ 62 = .ok (.istore 4, 2) := by decide +kernel
theorem dX7_string__64 : decode cX7_string_ 64 = .ok (.iconst 1, 1) := by decide +kernel
theorem dX7_string__65 : decode cX7_string_ 65 = .ok (.aload_n 0, 1) := by decide +kernel
theorem dX7_string__66 : decode cX7_string_ 66 = .ok (.getfield 62, 3) := by decide +kernel
theorem dX7_string__69 : decode cX7_string_ 69 = .ok (.iload_n 3, 1) := by decide +kernel
theorem dX7_string__70 : decode cX7_string_ 70 = .ok (.iaload, 1) := by decide +kernel
theorem dX7_string__71 : decode cX7_string_ 71 = .ok (.iadd, 1) := by decide +kernel
theorem dX7_string__72 : decode cX7_string_ 72 = .ok (.istore 5, 2) := by decide +kernel
theorem dX7_string__74 : decode cX7_string_ 74 = .ok (.iload 4, 2) := by decide +kernel
theorem dX7_string__76 : decode cX7_string_ 76 = .ok (.aload_n 0, 1) := by decide +kernel
theorem dX7_string__77 : decode cX7_string_ 77 = .ok (.getfield 59, 3) := by decide +kernel
theorem dX7_string__80 : decode cX7_string_ 80 = .ok (.iload_n 2, 1) := by decide +kernel
theorem dX7_string__81 : decode cX7_string_ 81 = .ok (.iaload, 1) := by decide +kernel
theorem dX7_string__82 : decode cX7_string_ 82 = .ok (.if_icmp .lt 51, 3) := by decide +kernel
theorem dX7_string__85 : decode cX7_string_ 85 = .ok (.iload 4, 2) := by decide +kernel
theorem dX7_string__87 : decode cX7_string_ 87 = .ok (.aload_n 0, 1) := by decide +kernel
theorem dX7_string__88 : decode cX7_string_ 88 = .ok (.getfield 59, 3) := by decide +kernel
theorem dX7_string__91 : decode cX7_string_ 91 = .ok (.iload_n 2, 1) := by decide +kernel
theorem dX7_string__92 : decode cX7_string_ 92 = .ok (.iaload, 1) := by decide +kernel
theorem dX7_string__93 : decode cX7_string_ 93 = .ok (.if_icmp .ne 17, 3) := by decide +kernel
theorem dX7_string__96 : decode cX7_string_ 96 = .ok (.iload 5, 2) := by decide +kernel
theorem dX7_string__98 : decode cX7_string_ 98 = .ok (.aload_n 0, 1) := by decide +kernel
theorem dX7_string__99 : decode cX7_string_ 99 = .ok (.getfield 62, 3) := by decide +kernel
theorem dX7_string__102 : decode cX7_string_ 102 = .ok (.iload_n 2, 1) := by decide +kernel
theorem dX7_string__103 : decode cX7_string_ 103 = .ok (.iaload, 1) := by decide +kernel
theorem dX7_string__104 : decode cX7_string_ 104 = .ok (.if_icmp .lt 6, 3) := by decide +kernel
theorem dX7_string__107 : decode cX7_string_ 107 = .ok (.goto 26, 3) := by decide +kernel
theorem dX7_string__110 : decode cX7_string_ 110 = .ok (.aload_n 0, 1) := by decide +kernel
theorem dX7_string__111 : decode cX7_string_ 111 = .ok (.getfield 59, 3) := by decide +kernel
theorem dX7_string__114 : decode cX7_string_ 114 = .ok (.iload_n 2, 1) := by decide +kernel
theorem dX7_string__115 : decode cX7_string_ 115 = .ok (.iload 4, 2) := by decide +kernel
theorem dX7_string__117 : decode cX7_string_ 117 = .ok (.iastore, 1) := by decide +kernel
theorem dX7_string__118 : decode cX7_string_ 118 = .ok (.aload_n 0, 1) := by decide +kernel
theorem dX7_string__119 : decode cX7_string_ 119 = .ok (.getfield 62, 3) := by decide +kernel
theorem dX7_string__122 : decode cX7_string_ 122 = .ok (.iload_n 2, 1) := by decide +kernel
theorem dX7_string__123 : decode cX7_string_ 123 = .ok (.iload 5, 2) := by decide +kernel
theorem dX7_string__125 : decode cX7_string_ 125 = .ok (.iastore, 1) := by decide +kernel
theorem dX7_string__126 : decode cX7_string_ 126 = .ok (.aload_n 0, 1) := by decide +kernel
theorem dX7_string__127 : decode cX7_string_ 127 = .ok (.getfield 65, 3) := by decide +kernel
theorem dX7_string__130 : decode cX7_string_ 130 = .ok (.iload_n 2, 1) := by decide +kernel
theorem dX7_string__131 : decode cX7_string_ 131 = .ok (.iload_n 3, 1) := by decide +kernel
theorem dX7_string__132 : decode cX7_string_ 132 = .ok (.iastore, 1) := by decide +kernel
theorem dX7_string__133 : decode cX7_string_ 133 = .ok (.iinc 3 (-1), 3) := by decide +kernel
theorem dX7_string__136 : decode cX7_string_ 136 = .ok (.goto (-100), 3) := by decide +kernel
theorem dX7_string__139 : decode cX7_string_ 139 = .ok (.iinc 2 (-1), 3) := by decide +kernel
theorem dX7_string__142 : decode cX7_string_ 142 = .ok (.goto (-119), 3) := by decide +kernel
theorem dX7_string__145 : decode cX7_string_ 145 = .ok (.return_, 1) := by decide +kernel
theorem dX7_strung_0 : decode cX7_strung 0 = .ok (.aload_n 0, 1) := by decide +kernel
theorem dX7_strung_1 : decode cX7_strung 1 = .ok (.iconst 0, 1) := by decide +kernel
theorem dX7_strung_2 : decode cX7_strung 2 = .ok (.putfield 68, 3) := by decide +kernel
theorem dX7_strung_5 : decode cX7_strung 5 = .ok (.aload_n 0, 1) := by decide +kernel
theorem dX7_strung_6 : decode cX7_strung 6 = .ok (.invokevirtual 158, 3) := by decide +kernel
theorem dX7_strung_9 : decode cX7_strung 9 = .ok (.aload_n 0, 1) := by decide +kernel
theorem dX7_strung_10 : decode cX7_strung 10 = .ok (.getfield 59, 3) := by decide +kernel
theorem dX7_strung_13 : decode cX7_strung 13 = .ok (.iconst 0, 1) := by decide +kernel
theorem dX7_strung_14 : decode cX7_strung 14 = .ok (.iaload, 1) := by decide +kernel
theorem dX7_strung_15 : decode cX7_strung 15 = .ok (.ireturn, 1) := by decide +kernel
theorem dX7_strings_0 : decode cX7_strings 0 = .ok (.aload_n 0, 1) := by decide +kernel
theorem dX7_strings_1 : decode cX7_strings 1 = .ok (.iconst 0, 1) := by decide +kernel
theorem dX7_strings_2 : decode cX7_strings 2 = .ok (.putfield 68, 3) := by decide +kernel
theorem dX7_strings_5 : decode cX7_strings 5 = .ok (.aload_n 0, 1) := by decide +kernel
theorem dX7_strings_6 : decode cX7_strings 6 = .ok (.invokevirtual 158, 3) := by decide +kernel
theorem dX7_strings_9 : decode cX7_strings 9 = .ok (.aload_n 0, 1) := by decide +kernel
theorem dX7_strings_10 : decode cX7_strings 10 = .ok (.getfield 62, 3) := by decide +kernel
theorem dX7_strings_13 : decode cX7_strings 13 = .ok (.iconst 0, 1) := by decide +kernel
theorem dX7_strings_14 : decode cX7_strings 14 = .ok (.iaload, 1) := by decide +kernel
theorem dX7_strings_15 : decode cX7_strings 15 = .ok (.ireturn, 1) := by decide +kernel
theorem dX7_part_0 : decode cX7_part 0 = .ok (.aload_n 0, 1) := by decide +kernel
theorem dX7_part_1 : decode cX7_part 1 = .ok (.iconst 0, 1) := by decide +kernel
theorem dX7_part_2 : decode cX7_part 2 = .ok (.putfield 68, 3) := by decide +kernel
theorem dX7_part_5 : decode cX7_part 5 = .ok (.aload_n 0, 1) := by decide +kernel
theorem dX7_part_6 : decode cX7_part 6 = .ok (.invokevirtual 158, 3) := by decide +kernel
theorem dX7_part_9 : decode cX7_part 9 = .ok (.iload_n 1, 1) := by decide +kernel
theorem dX7_part_10 : decode cX7_part 10 = .ok (.iconst 0, 1) := by decide +kernel
theorem dX7_part_11 : decode cX7_part 11 = .ok (.aload_n 0, 1) := by decide +kernel
theorem dX7_part_12 : decode cX7_part 12 = .ok (.getfield 62, 3) := by decide +kernel
theorem dX7_part_15 : decode cX7_part 15 = .ok (.iconst 0, 1) := by decide +kernel
theorem dX7_part_16 : decode cX7_part 16 = .ok (.iaload, 1) := by decide +kernel
theorem dX7_part_17 : decode cX7_part 17 = .ok (.iconst 1, 1) := by decide +kernel
theorem dX7_part_18 : decode cX7_part 18 = .ok (.isub, 1) := by decide +kernel
theorem dX7_part_19 : decode cX7_part 19 = .ok (.invokestatic 74, 3) := by decide +kernel
theorem dX7_part_22 : decode cX7_part 22 = .ok (.ifCond .ne 5, 3) := by decide +kernel
theorem dX7_part_25 : decode cX7_part 25 = .ok (.iconst (-1), 1) := by decide +kernel
theorem dX7_part_26 : decode cX7_part 26 = .ok (.ireturn, 1) := by decide +kernel
theorem dX7_part_27 : decode cX7_part 27 = .ok (.iconst 0, 1) := by decide +kernel
theorem dX7_part_28 : decode cX7_part 28 = .ok (.istore_n 2, 1) := by decide +kernel
theorem dX7_part_29 : decode cX7_part 29 = .ok (.iconst 0, 1) := by decide +kernel
theorem dX7_part_30 : decode cX7_part 30 = .ok (.istore_n 3, 1) := by decide +kernel
theorem dX7_part_31 : decode cX7_part 31 = .ok (.iload_n 3, 1) := by decide +kernel
theorem dX7_part_32 : decode cX7_part 32 = .ok (.iload_n 1, 1) := by decide +kernel
theorem dX7_part_33 : decode cX7_part 33 = .ok (.if_icmp .ge 16, 3) := by decide +kernel
theorem dX7_part_36 : decode cX7_part 36 = .ok (.aload_n 0, 1) := by decide +kernel
theorem dX7_part_37 : decode cX7_part 37 = .ok (.getfield 65, 3) := by decide +kernel
theorem dX7_part_40 : decode cX7_part 40 = .ok (.iload_n 2, 1) := by decide +kernel
theorem dX7_part_41 : decode cX7_part 41 = .ok (.iaload, 1) := by decide +kernel
theorem dX7_part_42 : decode cX7_part 42 = .ok (.istore_n 2, 1) := by decide +kernel
theorem dX7_part_43 : decode cX7_part 43 = .ok (.iinc 3 1, 3) := by decide +kernel
theorem dX7_part_46 : decode cX7_part 46 = .ok (.goto (-15), 3) := by decide +kernel
theorem dX7_part_49 : decode cX7_part 49 = .ok (.aload_n 0, 1) := by decide +kernel
theorem dX7_part_50 : decode cX7_part 50 = .ok (.getfield 65, 3) := by decide +kernel
theorem dX7_part_53 : decode cX7_part 53 = .ok (.iload_n 2, 1) := by decide +kernel
theorem dX7_part_54 : decode cX7_part 54 = .ok (.iaload, 1) := by decide +kernel
theorem dX7_part_55 : decode cX7_part 55 = .ok (.iload_n 2, 1) := by decide +kernel
theorem dX7_part_56 : decode cX7_part 56 = .ok (.isub, 1) := by decide +kernel
theorem dX7_part_57 : decode cX7_part 57 = .ok (.ireturn, 1) := by decide +kernel
