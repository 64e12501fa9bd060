theorem dX7_init_0 : decode cX7_init 0 = .ok (.aload_n 0, 1) := by decide +kernel
theorem dX7_init_1 : decode cX7_init 1 = .ok (.invokespecial 1, 3) := by decide +kernel
theorem dX7_init_4 : decode cX7_init 4 = .ok (.aload_n 0, 1) := by decide +kernel
theorem dX7_init_5 : decode cX7_init 5 = .ok (.sipush 3200, 3) := by decide +kernel
theorem dX7_init_8 : decode cX7_init 8 = .ok (.newarray .int, 2) := by decide +kernel
theorem dX7_init_10 : decode cX7_init 10 = .ok (.putfield 9, 3) := by decide +kernel
theorem dX7_init_13 : decode cX7_init 13 = .ok (.aload_n 0, 1) := by decide +kernel
theorem dX7_init_14 : decode cX7_init 14 = .ok (.sipush 3200, 3) := by decide +kernel
theorem dX7_init_17 : decode cX7_init 17 = .ok (.newarray .int, 2) := by decide +kernel
theorem dX7_init_19 : decode cX7_init 19 = .ok (.putfield 13, 3) := by decide +kernel
theorem dX7_init_22 : decode cX7_init 22 = .ok (.aload_n 0, 1) := by decide +kernel
theorem dX7_init_23 : decode cX7_init 23 = .ok (.bipush 40, 2) := by decide +kernel
theorem dX7_init_25 : decode cX7_init 25 = .ok (.newarray .int, 2) := by decide +kernel
theorem dX7_init_27 : decode cX7_init 27 = .ok (.putfield 16, 3) := by decide +kernel
theorem dX7_init_30 : decode cX7_init 30 = .ok (.aload_n 0, 1) := by decide +kernel
theorem dX7_init_31 : decode cX7_init 31 = .ok (.bipush 40, 2) := by decide +kernel
theorem dX7_init_33 : decode cX7_init 33 = .ok (.newarray .int, 2) := by decide +kernel
theorem dX7_init_35 : decode cX7_init 35 = .ok (.putfield 19, 3) := by decide +kernel
theorem dX7_init_38 : decode cX7_init 38 = .ok (.aload_n 0, 1) := by decide +kernel
theorem dX7_init_39 : decode cX7_init 39 = .ok (.bipush 40, 2) := by decide +kernel
theorem dX7_init_41 : decode cX7_init 41 = .ok (.newarray .int, 2) := by decide +kernel
theorem dX7_init_43 : decode cX7_init 43 = .ok (.putfield 22, 3) := by decide +kernel
theorem dX7_init_46 : decode cX7_init 46 = .ok (.aload_n 0, 1) := by decide +kernel
theorem dX7_init_47 : decode cX7_init 47 = .ok (.iconst 5, 1) := by decide +kernel
theorem dX7_init_48 : decode cX7_init 48 = .ok (.newarray .int, 2) := by decide +kernel
theorem dX7_init_50 : decode cX7_init 50 = .ok (.dup, 1) := by decide +kernel
theorem dX7_init_51 : decode cX7_init 51 = .ok (.iconst 0, 1) := by decide +kernel
theorem dX7_init_52 : decode cX7_init 52 = .ok (.iconst 1, 1) := by decide +kernel
theorem dX7_init_53 : decode cX7_init 53 = .ok (.iastore, 1) := by decide +kernel
theorem dX7_init_54 : decode cX7_init 54 = .ok (.dup, 1) := by decide +kernel
theorem dX7_init_55 : decode cX7_init 55 = .ok (.iconst 1, 1) := by decide +kernel
theorem dX7_init_56 : decode cX7_init 56 = .ok (.iconst 2, 1) := by decide +kernel
theorem dX7_init_57 : decode cX7_init 57 = .ok (.iastore, 1) := by decide +kernel
theorem dX7_init_58 : decode cX7_init 58 = .ok (.dup, 1) := by decide +kernel
theorem dX7_init_59 : decode cX7_init 59 = .ok (.iconst 2, 1) := by decide +kernel
theorem dX7_init_60 : decode cX7_init 60 = .ok (.iconst 4, 1) := by decide +kernel
theorem dX7_init_61 : decode cX7_init 61 = .ok (.iastore, 1) := by decide +kernel
theorem dX7_init_62 : decode cX7_init 62 = .ok (.dup, 1) := by decide +kernel
theorem dX7_init_63 : decode cX7_init 63 = .ok (.iconst 3, 1) := by decide +kernel
theorem dX7_init_64 : decode cX7_init 64 = .ok (.bipush 7, 2) := by decide +kernel
theorem dX7_init_66 : decode cX7_init 66 = .ok (.iastore, 1) := by decide +kernel
theorem dX7_init_67 : decode cX7_init 67 = .ok (.dup, 1) := by decide +kernel
theorem dX7_init_68 : decode cX7_init 68 = .ok (.iconst 4, 1) := by decide +kernel
theorem dX7_init_69 : decode cX7_init 69 = .ok (.bipush 11, 2) := by decide +kernel
theorem dX7_init_71 : decode cX7_init 71 = .ok (.iastore, 1) := by decide +kernel
theorem dX7_init_72 : decode cX7_init 72 = .ok (.putfield 25, 3) := by decide +kernel
theorem dX7_init_75 : decode cX7_init 75 = .ok (.aload_n 0, 1) := by decide +kernel
theorem dX7_init_76 : decode cX7_init 76 = .ok (.iconst 5, 1) := by decide +kernel
theorem dX7_init_77 : decode cX7_init 77 = .ok (.newarray .int, 2) := by decide +kernel
theorem dX7_init_79 : decode cX7_init 79 = .ok (.dup, 1) := by decide +kernel
theorem dX7_init_80 : decode cX7_init 80 = .ok (.iconst 0, 1) := by decide +kernel
theorem dX7_init_81 : decode cX7_init 81 = .ok (.iconst 0, 1) := by decide +kernel
theorem dX7_init_82 : decode cX7_init 82 = .ok (.iastore, 1) := by decide +kernel
theorem dX7_init_83 : decode cX7_init 83 = .ok (.dup, 1) := by decide +kernel
theorem dX7_init_84 : decode cX7_init 84 = .ok (.iconst 1, 1) := by decide +kernel
theorem dX7_init_85 : decode cX7_init 85 = .ok (.iconst 5, 1) := by decide +kernel
theorem dX7_init_86 : decode cX7_init 86 = .ok (.iastore, 1) := by decide +kernel
theorem dX7_init_87 : decode cX7_init 87 = .ok (.dup, 1) := by decide +kernel
theorem dX7_init_88 : decode cX7_init 88 = .ok (.iconst 2, 1) := by decide +kernel
theorem dX7_init_89 : decode cX7_init 89 = .ok (.bipush 10, 2) := by decide +kernel
theorem dX7_init_91 : decode cX7_init 91 = .ok (.iastore, 1) := by decide +kernel
theorem dX7_init_92 : decode cX7_init 92 = .ok (.dup, 1) := by decide +kernel
theorem dX7_init_93 : decode cX7_init 93 = .ok (.iconst 3, 1) := by decide +kernel
theorem dX7_init_94 : decode cX7_init 94 = .ok (.bipush 20, 2) := by decide +kernel
theorem dX7_init_96 : decode cX7_init 96 = .ok (.iastore, 1) := by decide +kernel
theorem dX7_init_97 : decode cX7_init 97 = .ok (.dup, 1) := by decide +kernel
theorem dX7_init_98 : decode cX7_init 98 = .ok (.iconst 4, 1) := by decide +kernel
theorem dX7_init_99 : decode cX7_init 99 = .ok (.bipush 40, 2) := by decide +kernel
theorem dX7_init_101 : decode cX7_init 101 = .ok (.iastore, 1) := by decide +kernel
theorem dX7_init_102 : decode cX7_init 102 = .ok (.putfield 28, 3) := by decide +kernel
theorem dX7_init_105 : decode cX7_init 105 = .ok (.aload_n 0, 1) := by decide +kernel
theorem dX7_init_106 : decode cX7_init 106 = .ok (.iconst 5, 1) := by decide +kernel
theorem dX7_init_107 : decode cX7_init 107 = .ok (.newarray .int, 2) := by decide +kernel
theorem dX7_init_109 : decode cX7_init 109 = .ok (.dup, 1) := by decide +kernel
theorem dX7_init_110 : decode cX7_init 110 = .ok (.iconst 0, 1) := by decide +kernel
theorem dX7_init_111 : decode cX7_init 111 = .ok (.bipush 50, 2) := by decide +kernel
theorem dX7_init_113 : decode cX7_init 113 = .ok (.iastore, 1) := by decide +kernel
theorem dX7_init_114 : decode cX7_init 114 = .ok (.dup, 1) := by decide +kernel
theorem dX7_init_115 : decode cX7_init 115 = .ok (.iconst 1, 1) := by decide +kernel
theorem dX7_init_116 : decode cX7_init 116 = .ok (.bipush 50, 2) := by decide +kernel
theorem dX7_init_118 : decode cX7_init 118 = .ok (.iastore, 1) := by decide +kernel
theorem dX7_init_119 : decode cX7_init 119 = .ok (.dup, 1) := by decide +kernel
theorem dX7_init_120 : decode cX7_init 120 = .ok (.iconst 2, 1) := by decide +kernel
theorem dX7_init_121 : decode cX7_init 121 = .ok (.bipush 50, 2) := by decide +kernel
theorem dX7_init_123 : decode cX7_init 123 = .ok (.iastore, 1) := by decide +kernel
theorem dX7_init_124 : decode cX7_init 124 = .ok (.dup, 1) := by decide +kernel
theorem dX7_init_125 : decode cX7_init 125 = .ok (.iconst 3, 1) := by decide +kernel
theorem dX7_init_126 : decode cX7_init 126 = .ok (.bipush 50, 2) := by decide +kernel
theorem dX7_init_128 : decode cX7_init 128 = .ok (.iastore, 1) := by decide +kernel
theorem dX7_init_129 : decode cX7_init 129 = .ok (.dup, 1) := by decide +kernel
theorem dX7_init_130 : decode cX7_init 130 = .ok (.iconst 4, 1) := by decide +kernel
theorem dX7_init_131 : decode cX7_init 131 = .ok (.bipush 50, 2) := by decide +kernel
theorem dX7_init_133 : decode cX7_init 133 = .ok (.iastore, 1) := by decide +kernel
theorem dX7_init_134 : decode cX7_init 134 = .ok (.putfield 31, 3) := by decide +kernel
theorem dX7_init_137 : decode cX7_init 137 = .ok (.aload_n 0, 1) := by decide +kernel
theorem dX7_init_138 : decode cX7_init 138 = .ok (.bipush 25, 2) := by decide +kernel
theorem dX7_init_140 : decode cX7_init 140 = .ok (.putfield 34, 3) := by decide +kernel
theorem dX7_init_143 : decode cX7_init 143 = .ok (.aload_n 0, 1) := by decide +kernel
theorem dX7_init_144 : decode cX7_init 144 = .ok (.iconst 1, 1) := by decide +kernel
theorem dX7_init_145 : decode cX7_init 145 = .ok (.putfield 38, 3) := by decide +kernel
theorem dX7_init_148 : decode cX7_init 148 = .ok (.aload_n 0, 1) := by decide +kernel
theorem dX7_init_149 : decode cX7_init 149 = .ok (.bipush 10, 2) := by decide +kernel
theorem dX7_init_151 : decode cX7_init 151 = .ok (.putfield 41, 3) := by decide +kernel
theorem dX7_init_154 : decode cX7_init 154 = .ok (.aload_n 0, 1) := by decide +kernel
theorem dX7_init_155 : decode cX7_init 155 = .ok (.sipush 800, 3) := by decide +kernel
theorem dX7_init_158 : decode cX7_init 158 = .ok (.newarray .int, 2) := by decide +kernel
theorem dX7_init_160 : decode cX7_init 160 = .ok (.putfield 44, 3) := by decide +kernel
theorem dX7_init_163 : decode cX7_init 163 = .ok (.aload_n 0, 1) := by decide +kernel
theorem dX7_init_164 : decode cX7_init 164 = .ok (.sipush 300, 3) := by decide +kernel
theorem dX7_init_167 : decode cX7_init 167 = .ok (.newarray .int, 2) := by decide +kernel
theorem dX7_init_169 : decode cX7_init 169 = .ok (.putfield 47, 3) := by decide +kernel
theorem dX7_init_172 : decode cX7_init 172 = .ok (.aload_n 0, 1) := by decide +kernel
theorem dX7_init_173 : decode cX7_init 173 = .ok (.iconst 5, 1) := by decide +kernel
theorem dX7_init_174 : decode cX7_init 174 = .ok (.newarray .int, 2) := by decide +kernel
theorem dX7_init_176 : decode cX7_init 176 = .ok (.putfield 50, 3) := by decide +kernel
theorem dX7_init_179 : decode cX7_init 179 = .ok (.aload_n 0, 1) := by decide +kernel
theorem dX7_init_180 : decode cX7_init 180 = .ok (.bipush 12, 2) := by decide +kernel
theorem dX7_init_182 : decode cX7_init 182 = .ok (.newarray .int, 2) := by decide +kernel
theorem dX7_init_184 : decode cX7_init 184 = .ok (.putfield 53, 3) := by decide +kernel
theorem dX7_init_187 : decode cX7_init 187 = .ok (.aload_n 0, 1) := by decide +kernel
theorem dX7_init_188 : decode cX7_init 188 = .ok (.bipush 12, 2) := by decide +kernel
theorem dX7_init_190 : decode cX7_init 190 = .ok (.newarray .int, 2) := by decide +kernel
theorem dX7_init_192 : decode cX7_init 192 = .ok (.putfield 56, 3) := by decide +kernel
theorem dX7_init_195 : decode cX7_init 195 = .ok (.aload_n 0, 1) := by decide +kernel
theorem dX7_init_196 : decode cX7_init 196 = .ok (.bipush 61, 2) := by decide +kernel
theorem dX7_init_198 : decode cX7_init 198 = .ok (.newarray .int, 2) := by decide +kernel
theorem dX7_init_200 : decode cX7_init 200 = .ok (.putfield 59, 3) := by decide +kernel
theorem dX7_init_203 : decode cX7_init 203 = .ok (.aload_n 0, 1) := by decide +kernel
theorem dX7_init_204 : decode cX7_init 204 = .ok (.bipush 61, 2) := by decide +kernel
theorem dX7_init_206 : decode cX7_init 206 = .ok (.newarray .int, 2) := by decide +kernel
theorem dX7_init_208 : decode cX7_init 208 = .ok (.putfield 62, 3) := by decide +kernel
theorem dX7_init_211 : decode cX7_init 211 = .ok (.aload_n 0, 1) := by decide +kernel
theorem dX7_init_212 : decode cX7_init 212 = .ok (.bipush 61, 2) := by decide +kernel
theorem dX7_init_214 : decode cX7_init 214 = .ok (.newarray .int, 2) := by decide +kernel
theorem dX7_init_216 : decode cX7_init 216 = .ok (.putfield 65, 3) := by decide +kernel
theorem dX7_init_219 : decode cX7_init 219 = .ok (.return_, 1) := by decide +kernel
theorem dX7_thrown_0 : decode cX7_thrown 0 = .ok (.aload_n 0, 1) := by decide +kernel
theorem dX7_thrown_1 : decode cX7_thrown 1 = .ok (.getfield 68, 3) := by decide +kernel
theorem dX7_thrown_4 : decode cX7_thrown 4 = .ok (.ireturn, 1) := by decide +kernel
theorem dX7_in_0 : decode cX7_in 0 = .ok (.iload_n 0, 1) := by decide +kernel
theorem dX7_in_1 : decode cX7_in 1 = .ok (.iload_n 1, 1) := by decide +kernel
theorem dX7_in_2 : decode cX7_in 2 = .ok (.if_icmp .lt 12, 3) := by decide +kernel
theorem dX7_in_5 : decode cX7_in 5 = .ok (.iload_n 0, 1) := by decide +kernel
theorem dX7_in_6 : decode cX7_in 6 = .ok (.iload_n 2, 1) := by decide +kernel
theorem dX7_in_7 : decode cX7_in 7 = .ok (.if_icmp .gt 7, 3) := by decide +kernel
theorem dX7_in_10 : decode cX7_in 10 = .ok (.iconst 1, 1) := by decide +kernel
theorem dX7_in_11 : decode cX7_in 11 = .ok (.goto 4, 3) := by decide +kernel
theorem dX7_in_14 : decode cX7_in 14 = .ok (.iconst 0, 1) := by decide +kernel
theorem dX7_in_15 : decode cX7_in 15 = .ok (.ireturn, 1) := by decide +kernel
theorem dX7_isThere_0 : decode cX7_isThere 0 = .ok (.iload_n 1, 1) := by decide +kernel
theorem dX7_isThere_1 : decode cX7_isThere 1 = .ok (.iconst 0, 1) := by decide +kernel
theorem dX7_isThere_2 : decode cX7_isThere 2 = .ok (.aload_n 0, 1) := by decide +kernel
theorem dX7_isThere_3 : decode cX7_isThere 3 = .ok (.getfield 71, 3) := by decide +kernel
theorem dX7_isThere_6 : decode cX7_isThere 6 = .ok (.iconst 1, 1) := by decide +kernel
theorem dX7_isThere_7 : decode cX7_isThere 7 = .ok (.isub, 1) := by decide +kernel
theorem dX7_isThere_8 : decode cX7_isThere 8 = .ok (.invokestatic 74, 3) := by decide +kernel
theorem dX7_isThere_11 : decode cX7_isThere 11 = .ok (.ifCond .eq 16, 3) := by decide +kernel
theorem dX7_isThere_14 : decode cX7_isThere 14 = .ok (.aload_n 0, 1) := by decide +kernel
theorem dX7_isThere_15 : decode cX7_isThere 15 = .ok (.getfield 16, 3) := by decide +kernel
theorem dX7_isThere_18 : decode cX7_isThere 18 = .ok (.iload_n 1, 1) := by decide +kernel
theorem dX7_isThere_19 : decode cX7_isThere 19 = .ok (.iaload, 1) := by decide +kernel
theorem dX7_isThere_20 : decode cX7_isThere 20 = .ok (.ifCond .le 7, 3) := by decide +kernel
theorem dX7_isThere_23 : decode cX7_isThere 23 = .ok (.iconst 1, 1) := by decide +kernel
theorem dX7_isThere_24 : decode cX7_isThere 24 = .ok (.goto 4, 3) := by decide +kernel
theorem dX7_isThere_27 : decode cX7_isThere 27 = .ok (.iconst 0, 1) := by decide +kernel
theorem dX7_isThere_28 : decode cX7_isThere 28 = .ok (.ireturn, 1) := by decide +kernel
theorem dX7_hasRoom_0 : decode cX7_hasRoom 0 = .ok (.aload_n 0, 1) := by decide +kernel
theorem dX7_hasRoom_1 : decode cX7_hasRoom 1 = .ok (.getfield 78, 3) := by decide +kernel
theorem dX7_hasRoom_4 : decode cX7_hasRoom 4 = .ok (.iload_n 1, 1) := by decide +kernel
theorem dX7_hasRoom_5 : decode cX7_hasRoom 5 = .ok (.iadd, 1) := by decide +kernel
theorem dX7_hasRoom_6 : decode cX7_hasRoom 6 = .ok (.sipush 200, 3) := by decide +kernel
theorem dX7_hasRoom_9 : decode cX7_hasRoom 9 = .ok (.if_icmp .gt 7, 3) := by decide +kernel
theorem dX7_hasRoom_12 : decode cX7_hasRoom 12 = .ok (.iconst 1, 1) := by decide +kernel
theorem dX7_hasRoom_13 : decode cX7_hasRoom 13 = .ok (.goto 4, 3) := by decide +kernel
theorem dX7_hasRoom_16 : decode cX7_hasRoom 16 = .ok (.iconst 0, 1) := by decide +kernel
theorem dX7_hasRoom_17 : decode cX7_hasRoom 17 = .ok (.ireturn, 1) := by decide +kernel
theorem dX7_say_0 : decode cX7_say 0 = .ok (.iconst 4, 1) := by decide +kernel
theorem dX7_say_1 : decode cX7_say 1 = .ok (.aload_n 0, 1) := by decide +kernel
theorem dX7_say_2 : decode cX7_say 2 = .ok (.getfield 78, 3) := by decide +kernel
theorem dX7_say_5 : decode cX7_say 5 = .ok (.imul, 1) := by decide +kernel
theorem dX7_say_6 : decode cX7_say 6 = .ok (.istore 4, 2) := by decide +kernel
theorem dX7_say_8 : decode cX7_say 8 = .ok (.aload_n 0, 1) := by decide +kernel
theorem dX7_say_9 : decode cX7_say 9 = .ok (.getfield 44, 3) := by decide +kernel
theorem dX7_say_12 : decode cX7_say 12 = .ok (.iload 4, 2) := by decide +kernel
theorem dX7_say_14 : decode cX7_say 14 = .ok (.iload_n 1, 1) := by decide +kernel
theorem dX7_say_15 : decode cX7_say 15 = .ok (.iastore, 1) := by decide +kernel
theorem dX7_say_16 : decode cX7_say 16 = .ok (.aload_n 0, 1) := by decide +kernel
theorem dX7_say_17 : decode cX7_say 17 = .ok (.getfield 44, 3) := by decide +kernel
theorem dX7_say_20 : decode cX7_say 20 = .ok (.iload 4, 2) := by decide +kernel
theorem dX7_say_22 : decode cX7_say 22 = .ok (.iconst 1, 1) := by decide +kernel
theorem dX7_say_23 : decode cX7_say 23 = .ok (.iadd, 1) := by decide +kernel
theorem dX7_say_24 : decode cX7_say 24 = .ok (.iload_n 2, 1) := by decide +kernel
theorem dX7_say_25 : decode cX7_say 25 = .ok (.iastore, 1) := by decide +kernel
theorem dX7_say_26 : decode cX7_say 26 = .ok (.aload_n 0, 1) := by decide +kernel
theorem dX7_say_27 : decode cX7_say 27 = .ok (.getfield 44, 3) := by decide +kernel
theorem dX7_say_30 : decode cX7_say 30 = .ok (.iload 4, 2) := by decide +kernel
theorem dX7_say_32 : decode cX7_say 32 = .ok (.iconst 2, 1) := by decide +kernel
theorem dX7_say_33 : decode cX7_say 33 = .ok (.iadd, 1) := by decide +kernel
theorem dX7_say_34 : decode cX7_say 34 = .ok (.iload_n 3, 1) := by decide +kernel
theorem dX7_say_35 : decode cX7_say 35 = .ok (.iastore, 1) := by decide +kernel
theorem dX7_say_36 : decode cX7_say 36 = .ok (.aload_n 0, 1) := by decide +kernel
theorem dX7_say_37 : decode cX7_say 37 = .ok (.getfield 44, 3) := by decide +kernel
theorem dX7_say_40 : decode cX7_say 40 = .ok (.iload 4, 2) := by decide +kernel
theorem dX7_say_42 : decode cX7_say 42 = .ok (.iconst 3, 1) := by decide +kernel
theorem dX7_say_43 : decode cX7_say 43 = .ok (.iadd, 1) := by decide +kernel
theorem dX7_say_44 : decode cX7_say 44 = .ok (.aload_n 0, 1) := by decide +kernel
theorem dX7_say_45 : decode cX7_say 45 = .ok (.getfield 81, 3) := by decide +kernel
theorem dX7_say_48 : decode cX7_say 48 = .ok (.iastore, 1) := by decide +kernel
theorem dX7_say_49 : decode cX7_say 49 = .ok (.aload_n 0, 1) := by decide +kernel
theorem dX7_say_50 : decode cX7_say 50 = .ok (.dup, 1) := by decide +kernel
theorem dX7_say_51 : decode cX7_say 51 = .ok (.getfield 78, 3) := by decide +kernel
theorem dX7_say_54 : decode cX7_say 54 = .ok (.iconst 1, 1) := by decide +kernel
theorem dX7_say_55 : decode cX7_say 55 = .ok (.iadd, 1) := by decide +kernel
theorem dX7_say_56 : decode cX7_say 56 = .ok (.putfield 78, 3) := by decide +kernel
theorem dX7_say_59 : decode cX7_say 59 = .ok (.return_, 1) := by decide +kernel
theorem dX7_put_0 : decode cX7_put 0 = .ok (.iconst 0, 1) := by decide +kernel
theorem dX7_put_1 : decode cX7_put 1 = .ok (.istore 5, 2) := by decide +kernel
theorem dX7_put_3 : decode cX7_put 3 = .ok (.iload 5, 2) := by decide +kernel
theorem dX7_put_5 : decode cX7_put 5 = .ok (.iload 4, 2) := by decide +kernel
theorem dX7_put_7 : decode cX7_put 7 = .ok (.if_icmp .ge 53, 3) := by decide +kernel
theorem dX7_put_10 : decode cX7_put 10 = .ok (.aload_n 0, 1) := by decide +kernel
theorem dX7_put_11 : decode cX7_put 11 = .ok (.getfield 9, 3) := by decide +kernel
theorem dX7_put_14 : decode cX7_put 14 = .ok (.bipush 80, 2) := by decide +kernel
theorem dX7_put_16 : decode cX7_put 16 = .ok (.iload_n 1, 1) := by decide +kernel
theorem dX7_put_17 : decode cX7_put 17 = .ok (.imul, 1) := by decide +kernel
theorem dX7_put_18 : decode cX7_put 18 = .ok (.aload_n 0, 1) := by decide +kernel
theorem dX7_put_19 : decode cX7_put 19 = .ok (.getfield 16, 3) := by decide +kernel
theorem dX7_put_22 : decode cX7_put 22 = .ok (.iload_n 1, 1) := by decide +kernel
theorem dX7_put_23 : decode cX7_put 23 = .ok (.iaload, 1) := by decide +kernel
theorem dX7_put_24 : decode cX7_put 24 = .ok (.iadd, 1) := by decide +kernel
theorem dX7_put_25 : decode cX7_put 25 = .ok (.iload_n 2, 1) := by decide +kernel
theorem dX7_put_26 : decode cX7_put 26 = .ok (.iastore, 1) := by decide +kernel
theorem dX7_put_27 : decode cX7_put 27 = .ok (.aload_n 0, 1) := by decide +kernel
theorem dX7_put_28 : decode cX7_put 28 = .ok (.getfield 13, 3) := by decide +kernel
theorem dX7_put_31 : decode cX7_put 31 = .ok (.bipush 80, 2) := by decide +kernel
theorem dX7_put_33 : decode cX7_put 33 = .ok (.iload_n 1, 1) := by decide +kernel
theorem dX7_put_34 : decode cX7_put 34 = .ok (.imul, 1) := by decide +kernel
theorem dX7_put_35 : decode cX7_put 35 = .ok (.aload_n 0, 1) := by decide +kernel
theorem dX7_put_36 : decode cX7_put 36 = .ok (.getfield 16, 3) := by decide +kernel
theorem dX7_put_39 : decode cX7_put 39 = .ok (.iload_n 1, 1) := by decide +kernel
theorem dX7_put_40 : decode cX7_put 40 = .ok (.iaload, 1) := by decide +kernel
theorem dX7_put_41 : decode cX7_put 41 = .ok (.iadd, 1) := by decide +kernel
theorem dX7_put_42 : decode cX7_put 42 = .ok (.iload_n 3, 1) := by decide +kernel
theorem dX7_put_43 : decode cX7_put 43 = .ok (.iastore, 1) := by decide +kernel
theorem dX7_put_44 : decode cX7_put 44 = .ok (.aload_n 0, 1) := by decide +kernel
theorem dX7_put_45 : decode cX7_put 45 = .ok (.getfield 16, 3) := by decide +kernel
theorem dX7_put_48 : decode cX7_put 48 = .ok (.iload_n 1, 1) := by decide +kernel
theorem dX7_put_49 : decode cX7_put 49 = .ok (.dup2, 1) := by decide +kernel
theorem dX7_put_50 : decode cX7_put 50 = .ok (.iaload, 1) := by decide +kernel
theorem dX7_put_51 : decode cX7_put 51 = .ok (.iconst 1, 1) := by decide +kernel
theorem dX7_put_52 : decode cX7_put 52 = .ok (.iadd, 1) := by decide +kernel
theorem dX7_put_53 : decode cX7_put 53 = .ok (.iastore, 1) := by decide +kernel
theorem dX7_put_54 : decode cX7_put 54 = .ok (.iinc 5 1, 3) := by decide +kernel
theorem dX7_put_57 : decode cX7_put 57 = .ok (.goto (-54), 3) := by decide +kernel
theorem dX7_put_60 : decode cX7_put 60 = .ok (.return_, 1) := by decide +kernel
theorem dX7_areBeads_0 : decode cX7_areBeads 0 = .ok (.iload_n 0, 1) := by decide +kernel
theorem dX7_areBeads_1 : decode cX7_areBeads 1 = .ok (.iconst 0, 1) := by decide +kernel
theorem dX7_areBeads_2 : decode cX7_areBeads 2 = .ok (.iconst 4, 1) := by decide +kernel
theorem dX7_areBeads_3 : decode cX7_areBeads 3 = .ok (.invokestatic 74, 3) := by decide +kernel
theorem dX7_areBeads_6 : decode cX7_areBeads 6 = .ok (.ifCond .eq 27, 3) := by decide +kernel
theorem dX7_areBeads_9 : decode cX7_areBeads 9 = .ok (.iload_n 1, 1) := by decide +kernel
theorem dX7_areBeads_10 : decode cX7_areBeads 10 = .ok (.iconst 0, 1) := by decide +kernel
theorem dX7_areBeads_11 : decode cX7_areBeads 11 = .ok (.bipush 9, 2) := by decide +kernel
theorem dX7_areBeads_13 : decode cX7_areBeads 13 = .ok (.invokestatic 74, 3) := by decide +kernel
theorem dX7_areBeads_16 : decode cX7_areBeads 16 = .ok (.ifCond .eq 17, 3) := by decide +kernel
theorem dX7_areBeads_19 : decode cX7_areBeads 19 = .ok (.iload_n 2, 1) := by decide +kernel
theorem dX7_areBeads_20 : decode cX7_areBeads 20 = .ok (.iconst 1, 1) := by decide +kernel
theorem dX7_areBeads_21 : decode cX7_areBeads 21 = .ok (.bipush 80, 2) := by decide +kernel
theorem dX7_areBeads_23 : decode cX7_areBeads 23 = .ok (.invokestatic 74, 3) := by decide +kernel
theorem dX7_areBeads_26 : decode cX7_areBeads 26 = .ok (.ifCond .eq 7, 3) := by decide +kernel
theorem dX7_areBeads_29 : decode cX7_areBeads 29 = .ok (.iconst 1, 1) := by decide +kernel
theorem dX7_areBeads_30 : decode cX7_areBeads 30 = .ok (.goto 4, 3) := by decide +kernel
theorem dX7_areBeads_33 : decode cX7_areBeads 33 = .ok (.iconst 0, 1) := by decide +kernel
theorem dX7_areBeads_34 : decode cX7_areBeads 34 = .ok (.ireturn, 1) := by decide +kernel
theorem dX7_newString_0 : decode cX7_newString 0 = .ok (.aload_n 0, 1) := by decide +kernel
theorem dX7_newString_1 : decode cX7_newString 1 = .ok (.getfield 16, 3) := by decide +kernel
theorem dX7_newString_4 : decode cX7_newString 4 = .ok (.aload_n 0, 1) := by decide +kernel
theorem dX7_newString_5 : decode cX7_newString 5 = .ok (.getfield 71, 3) := by decide +kernel
theorem dX7_newString_8 : decode cX7_newString 8 = .ok (.iconst 0, 1) := by decide +kernel
theorem dX7_newString_9 : decode cX7_newString 9 = .ok (.iastore, 1) := by decide +kernel
theorem dX7_newString_10 : decode cX7_newString 10 = .ok (.aload_n 0, 1) := by decide +kernel
theorem dX7_newString_11 : decode cX7_newString 11 = .ok (.getfield 19, 3) := by decide +kernel
theorem dX7_newString_14 : decode cX7_newString 14 = .ok (.aload_n 0, 1) := by decide +kernel
theorem dX7_newString_15 : decode cX7_newString 15 = .ok (.getfield 71, 3) := by decide +kernel
theorem dX7_newString_18 : decode cX7_newString 18 = .ok (.iload_n 1, 1) := by decide +kernel
theorem dX7_newString_19 : decode cX7_newString 19 = .ok (.iastore, 1) := by decide +kernel
theorem dX7_newString_20 : decode cX7_newString 20 = .ok (.aload_n 0, 1) := by decide +kernel
theorem dX7_newString_21 : decode cX7_newString 21 = .ok (.getfield 22, 3) := by decide +kernel
theorem dX7_newString_24 : decode cX7_newString 24 = .ok (.aload_n 0, 1) := by decide +kernel
theorem dX7_newString_25 : decode cX7_newString 25 = .ok (.getfield 71, 3) := by decide +kernel
theorem dX7_newString_28 : decode cX7_newString 28 = .ok (.iconst 0, 1) := by decide +kernel
theorem dX7_newString_29 : decode cX7_newString 29 = .ok (.iastore, 1) := by decide +kernel
theorem dX7_newString_30 : decode cX7_newString 30 = .ok (.aload_n 0, 1) := by decide +kernel
theorem dX7_newString_31 : decode cX7_newString 31 = .ok (.dup, 1) := by decide +kernel
theorem dX7_newString_32 : decode cX7_newString 32 = .ok (.getfield 71, 3) := by decide +kernel
theorem dX7_newString_35 : decode cX7_newString 35 = .ok (.iconst 1, 1) := by decide +kernel
theorem dX7_newString_36 : decode cX7_newString 36 = .ok (.iadd, 1) := by decide +kernel
theorem dX7_newString_37 : decode cX7_newString 37 = .ok (.putfield 71, 3) := by decide +kernel
theorem dX7_newString_40 : decode cX7_newString 40 = .ok (.aload_n 0, 1) := by decide +kernel
theorem dX7_newString_41 : decode cX7_newString 41 = .ok (.getfield 71, 3) := by decide +kernel
theorem dX7_newString_44 : decode cX7_newString 44 = .ok (.iconst 1, 1) := by decide +kernel
theorem dX7_newString_45 : decode cX7_newString 45 = .ok (.isub, 1) := by decide +kernel
theorem dX7_newString_46 : decode cX7_newString 46 = .ok (.ireturn, 1) := by decide +kernel
theorem dX7_string_0 : decode cX7_string 0 = .ok (.aload_n 0, 1) := by decide +kernel
theorem dX7_string_1 : decode cX7_string 1 = .ok (.iconst 0, 1) := by decide +kernel
theorem dX7_string_2 : decode cX7_string 2 = .ok (.putfield 68, 3) := by decide +kernel
theorem dX7_string_5 : decode cX7_string 5 = .ok (.iload_n 1, 1) := by decide +kernel
theorem dX7_string_6 : decode cX7_string 6 = .ok (.iconst 0, 1) := by decide +kernel
theorem dX7_string_7 : decode cX7_string 7 = .ok (.bipush 9, 2) := by decide +kernel
theorem dX7_string_9 : decode cX7_string 9 = .ok (.invokestatic 74, 3) := by decide +kernel
theorem dX7_string_12 : decode cX7_string 12 = .ok (.ifCond .eq 22, 3) := by decide +kernel
theorem dX7_string_15 : decode cX7_string 15 = .ok (.iload_n 2, 1) := by decide +kernel
theorem dX7_string_16 : decode cX7_string 16 = .ok (.iload_n 3, 1) := by decide +kernel
theorem dX7_string_17 : decode cX7_string 17 = .ok (.iload 4, 2) := by decide +kernel
theorem dX7_string_19 : decode cX7_string 19 = .ok (.invokestatic 84, 3) := by decide +kernel
theorem dX7_string_22 : decode cX7_string 22 = .ok (.ifCond .eq 12, 3) := by decide +kernel
theorem dX7_string_25 : decode cX7_string 25 = .ok (.aload_n 0, 1) := by decide +kernel
theorem dX7_string_26 : decode cX7_string 26 = .ok (.getfield 71, 3) := by decide +kernel
theorem dX7_string_29 : decode cX7_string 29 = .ok (.bipush 40, 2) := by decide +kernel
theorem dX7_string_31 : decode cX7_string 31 = .ok (.if_icmp .ne 5, 3) := by decide +kernel
theorem dX7_string_34 : decode cX7_string 34 = .ok (.iconst (-1), 1) := by decide +kernel
theorem dX7_string_35 : decode cX7_string 35 = .ok (.ireturn, 1) := by decide +kernel
theorem dX7_string_36 : decode cX7_string 36 = .ok (.aload_n 0, 1) := by decide +kernel
theorem dX7_string_37 : decode cX7_string 37 = .ok (.iload_n 1, 1) := by decide +kernel
theorem dX7_string_38 : decode cX7_string 38 = .ok (.invokevirtual 87, 3) := by decide +kernel
theorem dX7_string_41 : decode cX7_string 41 = .ok (.istore 5, 2) := by decide +kernel
theorem dX7_string_43 : decode cX7_string 43 = .ok (.aload_n 0, 1) := by decide +kernel
theorem dX7_string_44 : decode cX7_string 44 = .ok (.iload 5, 2) := by decide +kernel
theorem dX7_string_46 : decode cX7_string 46 = .ok (.iload_n 2, 1) := by decide +kernel
theorem dX7_string_47 : decode cX7_string 47 = .ok (.iload_n 3, 1) := by decide +kernel
theorem dX7_string_48 : decode cX7_string 48 = .ok (.iload 4, 2) := by decide +kernel
theorem dX7_string_50 : decode cX7_string 50 = .ok (.invokevirtual 91, 3) := by decide +kernel
theorem dX7_string_53 : decode cX7_string 53 = .ok (.iload 5, 2) := by decide +kernel
theorem dX7_string_55 : decode cX7_string 55 = .ok (.ireturn, 1) := by decide +kernel
theorem dX7_add_0 : decode cX7_add 0 = .ok (.aload_n 0, 1) := by decide +kernel
theorem dX7_add_1 : decode cX7_add 1 = .ok (.iconst 0, 1) := by decide +kernel
theorem dX7_add_2 : decode cX7_add 2 = .ok (.putfield 68, 3) := by decide +kernel
theorem dX7_add_5 : decode cX7_add 5 = .ok (.aload_n 0, 1) := by decide +kernel
theorem dX7_add_6 : decode cX7_add 6 = .ok (.iload_n 1, 1) := by decide +kernel
theorem dX7_add_7 : decode cX7_add 7 = .ok (.invokevirtual 95, 3) := by decide +kernel
theorem dX7_add_10 : decode cX7_add 10 = .ok (.ifCond .eq 27, 3) := by decide +kernel
theorem dX7_add_13 : decode cX7_add 13 = .ok (.iload_n 2, 1) := by decide +kernel
theorem dX7_add_14 : decode cX7_add 14 = .ok (.iload_n 3, 1) := by decide +kernel
theorem dX7_add_15 : decode cX7_add 15 = .ok (.iload 4, 2) := by decide +kernel
theorem dX7_add_17 : decode cX7_add 17 = .ok (.invokestatic 84, 3) := by decide +kernel
theorem dX7_add_20 : decode cX7_add 20 = .ok (.ifCond .eq 17, 3) := by decide +kernel
theorem dX7_add_23 : decode cX7_add 23 = .ok (.aload_n 0, 1) := by decide +kernel
theorem dX7_add_24 : decode cX7_add 24 = .ok (.getfield 16, 3) := by decide +kernel
theorem dX7_add_27 : decode cX7_add 27 = .ok (.iload_n 1, 1) := by decide +kernel
theorem dX7_add_28 : decode cX7_add 28 = .ok (.iaload, 1) := by decide +kernel
theorem dX7_add_29 : decode cX7_add 29 = .ok (.iload 4, 2) := by decide +kernel
theorem dX7_add_31 : decode cX7_add 31 = .ok (.iadd, 1) := by decide +kernel
theorem dX7_add_32 : decode cX7_add 32 = .ok (.bipush 80, 2) := by decide +kernel
theorem dX7_add_34 : decode cX7_add 34 = .ok (.if_icmp .le 5, 3) := by decide +kernel
theorem dX7_add_37 : decode cX7_add 37 = .ok (.iconst (-1), 1) := by decide +kernel
theorem dX7_add_38 : decode cX7_add 38 = .ok (.ireturn, 1) := by decide +kernel
theorem dX7_add_39 : decode cX7_add 39 = .ok (.aload_n 0, 1) := by decide +kernel
theorem dX7_add_40 : decode cX7_add 40 = .ok (.iload_n 1, 1) := by decide +kernel
theorem dX7_add_41 : decode cX7_add 41 = .ok (.iload_n 2, 1) := by decide +kernel
theorem dX7_add_42 : decode cX7_add 42 = .ok (.iload_n 3, 1) := by decide +kernel
theorem dX7_add_43 : decode cX7_add 43 = .ok (.iload 4, 2) := by decide +kernel
theorem dX7_add_45 : decode cX7_add 45 = .ok (.invokevirtual 91, 3) := by decide +kernel
theorem dX7_add_48 : decode cX7_add 48 = .ok (.aload_n 0, 1) := by decide +kernel
theorem dX7_add_49 : decode cX7_add 49 = .ok (.getfield 16, 3) := by decide +kernel
theorem dX7_add_52 : decode cX7_add 52 = .ok (.iload_n 1, 1) := by decide +kernel
theorem dX7_add_53 : decode cX7_add 53 = .ok (.iaload, 1) := by decide +kernel
theorem dX7_add_54 : decode cX7_add 54 = .ok (.ireturn, 1) := by decide +kernel
theorem dX7_cut_0 : decode cX7_cut 0 = .ok (.aload_n 0, 1) := by decide +kernel
theorem dX7_cut_1 : decode cX7_cut 1 = .ok (.iconst 0, 1) := by decide +kernel
theorem dX7_cut_2 : decode cX7_cut 2 = .ok (.putfield 68, 3) := by decide +kernel
theorem dX7_cut_5 : decode cX7_cut 5 = .ok (.aload_n 0, 1) := by decide +kernel
theorem dX7_cut_6 : decode cX7_cut 6 = .ok (.iload_n 1, 1) := by decide +kernel
theorem dX7_cut_7 : decode cX7_cut 7 = .ok (.invokevirtual 95, 3) := by decide +kernel
theorem dX7_cut_10 : decode cX7_cut 10 = .ok (.ifCond .eq 45, 3) := by decide +kernel
theorem dX7_cut_13 : decode cX7_cut 13 = .ok (.iload_n 2, 1) := by decide +kernel
theorem dX7_cut_14 : decode cX7_cut 14 = .ok (.iconst 1, 1) := by decide +kernel
theorem dX7_cut_15 : decode cX7_cut 15 = .ok (.aload_n 0, 1) := by decide +kernel
theorem dX7_cut_16 : decode cX7_cut 16 = .ok (.getfield 16, 3) := by decide +kernel
theorem dX7_cut_19 : decode cX7_cut 19 = .ok (.iload_n 1, 1) := by decide +kernel
theorem dX7_cut_20 : decode cX7_cut 20 = .ok (.iaload, 1) := by decide +kernel
theorem dX7_cut_21 : decode cX7_cut 21 = .ok (.iconst 1, 1) := by decide +kernel
theorem dX7_cut_22 : decode cX7_cut 22 = .ok (.isub, 1) := by decide +kernel
theorem dX7_cut_23 : decode cX7_cut 23 = .ok (.invokestatic 74, 3) := by decide +kernel
theorem dX7_cut_26 : decode cX7_cut 26 = .ok (.ifCond .eq 29, 3) := by decide +kernel
theorem dX7_cut_29 : decode cX7_cut 29 = .ok (.aload_n 0, 1) := by decide +kernel
theorem dX7_cut_30 : decode cX7_cut 30 = .ok (.getfield 71, 3) := by decide +kernel
theorem dX7_cut_33 : decode cX7_cut 33 = .ok (.bipush 40, 2) := by decide +kernel
theorem dX7_cut_35 : decode cX7_cut 35 = .ok (.if_icmp .eq 20, 3) := by decide +kernel
theorem dX7_cut_38 : decode cX7_cut 38 = .ok (.aload_n 0, 1) := by decide +kernel
theorem dX7_cut_39 : decode cX7_cut 39 = .ok (.getfield 22, 3) := by decide +kernel
theorem dX7_cut_42 : decode cX7_cut 42 = .ok (.iload_n 1, 1) := by decide +kernel
theorem dX7_cut_43 : decode cX7_cut 43 = .ok (.iaload, 1) := by decide +kernel
theorem dX7_cut_44 : decode cX7_cut 44 = .ok (.ifCond .le 13, 3) := by decide +kernel
theorem dX7_cut_47 : decode cX7_cut 47 = .ok (.aload_n 0, 1) := by decide +kernel
theorem dX7_cut_48 : decode cX7_cut 48 = .ok (.iconst 1, 1) := by decide +kernel
theorem dX7_cut_49 : decode cX7_cut 49 = .ok (.invokevirtual 99, 3) := by decide +kernel
theorem dX7_cut_52 : decode cX7_cut 52 = .ok (.ifCond .ne 5, 3) := by decide +kernel
theorem dX7_cut_55 : decode cX7_cut 55 = .ok (.iconst (-1), 1) := by decide +kernel
theorem dX7_cut_56 : decode cX7_cut 56 = .ok (.ireturn, 1) := by decide +kernel
theorem dX7_cut_57 : decode cX7_cut 57 = .ok (.aload_n 0, 1) := by decide +kernel
theorem dX7_cut_58 : decode cX7_cut 58 = .ok (.aload_n 0, 1) := by decide +kernel
theorem dX7_cut_59 : decode cX7_cut 59 = .ok (.getfield 19, 3) := by decide +kernel
theorem dX7_cut_62 : decode cX7_cut 62 = .ok (.iload_n 1, 1) := by decide +kernel
theorem dX7_cut_63 : decode cX7_cut 63 = .ok (.iaload, 1) := by decide +kernel
theorem dX7_cut_64 : decode cX7_cut 64 = .ok (.invokevirtual 87, 3) := by decide +kernel
theorem dX7_cut_67 : decode cX7_cut 67 = .ok (.istore_n 3, 1) := by decide +kernel
theorem dX7_cut_68 : decode cX7_cut 68 = .ok (.iload_n 2, 1) := by decide +kernel
theorem dX7_cut_69 : decode cX7_cut 69 = .ok (.istore 4, 2) := by decide +kernel
theorem dX7_cut_71 : decode cX7_cut 71 = .ok (.iload 4, 2) := by decide +kernel
theorem dX7_cut_73 : decode cX7_cut 73 = .ok (.aload_n 0, 1) := by decide +kernel
theorem dX7_cut_74 : decode cX7_cut 74 = .ok (.getfield 16, 3) := by decide +kernel
theorem dX7_cut_77 : decode cX7_cut 77 = .ok (.iload_n 1, 1) := by decide +kernel
theorem dX7_cut_78 : decode cX7_cut 78 = .ok (.iaload, 1) := by decide +kernel
theorem dX7_cut_79 : decode cX7_cut 79 = .ok (.if_icmp .ge 39, 3) := by decide +kernel
theorem dX7_cut_82 : decode cX7_cut 82 = .ok (.aload_n 0, 1) := by decide +kernel
theorem dX7_cut_83 : decode cX7_cut 83 = .ok (.iload_n 3, 1) := by decide +kernel
theorem dX7_cut_84 : decode cX7_cut 84 = .ok (.aload_n 0, 1) := by decide +kernel
theorem dX7_cut_85 : decode cX7_cut 85 = .ok (.getfield 9, 3) := by decide +kernel
theorem dX7_cut_88 : decode cX7_cut 88 = .ok (.bipush 80, 2) := by decide +kernel
theorem dX7_cut_90 : decode cX7_cut 90 = .ok (.iload_n 1, 1) := by decide +kernel
theorem dX7_cut_91 : decode cX7_cut 91 = .ok (.imul, 1) := by decide +kernel
theorem dX7_cut_92 : decode cX7_cut 92 = .ok (.iload 4, 2) := by decide +kernel
theorem dX7_cut_94 : decode cX7_cut 94 = .ok (.iadd, 1) := by decide +kernel
theorem dX7_cut_95 : decode cX7_cut 95 = .ok (.iaload, 1) := by decide +kernel
theorem dX7_cut_96 : decode cX7_cut 96 = .ok (.aload_n 0, 1) := by decide +kernel
theorem dX7_cut_97 : decode cX7_cut 97 = .ok (.getfield 13, 3) := by decide +kernel
theorem dX7_cut_100 : decode cX7_cut 100 = .ok (.bipush 80, 2) := by decide +kernel
theorem dX7_cut_102 : decode cX7_cut 102 = .ok (.iload_n 1, 1) := by decide +kernel
theorem dX7_cut_103 : decode cX7_cut 103 = .ok (.imul, 1) := by decide +kernel
theorem dX7_cut_104 : decode cX7_cut 104 = .ok (.iload 4, 2) := by decide +kernel
theorem dX7_cut_106 : decode cX7_cut 106 = .ok (.iadd, 1) := by decide +kernel
theorem dX7_cut_107 : decode cX7_cut 107 = .ok (.iaload, 1) := by decide +kernel
theorem dX7_cut_108 : decode cX7_cut 108 = .ok (.iconst 1, 1) := by decide +kernel
theorem dX7_cut_109 : decode cX7_cut 109 = .ok (.invokevirtual 91, 3) := by decide +kernel
theorem dX7_cut_112 : decode cX7_cut 112 = .ok (.iinc 4 1, 3) := by decide +kernel
theorem dX7_cut_115 : decode cX7_cut 115 = .ok (.goto (-44), 3) := by decide +kernel
theorem dX7_cut_118 : decode cX7_cut 118 = .ok (.aload_n 0, 1) := by decide +kernel
theorem dX7_cut_119 : decode cX7_cut 119 = .ok (.getfield 16, 3) := by decide +kernel
theorem dX7_cut_122 : decode cX7_cut 122 = .ok (.iload_n 1, 1) := by decide +kernel
theorem dX7_cut_123 : decode cX7_cut 123 = .ok (.iload_n 2, 1) := by decide +kernel
theorem dX7_cut_124 : decode cX7_cut 124 = .ok (.iastore, 1) := by decide +kernel
theorem dX7_cut_125 : decode cX7_cut 125 = .ok (.aload_n 0, 1) := by decide +kernel
theorem dX7_cut_126 : decode cX7_cut 126 = .ok (.getfield 22, 3) := by decide +kernel
theorem dX7_cut_129 : decode cX7_cut 129 = .ok (.iload_n 1, 1) := by decide +kernel
theorem dX7_cut_130 : decode cX7_cut 130 = .ok (.iaload, 1) := by decide +kernel
theorem dX7_cut_131 : decode cX7_cut 131 = .ok (.istore 4, 2) := by decide +kernel
theorem dX7_cut_133 : decode cX7_cut 133 = .ok (.iload 4, 2) := by decide +kernel
theorem dX7_cut_135 : decode cX7_cut 135 = .ok (.ifCond .ne 5, 3) := by decide +kernel
theorem dX7_cut_138 : decode cX7_cut 138 = .ok (.iload_n 3, 1) := by decide +kernel
theorem dX7_cut_139 : decode cX7_cut 139 = .ok (.ireturn, 1) := by decide +kernel
theorem dX7_cut_140 : decode cX7_cut 140 = .ok (.aload_n 0, 1) := by decide +kernel
theorem dX7_cut_141 : decode cX7_cut 141 = .ok (.getfield 22, 3) := by decide +kernel
theorem dX7_cut_144 : decode cX7_cut 144 = .ok (.iload_n 1, 1) := by decide +kernel
theorem dX7_cut_145 : decode cX7_cut 145 = .ok (.iconst 0, 1) := by decide +kernel
theorem dX7_cut_146 : decode cX7_cut 146 = .ok (.iastore, 1) := by decide +kernel
theorem dX7_cut_147 : decode cX7_cut 147 = .ok (.aload_n 0, 1) := by decide +kernel
theorem dX7_cut_148 : decode cX7_cut 148 = .ok (.getfield 38, 3) := by decide +kernel
theorem dX7_cut_151 : decode cX7_cut 151 = .ok (.ifCond .ne 13, 3) := by decide +kernel
theorem dX7_cut_154 : decode cX7_cut 154 = .ok (.aload_n 0, 1) := by decide +kernel
theorem dX7_cut_155 : decode cX7_cut 155 = .ok (.iload 4, 2) := by decide +kernel
theorem dX7_cut_157 : decode cX7_cut 157 = .ok (.iconst 5, 1) := by decide +kernel
theorem dX7_cut_158 : decode cX7_cut 158 = .ok (.iconst 0, 1) := by decide +kernel
theorem dX7_cut_159 : decode cX7_cut 159 = .ok (.invokevirtual 102, 3) := by decide +kernel
theorem dX7_cut_162 : decode cX7_cut 162 = .ok (.iload_n 3, 1) := by decide +kernel
theorem dX7_cut_163 : decode cX7_cut 163 = .ok (.ireturn, 1) := by decide +kernel
theorem dX7_cut_164 : decode cX7_cut 164 = .ok (.aload_n 0, 1) := by decide +kernel
theorem dX7_cut_165 : decode cX7_cut 165 = .ok (.getfield 16, 3) := by decide +kernel
theorem dX7_cut_168 : decode cX7_cut 168 = .ok (.iload_n 3, 1) := by decide +kernel
theorem dX7_cut_169 : decode cX7_cut 169 = .ok (.iaload, 1) := by decide +kernel
theorem dX7_cut_170 : decode cX7_cut 170 = .ok (.aload_n 0, 1) := by decide +kernel
theorem dX7_cut_171 : decode cX7_cut 171 = .ok (.getfield 16, 3) := by decide +kernel
theorem dX7_cut_174 : decode cX7_cut 174 = .ok (.iload_n 1, 1) := by decide +kernel
theorem dX7_cut_175 : decode cX7_cut 175 = .ok (.iaload, 1) := by decide +kernel
theorem dX7_cut_176 : decode cX7_cut 176 = .ok (.if_icmp .le 7, 3) := by decide +kernel
theorem dX7_cut_179 : decode cX7_cut 179 = .ok (.iload_n 3, 1) := by decide +kernel
theorem dX7_cut_180 : decode cX7_cut 180 = .ok (.goto 4, 3) := by decide +kernel
theorem dX7_cut_183 : decode cX7_cut 183 = .ok (.iload_n 1, 1) := by decide +kernel
theorem dX7_cut_184 : decode cX7_cut 184 = .ok (.istore 5, 2) := by decide +kernel
theorem dX7_cut_186 : decode cX7_cut 186 = .ok (.aload_n 0, 1) := by decide +kernel
theorem dX7_cut_187 : decode cX7_cut 187 = .ok (.getfield 22, 3) := by decide +kernel
theorem dX7_cut_190 : decode cX7_cut 190 = .ok (.iload 5, 2) := by decide +kernel
theorem dX7_cut_192 : decode cX7_cut 192 = .ok (.iload 4, 2) := by decide +kernel
theorem dX7_cut_194 : decode cX7_cut 194 = .ok (.iastore, 1) := by decide +kernel
theorem dX7_cut_195 : decode cX7_cut 195 = .ok (.aload_n 0, 1) := by decide +kernel
theorem dX7_cut_196 : decode cX7_cut 196 = .ok (.iload 4, 2) := by decide +kernel
theorem dX7_cut_198 : decode cX7_cut 198 = .ok (.iconst 3, 1) := by decide +kernel
theorem dX7_cut_199 : decode cX7_cut 199 = .ok (.aload_n 0, 1) := by decide +kernel
theorem dX7_cut_200 : decode cX7_cut 200 = .ok (.getfield 16, 3) := by decide +kernel
theorem dX7_cut_203 : decode cX7_cut 203 = .ok (.iload 5, 2) := by decide +kernel
theorem dX7_cut_205 : decode cX7_cut 205 = .ok (.iaload, 1) := by decide +kernel
theorem dX7_cut_206 : decode cX7_cut 206 = .ok (.invokevirtual 102, 3) := by decide +kernel
theorem dX7_cut_209 : decode cX7_cut 209 = .ok (.iload_n 3, 1) := by decide +kernel
theorem dX7_cut_210 : decode cX7_cut 210 = .ok (.ireturn, 1) := by decide +kernel
theorem dX7_join_0 : decode cX7_join 0 = .ok (.aload_n 0, 1) := by decide +kernel
theorem dX7_join_1 : decode cX7_join 1 = .ok (.iconst 0, 1) := by decide +kernel
theorem dX7_join_2 : decode cX7_join 2 = .ok (.putfield 68, 3) := by decide +kernel
theorem dX7_join_5 : decode cX7_join 5 = .ok (.aload_n 0, 1) := by decide +kernel
theorem dX7_join_6 : decode cX7_join 6 = .ok (.iload_n 1, 1) := by decide +kernel
theorem dX7_join_7 : decode cX7_join 7 = .ok (.invokevirtual 95, 3) := by decide +kernel
theorem dX7_join_10 : decode cX7_join 10 = .ok (.ifCond .eq 49, 3) := by decide +kernel
theorem dX7_join_13 : decode cX7_join 13 = .ok (.aload_n 0, 1) := by decide +kernel
theorem dX7_join_14 : decode cX7_join 14 = .ok (.iload_n 2, 1) := by decide +kernel
theorem dX7_join_15 : decode cX7_join 15 = .ok (.invokevirtual 95, 3) := by decide +kernel
theorem dX7_join_18 : decode cX7_join 18 = .ok (.ifCond .eq 41, 3) := by decide +kernel
theorem dX7_join_21 : decode cX7_join 21 = .ok (.iload_n 1, 1) := by decide +kernel
theorem dX7_join_22 : decode cX7_join 22 = .ok (.iload_n 2, 1) := by decide +kernel
theorem dX7_join_23 : decode cX7_join 23 = .ok (.if_icmp .eq 36, 3) := by decide +kernel
theorem dX7_join_26 : decode cX7_join 26 = .ok (.aload_n 0, 1) := by decide +kernel
theorem dX7_join_27 : decode cX7_join 27 = .ok (.getfield 19, 3) := by decide +kernel
theorem dX7_join_30 : decode cX7_join 30 = .ok (.iload_n 1, 1) := by decide +kernel
theorem dX7_join_31 : decode cX7_join 31 = .ok (.iaload, 1) := by decide +kernel
theorem dX7_join_32 : decode cX7_join 32 = .ok (.aload_n 0, 1) := by decide +kernel
theorem dX7_join_33 : decode cX7_join 33 = .ok (.getfield 19, 3) := by decide +kernel
theorem dX7_join_36 : decode cX7_join 36 = .ok (.iload_n 2, 1) := by decide +kernel
theorem dX7_join_37 : decode cX7_join 37 = .ok (.iaload, 1) := by decide +kernel
theorem dX7_join_38 : decode cX7_join 38 = .ok (.if_icmp .ne 21, 3) := by decide +kernel
theorem dX7_join_41 : decode cX7_join 41 = .ok (.aload_n 0, 1) := by decide +kernel
theorem dX7_join_42 : decode cX7_join 42 = .ok (.getfield 16, 3) := by decide +kernel
theorem dX7_join_45 : decode cX7_join 45 = .ok (.iload_n 1, 1) := by decide +kernel
theorem dX7_join_46 : decode cX7_join 46 = .ok (.iaload, 1) := by decide +kernel
theorem dX7_join_47 : decode cX7_join 47 = .ok (.aload_n 0, 1) := by decide +kernel
theorem dX7_join_48 : decode cX7_join 48 = .ok (.getfield 16, 3) := by decide +kernel
theorem dX7_join_51 : decode cX7_join 51 = .ok (.iload_n 2, 1) := by decide +kernel
theorem dX7_join_52 : decode cX7_join 52 = .ok (.iaload, 1) := by decide +kernel
theorem dX7_join_53 : decode cX7_join 53 = .ok (.iadd, 1) := by decide +kernel
theorem dX7_join_54 : decode cX7_join 54 = .ok (.bipush 80, 2) := by decide +kernel
theorem dX7_join_56 : decode cX7_join 56 = .ok (.if_icmp .le 5, 3) := by decide +kernel
theorem dX7_join_59 : decode cX7_join 59 = .ok (.iconst (-1), 1) := by decide +kernel
theorem dX7_join_60 : decode cX7_join 60 = .ok (.ireturn, 1) := by decide +kernel
theorem dX7_join_61 : decode cX7_join 61 = .ok (.aload_n 0, 1) := by decide +kernel
theorem dX7_join_62 : decode cX7_join 62 = .ok (.getfield 22, 3) := by decide +kernel
theorem dX7_join_65 : decode cX7_join 65 = .ok (.iload_n 1, 1) := by decide +kernel
theorem dX7_join_66 : decode cX7_join 66 = .ok (.iaload, 1) := by decide +kernel
theorem dX7_join_67 : decode cX7_join 67 = .ok (.ifCond .le 7, 3) := by decide +kernel
theorem dX7_join_70 : decode cX7_join 70 = .ok (.iconst 1, 1) := by decide +kernel
theorem dX7_join_71 : decode cX7_join 71 = .ok (.goto 4, 3) := by decide +kernel
theorem dX7_join_74 : decode cX7_join 74 = .ok (.iconst 0, 1) := by decide +kernel
theorem dX7_join_75 : decode cX7_join 75 = .ok (.aload_n 0, 1) := by decide +kernel
theorem dX7_join_76 : decode cX7_join 76 = .ok (.getfield 22, 3) := by decide +kernel
theorem dX7_join_79 : decode cX7_join 79 = .ok (.iload_n 2, 1) := by decide +kernel
theorem dX7_join_80 : decode cX7_join 80 = .ok (.iaload, 1) := by decide +kernel
theorem dX7_join_81 : decode cX7_join 81 = .ok (.ifCond .le 7, 3) := by decide +kernel
theorem dX7_join_84 : decode cX7_join 84 = .ok (.iconst 1, 1) := by decide +kernel
theorem dX7_join_85 : decode cX7_join 85 = .ok (.goto 4, 3) := by decide +kernel
theorem dX7_join_88 : decode cX7_join 88 = .ok (.iconst 0, 1) := by decide +kernel
theorem dX7_join_89 : decode cX7_join 89 = .ok (.iadd, 1) := by decide +kernel
theorem dX7_join_90 : decode cX7_join 90 = .ok (.istore_n 3, 1) := by decide +kernel
theorem dX7_join_91 : decode cX7_join 91 = .ok (.aload_n 0, 1) := by decide +kernel
theorem dX7_join_92 : decode cX7_join 92 = .ok (.iload_n 3, 1) := by decide +kernel
theorem dX7_join_93 : decode cX7_join 93 = .ok (.invokevirtual 99, 3) := by decide +kernel
theorem dX7_join_96 : decode cX7_join 96 = .ok (.ifCond .ne 5, 3) := by decide +kernel
theorem dX7_join_99 : decode cX7_join 99 = .ok (.iconst (-1), 1) := by decide +kernel
theorem dX7_join_100 : decode cX7_join 100 = .ok (.ireturn, 1) := by decide +kernel
theorem dX7_join_101 : decode cX7_join 101 = .ok (.iconst 0, 1) := by decide +kernel
theorem dX7_join_102 : decode cX7_join 102 = .ok (.istore 4, 2) := by decide +kernel
theorem dX7_join_104 : decode cX7_join 104 = .ok (.iload 4, 2) := by decide +kernel
theorem dX7_join_106 : decode cX7_join 106 = .ok (.aload_n 0, 1) := by decide +kernel
theorem dX7_join_107 : decode cX7_join 107 = .ok (.getfield 16, 3) := by decide +kernel
theorem dX7_join_110 : decode cX7_join 110 = .ok (.iload_n 2, 1) := by decide +kernel
theorem dX7_join_111 : decode cX7_join 111 = .ok (.iaload, 1) := by decide +kernel
theorem dX7_join_112 : decode cX7_join 112 = .ok (.if_icmp .ge 39, 3) := by decide +kernel
theorem dX7_join_115 : decode cX7_join 115 = .ok (.aload_n 0, 1) := by decide +kernel
theorem dX7_join_116 : decode cX7_join 116 = .ok (.iload_n 1, 1) := by decide +kernel
theorem dX7_join_117 : decode cX7_join 117 = .ok (.aload_n 0, 1) := by decide +kernel
theorem dX7_join_118 : decode cX7_join 118 = .ok (.getfield 9, 3) := by decide +kernel
theorem dX7_join_121 : decode cX7_join 121 = .ok (.bipush 80, 2) := by decide +kernel
theorem dX7_join_123 : decode cX7_join 123 = .ok (.iload_n 2, 1) := by decide +kernel
theorem dX7_join_124 : decode cX7_join 124 = .ok (.imul, 1) := by decide +kernel
theorem dX7_join_125 : decode cX7_join 125 = .ok (.iload 4, 2) := by decide +kernel
theorem dX7_join_127 : decode cX7_join 127 = .ok (.iadd, 1) := by decide +kernel
theorem dX7_join_128 : decode cX7_join 128 = .ok (.iaload, 1) := by decide +kernel
theorem dX7_join_129 : decode cX7_join 129 = .ok (.aload_n 0, 1) := by decide +kernel
theorem dX7_join_130 : decode cX7_join 130 = .ok (.getfield 13, 3) := by decide +kernel
theorem dX7_join_133 : decode cX7_join 133 = .ok (.bipush 80, 2) := by decide +kernel
theorem dX7_join_135 : decode cX7_join 135 = .ok (.iload_n 2, 1) := by decide +kernel
theorem dX7_join_136 : decode cX7_join 136 = .ok (.imul, 1) := by decide +kernel
theorem dX7_join_137 : decode cX7_join 137 = .ok (.iload 4, 2) := by decide +kernel
theorem dX7_join_139 : decode cX7_join 139 = .ok (.iadd, 1) := by decide +kernel
theorem dX7_join_140 : decode cX7_join 140 = .ok (.iaload, 1) := by decide +kernel
theorem dX7_join_141 : decode cX7_join 141 = .ok (.iconst 1, 1) := by decide +kernel
theorem dX7_join_142 : decode cX7_join 142 = .ok (.invokevirtual 91, 3) := by decide +kernel
theorem dX7_join_145 : decode cX7_join 145 = .ok (.iinc 4 1, 3) := by decide +kernel
theorem dX7_join_148 : decode cX7_join 148 = .ok (.goto (-44), 3) := by decide +kernel
theorem dX7_join_151 : decode cX7_join 151 = .ok (.aload_n 0, 1) := by decide +kernel
theorem dX7_join_152 : decode cX7_join 152 = .ok (.getfield 16, 3) := by decide +kernel
theorem dX7_join_155 : decode cX7_join 155 = .ok (.iload_n 2, 1) := by decide +kernel
theorem dX7_join_156 : decode cX7_join 156 = .ok (.iconst 0, 1) := by decide +kernel
theorem dX7_join_157 : decode cX7_join 157 = .ok (.iastore, 1) := by decide +kernel
theorem dX7_join_158 : decode cX7_join 158 = .ok (.aload_n 0, 1) := by decide +kernel
theorem dX7_join_159 : decode cX7_join 159 = .ok (.getfield 22, 3) := by decide +kernel
theorem dX7_join_162 : decode cX7_join 162 = .ok (.iload_n 1, 1) := by decide +kernel
theorem dX7_join_163 : decode cX7_join 163 = .ok (.iaload, 1) := by decide +kernel
theorem dX7_join_164 : decode cX7_join 164 = .ok (.ifCond .le 24, 3) := by decide +kernel
theorem dX7_join_167 : decode cX7_join 167 = .ok (.aload_n 0, 1) := by decide +kernel
theorem dX7_join_168 : decode cX7_join 168 = .ok (.getfield 22, 3) := by decide +kernel
theorem dX7_join_171 : decode cX7_join 171 = .ok (.iload_n 2, 1) := by decide +kernel
theorem dX7_join_172 : decode cX7_join 172 = .ok (.iaload, 1) := by decide +kernel
theorem dX7_join_173 : decode cX7_join 173 = .ok (.ifCond .le 15, 3) := by decide +kernel
theorem dX7_join_176 : decode cX7_join 176 = .ok (.aload_n 0, 1) := by decide +kernel
theorem dX7_join_177 : decode cX7_join 177 = .ok (.aload_n 0, 1) := by decide +kernel
theorem dX7_join_178 : decode cX7_join 178 = .ok (.getfield 22, 3) := by decide +kernel
theorem dX7_join_181 : decode cX7_join 181 = .ok (.iload_n 2, 1) := by decide +kernel
theorem dX7_join_182 : decode cX7_join 182 = .ok (.iaload, 1) := by decide +kernel
theorem dX7_join_183 : decode cX7_join 183 = .ok (.iconst 5, 1) := by decide +kernel
theorem dX7_join_184 : decode cX7_join 184 = .ok (.iconst 0, 1) := by decide +kernel
theorem dX7_join_185 : decode cX7_join 185 = .ok (.invokevirtual 102, 3) := by decide +kernel
theorem dX7_join_188 : decode cX7_join 188 = .ok (.aload_n 0, 1) := by decide +kernel
theorem dX7_join_189 : decode cX7_join 189 = .ok (.getfield 22, 3) := by decide +kernel
theorem dX7_join_192 : decode cX7_join 192 = .ok (.iload_n 1, 1) := by decide +kernel
theorem dX7_join_193 : decode cX7_join 193 = .ok (.iaload, 1) := by decide +kernel
theorem dX7_join_194 : decode cX7_join 194 = .ok (.ifCond .ne 15, 3) := by decide +kernel
theorem dX7_join_197 : decode cX7_join 197 = .ok (.aload_n 0, 1) := by decide +kernel
theorem dX7_join_198 : decode cX7_join 198 = .ok (.getfield 22, 3) := by decide +kernel
theorem dX7_join_201 : decode cX7_join 201 = .ok (.iload_n 1, 1) := by decide +kernel
theorem dX7_join_202 : decode cX7_join 202 = .ok (.aload_n 0, 1) := by decide +kernel
theorem dX7_join_203 : decode cX7_join 203 = .ok (.getfield 22, 3) := by decide +kernel
theorem dX7_join_206 : decode cX7_join 206 = .ok (.iload_n 2, 1) := by decide +kernel
theorem dX7_join_207 : decode cX7_join 207 = .ok (.iaload, 1) := by decide +kernel
theorem dX7_join_208 : decode cX7_join 208 = .ok (.iastore, 1) := by decide +kernel
theorem dX7_join_209 : decode cX7_join 209 = .ok (.aload_n 0, 1) := by decide +kernel
theorem dX7_join_210 : decode cX7_join 210 = .ok (.getfield 22, 3) := by decide +kernel
theorem dX7_join_213 : decode cX7_join 213 = .ok (.iload_n 1, 1) := by decide +kernel
theorem dX7_join_214 : decode cX7_join 214 = .ok (.iaload, 1) := by decide +kernel
theorem dX7_join_215 : decode cX7_join 215 = .ok (.ifCond .le 20, 3) := by decide +kernel
theorem dX7_join_218 : decode cX7_join 218 = .ok (.aload_n 0, 1) := by decide +kernel
theorem dX7_join_219 : decode cX7_join 219 = .ok (.aload_n 0, 1) := by decide +kernel
theorem dX7_join_220 : decode cX7_join 220 = .ok (.getfield 22, 3) := by decide +kernel
theorem dX7_join_223 : decode cX7_join 223 = .ok (.iload_n 1, 1) := by decide +kernel
theorem dX7_join_224 : decode cX7_join 224 = .ok (.iaload, 1) := by decide +kernel
theorem dX7_join_225 : decode cX7_join 225 = .ok (.iconst 4, 1) := by decide +kernel
theorem dX7_join_226 : decode cX7_join 226 = .ok (.aload_n 0, 1) := by decide +kernel
theorem dX7_join_227 : decode cX7_join 227 = .ok (.getfield 16, 3) := by decide +kernel
theorem dX7_join_230 : decode cX7_join 230 = .ok (.iload_n 1, 1) := by decide +kernel
theorem dX7_join_231 : decode cX7_join 231 = .ok (.iaload, 1) := by decide +kernel
theorem dX7_join_232 : decode cX7_join 232 = .ok (.invokevirtual 102, 3) := by decide +kernel
theorem dX7_join_235 : decode cX7_join 235 = .ok (.aload_n 0, 1) := by decide +kernel
theorem dX7_join_236 : decode cX7_join 236 = .ok (.getfield 22, 3) := by decide +kernel
theorem dX7_join_239 : decode cX7_join 239 = .ok (.iload_n 2, 1) := by decide +kernel
theorem dX7_join_240 : decode cX7_join 240 = .ok (.iconst 0, 1) := by decide +kernel
theorem dX7_join_241 : decode cX7_join 241 = .ok (.iastore, 1) := by decide +kernel
theorem dX7_join_242 : decode cX7_join 242 = .ok (.aload_n 0, 1) := by decide +kernel
theorem dX7_join_243 : decode cX7_join 243 = .ok (.getfield 16, 3) := by decide +kernel
theorem dX7_join_246 : decode cX7_join 246 = .ok (.iload_n 1, 1) := by decide +kernel
theorem dX7_join_247 : decode cX7_join 247 = .ok (.iaload, 1) := by decide +kernel
theorem dX7_join_248 : decode cX7_join 248 = .ok (.ireturn, 1) := by decide +kernel
theorem dX7_turn_0 : decode cX7_turn 0 = .ok (.aload_n 0, 1) := by decide +kernel
theorem dX7_turn_1 : decode cX7_turn 1 = .ok (.iconst 0, 1) := by decide +kernel
theorem dX7_turn_2 : decode cX7_turn 2 = .ok (.putfield 68, 3) := by decide +kernel
theorem dX7_turn_5 : decode cX7_turn 5 = .ok (.aload_n 0, 1) := by decide +kernel
theorem dX7_turn_6 : decode cX7_turn 6 = .ok (.iload_n 1, 1) := by decide +kernel
theorem dX7_turn_7 : decode cX7_turn 7 = .ok (.invokevirtual 95, 3) := by decide +kernel
theorem dX7_turn_10 : decode cX7_turn 10 = .ok (.ifCond .ne 5, 3) := by decide +kernel
theorem dX7_turn_13 : decode cX7_turn 13 = .ok (.iconst 0, 1) := by decide +kernel
theorem dX7_turn_14 : decode cX7_turn 14 = .ok (.ireturn, 1) := by decide +kernel
theorem dX7_turn_15 : decode cX7_turn 15 = .ok (.iconst 0, 1) := by decide +kernel
theorem dX7_turn_16 : decode cX7_turn 16 = .ok (.istore_n 2, 1) := by decide +kernel
theorem dX7_turn_17 : decode cX7_turn 17 = .ok (.iload_n 2, 1) := by decide +kernel
theorem dX7_turn_18 : decode cX7_turn 18 = .ok (.aload_n 0, 1) := by decide +kernel
theorem dX7_turn_19 : decode cX7_turn 19 = .ok (.getfield 16, 3) := by decide +kernel
theorem dX7_turn_22 : decode cX7_turn 22 = .ok (.iload_n 1, 1) := by decide +kernel
theorem dX7_turn_23 : decode cX7_turn 23 = .ok (.iaload, 1) := by decide +kernel
theorem dX7_turn_24 : decode cX7_turn 24 = .ok (.iconst 2, 1) := by decide +kernel
theorem dX7_turn_25 : decode cX7_turn 25 = .ok (.idiv, 1) := by decide +kernel
theorem dX7_turn_26 : decode cX7_turn 26 = .ok (.if_icmp .ge 93, 3) := by decide +kernel
theorem dX7_turn_29 : decode cX7_turn 29 = .ok (.bipush 80, 2) := by decide +kernel
theorem dX7_turn_31 : decode cX7_turn 31 = .ok (.iload_n 1, 1) := by decide +kernel
theorem dX7_turn_32 : decode cX7_turn 32 = .ok (.imul, 1) := by decide +kernel
theorem dX7_turn_33 : decode cX7_turn 33 = .ok (.iload_n 2, 1) := by decide +kernel
theorem dX7_turn_34 : decode cX7_turn 34 = .ok (.iadd, 1) := by decide +kernel
theorem dX7_turn_35 : decode cX7_turn 35 = .ok (.istore_n 3, 1) := by decide +kernel
theorem dX7_turn_36 : decode cX7_turn 36 = .ok (.bipush 80, 2) := by decide +kernel
theorem dX7_turn_38 : decode cX7_turn 38 = .ok (.iload_n 1, 1) := by decide +kernel
theorem dX7_turn_39 : decode cX7_turn 39 = .ok (.imul, 1) := by decide +kernel
theorem dX7_turn_40 : decode cX7_turn 40 = .ok (.aload_n 0, 1) := by decide +kernel
theorem dX7_turn_41 : decode cX7_turn 41 = .ok (.getfield 16, 3) := by decide +kernel
theorem dX7_turn_44 : decode cX7_turn 44 = .ok (.iload_n 1, 1) := by decide +kernel
theorem dX7_turn_45 : decode cX7_turn 45 = .ok (.iaload, 1) := by decide +kernel
theorem dX7_turn_46 : decode cX7_turn 46 = .ok (.iadd, 1) := by decide +kernel
theorem dX7_turn_47 : decode cX7_turn 47 = .ok (.iconst 1, 1) := by decide +kernel
theorem dX7_turn_48 : decode cX7_turn 48 = .ok (.isub, 1) := by decide +kernel
theorem dX7_turn_49 : decode cX7_turn 49 = .ok (.iload_n 2, 1) := by decide +kernel
theorem dX7_turn_50 : decode cX7_turn 50 = .ok (.isub, 1) := by decide +kernel
theorem dX7_turn_51 : decode cX7_turn 51 = .ok (.istore 4, 2) := by decide +kernel
theorem dX7_turn_53 : decode cX7_turn 53 = .ok (.aload_n 0, 1) := by decide +kernel
theorem dX7_turn_54 : decode cX7_turn 54 = .ok (.getfield 9, 3) := by decide +kernel
theorem dX7_turn_57 : decode cX7_turn 57 = .ok (.iload_n 3, 1) := by decide +kernel
theorem dX7_turn_58 : decode cX7_turn 58 = .ok (.iaload, 1) := by decide +kernel
theorem dX7_turn_59 : decode cX7_turn 59 = .ok (.istore 5, 2) := by decide +kernel
theorem dX7_turn_61 : decode cX7_turn 61 = .ok (.aload_n 0, 1) := by decide +kernel
theorem dX7_turn_62 : decode cX7_turn 62 = .ok (.getfield 13, 3) := by decide +kernel
theorem dX7_turn_65 : decode cX7_turn 65 = .ok (.iload_n 3, 1) := by decide +kernel
theorem dX7_turn_66 : decode cX7_turn 66 = .ok (.iaload, 1) := by decide +kernel
theorem dX7_turn_67 : decode cX7_turn 67 = .ok (.istore 6, 2) := by decide +kernel
theorem dX7_turn_69 : decode cX7_turn 69 = .ok (.aload_n 0, 1) := by decide +kernel
theorem dX7_turn_70 : decode cX7_turn 70 = .ok (.getfield 9, 3) := by decide +kernel
theorem dX7_turn_73 : decode cX7_turn 73 = .ok (.iload_n 3, 1) := by decide +kernel
theorem dX7_turn_74 : decode cX7_turn 74 = .ok (.aload_n 0, 1) := by decide +kernel
theorem dX7_turn_75 : decode cX7_turn 75 = .ok (.getfield 9, 3) := by decide +kernel
theorem dX7_turn_78 : decode cX7_turn 78 = .ok (.iload 4, 2) := by decide +kernel
theorem dX7_turn_80 : decode cX7_turn 80 = .ok (.iaload, 1) := by decide +kernel
theorem dX7_turn_81 : decode cX7_turn 81 = .ok (.iastore, 1) := by decide +kernel
theorem dX7_turn_82 : decode cX7_turn 82 = .ok (.aload_n 0, 1) := by decide +kernel
theorem dX7_turn_83 : decode cX7_turn 83 = .ok (.getfield 13, 3) := by decide +kernel
theorem dX7_turn_86 : decode cX7_turn 86 = .ok (.iload_n 3, 1) := by decide +kernel
theorem dX7_turn_87 : decode cX7_turn 87 = .ok (.aload_n 0, 1) := by decide +kernel
theorem dX7_turn_88 : decode cX7_turn 88 = .ok (.getfield 13, 3) := by decide +kernel
theorem dX7_turn_91 : decode cX7_turn 91 = .ok (.iload 4, 2) := by decide +kernel
theorem dX7_turn_93 : decode cX7_turn 93 = .ok (.iaload, 1) := by decide +kernel
theorem dX7_turn_94 : decode cX7_turn 94 = .ok (.iastore, 1) := by decide +kernel
theorem dX7_turn_95 : decode cX7_turn 95 = .ok (.aload_n 0, 1) := by decide +kernel
theorem dX7_turn_96 : decode cX7_turn 96 = .ok (.getfield 9, 3) := by decide +kernel
theorem dX7_turn_99 : decode cX7_turn 99 = .ok (.iload 4, 2) := by decide +kernel
theorem dX7_turn_101 : decode cX7_turn 101 = .ok (.iload 5, 2) := by decide +kernel
theorem dX7_turn_103 : decode cX7_turn 103 = .ok (.iastore, 1) := by decide +kernel
theorem dX7_turn_104 : decode cX7_turn 104 = .ok (.aload_n 0, 1) := by decide +kernel
theorem dX7_turn_105 : decode cX7_turn 105 = .ok (.getfield 13, 3) := by decide +kernel
theorem dX7_turn_108 : decode cX7_turn 108 = .ok (.iload 4, 2) := by decide +kernel
theorem dX7_turn_110 : decode cX7_turn 110 = .ok (.iload 6, 2) := by decide +kernel
theorem dX7_turn_112 : decode cX7_turn 112 = .ok (.iastore, 1) := by decide +kernel
theorem dX7_turn_113 : decode cX7_turn 113 = .ok (.iinc 2 1, 3) := by decide +kernel
theorem dX7_turn_116 : decode cX7_turn 116 = .ok (.goto (-99), 3) := by decide +kernel
theorem dX7_turn_119 : decode cX7_turn 119 = .ok (.iconst 1, 1) := by decide +kernel
theorem dX7_turn_120 : decode cX7_turn 120 = .ok (.ireturn, 1) := by decide +kernel
theorem dX7_whose_0 : decode cX7_whose 0 = .ok (.iconst 0, 1) := by decide +kernel
theorem dX7_whose_1 : decode cX7_whose 1 = .ok (.istore_n 2, 1) := by decide +kernel
theorem dX7_whose_2 : decode cX7_whose 2 = .ok (.iload_n 2, 1) := by decide +kernel
theorem dX7_whose_3 : decode cX7_whose 3 = .ok (.aload_n 0, 1) := by decide +kernel
theorem dX7_whose_4 : decode cX7_whose 4 = .ok (.getfield 71, 3) := by decide +kernel
theorem dX7_whose_7 : decode cX7_whose 7 = .ok (.if_icmp .ge 34, 3) := by decide +kernel
theorem dX7_whose_10 : decode cX7_whose 10 = .ok (.iload_n 1, 1) := by decide +kernel
theorem dX7_whose_11 : decode cX7_whose 11 = .ok (.ifCond .le 24, 3) := by decide +kernel
theorem dX7_whose_14 : decode cX7_whose 14 = .ok (.aload_n 0, 1) := by decide +kernel
theorem dX7_whose_15 : decode cX7_whose 15 = .ok (.getfield 16, 3) := by decide +kernel
theorem dX7_whose_18 : decode cX7_whose 18 = .ok (.iload_n 2, 1) := by decide +kernel
theorem dX7_whose_19 : decode cX7_whose 19 = .ok (.iaload, 1) := by decide +kernel
theorem dX7_whose_20 : decode cX7_whose 20 = .ok (.ifCond .le 15, 3) := by decide +kernel
theorem dX7_whose_23 : decode cX7_whose 23 = .ok (.aload_n 0, 1) := by decide +kernel
theorem dX7_whose_24 : decode cX7_whose 24 = .ok (.getfield 22, 3) := by decide +kernel
theorem dX7_whose_27 : decode cX7_whose 27 = .ok (.iload_n 2, 1) := by decide +kernel
theorem dX7_whose_28 : decode cX7_whose 28 = .ok (.iaload, 1) := by decide +kernel
theorem dX7_whose_29 : decode cX7_whose 29 = .ok (.iload_n 1, 1) := by decide +kernel
theorem dX7_whose_30 : decode cX7_whose 30 = .ok (.if_icmp .ne 5, 3) := by decide +kernel
theorem dX7_whose_33 : decode cX7_whose 33 = .ok (.iload_n 2, 1) := by decide +kernel
theorem dX7_whose_34 : decode cX7_whose 34 = .ok (.ireturn, 1) := by decide +kernel
theorem dX7_whose_35 : decode cX7_whose 35 = .ok (.iinc 2 1, 3) := by decide +kernel
theorem dX7_whose_38 : decode cX7_whose 38 = .ok (.goto (-36), 3) := by decide +kernel
theorem dX7_whose_41 : decode cX7_whose 41 = .ok (.iconst (-1), 1) := by decide +kernel
theorem dX7_whose_42 : decode cX7_whose 42 = .ok (.ireturn, 1) := by decide +kernel
theorem dX7_name_0 : decode cX7_name 0 = .ok (.aload_n 0, 1) := by decide +kernel
theorem dX7_name_1 : decode cX7_name 1 = .ok (.iconst 0, 1) := by decide +kernel
theorem dX7_name_2 : decode cX7_name 2 = .ok (.putfield 68, 3) := by decide +kernel
theorem dX7_name_5 : decode cX7_name 5 = .ok (.aload_n 0, 1) := by decide +kernel
theorem dX7_name_6 : decode cX7_name 6 = .ok (.iload_n 1, 1) := by decide +kernel
theorem dX7_name_7 : decode cX7_name 7 = .ok (.invokevirtual 95, 3) := by decide +kernel
theorem dX7_name_10 : decode cX7_name 10 = .ok (.ifCond .eq 43, 3) := by decide +kernel
theorem dX7_name_13 : decode cX7_name 13 = .ok (.iload_n 2, 1) := by decide +kernel
theorem dX7_name_14 : decode cX7_name 14 = .ok (.iconst 1, 1) := by decide +kernel
theorem dX7_name_15 : decode cX7_name 15 = .ok (.bipush 99, 2) := by decide +kernel
theorem dX7_name_17 : decode cX7_name 17 = .ok (.invokestatic 74, 3) := by decide +kernel
theorem dX7_name_20 : decode cX7_name 20 = .ok (.ifCond .eq 33, 3) := by decide +kernel
theorem dX7_name_23 : decode cX7_name 23 = .ok (.aload_n 0, 1) := by decide +kernel
theorem dX7_name_24 : decode cX7_name 24 = .ok (.iload_n 2, 1) := by decide +kernel
theorem dX7_name_25 : decode cX7_name 25 = .ok (.invokevirtual 106, 3) := by decide +kernel
theorem dX7_name_28 : decode cX7_name 28 = .ok (.iconst (-1), 1) := by decide +kernel
theorem dX7_name_29 : decode cX7_name 29 = .ok (.if_icmp .ne 24, 3) := by decide +kernel
theorem dX7_name_32 : decode cX7_name 32 = .ok (.aload_n 0, 1) := by decide +kernel
theorem dX7_name_33 : decode cX7_name 33 = .ok (.aload_n 0, 1) := by decide +kernel
theorem dX7_name_34 : decode cX7_name 34 = .ok (.getfield 22, 3) := by decide +kernel
theorem dX7_name_37 : decode cX7_name 37 = .ok (.iload_n 1, 1) := by decide +kernel
theorem dX7_name_38 : decode cX7_name 38 = .ok (.iaload, 1) := by decide +kernel
theorem dX7_name_39 : decode cX7_name 39 = .ok (.ifCond .le 7, 3) := by decide +kernel
theorem dX7_name_42 : decode cX7_name 42 = .ok (.iconst 2, 1) := by decide +kernel
theorem dX7_name_43 : decode cX7_name 43 = .ok (.goto 4, 3) := by decide +kernel
theorem dX7_name_46 : decode cX7_name 46 = .ok (.iconst 1, 1) := by decide +kernel
theorem dX7_name_47 : decode cX7_name 47 = .ok (.invokevirtual 99, 3) := by decide +kernel
theorem dX7_name_50 : decode cX7_name 50 = .ok (.ifCond .ne 5, 3) := by decide +kernel
theorem dX7_name_53 : decode cX7_name 53 = .ok (.iconst 0, 1) := by decide +kernel
theorem dX7_name_54 : decode cX7_name 54 = .ok (.ireturn, 1) := by decide +kernel
theorem dX7_name_55 : decode cX7_name 55 = .ok (.aload_n 0, 1) := by decide +kernel
theorem dX7_name_56 : decode cX7_name 56 = .ok (.getfield 22, 3) := by decide +kernel
theorem dX7_name_59 : decode cX7_name 59 = .ok (.iload_n 1, 1) := by decide +kernel
theorem dX7_name_60 : decode cX7_name 60 = .ok (.iaload, 1) := by decide +kernel
theorem dX7_name_61 : decode cX7_name 61 = .ok (.ifCond .le 15, 3) := by decide +kernel
theorem dX7_name_64 : decode cX7_name 64 = .ok (.aload_n 0, 1) := by decide +kernel
theorem dX7_name_65 : decode cX7_name 65 = .ok (.aload_n 0, 1) := by decide +kernel
theorem dX7_name_66 : decode cX7_name 66 = .ok (.getfield 22, 3) := by decide +kernel
theorem dX7_name_69 : decode cX7_name 69 = .ok (.iload_n 1, 1) := by decide +kernel
theorem dX7_name_70 : decode cX7_name 70 = .ok (.iaload, 1) := by decide +kernel
theorem dX7_name_71 : decode cX7_name 71 = .ok (.iconst 5, 1) := by decide +kernel
theorem dX7_name_72 : decode cX7_name 72 = .ok (.iconst 0, 1) := by decide +kernel
theorem dX7_name_73 : decode cX7_name 73 = .ok (.invokevirtual 102, 3) := by decide +kernel
theorem dX7_name_76 : decode cX7_name 76 = .ok (.aload_n 0, 1) := by decide +kernel
theorem dX7_name_77 : decode cX7_name 77 = .ok (.getfield 22, 3) := by decide +kernel
theorem dX7_name_80 : decode cX7_name 80 = .ok (.iload_n 1, 1) := by decide +kernel
theorem dX7_name_81 : decode cX7_name 81 = .ok (.iload_n 2, 1) := by decide +kernel
theorem dX7_name_82 : decode cX7_name 82 = .ok (.iastore, 1) := by decide +kernel
theorem dX7_name_83 : decode cX7_name 83 = .ok (.aload_n 0, 1) := by decide +kernel
theorem dX7_name_84 : decode cX7_name 84 = .ok (.iload_n 2, 1) := by decide +kernel
theorem dX7_name_85 : decode cX7_name 85 = .ok (.iconst 1, 1) := by decide +kernel
theorem dX7_name_86 : decode cX7_name 86 = .ok (.aload_n 0, 1) := by decide +kernel
theorem dX7_name_87 : decode cX7_name 87 = .ok (.getfield 19, 3) := by decide +kernel
theorem dX7_name_90 : decode cX7_name 90 = .ok (.iload_n 1, 1) := by decide +kernel
theorem dX7_name_91 : decode cX7_name 91 = .ok (.iaload, 1) := by decide +kernel
theorem dX7_name_92 : decode cX7_name 92 = .ok (.invokevirtual 102, 3) := by decide +kernel
theorem dX7_name_95 : decode cX7_name 95 = .ok (.iconst 1, 1) := by decide +kernel
theorem dX7_name_96 : decode cX7_name 96 = .ok (.ireturn, 1) := by decide +kernel
theorem dX7_hand_0 : decode cX7_hand 0 = .ok (.aload_n 0, 1) := by decide +kernel
theorem dX7_hand_1 : decode cX7_hand 1 = .ok (.getfield 19, 3) := by decide +kernel
theorem dX7_hand_4 : decode cX7_hand 4 = .ok (.iload_n 1, 1) := by decide +kernel
theorem dX7_hand_5 : decode cX7_hand 5 = .ok (.iload_n 2, 1) := by decide +kernel
theorem dX7_hand_6 : decode cX7_hand 6 = .ok (.iastore, 1) := by decide +kernel
theorem dX7_hand_7 : decode cX7_hand 7 = .ok (.aload_n 0, 1) := by decide +kernel
theorem dX7_hand_8 : decode cX7_hand 8 = .ok (.getfield 22, 3) := by decide +kernel
theorem dX7_hand_11 : decode cX7_hand 11 = .ok (.iload_n 1, 1) := by decide +kernel
theorem dX7_hand_12 : decode cX7_hand 12 = .ok (.iaload, 1) := by decide +kernel
theorem dX7_hand_13 : decode cX7_hand 13 = .ok (.ifCond .le 15, 3) := by decide +kernel
theorem dX7_hand_16 : decode cX7_hand 16 = .ok (.aload_n 0, 1) := by decide +kernel
theorem dX7_hand_17 : decode cX7_hand 17 = .ok (.aload_n 0, 1) := by decide +kernel
theorem dX7_hand_18 : decode cX7_hand 18 = .ok (.getfield 22, 3) := by decide +kernel
theorem dX7_hand_21 : decode cX7_hand 21 = .ok (.iload_n 1, 1) := by decide +kernel
theorem dX7_hand_22 : decode cX7_hand 22 = .ok (.iaload, 1) := by decide +kernel
theorem dX7_hand_23 : decode cX7_hand 23 = .ok (.iconst 2, 1) := by decide +kernel
theorem dX7_hand_24 : decode cX7_hand 24 = .ok (.iload_n 2, 1) := by decide +kernel
theorem dX7_hand_25 : decode cX7_hand 25 = .ok (.invokevirtual 102, 3) := by decide +kernel
theorem dX7_hand_28 : decode cX7_hand 28 = .ok (.return_, 1) := by decide +kernel
theorem dX7_give_0 : decode cX7_give 0 = .ok (.aload_n 0, 1) := by decide +kernel
theorem dX7_give_1 : decode cX7_give 1 = .ok (.iconst 0, 1) := by decide +kernel
theorem dX7_give_2 : decode cX7_give 2 = .ok (.putfield 68, 3) := by decide +kernel
theorem dX7_give_5 : decode cX7_give 5 = .ok (.aload_n 0, 1) := by decide +kernel
theorem dX7_give_6 : decode cX7_give 6 = .ok (.iload_n 1, 1) := by decide +kernel
theorem dX7_give_7 : decode cX7_give 7 = .ok (.invokevirtual 95, 3) := by decide +kernel
theorem dX7_give_10 : decode cX7_give 10 = .ok (.ifCond .eq 40, 3) := by decide +kernel
theorem dX7_give_13 : decode cX7_give 13 = .ok (.iload_n 2, 1) := by decide +kernel
theorem dX7_give_14 : decode cX7_give 14 = .ok (.iconst 0, 1) := by decide +kernel
theorem dX7_give_15 : decode cX7_give 15 = .ok (.bipush 9, 2) := by decide +kernel
theorem dX7_give_17 : decode cX7_give 17 = .ok (.invokestatic 74, 3) := by decide +kernel
theorem dX7_give_20 : decode cX7_give 20 = .ok (.ifCond .eq 30, 3) := by decide +kernel
theorem dX7_give_23 : decode cX7_give 23 = .ok (.aload_n 0, 1) := by decide +kernel
theorem dX7_give_24 : decode cX7_give 24 = .ok (.getfield 19, 3) := by decide +kernel
theorem dX7_give_27 : decode cX7_give 27 = .ok (.iload_n 1, 1) := by decide +kernel
theorem dX7_give_28 : decode cX7_give 28 = .ok (.iaload, 1) := by decide +kernel
theorem dX7_give_29 : decode cX7_give 29 = .ok (.iload_n 2, 1) := by decide +kernel
theorem dX7_give_30 : decode cX7_give 30 = .ok (.if_icmp .eq 20, 3) := by decide +kernel
theorem dX7_give_33 : decode cX7_give 33 = .ok (.aload_n 0, 1) := by decide +kernel
theorem dX7_give_34 : decode cX7_give 34 = .ok (.getfield 22, 3) := by decide +kernel
theorem dX7_give_37 : decode cX7_give 37 = .ok (.iload_n 1, 1) := by decide +kernel
theorem dX7_give_38 : decode cX7_give 38 = .ok (.iaload, 1) := by decide +kernel
theorem dX7_give_39 : decode cX7_give 39 = .ok (.ifCond .le 13, 3) := by decide +kernel
theorem dX7_give_42 : decode cX7_give 42 = .ok (.aload_n 0, 1) := by decide +kernel
theorem dX7_give_43 : decode cX7_give 43 = .ok (.iconst 1, 1) := by decide +kernel
theorem dX7_give_44 : decode cX7_give 44 = .ok (.invokevirtual 99, 3) := by decide +kernel
theorem dX7_give_47 : decode cX7_give 47 = .ok (.ifCond .ne 5, 3) := by decide +kernel
theorem dX7_give_50 : decode cX7_give 50 = .ok (.iconst 0, 1) := by decide +kernel
theorem dX7_give_51 : decode cX7_give 51 = .ok (.ireturn, 1) := by decide +kernel
theorem dX7_give_52 : decode cX7_give 52 = .ok (.aload_n 0, 1) := by decide +kernel
theorem dX7_give_53 : decode cX7_give 53 = .ok (.iload_n 1, 1) := by decide +kernel
theorem dX7_give_54 : decode cX7_give 54 = .ok (.iload_n 2, 1) := by decide +kernel
theorem dX7_give_55 : decode cX7_give 55 = .ok (.invokevirtual 109, 3) := by decide +kernel
theorem dX7_give_58 : decode cX7_give 58 = .ok (.iconst 1, 1) := by decide +kernel
theorem dX7_give_59 : decode cX7_give 59 = .ok (.ireturn, 1) := by decide +kernel
theorem dX7_leastOf_0 : decode cX7_leastOf 0 = .ok (.iconst 5, 1) := by decide +kernel
theorem dX7_leastOf_1 : decode cX7_leastOf 1 = .ok (.istore 4, 2) := by decide +kernel
theorem dX7_leastOf_3 : decode cX7_leastOf 3 = .ok (.iload_n 2, 1) := by decide +kernel
theorem dX7_leastOf_4 : decode cX7_leastOf 4 = .ok (.istore 5, 2) := by decide +kernel
theorem dX7_leastOf_6 : decode cX7_leastOf 6 = .ok (.iload 5, 2) := by decide +kernel
theorem dX7_leastOf_8 : decode cX7_leastOf 8 = .ok (.iload_n 3, 1) := by decide +kernel
theorem dX7_leastOf_9 : decode cX7_leastOf 9 = .ok (.if_icmp .ge 45, 3) := by decide +kernel
theorem dX7_leastOf_12 : decode cX7_leastOf 12 = .ok (.aload_n 0, 1) := by decide +kernel
theorem dX7_leastOf_13 : decode cX7_leastOf 13 = .ok (.getfield 9, 3) := by decide +kernel
theorem dX7_leastOf_16 : decode cX7_leastOf 16 = .ok (.bipush 80, 2) := by decide +kernel
theorem dX7_leastOf_18 : decode cX7_leastOf 18 = .ok (.iload_n 1, 1) := by decide +kernel
theorem dX7_leastOf_19 : decode cX7_leastOf 19 = .ok (.imul, 1) := by decide +kernel
theorem dX7_leastOf_20 : decode cX7_leastOf 20 = .ok (.iload 5, 2) := by decide +kernel
theorem dX7_leastOf_22 : decode cX7_leastOf 22 = .ok (.iadd, 1) := by decide +kernel
theorem dX7_leastOf_23 : decode cX7_leastOf 23 = .ok (.iaload, 1) := by decide +kernel
theorem dX7_leastOf_24 : decode cX7_leastOf 24 = .ok (.iload 4, 2) := by decide +kernel
theorem dX7_leastOf_26 : decode cX7_leastOf 26 = .ok (.if_icmp .ge 18, 3) := by decide +kernel
theorem dX7_leastOf_29 : decode cX7_leastOf 29 = .ok (.aload_n 0, 1) := by decide +kernel
theorem dX7_leastOf_30 : decode cX7_leastOf 30 = .ok (.getfield 9, 3) := by decide +kernel
theorem dX7_leastOf_33 : decode cX7_leastOf 33 = .ok (.bipush 80, 2) := by decide +kernel
theorem dX7_leastOf_35 : decode cX7_leastOf 35 = .ok (.iload_n 1, 1) := by decide +kernel
theorem dX7_leastOf_36 : decode cX7_leastOf 36 = .ok (.imul, 1) := by decide +kernel
theorem dX7_leastOf_37 : decode cX7_leastOf 37 = .ok (.iload 5, 2) := by decide +kernel
theorem dX7_leastOf_39 : decode cX7_leastOf 39 = .ok (.iadd, 1) := by decide +kernel
theorem dX7_leastOf_40 : decode cX7_leastOf 40 = .ok (.iaload, 1) := by decide +kernel
theorem dX7_leastOf_41 : decode cX7_leastOf 41 = .ok (.goto 5, 3) := by decide +kernel
theorem dX7_leastOf_44 : decode cX7_leastOf 44 = .ok (.iload 4, 2) := by decide +kernel
theorem dX7_leastOf_46 : decode cX7_leastOf 46 = .ok (.istore 4, 2) := by decide +kernel
theorem dX7_leastOf_48 : decode cX7_leastOf 48 = .ok (.iinc 5 1, 3) := by decide +kernel
theorem dX7_leastOf_51 : decode cX7_leastOf 51 = .ok (.goto (-45), 3) := by decide +kernel
theorem dX7_leastOf_54 : decode cX7_leastOf 54 = .ok (.iload 4, 2) := by decide +kernel
theorem dX7_leastOf_56 : decode cX7_leastOf 56 = .ok (.ireturn, 1) := by decide +kernel
theorem dX7_rateOf_0 : decode cX7_rateOf 0 = .ok (.iconst 0, 1) := by decide +kernel
theorem dX7_rateOf_1 : decode cX7_rateOf 1 = .ok (.istore_n 2, 1) := by decide +kernel
theorem dX7_rateOf_2 : decode cX7_rateOf 2 = .ok (.iconst 0, 1) := by decide +kernel
theorem dX7_rateOf_3 : decode cX7_rateOf 3 = .ok (.istore_n 3, 1) := by decide +kernel
theorem dX7_rateOf_4 : decode cX7_rateOf 4 = .ok (.iload_n 3, 1) := by decide +kernel
theorem dX7_rateOf_5 : decode cX7_rateOf 5 = .ok (.aload_n 0, 1) := by decide +kernel
theorem dX7_rateOf_6 : decode cX7_rateOf 6 = .ok (.getfield 71, 3) := by decide +kernel
theorem dX7_rateOf_9 : decode cX7_rateOf 9 = .ok (.if_icmp .ge 48, 3) := by decide +kernel
theorem dX7_rateOf_12 : decode cX7_rateOf 12 = .ok (.iconst 0, 1) := by decide +kernel
theorem dX7_rateOf_13 : decode cX7_rateOf 13 = .ok (.istore 4, 2) := by decide +kernel
theorem dX7_rateOf_15 : decode cX7_rateOf 15 = .ok (.iload 4, 2) := by decide +kernel
theorem dX7_rateOf_17 : decode cX7_rateOf 17 = .ok (.aload_n 0, 1) := by decide +kernel
theorem dX7_rateOf_18 : decode cX7_rateOf 18 = .ok (.getfield 16, 3) := by decide +kernel
theorem dX7_rateOf_21 : decode cX7_rateOf 21 = .ok (.iload_n 3, 1) := by decide +kernel
theorem dX7_rateOf_22 : decode cX7_rateOf 22 = .ok (.iaload, 1) := by decide +kernel
theorem dX7_rateOf_23 : decode cX7_rateOf 23 = .ok (.if_icmp .ge 28, 3) := by decide +kernel
theorem dX7_rateOf_26 : decode cX7_rateOf 26 = .ok (.aload_n 0, 1) := by decide +kernel
theorem dX7_rateOf_27 : decode cX7_rateOf 27 = .ok (.getfield 9, 3) := by decide +kernel
theorem dX7_rateOf_30 : decode cX7_rateOf 30 = .ok (.bipush 80, 2) := by decide +kernel
theorem dX7_rateOf_32 : decode cX7_rateOf 32 = .ok (.iload_n 3, 1) := by decide +kernel
theorem dX7_rateOf_33 : decode cX7_rateOf 33 = .ok (.imul, 1) := by decide +kernel
theorem dX7_rateOf_34 : decode cX7_rateOf 34 = .ok (.iload 4, 2) := by decide +kernel
theorem dX7_rateOf_36 : decode cX7_rateOf 36 = .ok (.iadd, 1) := by decide +kernel
theorem dX7_rateOf_37 : decode cX7_rateOf 37 = .ok (.iaload, 1) := by decide +kernel
theorem dX7_rateOf_38 : decode cX7_rateOf 38 = .ok (.iload_n 1, 1) := by decide +kernel
theorem dX7_rateOf_39 : decode cX7_rateOf 39 = .ok (.if_icmp .ne 6, 3) := by decide +kernel
theorem dX7_rateOf_42 : decode cX7_rateOf 42 = .ok (.iinc 2 1, 3) := by decide +kernel
theorem dX7_rateOf_45 : decode cX7_rateOf 45 = .ok (.iinc 4 1, 3) := by decide +kernel
theorem dX7_rateOf_48 : decode cX7_rateOf 48 = .ok (.goto (-33), 3) := by decide +kernel
theorem dX7_rateOf_51 : decode cX7_rateOf 51 = .ok (.iinc 3 1, 3) := by decide +kernel
theorem dX7_rateOf_54 : decode cX7_rateOf 54 = .ok (.goto (-50), 3) := by decide +kernel
theorem dX7_rateOf_57 : decode cX7_rateOf 57 = .ok (.aload_n 0, 1) := by decide +kernel
theorem dX7_rateOf_58 : decode cX7_rateOf 58 = .ok (.getfield 25, 3) := by decide +kernel
theorem dX7_rateOf_61 : decode cX7_rateOf 61 = .ok (.iload_n 1, 1) := by decide +kernel
theorem dX7_rateOf_62 : decode cX7_rateOf 62 = .ok (.iaload, 1) := by decide +kernel
theorem dX7_rateOf_63 : decode cX7_rateOf 63 = .ok (.iload_n 2, 1) := by decide +kernel
theorem dX7_rateOf_64 : decode cX7_rateOf 64 = .ok (.aload_n 0, 1) := by decide +kernel
theorem dX7_rateOf_65 : decode cX7_rateOf 65 = .ok (.getfield 31, 3) := by decide +kernel
theorem dX7_rateOf_68 : decode cX7_rateOf 68 = .ok (.iload_n 1, 1) := by decide +kernel
theorem dX7_rateOf_69 : decode cX7_rateOf 69 = .ok (.iaload, 1) := by decide +kernel
theorem dX7_rateOf_70 : decode cX7_rateOf 70 = .ok (.idiv, 1) := by decide +kernel
theorem dX7_rateOf_71 : decode cX7_rateOf 71 = .ok (.isub, 1) := by decide +kernel
theorem dX7_rateOf_72 : decode cX7_rateOf 72 = .ok (.istore_n 3, 1) := by decide +kernel
theorem dX7_rateOf_73 : decode cX7_rateOf 73 = .ok (.iload_n 3, 1) := by decide +kernel
theorem dX7_rateOf_74 : decode cX7_rateOf 74 = .ok (.iconst 1, 1) := by decide +kernel
theorem dX7_rateOf_75 : decode cX7_rateOf 75 = .ok (.if_icmp .ge 7, 3) := by decide +kernel
theorem dX7_rateOf_78 : decode cX7_rateOf 78 = .ok (.iconst 1, 1) := by decide +kernel
theorem dX7_rateOf_79 : decode cX7_rateOf 79 = .ok (.goto 4, 3) := by decide +kernel
theorem dX7_rateOf_82 : decode cX7_rateOf 82 = .ok (.iload_n 3, 1) := by decide +kernel
theorem dX7_rateOf_83 : decode cX7_rateOf 83 = .ok (.ireturn, 1) := by decide +kernel
theorem dX7_beadsWorth_0 : decode cX7_beadsWorth 0 = .ok (.iload_n 1, 1) := by decide +kernel
theorem dX7_beadsWorth_1 : decode cX7_beadsWorth 1 = .ok (.aload_n 0, 1) := by decide +kernel
theorem dX7_beadsWorth_2 : decode cX7_beadsWorth 2 = .ok (.iload_n 2, 1) := by decide +kernel
theorem dX7_beadsWorth_3 : decode cX7_beadsWorth 3 = .ok (.invokevirtual 113, 3) := by decide +kernel
theorem dX7_beadsWorth_6 : decode cX7_beadsWorth 6 = .ok (.imul, 1) := by decide +kernel
theorem dX7_beadsWorth_7 : decode cX7_beadsWorth 7 = .ok (.iload_n 1, 1) := by decide +kernel
theorem dX7_beadsWorth_8 : decode cX7_beadsWorth 8 = .ok (.bipush 10, 2) := by decide +kernel
theorem dX7_beadsWorth_10 : decode cX7_beadsWorth 10 = .ok (.idiv, 1) := by decide +kernel
theorem dX7_beadsWorth_11 : decode cX7_beadsWorth 11 = .ok (.aload_n 0, 1) := by decide +kernel
theorem dX7_beadsWorth_12 : decode cX7_beadsWorth 12 = .ok (.getfield 28, 3) := by decide +kernel
theorem dX7_beadsWorth_15 : decode cX7_beadsWorth 15 = .ok (.iload_n 2, 1) := by decide +kernel
theorem dX7_beadsWorth_16 : decode cX7_beadsWorth 16 = .ok (.iaload, 1) := by decide +kernel
theorem dX7_beadsWorth_17 : decode cX7_beadsWorth 17 = .ok (.imul, 1) := by decide +kernel
theorem dX7_beadsWorth_18 : decode cX7_beadsWorth 18 = .ok (.iadd, 1) := by decide +kernel
theorem dX7_beadsWorth_19 : decode cX7_beadsWorth 19 = .ok (.ireturn, 1) := by decide +kernel
theorem dX7_worth_0 : decode cX7_worth 0 = .ok (.aload_n 0, 1) := by decide +kernel
theorem dX7_worth_1 : decode cX7_worth 1 = .ok (.getfield 16, 3) := by decide +kernel
theorem dX7_worth_4 : decode cX7_worth 4 = .ok (.iload_n 1, 1) := by decide +kernel
theorem dX7_worth_5 : decode cX7_worth 5 = .ok (.iaload, 1) := by decide +kernel
theorem dX7_worth_6 : decode cX7_worth 6 = .ok (.ifCond .ne 5, 3) := by decide +kernel
theorem dX7_worth_9 : decode cX7_worth 9 = .ok (.iconst 0, 1) := by decide +kernel
theorem dX7_worth_10 : decode cX7_worth 10 = .ok (.ireturn, 1) := by decide +kernel
theorem dX7_worth_11 : decode cX7_worth 11 = .ok (.aload_n 0, 1) := by decide +kernel
theorem dX7_worth_12 : decode cX7_worth 12 = .ok (.aload_n 0, 1) := by decide +kernel
theorem dX7_worth_13 : decode cX7_worth 13 = .ok (.getfield 16, 3) := by decide +kernel
theorem dX7_worth_16 : decode cX7_worth 16 = .ok (.iload_n 1, 1) := by decide +kernel
theorem dX7_worth_17 : decode cX7_worth 17 = .ok (.iaload, 1) := by decide +kernel
theorem dX7_worth_18 : decode cX7_worth 18 = .ok (.aload_n 0, 1) := by decide +kernel
theorem dX7_worth_19 : decode cX7_worth 19 = .ok (.iload_n 1, 1) := by decide +kernel
theorem dX7_worth_20 : decode cX7_worth 20 = .ok (.iconst 0, 1) := by decide +kernel
theorem dX7_worth_21 : decode cX7_worth 21 = .ok (.aload_n 0, 1) := by decide +kernel
theorem dX7_worth_22 : decode cX7_worth 22 = .ok (.getfield 16, 3) := by decide +kernel
theorem dX7_worth_25 : decode cX7_worth 25 = .ok (.iload_n 1, 1) := by decide +kernel
theorem dX7_worth_26 : decode cX7_worth 26 = .ok (.iaload, 1) := by decide +kernel
theorem dX7_worth_27 : decode cX7_worth 27 = .ok (.invokevirtual 116, 3) := by decide +kernel
theorem dX7_worth_30 : decode cX7_worth 30 = .ok (.invokevirtual 120, 3) := by decide +kernel
theorem dX7_worth_33 : decode cX7_worth 33 = .ok (.aload_n 0, 1) := by decide +kernel
theorem dX7_worth_34 : decode cX7_worth 34 = .ok (.getfield 22, 3) := by decide +kernel
theorem dX7_worth_37 : decode cX7_worth 37 = .ok (.iload_n 1, 1) := by decide +kernel
theorem dX7_worth_38 : decode cX7_worth 38 = .ok (.iaload, 1) := by decide +kernel
theorem dX7_worth_39 : decode cX7_worth 39 = .ok (.ifCond .le 10, 3) := by decide +kernel
theorem dX7_worth_42 : decode cX7_worth 42 = .ok (.aload_n 0, 1) := by decide +kernel
theorem dX7_worth_43 : decode cX7_worth 43 = .ok (.getfield 34, 3) := by decide +kernel
theorem dX7_worth_46 : decode cX7_worth 46 = .ok (.goto 4, 3) := by decide +kernel
theorem dX7_worth_49 : decode cX7_worth 49 = .ok (.iconst 0, 1) := by decide +kernel
theorem dX7_worth_50 : decode cX7_worth 50 = .ok (.iadd, 1) := by decide +kernel
theorem dX7_worth_51 : decode cX7_worth 51 = .ok (.ireturn, 1) := by decide +kernel
theorem dX7_makersOf_0 : decode cX7_makersOf 0 = .ok (.iconst 0, 1) := by decide +kernel
theorem dX7_makersOf_1 : decode cX7_makersOf 1 = .ok (.istore_n 2, 1) := by decide +kernel
theorem dX7_makersOf_2 : decode cX7_makersOf 2 = .ok (.iconst 0, 1) := by decide +kernel
theorem dX7_makersOf_3 : decode cX7_makersOf 3 = .ok (.istore_n 3, 1) := by decide +kernel
theorem dX7_makersOf_4 : decode cX7_makersOf 4 = .ok (.iload_n 3, 1) := by decide +kernel
theorem dX7_makersOf_5 : decode cX7_makersOf 5 = .ok (.aload_n 0, 1) := by decide +kernel
theorem dX7_makersOf_6 : decode cX7_makersOf 6 = .ok (.getfield 16, 3) := by decide +kernel
theorem dX7_makersOf_9 : decode cX7_makersOf 9 = .ok (.iload_n 1, 1) := by decide +kernel
theorem dX7_makersOf_10 : decode cX7_makersOf 10 = .ok (.iaload, 1) := by decide +kernel
theorem dX7_makersOf_11 : decode cX7_makersOf 11 = .ok (.if_icmp .ge 25, 3) := by decide +kernel
theorem dX7_makersOf_14 : decode cX7_makersOf 14 = .ok (.iload_n 2, 1) := by decide +kernel
theorem dX7_makersOf_15 : decode cX7_makersOf 15 = .ok (.iconst 1, 1) := by decide +kernel
theorem dX7_makersOf_16 : decode cX7_makersOf 16 = .ok (.aload_n 0, 1) := by decide +kernel
theorem dX7_makersOf_17 : decode cX7_makersOf 17 = .ok (.getfield 13, 3) := by decide +kernel
theorem dX7_makersOf_20 : decode cX7_makersOf 20 = .ok (.bipush 80, 2) := by decide +kernel
theorem dX7_makersOf_22 : decode cX7_makersOf 22 = .ok (.iload_n 1, 1) := by decide +kernel
theorem dX7_makersOf_23 : decode cX7_makersOf 23 = .ok (.imul, 1) := by decide +kernel
theorem dX7_makersOf_24 : decode cX7_makersOf 24 = .ok (.iload_n 3, 1) := by decide +kernel
theorem dX7_makersOf_25 : decode cX7_makersOf 25 = .ok (.iadd, 1) := by decide +kernel
theorem dX7_makersOf_26 : decode cX7_makersOf 26 = .ok (.iaload, 1) := by decide +kernel
theorem dX7_makersOf_27 : decode cX7_makersOf 27 = .ok (.ishl, 1) := by decide +kernel
theorem dX7_makersOf_28 : decode cX7_makersOf 28 = .ok (.ior, 1) := by decide +kernel
theorem dX7_makersOf_29 : decode cX7_makersOf 29 = .ok (.istore_n 2, 1) := by decide +kernel
theorem dX7_makersOf_30 : decode cX7_makersOf 30 = .ok (.iinc 3 1, 3) := by decide +kernel
theorem dX7_makersOf_33 : decode cX7_makersOf 33 = .ok (.goto (-29), 3) := by decide +kernel
theorem dX7_makersOf_36 : decode cX7_makersOf 36 = .ok (.iload_n 2, 1) := by decide +kernel
theorem dX7_makersOf_37 : decode cX7_makersOf 37 = .ok (.invokestatic 124, 3) := by decide +kernel
theorem dX7_makersOf_40 : decode cX7_makersOf 40 = .ok (.ireturn, 1) := by decide +kernel
theorem dX7_of_0 : decode cX7_of 0 = .ok (.aload_n 0, 1) := by decide +kernel
theorem dX7_of_1 : decode cX7_of 1 = .ok (.iconst 0, 1) := by decide +kernel
theorem dX7_of_2 : decode cX7_of 2 = .ok (.putfield 68, 3) := by decide +kernel
theorem dX7_of_5 : decode cX7_of 5 = .ok (.iload_n 1, 1) := by decide +kernel
theorem dX7_of_6 : decode cX7_of 6 = .ok (.iconst 0, 1) := by decide +kernel
theorem dX7_of_7 : decode cX7_of 7 = .ok (.aload_n 0, 1) := by decide +kernel
theorem dX7_of_8 : decode cX7_of 8 = .ok (.getfield 71, 3) := by decide +kernel
theorem dX7_of_11 : decode cX7_of 11 = .ok (.iconst 1, 1) := by decide +kernel
theorem dX7_of_12 : decode cX7_of 12 = .ok (.isub, 1) := by decide +kernel
theorem dX7_of_13 : decode cX7_of 13 = .ok (.invokestatic 74, 3) := by decide +kernel
theorem dX7_of_16 : decode cX7_of 16 = .ok (.ifCond .eq 13, 3) := by decide +kernel
theorem dX7_of_19 : decode cX7_of 19 = .ok (.iload_n 2, 1) := by decide +kernel
theorem dX7_of_20 : decode cX7_of 20 = .ok (.iconst 0, 1) := by decide +kernel
theorem dX7_of_21 : decode cX7_of 21 = .ok (.bipush 6, 2) := by decide +kernel
theorem dX7_of_23 : decode cX7_of 23 = .ok (.invokestatic 74, 3) := by decide +kernel
theorem dX7_of_26 : decode cX7_of 26 = .ok (.ifCond .ne 10, 3) := by decide +kernel
theorem dX7_of_29 : decode cX7_of 29 = .ok (.aload_n 0, 1) := by decide +kernel
theorem dX7_of_30 : decode cX7_of 30 = .ok (.iconst 1, 1) := by decide +kernel
theorem dX7_of_31 : decode cX7_of 31 = .ok (.putfield 68, 3) := by decide +kernel
theorem dX7_of_34 : decode cX7_of 34 = .ok (.iconst 0, 1) := by decide +kernel
theorem dX7_of_35 : decode cX7_of 35 = .ok (.ireturn, 1) := by decide +kernel
theorem dX7_of_36 : decode cX7_of 36 = .ok (.iload_n 2, 1) := by decide +kernel
theorem dX7_of_37 : decode cX7_of 37 = .ok (.tableswitch 102 0 5 #[39, 46, 53, 60, 86, 92], 39) := by decide +kernel
theorem dX7_of_76 : decode cX7_of 76 = .ok (.aload_n 0, 1) := by decide +kernel
theorem dX7_of_77 : decode cX7_of 77 = .ok (.getfield 16, 3) := by decide +kernel
theorem dX7_of_80 : decode cX7_of 80 = .ok (.iload_n 1, 1) := by decide +kernel
theorem dX7_of_81 : decode cX7_of 81 = .ok (.iaload, 1) := by decide +kernel
theorem dX7_of_82 : decode cX7_of 82 = .ok (.ireturn, 1) := by decide +kernel
theorem dX7_of_83 : decode cX7_of 83 = .ok (.aload_n 0, 1) := by decide +kernel
theorem dX7_of_84 : decode cX7_of 84 = .ok (.getfield 19, 3) := by decide +kernel
theorem dX7_of_87 : decode cX7_of 87 = .ok (.iload_n 1, 1) := by decide +kernel
theorem dX7_of_88 : decode cX7_of 88 = .ok (.iaload, 1) := by decide +kernel
theorem dX7_of_89 : decode cX7_of 89 = .ok (.ireturn, 1) := by decide +kernel
theorem dX7_of_90 : decode cX7_of 90 = .ok (.aload_n 0, 1) := by decide +kernel
theorem dX7_of_91 : decode cX7_of 91 = .ok (.getfield 22, 3) := by decide +kernel
theorem dX7_of_94 : decode cX7_of 94 = .ok (.iload_n 1, 1) := by decide +kernel
theorem dX7_of_95 : decode cX7_of 95 = .ok (.iaload, 1) := by decide +kernel
theorem dX7_of_96 : decode cX7_of 96 = .ok (.ireturn, 1) := by decide +kernel
theorem dX7_of_97 : decode cX7_of 97 = .ok (.aload_n 0, 1) := by decide +kernel
theorem dX7_of_98 : decode cX7_of 98 = .ok (.getfield 16, 3) := by decide +kernel
theorem dX7_of_101 : decode cX7_of 101 = .ok (.iload_n 1, 1) := by decide +kernel
theorem dX7_of_102 : decode cX7_of 102 = .ok (.iaload, 1) := by decide +kernel
theorem dX7_of_103 : decode cX7_of 103 = .ok (.ifCond .ne 7, 3) := by decide +kernel
theorem dX7_of_106 : decode cX7_of 106 = .ok (.iconst (-1), 1) := by decide +kernel
theorem dX7_of_107 : decode cX7_of 107 = .ok (.goto 15, 3) := by decide +kernel
theorem dX7_of_110 : decode cX7_of 110 = .ok (.aload_n 0, 1) := by decide +kernel
theorem dX7_of_111 : decode cX7_of 111 = .ok (.iload_n 1, 1) := by decide +kernel
theorem dX7_of_112 : decode cX7_of 112 = .ok (.iconst 0, 1) := by decide +kernel
theorem dX7_of_113 : decode cX7_of 113 = .ok (.aload_n 0, 1) := by decide +kernel
theorem dX7_of_114 : decode cX7_of 114 = .ok (.getfield 16, 3) := by decide +kernel
theorem dX7_of_117 : decode cX7_of 117 = .ok (.iload_n 1, 1) := by decide +kernel
theorem dX7_of_118 : decode cX7_of 118 = .ok (.iaload, 1) := by decide +kernel
theorem dX7_of_119 : decode cX7_of 119 = .ok (.invokevirtual 116, 3) := by decide +kernel
theorem dX7_of_122 : decode cX7_of 122 = .ok (.ireturn, 1) := by decide +kernel
theorem dX7_of_123 : decode cX7_of 123 = .ok (.aload_n 0, 1) := by decide +kernel
theorem dX7_of_124 : decode cX7_of 124 = .ok (.iload_n 1, 1) := by decide +kernel
theorem dX7_of_125 : decode cX7_of 125 = .ok (.invokevirtual 129, 3) := by decide +kernel
theorem dX7_of_128 : decode cX7_of 128 = .ok (.ireturn, 1) := by decide +kernel
theorem dX7_of_129 : decode cX7_of 129 = .ok (.aload_n 0, 1) := by decide +kernel
theorem dX7_of_130 : decode cX7_of 130 = .ok (.getfield 16, 3) := by decide +kernel
theorem dX7_of_133 : decode cX7_of 133 = .ok (.iload_n 1, 1) := by decide +kernel
theorem dX7_of_134 : decode cX7_of 134 = .ok (.iaload, 1) := by decide +kernel
theorem dX7_of_135 : decode cX7_of 135 = .ok (.bipush 10, 2) := by decide +kernel
theorem dX7_of_137 : decode cX7_of 137 = .ok (.idiv, 1) := by decide +kernel
theorem dX7_of_138 : decode cX7_of 138 = .ok (.ireturn, 1) := by decide +kernel
theorem dX7_of_139 : decode cX7_of 139 = .ok (.aload_n 0, 1) := by decide +kernel
theorem dX7_of_140 : decode cX7_of 140 = .ok (.iload_n 1, 1) := by decide +kernel
theorem dX7_of_141 : decode cX7_of 141 = .ok (.invokevirtual 132, 3) := by decide +kernel
theorem dX7_of_144 : decode cX7_of 144 = .ok (.ireturn, 1) := by decide +kernel
theorem dX7_bead_0 : decode cX7_bead 0 = .ok (.aload_n 0, 1) := by decide +kernel
theorem dX7_bead_1 : decode cX7_bead 1 = .ok (.iconst 0, 1) := by decide +kernel
theorem dX7_bead_2 : decode cX7_bead 2 = .ok (.putfield 68, 3) := by decide +kernel
theorem dX7_bead_5 : decode cX7_bead 5 = .ok (.iload_n 1, 1) := by decide +kernel
theorem dX7_bead_6 : decode cX7_bead 6 = .ok (.iconst 0, 1) := by decide +kernel
theorem dX7_bead_7 : decode cX7_bead 7 = .ok (.aload_n 0, 1) := by decide +kernel
theorem dX7_bead_8 : decode cX7_bead 8 = .ok (.getfield 71, 3) := by decide +kernel
theorem dX7_bead_11 : decode cX7_bead 11 = .ok (.iconst 1, 1) := by decide +kernel
theorem dX7_bead_12 : decode cX7_bead 12 = .ok (.isub, 1) := by decide +kernel
theorem dX7_bead_13 : decode cX7_bead 13 = .ok (.invokestatic 74, 3) := by decide +kernel
theorem dX7_bead_16 : decode cX7_bead 16 = .ok (.ifCond .eq 28, 3) := by decide +kernel
theorem dX7_bead_19 : decode cX7_bead 19 = .ok (.iload_n 2, 1) := by decide +kernel
theorem dX7_bead_20 : decode cX7_bead 20 = .ok (.iconst 0, 1) := by decide +kernel
theorem dX7_bead_21 : decode cX7_bead 21 = .ok (.aload_n 0, 1) := by decide +kernel
theorem dX7_bead_22 : decode cX7_bead 22 = .ok (.getfield 16, 3) := by decide +kernel
theorem dX7_bead_25 : decode cX7_bead 25 = .ok (.iload_n 1, 1) := by decide +kernel
theorem dX7_bead_26 : decode cX7_bead 26 = .ok (.iaload, 1) := by decide +kernel
theorem dX7_bead_27 : decode cX7_bead 27 = .ok (.iconst 1, 1) := by decide +kernel
theorem dX7_bead_28 : decode cX7_bead 28 = .ok (.isub, 1) := by decide +kernel
theorem dX7_bead_29 : decode cX7_bead 29 = .ok (.invokestatic 74, 3) := by decide +kernel
theorem dX7_bead_32 : decode cX7_bead 32 = .ok (.ifCond .eq 12, 3) := by decide +kernel
theorem dX7_bead_35 : decode cX7_bead 35 = .ok (.iload_n 3, 1) := by decide +kernel
theorem dX7_bead_36 : decode cX7_bead 36 = .ok (.iconst 0, 1) := by decide +kernel
theorem dX7_bead_37 : decode cX7_bead 37 = .ok (.iconst 1, 1) := by decide +kernel
theorem dX7_bead_38 : decode cX7_bead 38 = .ok (.invokestatic 74, 3) := by decide +kernel
theorem dX7_bead_41 : decode cX7_bead 41 = .ok (.ifCond .ne 5, 3) := by decide +kernel
theorem dX7_bead_44 : decode cX7_bead 44 = .ok (.iconst (-1), 1) := by decide +kernel
theorem dX7_bead_45 : decode cX7_bead 45 = .ok (.ireturn, 1) := by decide +kernel
theorem dX7_bead_46 : decode cX7_bead 46 = .ok (.iload_n 3, 1) := by decide +kernel
theorem dX7_bead_47 : decode cX7_bead 47 = .ok (.ifCond .ne 17, 3) := by decide +kernel
theorem dX7_bead_50 : decode cX7_bead 50 = .ok (.aload_n 0, 1) := by decide +kernel
theorem dX7_bead_51 : decode cX7_bead 51 = .ok (.getfield 9, 3) := by decide +kernel
theorem dX7_bead_54 : decode cX7_bead 54 = .ok (.bipush 80, 2) := by decide +kernel
theorem dX7_bead_56 : decode cX7_bead 56 = .ok (.iload_n 1, 1) := by decide +kernel
theorem dX7_bead_57 : decode cX7_bead 57 = .ok (.imul, 1) := by decide +kernel
theorem dX7_bead_58 : decode cX7_bead 58 = .ok (.iload_n 2, 1) := by decide +kernel
theorem dX7_bead_59 : decode cX7_bead 59 = .ok (.iadd, 1) := by decide +kernel
theorem dX7_bead_60 : decode cX7_bead 60 = .ok (.iaload, 1) := by decide +kernel
theorem dX7_bead_61 : decode cX7_bead 61 = .ok (.goto 14, 3) := by decide +kernel
theorem dX7_bead_64 : decode cX7_bead 64 = .ok (.aload_n 0, 1) := by decide +kernel
theorem dX7_bead_65 : decode cX7_bead 65 = .ok (.getfield 13, 3) := by decide +kernel
theorem dX7_bead_68 : decode cX7_bead 68 = .ok (.bipush 80, 2) := by decide +kernel
theorem dX7_bead_70 : decode cX7_bead 70 = .ok (.iload_n 1, 1) := by decide +kernel
theorem dX7_bead_71 : decode cX7_bead 71 = .ok (.imul, 1) := by decide +kernel
theorem dX7_bead_72 : decode cX7_bead 72 = .ok (.iload_n 2, 1) := by decide +kernel
theorem dX7_bead_73 : decode cX7_bead 73 = .ok (.iadd, 1) := by decide +kernel
theorem dX7_bead_74 : decode cX7_bead 74 = .ok (.iaload, 1) := by decide +kernel
theorem dX7_bead_75 : decode cX7_bead 75 = .ok (.ireturn, 1) := by decide +kernel
theorem dX7_named_0 : decode cX7_named 0 = .ok (.aload_n 0, 1) := by decide +kernel
theorem dX7_named_1 : decode cX7_named 1 = .ok (.iconst 0, 1) := by decide +kernel
theorem dX7_named_2 : decode cX7_named 2 = .ok (.putfield 68, 3) := by decide +kernel
theorem dX7_named_5 : decode cX7_named 5 = .ok (.aload_n 0, 1) := by decide +kernel
theorem dX7_named_6 : decode cX7_named 6 = .ok (.iload_n 1, 1) := by decide +kernel
theorem dX7_named_7 : decode cX7_named 7 = .ok (.invokevirtual 106, 3) := by decide +kernel
theorem dX7_named_10 : decode cX7_named 10 = .ok (.ireturn, 1) := by decide +kernel
theorem dX7_tale_0 : decode cX7_tale 0 = .ok (.aload_n 0, 1) := by decide +kernel
theorem dX7_tale_1 : decode cX7_tale 1 = .ok (.iconst 0, 1) := by decide +kernel
theorem dX7_tale_2 : decode cX7_tale 2 = .ok (.putfield 68, 3) := by decide +kernel
theorem dX7_tale_5 : decode cX7_tale 5 = .ok (.iload_n 2, 1) := by decide +kernel
theorem dX7_tale_6 : decode cX7_tale 6 = .ok (.ifCond .lt 12, 3) := by decide +kernel
theorem dX7_tale_9 : decode cX7_tale 9 = .ok (.iload_n 3, 1) := by decide +kernel
theorem dX7_tale_10 : decode cX7_tale 10 = .ok (.iconst 0, 1) := by decide +kernel
theorem dX7_tale_11 : decode cX7_tale 11 = .ok (.iconst 2, 1) := by decide +kernel
theorem dX7_tale_12 : decode cX7_tale 12 = .ok (.invokestatic 74, 3) := by decide +kernel
theorem dX7_tale_15 : decode cX7_tale 15 = .ok (.ifCond .ne 5, 3) := by decide +kernel
theorem dX7_tale_18 : decode cX7_tale 18 = .ok (.iconst (-1), 1) := by decide +kernel
theorem dX7_tale_19 : decode cX7_tale 19 = .ok (.ireturn, 1) := by decide +kernel
theorem dX7_tale_20 : decode cX7_tale 20 = .ok (.iload_n 2, 1) := by decide +kernel
theorem dX7_tale_21 : decode cX7_tale 21 = .ok (.istore 4, 2) := by decide +kernel
theorem dX7_tale_23 : decode cX7_tale 23 = .ok (.iconst 0, 1) := by decide +kernel
theorem dX7_tale_24 : decode cX7_tale 24 = .ok (.istore 5, 2) := by decide +kernel
theorem dX7_tale_26 : decode cX7_tale 26 = .ok (.iload 5, 2) := by decide +kernel
theorem dX7_tale_28 : decode cX7_tale 28 = .ok (.aload_n 0, 1) := by decide +kernel
theorem dX7_tale_29 : decode cX7_tale 29 = .ok (.getfield 78, 3) := by decide +kernel
theorem dX7_tale_32 : decode cX7_tale 32 = .ok (.if_icmp .ge 47, 3) := by decide +kernel
theorem dX7_tale_35 : decode cX7_tale 35 = .ok (.aload_n 0, 1) := by decide +kernel
theorem dX7_tale_36 : decode cX7_tale 36 = .ok (.getfield 44, 3) := by decide +kernel
theorem dX7_tale_39 : decode cX7_tale 39 = .ok (.iconst 4, 1) := by decide +kernel
theorem dX7_tale_40 : decode cX7_tale 40 = .ok (.iload 5, 2) := by decide +kernel
theorem dX7_tale_42 : decode cX7_tale 42 = .ok (.imul, 1) := by decide +kernel
theorem dX7_tale_43 : decode cX7_tale 43 = .ok (.iaload, 1) := by decide +kernel
theorem dX7_tale_44 : decode cX7_tale 44 = .ok (.iload_n 1, 1) := by decide +kernel
theorem dX7_tale_45 : decode cX7_tale 45 = .ok (.if_icmp .eq 6, 3) := by decide +kernel
theorem dX7_tale_48 : decode cX7_tale 48 = .ok (.goto 25, 3) := by decide +kernel
theorem dX7_tale_51 : decode cX7_tale 51 = .ok (.iload 4, 2) := by decide +kernel
theorem dX7_tale_53 : decode cX7_tale 53 = .ok (.ifCond .ne 17, 3) := by decide +kernel
theorem dX7_tale_56 : decode cX7_tale 56 = .ok (.aload_n 0, 1) := by decide +kernel
theorem dX7_tale_57 : decode cX7_tale 57 = .ok (.getfield 44, 3) := by decide +kernel
theorem dX7_tale_60 : decode cX7_tale 60 = .ok (.iconst 4, 1) := by decide +kernel
theorem dX7_tale_61 : decode cX7_tale 61 = .ok (.iload 5, 2) := by decide +kernel
theorem dX7_tale_63 : decode cX7_tale 63 = .ok (.imul, 1) := by decide +kernel
theorem dX7_tale_64 : decode cX7_tale 64 = .ok (.iconst 1, 1) := by decide +kernel
theorem dX7_tale_65 : decode cX7_tale 65 = .ok (.iadd, 1) := by decide +kernel
theorem dX7_tale_66 : decode cX7_tale 66 = .ok (.iload_n 3, 1) := by decide +kernel
theorem dX7_tale_67 : decode cX7_tale 67 = .ok (.iadd, 1) := by decide +kernel
theorem dX7_tale_68 : decode cX7_tale 68 = .ok (.iaload, 1) := by decide +kernel
theorem dX7_tale_69 : decode cX7_tale 69 = .ok (.ireturn, 1) := by decide +kernel
theorem dX7_tale_70 : decode cX7_tale 70 = .ok (.iinc 4 (-1), 3) := by decide +kernel
theorem dX7_tale_73 : decode cX7_tale 73 = .ok (.iinc 5 1, 3) := by decide +kernel
theorem dX7_tale_76 : decode cX7_tale 76 = .ok (.goto (-50), 3) := by decide +kernel
theorem dX7_tale_79 : decode cX7_tale 79 = .ok (.iconst (-1), 1) := by decide +kernel
theorem dX7_tale_80 : decode cX7_tale 80 = .ok (.ireturn, 1) := by decide +kernel
theorem dX7_set_0 : decode cX7_set 0 = .ok (.aload_n 0, 1) := by decide +kernel
theorem dX7_set_1 : decode cX7_set 1 = .ok (.iconst 0, 1) := by decide +kernel
theorem dX7_set_2 : decode cX7_set 2 = .ok (.putfield 68, 3) := by decide +kernel
theorem dX7_set_5 : decode cX7_set 5 = .ok (.iload_n 1, 1) := by decide +kernel
theorem dX7_set_6 : decode cX7_set 6 = .ok (.iconst 0, 1) := by decide +kernel
theorem dX7_set_7 : decode cX7_set 7 = .ok (.iconst 5, 1) := by decide +kernel
theorem dX7_set_8 : decode cX7_set 8 = .ok (.invokestatic 74, 3) := by decide +kernel
theorem dX7_set_11 : decode cX7_set 11 = .ok (.ifCond .eq 17, 3) := by decide +kernel
theorem dX7_set_14 : decode cX7_set 14 = .ok (.iload_n 1, 1) := by decide +kernel
theorem dX7_set_15 : decode cX7_set 15 = .ok (.iconst 3, 1) := by decide +kernel
theorem dX7_set_16 : decode cX7_set 16 = .ok (.if_icmp .ge 14, 3) := by decide +kernel
theorem dX7_set_19 : decode cX7_set 19 = .ok (.iload_n 2, 1) := by decide +kernel
