theorem dX11_thrown_0 : decode cX11_thrown 0 = .ok (.aload_n 0, 1) := by decide +kernel
theorem dX11_thrown_1 : decode cX11_thrown 1 = .ok (.getfield 3, 3) := by decide +kernel
theorem dX11_thrown_4 : decode cX11_thrown 4 = .ok (.ireturn, 1) := by decide +kernel
theorem dX11_may_0 : decode cX11_may 0 = .ok (.iload_n 1, 1) := by decide +kernel
theorem dX11_may_1 : decode cX11_may 1 = .ok (.ifCond .ne 25, 3) := by decide +kernel
theorem dX11_may_4 : decode cX11_may 4 = .ok (.aload_n 0, 1) := by decide +kernel
theorem dX11_may_5 : decode cX11_may 5 = .ok (.getfield 3, 3) := by decide +kernel
theorem dX11_may_8 : decode cX11_may 8 = .ok (.ifCond .ne 18, 3) := by decide +kernel
theorem dX11_may_11 : decode cX11_may 11 = .ok (.aload_n 0, 1) := by decide +kernel
theorem dX11_may_12 : decode cX11_may 12 = .ok (.iload_n 2, 1) := by decide +kernel
theorem dX11_may_13 : decode cX11_may 13 = .ok (.putfield 3, 3) := by decide +kernel
theorem dX11_may_16 : decode cX11_may 16 = .ok (.aload_n 0, 1) := by decide +kernel
theorem dX11_may_17 : decode cX11_may 17 = .ok (.getfield 7, 3) := by decide +kernel
theorem dX11_may_20 : decode cX11_may 20 = .ok (.iload_n 3, 1) := by decide +kernel
theorem dX11_may_21 : decode cX11_may 21 = .ok (.dup2, 1) := by decide +kernel
theorem dX11_may_22 : decode cX11_may 22 = .ok (.iaload, 1) := by decide +kernel
theorem dX11_may_23 : decode cX11_may 23 = .ok (.iconst 1, 1) := by decide +kernel
theorem dX11_may_24 : decode cX11_may 24 = .ok (.iadd, 1) := by decide +kernel
theorem dX11_may_25 : decode cX11_may 25 = .ok (.iastore, 1) := by decide +kernel
theorem dX11_may_26 : decode cX11_may 26 = .ok (.aload_n 0, 1) := by decide +kernel
theorem dX11_may_27 : decode cX11_may 27 = .ok (.getfield 3, 3) := by decide +kernel
theorem dX11_may_30 : decode cX11_may 30 = .ok (.ifCond .ne 7, 3) := by decide +kernel
theorem dX11_may_33 : decode cX11_may 33 = .ok (.iconst 1, 1) := by decide +kernel
theorem dX11_may_34 : decode cX11_may 34 = .ok (.goto 4, 3) := by decide +kernel
theorem dX11_may_37 : decode cX11_may 37 = .ok (.iconst 0, 1) := by decide +kernel
theorem dX11_may_38 : decode cX11_may 38 = .ok (.ireturn, 1) := by decide +kernel
theorem dX11_within_0 : decode cX11_within 0 = .ok (.iload_n 0, 1) := by decide +kernel
theorem dX11_within_1 : decode cX11_within 1 = .ok (.iload_n 1, 1) := by decide +kernel
theorem dX11_within_2 : decode cX11_within 2 = .ok (.if_icmp .lt 12, 3) := by decide +kernel
theorem dX11_within_5 : decode cX11_within 5 = .ok (.iload_n 0, 1) := by decide +kernel
theorem dX11_within_6 : decode cX11_within 6 = .ok (.iload_n 2, 1) := by decide +kernel
theorem dX11_within_7 : decode cX11_within 7 = .ok (.if_icmp .gt 7, 3) := by decide +kernel
theorem dX11_within_10 : decode cX11_within 10 = .ok (.iconst 1, 1) := by decide +kernel
theorem dX11_within_11 : decode cX11_within 11 = .ok (.goto 4, 3) := by decide +kernel
theorem dX11_within_14 : decode cX11_within 14 = .ok (.iconst 0, 1) := by decide +kernel
theorem dX11_within_15 : decode cX11_within 15 = .ok (.ireturn, 1) := by decide +kernel
theorem dX11_init_0 : decode cX11_init 0 = .ok (.aload_n 0, 1) := by decide +kernel
theorem dX11_init_1 : decode cX11_init 1 = .ok (.invokespecial 11, 3) := by decide +kernel
theorem dX11_init_4 : decode cX11_init 4 = .ok (.aload_n 0, 1) := by decide +kernel
theorem dX11_init_5 : decode cX11_init 5 = .ok (.iconst 2, 1) := by decide +kernel
theorem dX11_init_6 : decode cX11_init 6 = .ok (.newarray .int, 2) := by decide +kernel
theorem dX11_init_8 : decode cX11_init 8 = .ok (.putfield 7, 3) := by decide +kernel
theorem dX11_init_11 : decode cX11_init 11 = .ok (.aload_n 0, 1) := by decide +kernel
theorem dX11_init_12 : decode cX11_init 12 = .ok (.iconst (-1), 1) := by decide +kernel
theorem dX11_init_13 : decode cX11_init 13 = .ok (.putfield 17, 3) := by decide +kernel
theorem dX11_init_16 : decode cX11_init 16 = .ok (.aload_n 0, 1) := by decide +kernel
theorem dX11_init_17 : decode cX11_init 17 = .ok (.sipush 600, 3) := by decide +kernel
theorem dX11_init_20 : decode cX11_init 20 = .ok (.newarray .int, 2) := by decide +kernel
theorem dX11_init_22 : decode cX11_init 22 = .ok (.putfield 20, 3) := by decide +kernel
theorem dX11_init_25 : decode cX11_init 25 = .ok (.aload_n 0, 1) := by decide +kernel
theorem dX11_init_26 : decode cX11_init 26 = .ok (.bipush 24, 2) := by decide +kernel
theorem dX11_init_28 : decode cX11_init 28 = .ok (.newarray .int, 2) := by decide +kernel
theorem dX11_init_30 : decode cX11_init 30 = .ok (.putfield 23, 3) := by decide +kernel
theorem dX11_init_33 : decode cX11_init 33 = .ok (.aload_n 0, 1) := by decide +kernel
theorem dX11_init_34 : decode cX11_init 34 = .ok (.bipush 8, 2) := by decide +kernel
theorem dX11_init_36 : decode cX11_init 36 = .ok (.newarray .int, 2) := by decide +kernel
theorem dX11_init_38 : decode cX11_init 38 = .ok (.putfield 26, 3) := by decide +kernel
theorem dX11_init_41 : decode cX11_init 41 = .ok (.aload_n 0, 1) := by decide +kernel
theorem dX11_init_42 : decode cX11_init 42 = .ok (.bipush 8, 2) := by decide +kernel
theorem dX11_init_44 : decode cX11_init 44 = .ok (.newarray .int, 2) := by decide +kernel
theorem dX11_init_46 : decode cX11_init 46 = .ok (.putfield 29, 3) := by decide +kernel
theorem dX11_init_49 : decode cX11_init 49 = .ok (.aload_n 0, 1) := by decide +kernel
theorem dX11_init_50 : decode cX11_init 50 = .ok (.iconst 3, 1) := by decide +kernel
theorem dX11_init_51 : decode cX11_init 51 = .ok (.newarray .int, 2) := by decide +kernel
theorem dX11_init_53 : decode cX11_init 53 = .ok (.putfield 32, 3) := by decide +kernel
theorem dX11_init_56 : decode cX11_init 56 = .ok (.aload_n 0, 1) := by decide +kernel
theorem dX11_init_57 : decode cX11_init 57 = .ok (.bipush 24, 2) := by decide +kernel
theorem dX11_init_59 : decode cX11_init 59 = .ok (.newarray .int, 2) := by decide +kernel
theorem dX11_init_61 : decode cX11_init 61 = .ok (.putfield 35, 3) := by decide +kernel
theorem dX11_init_64 : decode cX11_init 64 = .ok (.aload_n 0, 1) := by decide +kernel
theorem dX11_init_65 : decode cX11_init 65 = .ok (.bipush 8, 2) := by decide +kernel
theorem dX11_init_67 : decode cX11_init 67 = .ok (.newarray .int, 2) := by decide +kernel
theorem dX11_init_69 : decode cX11_init 69 = .ok (.putfield 38, 3) := by decide +kernel
theorem dX11_init_72 : decode cX11_init 72 = .ok (.aload_n 0, 1) := by decide +kernel
theorem dX11_init_73 : decode cX11_init 73 = .ok (.sipush 150, 3) := by decide +kernel
theorem dX11_init_76 : decode cX11_init 76 = .ok (.newarray .int, 2) := by decide +kernel
theorem dX11_init_78 : decode cX11_init 78 = .ok (.putfield 41, 3) := by decide +kernel
theorem dX11_init_81 : decode cX11_init 81 = .ok (.aload_n 0, 1) := by decide +kernel
theorem dX11_init_82 : decode cX11_init 82 = .ok (.sipush 150, 3) := by decide +kernel
theorem dX11_init_85 : decode cX11_init 85 = .ok (.newarray .int, 2) := by decide +kernel
theorem dX11_init_87 : decode cX11_init 87 = .ok (.putfield 44, 3) := by decide +kernel
theorem dX11_init_90 : decode cX11_init 90 = .ok (.aload_n 0, 1) := by decide +kernel
theorem dX11_init_91 : decode cX11_init 91 = .ok (.sipush 150, 3) := by decide +kernel
theorem dX11_init_94 : decode cX11_init 94 = .ok (.newarray .int, 2) := by decide +kernel
theorem dX11_init_96 : decode cX11_init 96 = .ok (.putfield 47, 3) := by decide +kernel
theorem dX11_init_99 : decode cX11_init 99 = .ok (.aload_n 0, 1) := by decide +kernel
theorem dX11_init_100 : decode cX11_init 100 = .ok (.sipush 150, 3) := by decide +kernel
theorem dX11_init_103 : decode cX11_init 103 = .ok (.newarray .int, 2) := by decide +kernel
theorem dX11_init_105 : decode cX11_init 105 = .ok (.putfield 50, 3) := by decide +kernel
theorem dX11_init_108 : decode cX11_init 108 = .ok (.aload_n 0, 1) := by decide +kernel
theorem dX11_init_109 : decode cX11_init 109 = .ok (.sipush 150, 3) := by decide +kernel
theorem dX11_init_112 : decode cX11_init 112 = .ok (.newarray .int, 2) := by decide +kernel
theorem dX11_init_114 : decode cX11_init 114 = .ok (.putfield 53, 3) := by decide +kernel
theorem dX11_init_117 : decode cX11_init 117 = .ok (.aload_n 0, 1) := by decide +kernel
theorem dX11_init_118 : decode cX11_init 118 = .ok (.bipush 9, 2) := by decide +kernel
theorem dX11_init_120 : decode cX11_init 120 = .ok (.newarray .int, 2) := by decide +kernel
theorem dX11_init_122 : decode cX11_init 122 = .ok (.putfield 56, 3) := by decide +kernel
theorem dX11_init_125 : decode cX11_init 125 = .ok (.aload_n 0, 1) := by decide +kernel
theorem dX11_init_126 : decode cX11_init 126 = .ok (.sipush 150, 3) := by decide +kernel
theorem dX11_init_129 : decode cX11_init 129 = .ok (.newarray .int, 2) := by decide +kernel
theorem dX11_init_131 : decode cX11_init 131 = .ok (.putfield 59, 3) := by decide +kernel
theorem dX11_init_134 : decode cX11_init 134 = .ok (.aload_n 0, 1) := by decide +kernel
theorem dX11_init_135 : decode cX11_init 135 = .ok (.sipush 150, 3) := by decide +kernel
theorem dX11_init_138 : decode cX11_init 138 = .ok (.newarray .int, 2) := by decide +kernel
theorem dX11_init_140 : decode cX11_init 140 = .ok (.putfield 62, 3) := by decide +kernel
theorem dX11_init_143 : decode cX11_init 143 = .ok (.aload_n 0, 1) := by decide +kernel
theorem dX11_init_144 : decode cX11_init 144 = .ok (.bipush 60, 2) := by decide +kernel
theorem dX11_init_146 : decode cX11_init 146 = .ok (.newarray .int, 2) := by decide +kernel
theorem dX11_init_148 : decode cX11_init 148 = .ok (.putfield 65, 3) := by decide +kernel
theorem dX11_init_151 : decode cX11_init 151 = .ok (.aload_n 0, 1) := by decide +kernel
theorem dX11_init_152 : decode cX11_init 152 = .ok (.bipush 60, 2) := by decide +kernel
theorem dX11_init_154 : decode cX11_init 154 = .ok (.newarray .int, 2) := by decide +kernel
theorem dX11_init_156 : decode cX11_init 156 = .ok (.putfield 68, 3) := by decide +kernel
theorem dX11_init_159 : decode cX11_init 159 = .ok (.aload_n 0, 1) := by decide +kernel
theorem dX11_init_160 : decode cX11_init 160 = .ok (.sipush 960, 3) := by decide +kernel
theorem dX11_init_163 : decode cX11_init 163 = .ok (.newarray .int, 2) := by decide +kernel
theorem dX11_init_165 : decode cX11_init 165 = .ok (.putfield 71, 3) := by decide +kernel
theorem dX11_init_168 : decode cX11_init 168 = .ok (.aload_n 0, 1) := by decide +kernel
theorem dX11_init_169 : decode cX11_init 169 = .ok (.iconst 3, 1) := by decide +kernel
theorem dX11_init_170 : decode cX11_init 170 = .ok (.newarray .int, 2) := by decide +kernel
theorem dX11_init_172 : decode cX11_init 172 = .ok (.putfield 74, 3) := by decide +kernel
theorem dX11_init_175 : decode cX11_init 175 = .ok (.aload_n 0, 1) := by decide +kernel
theorem dX11_init_176 : decode cX11_init 176 = .ok (.iconst 3, 1) := by decide +kernel
theorem dX11_init_177 : decode cX11_init 177 = .ok (.newarray .int, 2) := by decide +kernel
theorem dX11_init_179 : decode cX11_init 179 = .ok (.dup, 1) := by decide +kernel
theorem dX11_init_180 : decode cX11_init 180 = .ok (.iconst 0, 1) := by decide +kernel
theorem dX11_init_181 : decode cX11_init 181 = .ok (.iconst (-1), 1) := by decide +kernel
theorem dX11_init_182 : decode cX11_init 182 = .ok (.iastore, 1) := by decide +kernel
theorem dX11_init_183 : decode cX11_init 183 = .ok (.dup, 1) := by decide +kernel
theorem dX11_init_184 : decode cX11_init 184 = .ok (.iconst 1, 1) := by decide +kernel
theorem dX11_init_185 : decode cX11_init 185 = .ok (.iconst (-1), 1) := by decide +kernel
theorem dX11_init_186 : decode cX11_init 186 = .ok (.iastore, 1) := by decide +kernel
theorem dX11_init_187 : decode cX11_init 187 = .ok (.dup, 1) := by decide +kernel
theorem dX11_init_188 : decode cX11_init 188 = .ok (.iconst 2, 1) := by decide +kernel
theorem dX11_init_189 : decode cX11_init 189 = .ok (.iconst (-1), 1) := by decide +kernel
theorem dX11_init_190 : decode cX11_init 190 = .ok (.iastore, 1) := by decide +kernel
theorem dX11_init_191 : decode cX11_init 191 = .ok (.putfield 77, 3) := by decide +kernel
theorem dX11_init_194 : decode cX11_init 194 = .ok (.aload_n 0, 1) := by decide +kernel
theorem dX11_init_195 : decode cX11_init 195 = .ok (.sipush 1000, 3) := by decide +kernel
theorem dX11_init_198 : decode cX11_init 198 = .ok (.newarray .int, 2) := by decide +kernel
theorem dX11_init_200 : decode cX11_init 200 = .ok (.putfield 80, 3) := by decide +kernel
theorem dX11_init_203 : decode cX11_init 203 = .ok (.aload_n 0, 1) := by decide +kernel
theorem dX11_init_204 : decode cX11_init 204 = .ok (.sipush 1000, 3) := by decide +kernel
theorem dX11_init_207 : decode cX11_init 207 = .ok (.newarray .int, 2) := by decide +kernel
theorem dX11_init_209 : decode cX11_init 209 = .ok (.putfield 83, 3) := by decide +kernel
theorem dX11_init_212 : decode cX11_init 212 = .ok (.aload_n 0, 1) := by decide +kernel
theorem dX11_init_213 : decode cX11_init 213 = .ok (.sipush 256, 3) := by decide +kernel
theorem dX11_init_216 : decode cX11_init 216 = .ok (.newarray .int, 2) := by decide +kernel
theorem dX11_init_218 : decode cX11_init 218 = .ok (.putfield 86, 3) := by decide +kernel
theorem dX11_init_221 : decode cX11_init 221 = .ok (.aload_n 0, 1) := by decide +kernel
theorem dX11_init_222 : decode cX11_init 222 = .ok (.bipush 8, 2) := by decide +kernel
theorem dX11_init_224 : decode cX11_init 224 = .ok (.newarray .int, 2) := by decide +kernel
theorem dX11_init_226 : decode cX11_init 226 = .ok (.putfield 89, 3) := by decide +kernel
theorem dX11_init_229 : decode cX11_init 229 = .ok (.aload_n 0, 1) := by decide +kernel
theorem dX11_init_230 : decode cX11_init 230 = .ok (.sipush 3063, 3) := by decide +kernel
theorem dX11_init_233 : decode cX11_init 233 = .ok (.newarray .int, 2) := by decide +kernel
theorem dX11_init_235 : decode cX11_init 235 = .ok (.putfield 92, 3) := by decide +kernel
theorem dX11_init_238 : decode cX11_init 238 = .ok (.aload_n 0, 1) := by decide +kernel
theorem dX11_init_239 : decode cX11_init 239 = .ok (.invokevirtual 95, 3) := by decide +kernel
theorem dX11_init_242 : decode cX11_init 242 = .ok (.aload_n 0, 1) := by decide +kernel
theorem dX11_init_243 : decode cX11_init 243 = .ok (.invokevirtual 98, 3) := by decide +kernel
theorem dX11_init_246 : decode cX11_init 246 = .ok (.return_, 1) := by decide +kernel
theorem dX11_feed_0 : decode cX11_feed 0 = .ok (.aload_n 0, 1) := by decide +kernel
theorem dX11_feed_1 : decode cX11_feed 1 = .ok (.iconst 0, 1) := by decide +kernel
theorem dX11_feed_2 : decode cX11_feed 2 = .ok (.putfield 3, 3) := by decide +kernel
theorem dX11_feed_5 : decode cX11_feed 5 = .ok (.aload_n 0, 1) := by decide +kernel
theorem dX11_feed_6 : decode cX11_feed 6 = .ok (.getfield 101, 3) := by decide +kernel
theorem dX11_feed_9 : decode cX11_feed 9 = .ok (.bipush 20, 2) := by decide +kernel
theorem dX11_feed_11 : decode cX11_feed 11 = .ok (.iadd, 1) := by decide +kernel
theorem dX11_feed_12 : decode cX11_feed 12 = .ok (.sipush 600, 3) := by decide +kernel
theorem dX11_feed_15 : decode cX11_feed 15 = .ok (.if_icmp .le 5, 3) := by decide +kernel
theorem dX11_feed_18 : decode cX11_feed 18 = .ok (.iconst (-1), 1) := by decide +kernel
theorem dX11_feed_19 : decode cX11_feed 19 = .ok (.ireturn, 1) := by decide +kernel
theorem dX11_feed_20 : decode cX11_feed 20 = .ok (.iconst 0, 1) := by decide +kernel
theorem dX11_feed_21 : decode cX11_feed 21 = .ok (.istore 6, 2) := by decide +kernel
theorem dX11_feed_23 : decode cX11_feed 23 = .ok (.iload 6, 2) := by decide +kernel
theorem dX11_feed_25 : decode cX11_feed 25 = .ok (.bipush 20, 2) := by decide +kernel
theorem dX11_feed_27 : decode cX11_feed 27 = .ok (.if_icmp .ge 93, 3) := by decide +kernel
theorem dX11_feed_30 : decode cX11_feed 30 = .ok (.iload 6, 2) := by decide +kernel
theorem dX11_feed_32 : decode cX11_feed 32 = .ok (.iconst 4, 1) := by decide +kernel
theorem dX11_feed_33 : decode cX11_feed 33 = .ok (.if_icmp .ge 7, 3) := by decide +kernel
theorem dX11_feed_36 : decode cX11_feed 36 = .ok (.iload_n 1, 1) := by decide +kernel
theorem dX11_feed_37 : decode cX11_feed 37 = .ok (.goto 39, 3) := by decide +kernel
theorem dX11_feed_40 : decode cX11_feed 40 = .ok (.iload 6, 2) := by decide +kernel
theorem dX11_feed_42 : decode cX11_feed 42 = .ok (.bipush 8, 2) := by decide +kernel
theorem dX11_feed_44 : decode cX11_feed 44 = .ok (.if_icmp .ge 7, 3) := by decide +kernel
theorem dX11_feed_47 : decode cX11_feed 47 = .ok (.iload_n 2, 1) := by decide +kernel
theorem dX11_feed_48 : decode cX11_feed 48 = .ok (.goto 28, 3) := by decide +kernel
theorem dX11_feed_51 : decode cX11_feed 51 = .ok (.iload 6, 2) := by decide +kernel
theorem dX11_feed_53 : decode cX11_feed 53 = .ok (.bipush 12, 2) := by decide +kernel
theorem dX11_feed_55 : decode cX11_feed 55 = .ok (.if_icmp .ge 7, 3) := by decide +kernel
theorem dX11_feed_58 : decode cX11_feed 58 = .ok (.iload_n 3, 1) := by decide +kernel
theorem dX11_feed_59 : decode cX11_feed 59 = .ok (.goto 17, 3) := by decide +kernel
theorem dX11_feed_62 : decode cX11_feed 62 = .ok (.iload 6, 2) := by decide +kernel
theorem dX11_feed_64 : decode cX11_feed 64 = .ok (.bipush 16, 2) := by decide +kernel
theorem dX11_feed_66 : decode cX11_feed 66 = .ok (.if_icmp .ge 8, 3) := by decide +kernel
theorem dX11_feed_69 : decode cX11_feed 69 = .ok (.iload 4, 2) := by decide +kernel
theorem dX11_feed_71 : decode cX11_feed 71 = .ok (.goto 5, 3) := by decide +kernel
theorem dX11_feed_74 : decode cX11_feed 74 = .ok (.iload 5, 2) := by decide +kernel
theorem dX11_feed_76 : decode cX11_feed 76 = .ok (.istore 7, 2) := by decide +kernel
theorem dX11_feed_78 : decode cX11_feed 78 = .ok (.aload_n 0, 1) := by decide +kernel
theorem dX11_feed_79 : decode cX11_feed 79 = .ok (.getfield 20, 3) := by decide +kernel
theorem dX11_feed_82 : decode cX11_feed 82 = .ok (.aload_n 0, 1) := by decide +kernel
theorem dX11_feed_83 : decode cX11_feed 83 = .ok (.getfield 101, 3) := by decide +kernel
theorem dX11_feed_86 : decode cX11_feed 86 = .ok (.iload 7, 2) := by decide +kernel
theorem dX11_feed_88 : decode cX11_feed 88 = .ok (.bipush 24, 2) := by decide +kernel
theorem dX11_feed_90 : decode cX11_feed 90 = .ok (.bipush 8, 2) := by decide +kernel
theorem dX11_feed_92 : decode cX11_feed 92 = .ok (.iload 6, 2) := by decide +kernel
theorem dX11_feed_94 : decode cX11_feed 94 = .ok (.iconst 4, 1) := by decide +kernel
theorem dX11_feed_95 : decode cX11_feed 95 = .ok (.irem, 1) := by decide +kernel
theorem dX11_feed_96 : decode cX11_feed 96 = .ok (.imul, 1) := by decide +kernel
theorem dX11_feed_97 : decode cX11_feed 97 = .ok (.isub, 1) := by decide +kernel
theorem dX11_feed_98 : decode cX11_feed 98 = .ok (.ishr, 1) := by decide +kernel
theorem dX11_feed_99 : decode cX11_feed 99 = .ok (.sipush 255, 3) := by decide +kernel
theorem dX11_feed_102 : decode cX11_feed 102 = .ok (.iand, 1) := by decide +kernel
theorem dX11_feed_103 : decode cX11_feed 103 = .ok (.iastore, 1) := by decide +kernel
theorem dX11_feed_104 : decode cX11_feed 104 = .ok (.aload_n 0, 1) := by decide +kernel
theorem dX11_feed_105 : decode cX11_feed 105 = .ok (.dup, 1) := by decide +kernel
theorem dX11_feed_106 : decode cX11_feed 106 = .ok (.getfield 101, 3) := by decide +kernel
theorem dX11_feed_109 : decode cX11_feed 109 = .ok (.iconst 1, 1) := by decide +kernel
theorem dX11_feed_110 : decode cX11_feed 110 = .ok (.iadd, 1) := by decide +kernel
theorem dX11_feed_111 : decode cX11_feed 111 = .ok (.putfield 101, 3) := by decide +kernel
theorem dX11_feed_114 : decode cX11_feed 114 = .ok (.iinc 6 1, 3) := by decide +kernel
theorem dX11_feed_117 : decode cX11_feed 117 = .ok (.goto (-94), 3) := by decide +kernel
theorem dX11_feed_120 : decode cX11_feed 120 = .ok (.aload_n 0, 1) := by decide +kernel
theorem dX11_feed_121 : decode cX11_feed 121 = .ok (.getfield 101, 3) := by decide +kernel
theorem dX11_feed_124 : decode cX11_feed 124 = .ok (.ireturn, 1) := by decide +kernel
theorem dX11_fine_0 : decode cX11_fine 0 = .ok (.aload_n 0, 1) := by decide +kernel
theorem dX11_fine_1 : decode cX11_fine 1 = .ok (.getfield 104, 3) := by decide +kernel
theorem dX11_fine_4 : decode cX11_fine 4 = .ok (.iconst (-1), 1) := by decide +kernel
theorem dX11_fine_5 : decode cX11_fine 5 = .ok (.if_icmp .ne 7, 3) := by decide +kernel
theorem dX11_fine_8 : decode cX11_fine 8 = .ok (.iconst 1, 1) := by decide +kernel
theorem dX11_fine_9 : decode cX11_fine 9 = .ok (.goto 4, 3) := by decide +kernel
theorem dX11_fine_12 : decode cX11_fine 12 = .ok (.iconst 0, 1) := by decide +kernel
theorem dX11_fine_13 : decode cX11_fine 13 = .ok (.ireturn, 1) := by decide +kernel
theorem dX11_wrong_0 : decode cX11_wrong 0 = .ok (.aload_n 0, 1) := by decide +kernel
theorem dX11_wrong_1 : decode cX11_wrong 1 = .ok (.getfield 104, 3) := by decide +kernel
theorem dX11_wrong_4 : decode cX11_wrong 4 = .ok (.iconst (-1), 1) := by decide +kernel
theorem dX11_wrong_5 : decode cX11_wrong 5 = .ok (.if_icmp .eq 4, 3) := by decide +kernel
theorem dX11_wrong_8 : decode cX11_wrong 8 = .ok (.return_, 1) := by decide +kernel
theorem dX11_wrong_9 : decode cX11_wrong 9 = .ok (.aload_n 0, 1) := by decide +kernel
theorem dX11_wrong_10 : decode cX11_wrong 10 = .ok (.iload_n 2, 1) := by decide +kernel
theorem dX11_wrong_11 : decode cX11_wrong 11 = .ok (.putfield 104, 3) := by decide +kernel
theorem dX11_wrong_14 : decode cX11_wrong 14 = .ok (.aload_n 0, 1) := by decide +kernel
theorem dX11_wrong_15 : decode cX11_wrong 15 = .ok (.iload_n 1, 1) := by decide +kernel
theorem dX11_wrong_16 : decode cX11_wrong 16 = .ok (.putfield 107, 3) := by decide +kernel
theorem dX11_wrong_19 : decode cX11_wrong 19 = .ok (.return_, 1) := by decide +kernel
theorem dX11_here_0 : decode cX11_here 0 = .ok (.aload_n 0, 1) := by decide +kernel
theorem dX11_here_1 : decode cX11_here 1 = .ok (.getfield 110, 3) := by decide +kernel
theorem dX11_here_4 : decode cX11_here 4 = .ok (.aload_n 0, 1) := by decide +kernel
theorem dX11_here_5 : decode cX11_here 5 = .ok (.getfield 113, 3) := by decide +kernel
theorem dX11_here_8 : decode cX11_here 8 = .ok (.if_icmp .ge 30, 3) := by decide +kernel
theorem dX11_here_11 : decode cX11_here 11 = .ok (.aload_n 0, 1) := by decide +kernel
theorem dX11_here_12 : decode cX11_here 12 = .ok (.getfield 20, 3) := by decide +kernel
theorem dX11_here_15 : decode cX11_here 15 = .ok (.aload_n 0, 1) := by decide +kernel
theorem dX11_here_16 : decode cX11_here 16 = .ok (.getfield 110, 3) := by decide +kernel
theorem dX11_here_19 : decode cX11_here 19 = .ok (.iaload, 1) := by decide +kernel
theorem dX11_here_20 : decode cX11_here 20 = .ok (.bipush 32, 2) := by decide +kernel
theorem dX11_here_22 : decode cX11_here 22 = .ok (.if_icmp .ne 16, 3) := by decide +kernel
theorem dX11_here_25 : decode cX11_here 25 = .ok (.aload_n 0, 1) := by decide +kernel
theorem dX11_here_26 : decode cX11_here 26 = .ok (.dup, 1) := by decide +kernel
theorem dX11_here_27 : decode cX11_here 27 = .ok (.getfield 110, 3) := by decide +kernel
theorem dX11_here_30 : decode cX11_here 30 = .ok (.iconst 1, 1) := by decide +kernel
theorem dX11_here_31 : decode cX11_here 31 = .ok (.iadd, 1) := by decide +kernel
theorem dX11_here_32 : decode cX11_here 32 = .ok (.putfield 110, 3) := by decide +kernel
theorem dX11_here_35 : decode cX11_here 35 = .ok (.goto (-35), 3) := by decide +kernel
theorem dX11_here_38 : decode cX11_here 38 = .ok (.aload_n 0, 1) := by decide +kernel
theorem dX11_here_39 : decode cX11_here 39 = .ok (.getfield 110, 3) := by decide +kernel
theorem dX11_here_42 : decode cX11_here 42 = .ok (.aload_n 0, 1) := by decide +kernel
theorem dX11_here_43 : decode cX11_here 43 = .ok (.getfield 113, 3) := by decide +kernel
theorem dX11_here_46 : decode cX11_here 46 = .ok (.if_icmp .ge 15, 3) := by decide +kernel
theorem dX11_here_49 : decode cX11_here 49 = .ok (.aload_n 0, 1) := by decide +kernel
theorem dX11_here_50 : decode cX11_here 50 = .ok (.getfield 20, 3) := by decide +kernel
theorem dX11_here_53 : decode cX11_here 53 = .ok (.aload_n 0, 1) := by decide +kernel
theorem dX11_here_54 : decode cX11_here 54 = .ok (.getfield 110, 3) := by decide +kernel
theorem dX11_here_57 : decode cX11_here 57 = .ok (.iaload, 1) := by decide +kernel
theorem dX11_here_58 : decode cX11_here 58 = .ok (.goto 4, 3) := by decide +kernel
theorem dX11_here_61 : decode cX11_here 61 = .ok (.iconst 0, 1) := by decide +kernel
theorem dX11_here_62 : decode cX11_here 62 = .ok (.ireturn, 1) := by decide +kernel
theorem dX11_isSmall_0 : decode cX11_isSmall 0 = .ok (.iload_n 0, 1) := by decide +kernel
theorem dX11_isSmall_1 : decode cX11_isSmall 1 = .ok (.bipush 97, 2) := by decide +kernel
theorem dX11_isSmall_3 : decode cX11_isSmall 3 = .ok (.if_icmp .lt 13, 3) := by decide +kernel
theorem dX11_isSmall_6 : decode cX11_isSmall 6 = .ok (.iload_n 0, 1) := by decide +kernel
theorem dX11_isSmall_7 : decode cX11_isSmall 7 = .ok (.bipush 122, 2) := by decide +kernel
theorem dX11_isSmall_9 : decode cX11_isSmall 9 = .ok (.if_icmp .gt 7, 3) := by decide +kernel
theorem dX11_isSmall_12 : decode cX11_isSmall 12 = .ok (.iconst 1, 1) := by decide +kernel
theorem dX11_isSmall_13 : decode cX11_isSmall 13 = .ok (.goto 4, 3) := by decide +kernel
theorem dX11_isSmall_16 : decode cX11_isSmall 16 = .ok (.iconst 0, 1) := by decide +kernel
theorem dX11_isSmall_17 : decode cX11_isSmall 17 = .ok (.ireturn, 1) := by decide +kernel
theorem dX11_isDigit_0 : decode cX11_isDigit 0 = .ok (.iload_n 0, 1) := by decide +kernel
theorem dX11_isDigit_1 : decode cX11_isDigit 1 = .ok (.bipush 48, 2) := by decide +kernel
theorem dX11_isDigit_3 : decode cX11_isDigit 3 = .ok (.if_icmp .lt 13, 3) := by decide +kernel
theorem dX11_isDigit_6 : decode cX11_isDigit 6 = .ok (.iload_n 0, 1) := by decide +kernel
theorem dX11_isDigit_7 : decode cX11_isDigit 7 = .ok (.bipush 57, 2) := by decide +kernel
theorem dX11_isDigit_9 : decode cX11_isDigit 9 = .ok (.if_icmp .gt 7, 3) := by decide +kernel
theorem dX11_isDigit_12 : decode cX11_isDigit 12 = .ok (.iconst 1, 1) := by decide +kernel
theorem dX11_isDigit_13 : decode cX11_isDigit 13 = .ok (.goto 4, 3) := by decide +kernel
theorem dX11_isDigit_16 : decode cX11_isDigit 16 = .ok (.iconst 0, 1) := by decide +kernel
theorem dX11_isDigit_17 : decode cX11_isDigit 17 = .ok (.ireturn, 1) := by decide +kernel
theorem dX11_word_0 : decode cX11_word 0 = .ok (.aload_n 0, 1) := by decide +kernel
theorem dX11_word_1 : decode cX11_word 1 = .ok (.invokevirtual 116, 3) := by decide +kernel
theorem dX11_word_4 : decode cX11_word 4 = .ok (.pop, 1) := by decide +kernel
theorem dX11_word_5 : decode cX11_word 5 = .ok (.iconst 0, 1) := by decide +kernel
theorem dX11_word_6 : decode cX11_word 6 = .ok (.istore_n 1, 1) := by decide +kernel
theorem dX11_word_7 : decode cX11_word 7 = .ok (.iconst 0, 1) := by decide +kernel
theorem dX11_word_8 : decode cX11_word 8 = .ok (.istore_n 2, 1) := by decide +kernel
theorem dX11_word_9 : decode cX11_word 9 = .ok (.aload_n 0, 1) := by decide +kernel
theorem dX11_word_10 : decode cX11_word 10 = .ok (.getfield 110, 3) := by decide +kernel
theorem dX11_word_13 : decode cX11_word 13 = .ok (.istore_n 3, 1) := by decide +kernel
theorem dX11_word_14 : decode cX11_word 14 = .ok (.iload_n 3, 1) := by decide +kernel
theorem dX11_word_15 : decode cX11_word 15 = .ok (.aload_n 0, 1) := by decide +kernel
theorem dX11_word_16 : decode cX11_word 16 = .ok (.getfield 113, 3) := by decide +kernel
theorem dX11_word_19 : decode cX11_word 19 = .ok (.if_icmp .ge 48, 3) := by decide +kernel
theorem dX11_word_22 : decode cX11_word 22 = .ok (.aload_n 0, 1) := by decide +kernel
theorem dX11_word_23 : decode cX11_word 23 = .ok (.getfield 20, 3) := by decide +kernel
theorem dX11_word_26 : decode cX11_word 26 = .ok (.iload_n 3, 1) := by decide +kernel
theorem dX11_word_27 : decode cX11_word 27 = .ok (.iaload, 1) := by decide +kernel
theorem dX11_word_28 : decode cX11_word 28 = .ok (.invokestatic 120, 3) := by decide +kernel
theorem dX11_word_31 : decode cX11_word 31 = .ok (.ifCond .eq 36, 3) := by decide +kernel
theorem dX11_word_34 : decode cX11_word 34 = .ok (.iload_n 2, 1) := by decide +kernel
theorem dX11_word_35 : decode cX11_word 35 = .ok (.bipush 6, 2) := by decide +kernel
theorem dX11_word_37 : decode cX11_word 37 = .ok (.if_icmp .ge 19, 3) := by decide +kernel
theorem dX11_word_40 : decode cX11_word 40 = .ok (.iload_n 1, 1) := by decide +kernel
theorem dX11_word_41 : decode cX11_word 41 = .ok (.iconst 5, 1) := by decide +kernel
theorem dX11_word_42 : decode cX11_word 42 = .ok (.ishl, 1) := by decide +kernel
theorem dX11_word_43 : decode cX11_word 43 = .ok (.aload_n 0, 1) := by decide +kernel
theorem dX11_word_44 : decode cX11_word 44 = .ok (.getfield 20, 3) := by decide +kernel
theorem dX11_word_47 : decode cX11_word 47 = .ok (.iload_n 3, 1) := by decide +kernel
theorem dX11_word_48 : decode cX11_word 48 = .ok (.iaload, 1) := by decide +kernel
theorem dX11_word_49 : decode cX11_word 49 = .ok (.bipush 96, 2) := by decide +kernel
theorem dX11_word_51 : decode cX11_word 51 = .ok (.isub, 1) := by decide +kernel
theorem dX11_word_52 : decode cX11_word 52 = .ok (.ior, 1) := by decide +kernel
theorem dX11_word_53 : decode cX11_word 53 = .ok (.goto 4, 3) := by decide +kernel
theorem dX11_word_56 : decode cX11_word 56 = .ok (.iconst 0, 1) := by decide +kernel
theorem dX11_word_57 : decode cX11_word 57 = .ok (.istore_n 1, 1) := by decide +kernel
theorem dX11_word_58 : decode cX11_word 58 = .ok (.iinc 2 1, 3) := by decide +kernel
theorem dX11_word_61 : decode cX11_word 61 = .ok (.iinc 3 1, 3) := by decide +kernel
theorem dX11_word_64 : decode cX11_word 64 = .ok (.goto (-50), 3) := by decide +kernel
theorem dX11_word_67 : decode cX11_word 67 = .ok (.iload_n 2, 1) := by decide +kernel
theorem dX11_word_68 : decode cX11_word 68 = .ok (.bipush 6, 2) := by decide +kernel
theorem dX11_word_70 : decode cX11_word 70 = .ok (.if_icmp .le 7, 3) := by decide +kernel
theorem dX11_word_73 : decode cX11_word 73 = .ok (.iconst 0, 1) := by decide +kernel
theorem dX11_word_74 : decode cX11_word 74 = .ok (.goto 4, 3) := by decide +kernel
theorem dX11_word_77 : decode cX11_word 77 = .ok (.iload_n 1, 1) := by decide +kernel
theorem dX11_word_78 : decode cX11_word 78 = .ok (.ireturn, 1) := by decide +kernel
theorem dX11_of_0 : decode cX11_of 0 = .ok (.iconst 0, 1) := by decide +kernel
theorem dX11_of_1 : decode cX11_of 1 = .ok (.istore_n 1, 1) := by decide +kernel
theorem dX11_of_2 : decode cX11_of 2 = .ok (.iconst 0, 1) := by decide +kernel
theorem dX11_of_3 : decode cX11_of 3 = .ok (.istore_n 2, 1) := by decide +kernel
theorem dX11_of_4 : decode cX11_of 4 = .ok (.iload_n 2, 1) := by decide +kernel
theorem dX11_of_5 : decode cX11_of 5 = .ok (.aload_n 0, 1) := by decide +kernel
theorem dX11_of_6 : decode cX11_of 6 = .ok (.invokevirtual 124, 3) := by decide +kernel
theorem dX11_of_9 : decode cX11_of 9 = .ok (.if_icmp .ge 22, 3) := by decide +kernel
theorem dX11_of_12 : decode cX11_of 12 = .ok (.iload_n 1, 1) := by decide +kernel
theorem dX11_of_13 : decode cX11_of 13 = .ok (.iconst 5, 1) := by decide +kernel
theorem dX11_of_14 : decode cX11_of 14 = .ok (.ishl, 1) := by decide +kernel
theorem dX11_of_15 : decode cX11_of 15 = .ok (.aload_n 0, 1) := by decide +kernel
theorem dX11_of_16 : decode cX11_of 16 = .ok (.iload_n 2, 1) := by decide +kernel
theorem dX11_of_17 : decode cX11_of 17 = .ok (.invokevirtual 129, 3) := by decide +kernel
theorem dX11_of_20 : decode cX11_of 20 = .ok (.bipush 96, 2) := by decide +kernel
theorem dX11_of_22 : decode cX11_of 22 = .ok (.isub, 1) := by decide +kernel
theorem dX11_of_23 : decode cX11_of 23 = .ok (.ior, 1) := by decide +kernel
theorem dX11_of_24 : decode cX11_of 24 = .ok (.istore_n 1, 1) := by decide +kernel
theorem dX11_of_25 : decode cX11_of 25 = .ok (.iinc 2 1, 3) := by decide +kernel
theorem dX11_of_28 : decode cX11_of 28 = .ok (.goto (-24), 3) := by decide +kernel
theorem dX11_of_31 : decode cX11_of 31 = .ok (.iload_n 1, 1) := by decide +kernel
theorem dX11_of_32 : decode cX11_of 32 = .ok (.ireturn, 1) := by decide +kernel
theorem dX11_pass_0 : decode cX11_pass 0 = .ok (.aload_n 0, 1) := by decide +kernel
theorem dX11_pass_1 : decode cX11_pass 1 = .ok (.getfield 110, 3) := by decide +kernel
theorem dX11_pass_4 : decode cX11_pass 4 = .ok (.aload_n 0, 1) := by decide +kernel
theorem dX11_pass_5 : decode cX11_pass 5 = .ok (.getfield 113, 3) := by decide +kernel
theorem dX11_pass_8 : decode cX11_pass 8 = .ok (.if_icmp .ge 31, 3) := by decide +kernel
theorem dX11_pass_11 : decode cX11_pass 11 = .ok (.aload_n 0, 1) := by decide +kernel
theorem dX11_pass_12 : decode cX11_pass 12 = .ok (.getfield 20, 3) := by decide +kernel
theorem dX11_pass_15 : decode cX11_pass 15 = .ok (.aload_n 0, 1) := by decide +kernel
theorem dX11_pass_16 : decode cX11_pass 16 = .ok (.getfield 110, 3) := by decide +kernel
theorem dX11_pass_19 : decode cX11_pass 19 = .ok (.iaload, 1) := by decide +kernel
theorem dX11_pass_20 : decode cX11_pass 20 = .ok (.invokestatic 120, 3) := by decide +kernel
theorem dX11_pass_23 : decode cX11_pass 23 = .ok (.ifCond .eq 16, 3) := by decide +kernel
theorem dX11_pass_26 : decode cX11_pass 26 = .ok (.aload_n 0, 1) := by decide +kernel
theorem dX11_pass_27 : decode cX11_pass 27 = .ok (.dup, 1) := by decide +kernel
theorem dX11_pass_28 : decode cX11_pass 28 = .ok (.getfield 110, 3) := by decide +kernel
theorem dX11_pass_31 : decode cX11_pass 31 = .ok (.iconst 1, 1) := by decide +kernel
theorem dX11_pass_32 : decode cX11_pass 32 = .ok (.iadd, 1) := by decide +kernel
theorem dX11_pass_33 : decode cX11_pass 33 = .ok (.putfield 110, 3) := by decide +kernel
theorem dX11_pass_36 : decode cX11_pass 36 = .ok (.goto (-36), 3) := by decide +kernel
theorem dX11_pass_39 : decode cX11_pass 39 = .ok (.return_, 1) := by decide +kernel
theorem dX11_readNumber_0 : decode cX11_readNumber 0 = .ok (.aload_n 0, 1) := by decide +kernel
theorem dX11_readNumber_1 : decode cX11_readNumber 1 = .ok (.invokevirtual 133, 3) := by decide +kernel
theorem dX11_readNumber_4 : decode cX11_readNumber 4 = .ok (.ifCond .ne 5, 3) := by decide +kernel
theorem dX11_readNumber_7 : decode cX11_readNumber 7 = .ok (.iconst 0, 1) := by decide +kernel
theorem dX11_readNumber_8 : decode cX11_readNumber 8 = .ok (.ireturn, 1) := by decide +kernel
theorem dX11_readNumber_9 : decode cX11_readNumber 9 = .ok (.aload_n 0, 1) := by decide +kernel
theorem dX11_readNumber_10 : decode cX11_readNumber 10 = .ok (.invokevirtual 116, 3) := by decide +kernel
theorem dX11_readNumber_13 : decode cX11_readNumber 13 = .ok (.istore_n 3, 1) := by decide +kernel
theorem dX11_readNumber_14 : decode cX11_readNumber 14 = .ok (.aload_n 0, 1) := by decide +kernel
theorem dX11_readNumber_15 : decode cX11_readNumber 15 = .ok (.getfield 110, 3) := by decide +kernel
theorem dX11_readNumber_18 : decode cX11_readNumber 18 = .ok (.istore 4, 2) := by decide +kernel
theorem dX11_readNumber_20 : decode cX11_readNumber 20 = .ok (.iconst 0, 1) := by decide +kernel
theorem dX11_readNumber_21 : decode cX11_readNumber 21 = .ok (.istore 5, 2) := by decide +kernel
theorem dX11_readNumber_23 : decode cX11_readNumber 23 = .ok (.iload_n 3, 1) := by decide +kernel
theorem dX11_readNumber_24 : decode cX11_readNumber 24 = .ok (.invokestatic 137, 3) := by decide +kernel
theorem dX11_readNumber_27 : decode cX11_readNumber 27 = .ok (.ifCond .ne 14, 3) := by decide +kernel
theorem dX11_readNumber_30 : decode cX11_readNumber 30 = .ok (.aload_n 0, 1) := by decide +kernel
theorem dX11_readNumber_31 : decode cX11_readNumber 31 = .ok (.iconst 1, 1) := by decide +kernel
theorem dX11_readNumber_32 : decode cX11_readNumber 32 = .ok (.aload_n 0, 1) := by decide +kernel
theorem dX11_readNumber_33 : decode cX11_readNumber 33 = .ok (.getfield 110, 3) := by decide +kernel
theorem dX11_readNumber_36 : decode cX11_readNumber 36 = .ok (.invokevirtual 140, 3) := by decide +kernel
theorem dX11_readNumber_39 : decode cX11_readNumber 39 = .ok (.iconst 0, 1) := by decide +kernel
theorem dX11_readNumber_40 : decode cX11_readNumber 40 = .ok (.ireturn, 1) := by decide +kernel
theorem dX11_readNumber_41 : decode cX11_readNumber 41 = .ok (.aload_n 0, 1) := by decide +kernel
theorem dX11_readNumber_42 : decode cX11_readNumber 42 = .ok (.getfield 110, 3) := by decide +kernel
theorem dX11_readNumber_45 : decode cX11_readNumber 45 = .ok (.aload_n 0, 1) := by decide +kernel
theorem dX11_readNumber_46 : decode cX11_readNumber 46 = .ok (.getfield 113, 3) := by decide +kernel
theorem dX11_readNumber_49 : decode cX11_readNumber 49 = .ok (.if_icmp .ge 65, 3) := by decide +kernel
theorem dX11_readNumber_52 : decode cX11_readNumber 52 = .ok (.aload_n 0, 1) := by decide +kernel
theorem dX11_readNumber_53 : decode cX11_readNumber 53 = .ok (.getfield 20, 3) := by decide +kernel
theorem dX11_readNumber_56 : decode cX11_readNumber 56 = .ok (.aload_n 0, 1) := by decide +kernel
theorem dX11_readNumber_57 : decode cX11_readNumber 57 = .ok (.getfield 110, 3) := by decide +kernel
theorem dX11_readNumber_60 : decode cX11_readNumber 60 = .ok (.iaload, 1) := by decide +kernel
theorem dX11_readNumber_61 : decode cX11_readNumber 61 = .ok (.invokestatic 137, 3) := by decide +kernel
theorem dX11_readNumber_64 : decode cX11_readNumber 64 = .ok (.ifCond .eq 50, 3) := by decide +kernel
theorem dX11_readNumber_67 : decode cX11_readNumber 67 = .ok (.iload 5, 2) := by decide +kernel
theorem dX11_readNumber_69 : decode cX11_readNumber 69 = .ok (.sipush 9999, 3) := by decide +kernel
theorem dX11_readNumber_72 : decode cX11_readNumber 72 = .ok (.if_icmp .le 9, 3) := by decide +kernel
theorem dX11_readNumber_75 : decode cX11_readNumber 75 = .ok (.sipush 10000, 3) := by decide +kernel
theorem dX11_readNumber_78 : decode cX11_readNumber 78 = .ok (.goto 21, 3) := by decide +kernel
theorem dX11_readNumber_81 : decode cX11_readNumber 81 = .ok (.bipush 10, 2) := by decide +kernel
theorem dX11_readNumber_83 : decode cX11_readNumber 83 = .ok (.iload 5, 2) := by decide +kernel
theorem dX11_readNumber_85 : decode cX11_readNumber 85 = .ok (.imul, 1) := by decide +kernel
theorem dX11_readNumber_86 : decode cX11_readNumber 86 = .ok (.aload_n 0, 1) := by decide +kernel
theorem dX11_readNumber_87 : decode cX11_readNumber 87 = .ok (.getfield 20, 3) := by decide +kernel
theorem dX11_readNumber_90 : decode cX11_readNumber 90 = .ok (.aload_n 0, 1) := by decide +kernel
theorem dX11_readNumber_91 : decode cX11_readNumber 91 = .ok (.getfield 110, 3) := by decide +kernel
theorem dX11_readNumber_94 : decode cX11_readNumber 94 = .ok (.iaload, 1) := by decide +kernel
theorem dX11_readNumber_95 : decode cX11_readNumber 95 = .ok (.iadd, 1) := by decide +kernel
theorem dX11_readNumber_96 : decode cX11_readNumber 96 = .ok (.bipush 48, 2) := by decide +kernel
theorem dX11_readNumber_98 : decode cX11_readNumber 98 = .ok (.isub, 1) := by decide +kernel
theorem dX11_readNumber_99 : decode cX11_readNumber 99 = .ok (.istore 5, 2) := by decide +kernel
theorem dX11_readNumber_101 : decode cX11_readNumber 101 = .ok (.aload_n 0, 1) := by decide +kernel
theorem dX11_readNumber_102 : decode cX11_readNumber 102 = .ok (.dup, 1) := by decide +kernel
theorem dX11_readNumber_103 : decode cX11_readNumber 103 = .ok (.getfield 110, 3) := by decide +kernel
theorem dX11_readNumber_106 : decode cX11_readNumber 106 = .ok (.iconst 1, 1) := by decide +kernel
theorem dX11_readNumber_107 : decode cX11_readNumber 107 = .ok (.iadd, 1) := by decide +kernel
theorem dX11_readNumber_108 : decode cX11_readNumber 108 = .ok (.putfield 110, 3) := by decide +kernel
theorem dX11_readNumber_111 : decode cX11_readNumber 111 = .ok (.goto (-70), 3) := by decide +kernel
theorem dX11_readNumber_114 : decode cX11_readNumber 114 = .ok (.iload 5, 2) := by decide +kernel
theorem dX11_readNumber_116 : decode cX11_readNumber 116 = .ok (.iload_n 1, 1) := by decide +kernel
theorem dX11_readNumber_117 : decode cX11_readNumber 117 = .ok (.if_icmp .lt 9, 3) := by decide +kernel
theorem dX11_readNumber_120 : decode cX11_readNumber 120 = .ok (.iload 5, 2) := by decide +kernel
theorem dX11_readNumber_122 : decode cX11_readNumber 122 = .ok (.iload_n 2, 1) := by decide +kernel
theorem dX11_readNumber_123 : decode cX11_readNumber 123 = .ok (.if_icmp .le 12, 3) := by decide +kernel
theorem dX11_readNumber_126 : decode cX11_readNumber 126 = .ok (.aload_n 0, 1) := by decide +kernel
theorem dX11_readNumber_127 : decode cX11_readNumber 127 = .ok (.iconst 2, 1) := by decide +kernel
theorem dX11_readNumber_128 : decode cX11_readNumber 128 = .ok (.iload 4, 2) := by decide +kernel
theorem dX11_readNumber_130 : decode cX11_readNumber 130 = .ok (.invokevirtual 140, 3) := by decide +kernel
theorem dX11_readNumber_133 : decode cX11_readNumber 133 = .ok (.iconst 0, 1) := by decide +kernel
theorem dX11_readNumber_134 : decode cX11_readNumber 134 = .ok (.ireturn, 1) := by decide +kernel
theorem dX11_readNumber_135 : decode cX11_readNumber 135 = .ok (.iload 5, 2) := by decide +kernel
theorem dX11_readNumber_137 : decode cX11_readNumber 137 = .ok (.ireturn, 1) := by decide +kernel
theorem dX11_sign_0 : decode cX11_sign 0 = .ok (.aload_n 0, 1) := by decide +kernel
theorem dX11_sign_1 : decode cX11_sign 1 = .ok (.invokevirtual 133, 3) := by decide +kernel
theorem dX11_sign_4 : decode cX11_sign 4 = .ok (.ifCond .eq 20, 3) := by decide +kernel
theorem dX11_sign_7 : decode cX11_sign 7 = .ok (.aload_n 0, 1) := by decide +kernel
theorem dX11_sign_8 : decode cX11_sign 8 = .ok (.invokevirtual 116, 3) := by decide +kernel
theorem dX11_sign_11 : decode cX11_sign 11 = .ok (.iload_n 1, 1) := by decide +kernel
theorem dX11_sign_12 : decode cX11_sign 12 = .ok (.if_icmp .eq 12, 3) := by decide +kernel
theorem dX11_sign_15 : decode cX11_sign 15 = .ok (.aload_n 0, 1) := by decide +kernel
theorem dX11_sign_16 : decode cX11_sign 16 = .ok (.iconst 1, 1) := by decide +kernel
theorem dX11_sign_17 : decode cX11_sign 17 = .ok (.aload_n 0, 1) := by decide +kernel
theorem dX11_sign_18 : decode cX11_sign 18 = .ok (.getfield 110, 3) := by decide +kernel
theorem dX11_sign_21 : decode cX11_sign 21 = .ok (.invokevirtual 140, 3) := by decide +kernel
theorem dX11_sign_24 : decode cX11_sign 24 = .ok (.aload_n 0, 1) := by decide +kernel
theorem dX11_sign_25 : decode cX11_sign 25 = .ok (.invokevirtual 133, 3) := by decide +kernel
theorem dX11_sign_28 : decode cX11_sign 28 = .ok (.ifCond .eq 13, 3) := by decide +kernel
theorem dX11_sign_31 : decode cX11_sign 31 = .ok (.aload_n 0, 1) := by decide +kernel
theorem dX11_sign_32 : decode cX11_sign 32 = .ok (.dup, 1) := by decide +kernel
theorem dX11_sign_33 : decode cX11_sign 33 = .ok (.getfield 110, 3) := by decide +kernel
theorem dX11_sign_36 : decode cX11_sign 36 = .ok (.iconst 1, 1) := by decide +kernel
theorem dX11_sign_37 : decode cX11_sign 37 = .ok (.iadd, 1) := by decide +kernel
theorem dX11_sign_38 : decode cX11_sign 38 = .ok (.putfield 110, 3) := by decide +kernel
theorem dX11_sign_41 : decode cX11_sign 41 = .ok (.return_, 1) := by decide +kernel
theorem dX11_isMore_0 : decode cX11_isMore 0 = .ok (.aload_n 0, 1) := by decide +kernel
theorem dX11_isMore_1 : decode cX11_isMore 1 = .ok (.invokevirtual 116, 3) := by decide +kernel
theorem dX11_isMore_4 : decode cX11_isMore 4 = .ok (.pop, 1) := by decide +kernel
theorem dX11_isMore_5 : decode cX11_isMore 5 = .ok (.aload_n 0, 1) := by decide +kernel
theorem dX11_isMore_6 : decode cX11_isMore 6 = .ok (.getfield 110, 3) := by decide +kernel
theorem dX11_isMore_9 : decode cX11_isMore 9 = .ok (.aload_n 0, 1) := by decide +kernel
theorem dX11_isMore_10 : decode cX11_isMore 10 = .ok (.getfield 113, 3) := by decide +kernel
theorem dX11_isMore_13 : decode cX11_isMore 13 = .ok (.if_icmp .ge 7, 3) := by decide +kernel
theorem dX11_isMore_16 : decode cX11_isMore 16 = .ok (.iconst 1, 1) := by decide +kernel
theorem dX11_isMore_17 : decode cX11_isMore 17 = .ok (.goto 4, 3) := by decide +kernel
theorem dX11_isMore_20 : decode cX11_isMore 20 = .ok (.iconst 0, 1) := by decide +kernel
theorem dX11_isMore_21 : decode cX11_isMore 21 = .ok (.ireturn, 1) := by decide +kernel
theorem dX11_begins_0 : decode cX11_begins 0 = .ok (.aload_n 0, 1) := by decide +kernel
theorem dX11_begins_1 : decode cX11_begins 1 = .ok (.iconst 0, 1) := by decide +kernel
theorem dX11_begins_2 : decode cX11_begins 2 = .ok (.putfield 101, 3) := by decide +kernel
theorem dX11_begins_5 : decode cX11_begins 5 = .ok (.aload_n 0, 1) := by decide +kernel
theorem dX11_begins_6 : decode cX11_begins 6 = .ok (.iconst (-1), 1) := by decide +kernel
theorem dX11_begins_7 : decode cX11_begins 7 = .ok (.putfield 17, 3) := by decide +kernel
theorem dX11_begins_10 : decode cX11_begins 10 = .ok (.aload_n 0, 1) := by decide +kernel
theorem dX11_begins_11 : decode cX11_begins 11 = .ok (.iload_n 1, 1) := by decide +kernel
theorem dX11_begins_12 : decode cX11_begins 12 = .ok (.putfield 113, 3) := by decide +kernel
theorem dX11_begins_15 : decode cX11_begins 15 = .ok (.aload_n 0, 1) := by decide +kernel
theorem dX11_begins_16 : decode cX11_begins 16 = .ok (.iconst 0, 1) := by decide +kernel
theorem dX11_begins_17 : decode cX11_begins 17 = .ok (.putfield 110, 3) := by decide +kernel
theorem dX11_begins_20 : decode cX11_begins 20 = .ok (.aload_n 0, 1) := by decide +kernel
theorem dX11_begins_21 : decode cX11_begins 21 = .ok (.iconst (-1), 1) := by decide +kernel
theorem dX11_begins_22 : decode cX11_begins 22 = .ok (.putfield 104, 3) := by decide +kernel
theorem dX11_begins_25 : decode cX11_begins 25 = .ok (.aload_n 0, 1) := by decide +kernel
theorem dX11_begins_26 : decode cX11_begins 26 = .ok (.iconst 0, 1) := by decide +kernel
theorem dX11_begins_27 : decode cX11_begins 27 = .ok (.putfield 144, 3) := by decide +kernel
theorem dX11_begins_30 : decode cX11_begins 30 = .ok (.return_, 1) := by decide +kernel
theorem dX11_result_0 : decode cX11_result 0 = .ok (.aload_n 0, 1) := by decide +kernel
theorem dX11_result_1 : decode cX11_result 1 = .ok (.aload_n 0, 1) := by decide +kernel
theorem dX11_result_2 : decode cX11_result 2 = .ok (.getfield 104, 3) := by decide +kernel
theorem dX11_result_5 : decode cX11_result 5 = .ok (.putfield 17, 3) := by decide +kernel
theorem dX11_result_8 : decode cX11_result 8 = .ok (.aload_n 0, 1) := by decide +kernel
theorem dX11_result_9 : decode cX11_result 9 = .ok (.invokevirtual 133, 3) := by decide +kernel
theorem dX11_result_12 : decode cX11_result 12 = .ok (.ifCond .eq 7, 3) := by decide +kernel
theorem dX11_result_15 : decode cX11_result 15 = .ok (.iload_n 1, 1) := by decide +kernel
theorem dX11_result_16 : decode cX11_result 16 = .ok (.goto 10, 3) := by decide +kernel
theorem dX11_result_19 : decode cX11_result 19 = .ok (.aload_n 0, 1) := by decide +kernel
theorem dX11_result_20 : decode cX11_result 20 = .ok (.getfield 107, 3) := by decide +kernel
theorem dX11_result_23 : decode cX11_result 23 = .ok (.bipush 10, 2) := by decide +kernel
theorem dX11_result_25 : decode cX11_result 25 = .ok (.isub, 1) := by decide +kernel
theorem dX11_result_26 : decode cX11_result 26 = .ok (.ireturn, 1) := by decide +kernel
theorem dX11_fault_0 : decode cX11_fault 0 = .ok (.aload_n 0, 1) := by decide +kernel
theorem dX11_fault_1 : decode cX11_fault 1 = .ok (.iconst 0, 1) := by decide +kernel
theorem dX11_fault_2 : decode cX11_fault 2 = .ok (.putfield 3, 3) := by decide +kernel
theorem dX11_fault_5 : decode cX11_fault 5 = .ok (.aload_n 0, 1) := by decide +kernel
theorem dX11_fault_6 : decode cX11_fault 6 = .ok (.getfield 17, 3) := by decide +kernel
theorem dX11_fault_9 : decode cX11_fault 9 = .ok (.ireturn, 1) := by decide +kernel
theorem dX11_copies_0 : decode cX11_copies 0 = .ok (.iconst 0, 1) := by decide +kernel
theorem dX11_copies_1 : decode cX11_copies 1 = .ok (.istore 4, 2) := by decide +kernel
theorem dX11_copies_3 : decode cX11_copies 3 = .ok (.iload 4, 2) := by decide +kernel
theorem dX11_copies_5 : decode cX11_copies 5 = .ok (.iload_n 3, 1) := by decide +kernel
theorem dX11_copies_6 : decode cX11_copies 6 = .ok (.if_icmp .ge 17, 3) := by decide +kernel
theorem dX11_copies_9 : decode cX11_copies 9 = .ok (.aload_n 2, 1) := by decide +kernel
theorem dX11_copies_10 : decode cX11_copies 10 = .ok (.iload 4, 2) := by decide +kernel
theorem dX11_copies_12 : decode cX11_copies 12 = .ok (.aload_n 1, 1) := by decide +kernel
theorem dX11_copies_13 : decode cX11_copies 13 = .ok (.iload 4, 2) := by decide +kernel
theorem dX11_copies_15 : decode cX11_copies 15 = .ok (.iaload, 1) := by decide +kernel
theorem dX11_copies_16 : decode cX11_copies 16 = .ok (.iastore, 1) := by decide +kernel
theorem dX11_copies_17 : decode cX11_copies 17 = .ok (.iinc 4 1, 3) := by decide +kernel
theorem dX11_copies_20 : decode cX11_copies 20 = .ok (.goto (-17), 3) := by decide +kernel
theorem dX11_copies_23 : decode cX11_copies 23 = .ok (.return_, 1) := by decide +kernel
theorem dX11_clears_0 : decode cX11_clears 0 = .ok (.aload_n 0, 1) := by decide +kernel
theorem dX11_clears_1 : decode cX11_clears 1 = .ok (.iconst 0, 1) := by decide +kernel
theorem dX11_clears_2 : decode cX11_clears 2 = .ok (.putfield 147, 3) := by decide +kernel
theorem dX11_clears_5 : decode cX11_clears 5 = .ok (.aload_n 0, 1) := by decide +kernel
theorem dX11_clears_6 : decode cX11_clears 6 = .ok (.iconst 0, 1) := by decide +kernel
theorem dX11_clears_7 : decode cX11_clears 7 = .ok (.putfield 150, 3) := by decide +kernel
theorem dX11_clears_10 : decode cX11_clears 10 = .ok (.aload_n 0, 1) := by decide +kernel
theorem dX11_clears_11 : decode cX11_clears 11 = .ok (.iconst 5, 1) := by decide +kernel
theorem dX11_clears_12 : decode cX11_clears 12 = .ok (.putfield 153, 3) := by decide +kernel
theorem dX11_clears_15 : decode cX11_clears 15 = .ok (.iconst 0, 1) := by decide +kernel
theorem dX11_clears_16 : decode cX11_clears 16 = .ok (.istore_n 1, 1) := by decide +kernel
theorem dX11_clears_17 : decode cX11_clears 17 = .ok (.iload_n 1, 1) := by decide +kernel
theorem dX11_clears_18 : decode cX11_clears 18 = .ok (.iconst 3, 1) := by decide +kernel
theorem dX11_clears_19 : decode cX11_clears 19 = .ok (.if_icmp .ge 17, 3) := by decide +kernel
theorem dX11_clears_22 : decode cX11_clears 22 = .ok (.aload_n 0, 1) := by decide +kernel
theorem dX11_clears_23 : decode cX11_clears 23 = .ok (.getfield 32, 3) := by decide +kernel
theorem dX11_clears_26 : decode cX11_clears 26 = .ok (.iload_n 1, 1) := by decide +kernel
theorem dX11_clears_27 : decode cX11_clears 27 = .ok (.bipush 50, 2) := by decide +kernel
theorem dX11_clears_29 : decode cX11_clears 29 = .ok (.iastore, 1) := by decide +kernel
theorem dX11_clears_30 : decode cX11_clears 30 = .ok (.iinc 1 1, 3) := by decide +kernel
theorem dX11_clears_33 : decode cX11_clears 33 = .ok (.goto (-16), 3) := by decide +kernel
theorem dX11_clears_36 : decode cX11_clears 36 = .ok (.return_, 1) := by decide +kernel
theorem dX11_sets_0 : decode cX11_sets 0 = .ok (.aload_n 0, 1) := by decide +kernel
theorem dX11_sets_1 : decode cX11_sets 1 = .ok (.aload_n 0, 1) := by decide +kernel
theorem dX11_sets_2 : decode cX11_sets 2 = .ok (.getfield 147, 3) := by decide +kernel
theorem dX11_sets_5 : decode cX11_sets 5 = .ok (.putfield 156, 3) := by decide +kernel
theorem dX11_sets_8 : decode cX11_sets 8 = .ok (.aload_n 0, 1) := by decide +kernel
theorem dX11_sets_9 : decode cX11_sets 9 = .ok (.aload_n 0, 1) := by decide +kernel
theorem dX11_sets_10 : decode cX11_sets 10 = .ok (.getfield 150, 3) := by decide +kernel
theorem dX11_sets_13 : decode cX11_sets 13 = .ok (.putfield 159, 3) := by decide +kernel
theorem dX11_sets_16 : decode cX11_sets 16 = .ok (.aload_n 0, 1) := by decide +kernel
theorem dX11_sets_17 : decode cX11_sets 17 = .ok (.aload_n 0, 1) := by decide +kernel
theorem dX11_sets_18 : decode cX11_sets 18 = .ok (.getfield 153, 3) := by decide +kernel
theorem dX11_sets_21 : decode cX11_sets 21 = .ok (.putfield 162, 3) := by decide +kernel
theorem dX11_sets_24 : decode cX11_sets 24 = .ok (.aload_n 0, 1) := by decide +kernel
theorem dX11_sets_25 : decode cX11_sets 25 = .ok (.aload_n 0, 1) := by decide +kernel
theorem dX11_sets_26 : decode cX11_sets 26 = .ok (.getfield 23, 3) := by decide +kernel
theorem dX11_sets_29 : decode cX11_sets 29 = .ok (.aload_n 0, 1) := by decide +kernel
theorem dX11_sets_30 : decode cX11_sets 30 = .ok (.getfield 35, 3) := by decide +kernel
theorem dX11_sets_33 : decode cX11_sets 33 = .ok (.bipush 24, 2) := by decide +kernel
theorem dX11_sets_35 : decode cX11_sets 35 = .ok (.invokevirtual 165, 3) := by decide +kernel
theorem dX11_sets_38 : decode cX11_sets 38 = .ok (.aload_n 0, 1) := by decide +kernel
theorem dX11_sets_39 : decode cX11_sets 39 = .ok (.aload_n 0, 1) := by decide +kernel
theorem dX11_sets_40 : decode cX11_sets 40 = .ok (.getfield 26, 3) := by decide +kernel
theorem dX11_sets_43 : decode cX11_sets 43 = .ok (.aload_n 0, 1) := by decide +kernel
theorem dX11_sets_44 : decode cX11_sets 44 = .ok (.getfield 38, 3) := by decide +kernel
theorem dX11_sets_47 : decode cX11_sets 47 = .ok (.bipush 8, 2) := by decide +kernel
theorem dX11_sets_49 : decode cX11_sets 49 = .ok (.invokevirtual 165, 3) := by decide +kernel
theorem dX11_sets_52 : decode cX11_sets 52 = .ok (.aload_n 0, 1) := by decide +kernel
theorem dX11_sets_53 : decode cX11_sets 53 = .ok (.iconst 0, 1) := by decide +kernel
theorem dX11_sets_54 : decode cX11_sets 54 = .ok (.putfield 169, 3) := by decide +kernel
theorem dX11_sets_57 : decode cX11_sets 57 = .ok (.aload_n 0, 1) := by decide +kernel
theorem dX11_sets_58 : decode cX11_sets 58 = .ok (.iconst 0, 1) := by decide +kernel
theorem dX11_sets_59 : decode cX11_sets 59 = .ok (.putfield 172, 3) := by decide +kernel
theorem dX11_sets_62 : decode cX11_sets 62 = .ok (.aload_n 0, 1) := by decide +kernel
theorem dX11_sets_63 : decode cX11_sets 63 = .ok (.iconst 0, 1) := by decide +kernel
theorem dX11_sets_64 : decode cX11_sets 64 = .ok (.putfield 175, 3) := by decide +kernel
theorem dX11_sets_67 : decode cX11_sets 67 = .ok (.aload_n 0, 1) := by decide +kernel
theorem dX11_sets_68 : decode cX11_sets 68 = .ok (.iconst 0, 1) := by decide +kernel
theorem dX11_sets_69 : decode cX11_sets 69 = .ok (.putfield 178, 3) := by decide +kernel
theorem dX11_sets_72 : decode cX11_sets 72 = .ok (.aload_n 0, 1) := by decide +kernel
theorem dX11_sets_73 : decode cX11_sets 73 = .ok (.iconst 0, 1) := by decide +kernel
theorem dX11_sets_74 : decode cX11_sets 74 = .ok (.putfield 181, 3) := by decide +kernel
theorem dX11_sets_77 : decode cX11_sets 77 = .ok (.iconst 0, 1) := by decide +kernel
theorem dX11_sets_78 : decode cX11_sets 78 = .ok (.istore_n 1, 1) := by decide +kernel
theorem dX11_sets_79 : decode cX11_sets 79 = .ok (.iload_n 1, 1) := by decide +kernel
theorem dX11_sets_80 : decode cX11_sets 80 = .ok (.bipush 60, 2) := by decide +kernel
theorem dX11_sets_82 : decode cX11_sets 82 = .ok (.if_icmp .ge 16, 3) := by decide +kernel
theorem dX11_sets_85 : decode cX11_sets 85 = .ok (.aload_n 0, 1) := by decide +kernel
theorem dX11_sets_86 : decode cX11_sets 86 = .ok (.getfield 65, 3) := by decide +kernel
theorem dX11_sets_89 : decode cX11_sets 89 = .ok (.iload_n 1, 1) := by decide +kernel
theorem dX11_sets_90 : decode cX11_sets 90 = .ok (.iconst 0, 1) := by decide +kernel
theorem dX11_sets_91 : decode cX11_sets 91 = .ok (.iastore, 1) := by decide +kernel
theorem dX11_sets_92 : decode cX11_sets 92 = .ok (.iinc 1 1, 3) := by decide +kernel
theorem dX11_sets_95 : decode cX11_sets 95 = .ok (.goto (-16), 3) := by decide +kernel
theorem dX11_sets_98 : decode cX11_sets 98 = .ok (.iconst 0, 1) := by decide +kernel
theorem dX11_sets_99 : decode cX11_sets 99 = .ok (.istore_n 1, 1) := by decide +kernel
theorem dX11_sets_100 : decode cX11_sets 100 = .ok (.iload_n 1, 1) := by decide +kernel
theorem dX11_sets_101 : decode cX11_sets 101 = .ok (.bipush 8, 2) := by decide +kernel
theorem dX11_sets_103 : decode cX11_sets 103 = .ok (.if_icmp .ge 46, 3) := by decide +kernel
theorem dX11_sets_106 : decode cX11_sets 106 = .ok (.aload_n 0, 1) := by decide +kernel
theorem dX11_sets_107 : decode cX11_sets 107 = .ok (.getfield 65, 3) := by decide +kernel
theorem dX11_sets_110 : decode cX11_sets 110 = .ok (.bipush 32, 2) := by decide +kernel
theorem dX11_sets_112 : decode cX11_sets 112 = .ok (.iload_n 1, 1) := by decide +kernel
theorem dX11_sets_113 : decode cX11_sets 113 = .ok (.iadd, 1) := by decide +kernel
theorem dX11_sets_114 : decode cX11_sets 114 = .ok (.iconst (-1), 1) := by decide +kernel
theorem dX11_sets_115 : decode cX11_sets 115 = .ok (.iastore, 1) := by decide +kernel
theorem dX11_sets_116 : decode cX11_sets 116 = .ok (.aload_n 0, 1) := by decide +kernel
theorem dX11_sets_117 : decode cX11_sets 117 = .ok (.getfield 65, 3) := by decide +kernel
theorem dX11_sets_120 : decode cX11_sets 120 = .ok (.bipush 48, 2) := by decide +kernel
theorem dX11_sets_122 : decode cX11_sets 122 = .ok (.iload_n 1, 1) := by decide +kernel
theorem dX11_sets_123 : decode cX11_sets 123 = .ok (.iadd, 1) := by decide +kernel
theorem dX11_sets_124 : decode cX11_sets 124 = .ok (.iload_n 1, 1) := by decide +kernel
theorem dX11_sets_125 : decode cX11_sets 125 = .ok (.aload_n 0, 1) := by decide +kernel
theorem dX11_sets_126 : decode cX11_sets 126 = .ok (.getfield 159, 3) := by decide +kernel
theorem dX11_sets_129 : decode cX11_sets 129 = .ok (.if_icmp .ge 12, 3) := by decide +kernel
theorem dX11_sets_132 : decode cX11_sets 132 = .ok (.aload_n 0, 1) := by decide +kernel
theorem dX11_sets_133 : decode cX11_sets 133 = .ok (.getfield 29, 3) := by decide +kernel
theorem dX11_sets_136 : decode cX11_sets 136 = .ok (.iload_n 1, 1) := by decide +kernel
theorem dX11_sets_137 : decode cX11_sets 137 = .ok (.iaload, 1) := by decide +kernel
theorem dX11_sets_138 : decode cX11_sets 138 = .ok (.goto 4, 3) := by decide +kernel
theorem dX11_sets_141 : decode cX11_sets 141 = .ok (.iconst 0, 1) := by decide +kernel
theorem dX11_sets_142 : decode cX11_sets 142 = .ok (.iastore, 1) := by decide +kernel
theorem dX11_sets_143 : decode cX11_sets 143 = .ok (.iinc 1 1, 3) := by decide +kernel
theorem dX11_sets_146 : decode cX11_sets 146 = .ok (.goto (-46), 3) := by decide +kernel
theorem dX11_sets_149 : decode cX11_sets 149 = .ok (.iconst 0, 1) := by decide +kernel
theorem dX11_sets_150 : decode cX11_sets 150 = .ok (.istore_n 1, 1) := by decide +kernel
theorem dX11_sets_151 : decode cX11_sets 151 = .ok (.iload_n 1, 1) := by decide +kernel
theorem dX11_sets_152 : decode cX11_sets 152 = .ok (.iconst 3, 1) := by decide +kernel
theorem dX11_sets_153 : decode cX11_sets 153 = .ok (.if_icmp .ge 24, 3) := by decide +kernel
theorem dX11_sets_156 : decode cX11_sets 156 = .ok (.aload_n 0, 1) := by decide +kernel
theorem dX11_sets_157 : decode cX11_sets 157 = .ok (.getfield 65, 3) := by decide +kernel
theorem dX11_sets_160 : decode cX11_sets 160 = .ok (.bipush 56, 2) := by decide +kernel
theorem dX11_sets_162 : decode cX11_sets 162 = .ok (.iload_n 1, 1) := by decide +kernel
theorem dX11_sets_163 : decode cX11_sets 163 = .ok (.iadd, 1) := by decide +kernel
theorem dX11_sets_164 : decode cX11_sets 164 = .ok (.aload_n 0, 1) := by decide +kernel
theorem dX11_sets_165 : decode cX11_sets 165 = .ok (.getfield 32, 3) := by decide +kernel
theorem dX11_sets_168 : decode cX11_sets 168 = .ok (.iload_n 1, 1) := by decide +kernel
theorem dX11_sets_169 : decode cX11_sets 169 = .ok (.iaload, 1) := by decide +kernel
theorem dX11_sets_170 : decode cX11_sets 170 = .ok (.iastore, 1) := by decide +kernel
theorem dX11_sets_171 : decode cX11_sets 171 = .ok (.iinc 1 1, 3) := by decide +kernel
theorem dX11_sets_174 : decode cX11_sets 174 = .ok (.goto (-23), 3) := by decide +kernel
theorem dX11_sets_177 : decode cX11_sets 177 = .ok (.iconst 0, 1) := by decide +kernel
theorem dX11_sets_178 : decode cX11_sets 178 = .ok (.istore_n 1, 1) := by decide +kernel
theorem dX11_sets_179 : decode cX11_sets 179 = .ok (.iload_n 1, 1) := by decide +kernel
theorem dX11_sets_180 : decode cX11_sets 180 = .ok (.iconst 3, 1) := by decide +kernel
theorem dX11_sets_181 : decode cX11_sets 181 = .ok (.if_icmp .ge 16, 3) := by decide +kernel
theorem dX11_sets_184 : decode cX11_sets 184 = .ok (.aload_n 0, 1) := by decide +kernel
theorem dX11_sets_185 : decode cX11_sets 185 = .ok (.getfield 77, 3) := by decide +kernel
theorem dX11_sets_188 : decode cX11_sets 188 = .ok (.iload_n 1, 1) := by decide +kernel
theorem dX11_sets_189 : decode cX11_sets 189 = .ok (.iconst (-1), 1) := by decide +kernel
theorem dX11_sets_190 : decode cX11_sets 190 = .ok (.iastore, 1) := by decide +kernel
theorem dX11_sets_191 : decode cX11_sets 191 = .ok (.iinc 1 1, 3) := by decide +kernel
theorem dX11_sets_194 : decode cX11_sets 194 = .ok (.goto (-15), 3) := by decide +kernel
theorem dX11_sets_197 : decode cX11_sets 197 = .ok (.return_, 1) := by decide +kernel
theorem dX11_isRow_0 : decode cX11_isRow 0 = .ok (.iload_n 0, 1) := by decide +kernel
theorem dX11_isRow_1 : decode cX11_isRow 1 = .ok (.ldc 184, 2) := by decide +kernel
theorem dX11_isRow_3 : decode cX11_isRow 3 = .ok (.invokestatic 185, 3) := by decide +kernel
theorem dX11_isRow_6 : decode cX11_isRow 6 = .ok (.if_icmp .eq 30, 3) := by decide +kernel
theorem dX11_isRow_9 : decode cX11_isRow 9 = .ok (.iload_n 0, 1) := by decide +kernel
theorem dX11_isRow_10 : decode cX11_isRow 10 = .ok (.ldc 189, 2) := by decide +kernel
theorem dX11_isRow_12 : decode cX11_isRow 12 = .ok (.invokestatic 185, 3) := by decide +kernel
theorem dX11_isRow_15 : decode cX11_isRow 15 = .ok (.if_icmp .eq 21, 3) := by decide +kernel
theorem dX11_isRow_18 : decode cX11_isRow 18 = .ok (.iload_n 0, 1) := by decide +kernel
theorem dX11_isRow_19 : decode cX11_isRow 19 = .ok (.ldc 191, 2) := by decide +kernel
theorem dX11_isRow_21 : decode cX11_isRow 21 = .ok (.invokestatic 185, 3) := by decide +kernel
theorem dX11_isRow_24 : decode cX11_isRow 24 = .ok (.if_icmp .eq 12, 3) := by decide +kernel
theorem dX11_isRow_27 : decode cX11_isRow 27 = .ok (.iload_n 0, 1) := by decide +kernel
theorem dX11_isRow_28 : decode cX11_isRow 28 = .ok (.ldc 193, 2) := by decide +kernel
theorem dX11_isRow_30 : decode cX11_isRow 30 = .ok (.invokestatic 185, 3) := by decide +kernel
theorem dX11_isRow_33 : decode cX11_isRow 33 = .ok (.if_icmp .ne 7, 3) := by decide +kernel
theorem dX11_isRow_36 : decode cX11_isRow 36 = .ok (.iconst 1, 1) := by decide +kernel
theorem dX11_isRow_37 : decode cX11_isRow 37 = .ok (.goto 4, 3) := by decide +kernel
theorem dX11_isRow_40 : decode cX11_isRow 40 = .ok (.iconst 0, 1) := by decide +kernel
theorem dX11_isRow_41 : decode cX11_isRow 41 = .ok (.ireturn, 1) := by decide +kernel
theorem dX11_readRow_0 : decode cX11_readRow 0 = .ok (.iload_n 1, 1) := by decide +kernel
theorem dX11_readRow_1 : decode cX11_readRow 1 = .ok (.ldc 184, 2) := by decide +kernel
theorem dX11_readRow_3 : decode cX11_readRow 3 = .ok (.invokestatic 185, 3) := by decide +kernel
theorem dX11_readRow_6 : decode cX11_readRow 6 = .ok (.if_icmp .ne 51, 3) := by decide +kernel
theorem dX11_readRow_9 : decode cX11_readRow 9 = .ok (.iconst 4, 1) := by decide +kernel
theorem dX11_readRow_10 : decode cX11_readRow 10 = .ok (.aload_n 0, 1) := by decide +kernel
theorem dX11_readRow_11 : decode cX11_readRow 11 = .ok (.getfield 147, 3) := by decide +kernel
theorem dX11_readRow_14 : decode cX11_readRow 14 = .ok (.imul, 1) := by decide +kernel
theorem dX11_readRow_15 : decode cX11_readRow 15 = .ok (.istore_n 2, 1) := by decide +kernel
theorem dX11_readRow_16 : decode cX11_readRow 16 = .ok (.iconst 0, 1) := by decide +kernel
theorem dX11_readRow_17 : decode cX11_readRow 17 = .ok (.istore_n 3, 1) := by decide +kernel
theorem dX11_readRow_18 : decode cX11_readRow 18 = .ok (.iload_n 3, 1) := by decide +kernel
theorem dX11_readRow_19 : decode cX11_readRow 19 = .ok (.iconst 4, 1) := by decide +kernel
theorem dX11_readRow_20 : decode cX11_readRow 20 = .ok (.if_icmp .ge 24, 3) := by decide +kernel
theorem dX11_readRow_23 : decode cX11_readRow 23 = .ok (.aload_n 0, 1) := by decide +kernel
theorem dX11_readRow_24 : decode cX11_readRow 24 = .ok (.getfield 23, 3) := by decide +kernel
theorem dX11_readRow_27 : decode cX11_readRow 27 = .ok (.iload_n 2, 1) := by decide +kernel
theorem dX11_readRow_28 : decode cX11_readRow 28 = .ok (.iload_n 3, 1) := by decide +kernel
theorem dX11_readRow_29 : decode cX11_readRow 29 = .ok (.iadd, 1) := by decide +kernel
theorem dX11_readRow_30 : decode cX11_readRow 30 = .ok (.aload_n 0, 1) := by decide +kernel
theorem dX11_readRow_31 : decode cX11_readRow 31 = .ok (.iconst 0, 1) := by decide +kernel
theorem dX11_readRow_32 : decode cX11_readRow 32 = .ok (.bipush 9, 2) := by decide +kernel
theorem dX11_readRow_34 : decode cX11_readRow 34 = .ok (.invokevirtual 194, 3) := by decide +kernel
theorem dX11_readRow_37 : decode cX11_readRow 37 = .ok (.iastore, 1) := by decide +kernel
theorem dX11_readRow_38 : decode cX11_readRow 38 = .ok (.iinc 3 1, 3) := by decide +kernel
theorem dX11_readRow_41 : decode cX11_readRow 41 = .ok (.goto (-23), 3) := by decide +kernel
theorem dX11_readRow_44 : decode cX11_readRow 44 = .ok (.aload_n 0, 1) := by decide +kernel
theorem dX11_readRow_45 : decode cX11_readRow 45 = .ok (.dup, 1) := by decide +kernel
theorem dX11_readRow_46 : decode cX11_readRow 46 = .ok (.getfield 147, 3) := by decide +kernel
theorem dX11_readRow_49 : decode cX11_readRow 49 = .ok (.iconst 1, 1) := by decide +kernel
theorem dX11_readRow_50 : decode cX11_readRow 50 = .ok (.iadd, 1) := by decide +kernel
theorem dX11_readRow_51 : decode cX11_readRow 51 = .ok (.putfield 147, 3) := by decide +kernel
theorem dX11_readRow_54 : decode cX11_readRow 54 = .ok (.goto 114, 3) := by decide +kernel
theorem dX11_readRow_57 : decode cX11_readRow 57 = .ok (.iload_n 1, 1) := by decide +kernel
theorem dX11_readRow_58 : decode cX11_readRow 58 = .ok (.ldc 189, 2) := by decide +kernel
theorem dX11_readRow_60 : decode cX11_readRow 60 = .ok (.invokestatic 185, 3) := by decide +kernel
theorem dX11_readRow_63 : decode cX11_readRow 63 = .ok (.if_icmp .ne 52, 3) := by decide +kernel
theorem dX11_readRow_66 : decode cX11_readRow 66 = .ok (.aload_n 0, 1) := by decide +kernel
theorem dX11_readRow_67 : decode cX11_readRow 67 = .ok (.getfield 26, 3) := by decide +kernel
theorem dX11_readRow_70 : decode cX11_readRow 70 = .ok (.aload_n 0, 1) := by decide +kernel
theorem dX11_readRow_71 : decode cX11_readRow 71 = .ok (.getfield 150, 3) := by decide +kernel
theorem dX11_readRow_74 : decode cX11_readRow 74 = .ok (.aload_n 0, 1) := by decide +kernel
theorem dX11_readRow_75 : decode cX11_readRow 75 = .ok (.iconst 0, 1) := by decide +kernel
theorem dX11_readRow_76 : decode cX11_readRow 76 = .ok (.aload_n 0, 1) := by decide +kernel
theorem dX11_readRow_77 : decode cX11_readRow 77 = .ok (.getfield 147, 3) := by decide +kernel
theorem dX11_readRow_80 : decode cX11_readRow 80 = .ok (.iconst 1, 1) := by decide +kernel
theorem dX11_readRow_81 : decode cX11_readRow 81 = .ok (.isub, 1) := by decide +kernel
theorem dX11_readRow_82 : decode cX11_readRow 82 = .ok (.invokevirtual 194, 3) := by decide +kernel
theorem dX11_readRow_85 : decode cX11_readRow 85 = .ok (.iastore, 1) := by decide +kernel
theorem dX11_readRow_86 : decode cX11_readRow 86 = .ok (.aload_n 0, 1) := by decide +kernel
theorem dX11_readRow_87 : decode cX11_readRow 87 = .ok (.getfield 29, 3) := by decide +kernel
theorem dX11_readRow_90 : decode cX11_readRow 90 = .ok (.aload_n 0, 1) := by decide +kernel
theorem dX11_readRow_91 : decode cX11_readRow 91 = .ok (.getfield 150, 3) := by decide +kernel
theorem dX11_readRow_94 : decode cX11_readRow 94 = .ok (.aload_n 0, 1) := by decide +kernel
theorem dX11_readRow_95 : decode cX11_readRow 95 = .ok (.iconst 0, 1) := by decide +kernel
theorem dX11_readRow_96 : decode cX11_readRow 96 = .ok (.bipush 60, 2) := by decide +kernel
theorem dX11_readRow_98 : decode cX11_readRow 98 = .ok (.invokevirtual 194, 3) := by decide +kernel
theorem dX11_readRow_101 : decode cX11_readRow 101 = .ok (.iastore, 1) := by decide +kernel
theorem dX11_readRow_102 : decode cX11_readRow 102 = .ok (.aload_n 0, 1) := by decide +kernel
theorem dX11_readRow_103 : decode cX11_readRow 103 = .ok (.dup, 1) := by decide +kernel
theorem dX11_readRow_104 : decode cX11_readRow 104 = .ok (.getfield 150, 3) := by decide +kernel
theorem dX11_readRow_107 : decode cX11_readRow 107 = .ok (.iconst 1, 1) := by decide +kernel
theorem dX11_readRow_108 : decode cX11_readRow 108 = .ok (.iadd, 1) := by decide +kernel
theorem dX11_readRow_109 : decode cX11_readRow 109 = .ok (.putfield 150, 3) := by decide +kernel
theorem dX11_readRow_112 : decode cX11_readRow 112 = .ok (.goto 56, 3) := by decide +kernel
theorem dX11_readRow_115 : decode cX11_readRow 115 = .ok (.iload_n 1, 1) := by decide +kernel
theorem dX11_readRow_116 : decode cX11_readRow 116 = .ok (.ldc 191, 2) := by decide +kernel
theorem dX11_readRow_118 : decode cX11_readRow 118 = .ok (.invokestatic 185, 3) := by decide +kernel
theorem dX11_readRow_121 : decode cX11_readRow 121 = .ok (.if_icmp .ne 36, 3) := by decide +kernel
theorem dX11_readRow_124 : decode cX11_readRow 124 = .ok (.aload_n 0, 1) := by decide +kernel
theorem dX11_readRow_125 : decode cX11_readRow 125 = .ok (.iconst 0, 1) := by decide +kernel
theorem dX11_readRow_126 : decode cX11_readRow 126 = .ok (.iconst 2, 1) := by decide +kernel
theorem dX11_readRow_127 : decode cX11_readRow 127 = .ok (.invokevirtual 194, 3) := by decide +kernel
theorem dX11_readRow_130 : decode cX11_readRow 130 = .ok (.istore_n 2, 1) := by decide +kernel
theorem dX11_readRow_131 : decode cX11_readRow 131 = .ok (.aload_n 0, 1) := by decide +kernel
theorem dX11_readRow_132 : decode cX11_readRow 132 = .ok (.iconst 0, 1) := by decide +kernel
theorem dX11_readRow_133 : decode cX11_readRow 133 = .ok (.sipush 200, 3) := by decide +kernel
theorem dX11_readRow_136 : decode cX11_readRow 136 = .ok (.invokevirtual 194, 3) := by decide +kernel
theorem dX11_readRow_139 : decode cX11_readRow 139 = .ok (.istore_n 3, 1) := by decide +kernel
theorem dX11_readRow_140 : decode cX11_readRow 140 = .ok (.aload_n 0, 1) := by decide +kernel
theorem dX11_readRow_141 : decode cX11_readRow 141 = .ok (.invokevirtual 133, 3) := by decide +kernel
theorem dX11_readRow_144 : decode cX11_readRow 144 = .ok (.ifCond .eq 10, 3) := by decide +kernel
theorem dX11_readRow_147 : decode cX11_readRow 147 = .ok (.aload_n 0, 1) := by decide +kernel
theorem dX11_readRow_148 : decode cX11_readRow 148 = .ok (.getfield 32, 3) := by decide +kernel
theorem dX11_readRow_151 : decode cX11_readRow 151 = .ok (.iload_n 2, 1) := by decide +kernel
theorem dX11_readRow_152 : decode cX11_readRow 152 = .ok (.iload_n 3, 1) := by decide +kernel
theorem dX11_readRow_153 : decode cX11_readRow 153 = .ok (.iastore, 1) := by decide +kernel
theorem dX11_readRow_154 : decode cX11_readRow 154 = .ok (.goto 14, 3) := by decide +kernel
theorem dX11_readRow_157 : decode cX11_readRow 157 = .ok (.aload_n 0, 1) := by decide +kernel
theorem dX11_readRow_158 : decode cX11_readRow 158 = .ok (.aload_n 0, 1) := by decide +kernel
theorem dX11_readRow_159 : decode cX11_readRow 159 = .ok (.iconst 0, 1) := by decide +kernel
theorem dX11_readRow_160 : decode cX11_readRow 160 = .ok (.bipush 20, 2) := by decide +kernel
theorem dX11_readRow_162 : decode cX11_readRow 162 = .ok (.invokevirtual 194, 3) := by decide +kernel
theorem dX11_readRow_165 : decode cX11_readRow 165 = .ok (.putfield 153, 3) := by decide +kernel
theorem dX11_readRow_168 : decode cX11_readRow 168 = .ok (.return_, 1) := by decide +kernel
theorem dX11_city_0 : decode cX11_city 0 = .ok (.aload_n 0, 1) := by decide +kernel
theorem dX11_city_1 : decode cX11_city 1 = .ok (.iconst 0, 1) := by decide +kernel
theorem dX11_city_2 : decode cX11_city 2 = .ok (.putfield 3, 3) := by decide +kernel
theorem dX11_city_5 : decode cX11_city 5 = .ok (.aload_n 0, 1) := by decide +kernel
theorem dX11_city_6 : decode cX11_city 6 = .ok (.iload_n 1, 1) := by decide +kernel
theorem dX11_city_7 : decode cX11_city 7 = .ok (.ifCond .lt 15, 3) := by decide +kernel
theorem dX11_city_10 : decode cX11_city 10 = .ok (.iload_n 1, 1) := by decide +kernel
theorem dX11_city_11 : decode cX11_city 11 = .ok (.aload_n 0, 1) := by decide +kernel
theorem dX11_city_12 : decode cX11_city 12 = .ok (.getfield 101, 3) := by decide +kernel
theorem dX11_city_15 : decode cX11_city 15 = .ok (.if_icmp .gt 7, 3) := by decide +kernel
theorem dX11_city_18 : decode cX11_city 18 = .ok (.iconst 1, 1) := by decide +kernel
theorem dX11_city_19 : decode cX11_city 19 = .ok (.goto 4, 3) := by decide +kernel
theorem dX11_city_22 : decode cX11_city 22 = .ok (.iconst 0, 1) := by decide +kernel
theorem dX11_city_23 : decode cX11_city 23 = .ok (.iconst 1, 1) := by decide +kernel
theorem dX11_city_24 : decode cX11_city 24 = .ok (.iconst 1, 1) := by decide +kernel
theorem dX11_city_25 : decode cX11_city 25 = .ok (.invokevirtual 198, 3) := by decide +kernel
theorem dX11_city_28 : decode cX11_city 28 = .ok (.ifCond .ne 5, 3) := by decide +kernel
theorem dX11_city_31 : decode cX11_city 31 = .ok (.iconst 0, 1) := by decide +kernel
theorem dX11_city_32 : decode cX11_city 32 = .ok (.ireturn, 1) := by decide +kernel
theorem dX11_city_33 : decode cX11_city 33 = .ok (.aload_n 0, 1) := by decide +kernel
theorem dX11_city_34 : decode cX11_city 34 = .ok (.iload_n 1, 1) := by decide +kernel
theorem dX11_city_35 : decode cX11_city 35 = .ok (.invokevirtual 202, 3) := by decide +kernel
theorem dX11_city_38 : decode cX11_city 38 = .ok (.aload_n 0, 1) := by decide +kernel
theorem dX11_city_39 : decode cX11_city 39 = .ok (.invokevirtual 95, 3) := by decide +kernel
theorem dX11_city_42 : decode cX11_city 42 = .ok (.iconst 0, 1) := by decide +kernel
theorem dX11_city_43 : decode cX11_city 43 = .ok (.istore_n 2, 1) := by decide +kernel
theorem dX11_city_44 : decode cX11_city 44 = .ok (.aload_n 0, 1) := by decide +kernel
theorem dX11_city_45 : decode cX11_city 45 = .ok (.invokevirtual 133, 3) := by decide +kernel
theorem dX11_city_48 : decode cX11_city 48 = .ok (.ifCond .eq 116, 3) := by decide +kernel
theorem dX11_city_51 : decode cX11_city 51 = .ok (.aload_n 0, 1) := by decide +kernel
theorem dX11_city_52 : decode cX11_city 52 = .ok (.invokevirtual 206, 3) := by decide +kernel
theorem dX11_city_55 : decode cX11_city 55 = .ok (.ifCond .eq 109, 3) := by decide +kernel
theorem dX11_city_58 : decode cX11_city 58 = .ok (.aload_n 0, 1) := by decide +kernel
theorem dX11_city_59 : decode cX11_city 59 = .ok (.invokevirtual 209, 3) := by decide +kernel
theorem dX11_city_62 : decode cX11_city 62 = .ok (.istore_n 3, 1) := by decide +kernel
theorem dX11_city_63 : decode cX11_city 63 = .ok (.iload_n 3, 1) := by decide +kernel
theorem dX11_city_64 : decode cX11_city 64 = .ok (.invokestatic 212, 3) := by decide +kernel
theorem dX11_city_67 : decode cX11_city 67 = .ok (.ifCond .ne 15, 3) := by decide +kernel
theorem dX11_city_70 : decode cX11_city 70 = .ok (.aload_n 0, 1) := by decide +kernel
theorem dX11_city_71 : decode cX11_city 71 = .ok (.iconst 1, 1) := by decide +kernel
theorem dX11_city_72 : decode cX11_city 72 = .ok (.aload_n 0, 1) := by decide +kernel
theorem dX11_city_73 : decode cX11_city 73 = .ok (.getfield 110, 3) := by decide +kernel
theorem dX11_city_76 : decode cX11_city 76 = .ok (.invokevirtual 140, 3) := by decide +kernel
theorem dX11_city_79 : decode cX11_city 79 = .ok (.goto 54, 3) := by decide +kernel
theorem dX11_city_82 : decode cX11_city 82 = .ok (.iload_n 2, 1) := by decide +kernel
theorem dX11_city_83 : decode cX11_city 83 = .ok (.bipush 60, 2) := by decide +kernel
theorem dX11_city_85 : decode cX11_city 85 = .ok (.if_icmp .eq 39, 3) := by decide +kernel
theorem dX11_city_88 : decode cX11_city 88 = .ok (.iload_n 3, 1) := by decide +kernel
theorem dX11_city_89 : decode cX11_city 89 = .ok (.ldc 184, 2) := by decide +kernel
theorem dX11_city_91 : decode cX11_city 91 = .ok (.invokestatic 185, 3) := by decide +kernel
theorem dX11_city_94 : decode cX11_city 94 = .ok (.if_icmp .ne 12, 3) := by decide +kernel
theorem dX11_city_97 : decode cX11_city 97 = .ok (.aload_n 0, 1) := by decide +kernel
theorem dX11_city_98 : decode cX11_city 98 = .ok (.getfield 147, 3) := by decide +kernel
theorem dX11_city_101 : decode cX11_city 101 = .ok (.bipush 6, 2) := by decide +kernel
theorem dX11_city_103 : decode cX11_city 103 = .ok (.if_icmp .eq 21, 3) := by decide +kernel
theorem dX11_city_106 : decode cX11_city 106 = .ok (.iload_n 3, 1) := by decide +kernel
theorem dX11_city_107 : decode cX11_city 107 = .ok (.ldc 189, 2) := by decide +kernel
theorem dX11_city_109 : decode cX11_city 109 = .ok (.invokestatic 185, 3) := by decide +kernel
theorem dX11_city_112 : decode cX11_city 112 = .ok (.if_icmp .ne 21, 3) := by decide +kernel
theorem dX11_city_115 : decode cX11_city 115 = .ok (.aload_n 0, 1) := by decide +kernel
theorem dX11_city_116 : decode cX11_city 116 = .ok (.getfield 150, 3) := by decide +kernel
theorem dX11_city_119 : decode cX11_city 119 = .ok (.bipush 8, 2) := by decide +kernel
theorem dX11_city_121 : decode cX11_city 121 = .ok (.if_icmp .ne 12, 3) := by decide +kernel
theorem dX11_city_124 : decode cX11_city 124 = .ok (.aload_n 0, 1) := by decide +kernel
theorem dX11_city_125 : decode cX11_city 125 = .ok (.iconst 3, 1) := by decide +kernel
theorem dX11_city_126 : decode cX11_city 126 = .ok (.aload_n 0, 1) := by decide +kernel
theorem dX11_city_127 : decode cX11_city 127 = .ok (.getfield 110, 3) := by decide +kernel
theorem dX11_city_130 : decode cX11_city 130 = .ok (.invokevirtual 140, 3) := by decide +kernel
theorem dX11_city_133 : decode cX11_city 133 = .ok (.aload_n 0, 1) := by decide +kernel
theorem dX11_city_134 : decode cX11_city 134 = .ok (.invokevirtual 133, 3) := by decide +kernel
theorem dX11_city_137 : decode cX11_city 137 = .ok (.ifCond .ne 6, 3) := by decide +kernel
theorem dX11_city_140 : decode cX11_city 140 = .ok (.goto 24, 3) := by decide +kernel
theorem dX11_city_143 : decode cX11_city 143 = .ok (.aload_n 0, 1) := by decide +kernel
theorem dX11_city_144 : decode cX11_city 144 = .ok (.invokevirtual 215, 3) := by decide +kernel
theorem dX11_city_147 : decode cX11_city 147 = .ok (.aload_n 0, 1) := by decide +kernel
theorem dX11_city_148 : decode cX11_city 148 = .ok (.iload_n 3, 1) := by decide +kernel
theorem dX11_city_149 : decode cX11_city 149 = .ok (.invokevirtual 218, 3) := by decide +kernel
theorem dX11_city_152 : decode cX11_city 152 = .ok (.aload_n 0, 1) := by decide +kernel
theorem dX11_city_153 : decode cX11_city 153 = .ok (.bipush 59, 2) := by decide +kernel
theorem dX11_city_155 : decode cX11_city 155 = .ok (.invokevirtual 221, 3) := by decide +kernel
theorem dX11_city_158 : decode cX11_city 158 = .ok (.iinc 2 1, 3) := by decide +kernel
theorem dX11_city_161 : decode cX11_city 161 = .ok (.goto (-117), 3) := by decide +kernel
theorem dX11_city_164 : decode cX11_city 164 = .ok (.aload_n 0, 1) := by decide +kernel
theorem dX11_city_165 : decode cX11_city 165 = .ok (.aload_n 0, 1) := by decide +kernel
theorem dX11_city_166 : decode cX11_city 166 = .ok (.getfield 150, 3) := by decide +kernel
theorem dX11_city_169 : decode cX11_city 169 = .ok (.invokevirtual 224, 3) := by decide +kernel
theorem dX11_city_172 : decode cX11_city 172 = .ok (.istore_n 3, 1) := by decide +kernel
theorem dX11_city_173 : decode cX11_city 173 = .ok (.aload_n 0, 1) := by decide +kernel
theorem dX11_city_174 : decode cX11_city 174 = .ok (.getfield 104, 3) := by decide +kernel
theorem dX11_city_177 : decode cX11_city 177 = .ok (.iconst (-1), 1) := by decide +kernel
theorem dX11_city_178 : decode cX11_city 178 = .ok (.if_icmp .ne 7, 3) := by decide +kernel
theorem dX11_city_181 : decode cX11_city 181 = .ok (.aload_n 0, 1) := by decide +kernel
theorem dX11_city_182 : decode cX11_city 182 = .ok (.invokevirtual 98, 3) := by decide +kernel
theorem dX11_city_185 : decode cX11_city 185 = .ok (.iload_n 3, 1) := by decide +kernel
theorem dX11_city_186 : decode cX11_city 186 = .ok (.ireturn, 1) := by decide +kernel
theorem dX11_emit_0 : decode cX11_emit 0 = .ok (.aload_n 0, 1) := by decide +kernel
theorem dX11_emit_1 : decode cX11_emit 1 = .ok (.invokevirtual 133, 3) := by decide +kernel
theorem dX11_emit_4 : decode cX11_emit 4 = .ok (.ifCond .ne 4, 3) := by decide +kernel
theorem dX11_emit_7 : decode cX11_emit 7 = .ok (.return_, 1) := by decide +kernel
theorem dX11_emit_8 : decode cX11_emit 8 = .ok (.aload_n 0, 1) := by decide +kernel
theorem dX11_emit_9 : decode cX11_emit 9 = .ok (.getfield 41, 3) := by decide +kernel
theorem dX11_emit_12 : decode cX11_emit 12 = .ok (.aload_n 0, 1) := by decide +kernel
theorem dX11_emit_13 : decode cX11_emit 13 = .ok (.getfield 228, 3) := by decide +kernel
theorem dX11_emit_16 : decode cX11_emit 16 = .ok (.iload_n 1, 1) := by decide +kernel
theorem dX11_emit_17 : decode cX11_emit 17 = .ok (.iastore, 1) := by decide +kernel
theorem dX11_emit_18 : decode cX11_emit 18 = .ok (.aload_n 0, 1) := by decide +kernel
theorem dX11_emit_19 : decode cX11_emit 19 = .ok (.getfield 44, 3) := by decide +kernel
theorem dX11_emit_22 : decode cX11_emit 22 = .ok (.aload_n 0, 1) := by decide +kernel
theorem dX11_emit_23 : decode cX11_emit 23 = .ok (.getfield 228, 3) := by decide +kernel
theorem dX11_emit_26 : decode cX11_emit 26 = .ok (.iload_n 2, 1) := by decide +kernel
theorem dX11_emit_27 : decode cX11_emit 27 = .ok (.iastore, 1) := by decide +kernel
theorem dX11_emit_28 : decode cX11_emit 28 = .ok (.aload_n 0, 1) := by decide +kernel
theorem dX11_emit_29 : decode cX11_emit 29 = .ok (.dup, 1) := by decide +kernel
theorem dX11_emit_30 : decode cX11_emit 30 = .ok (.getfield 228, 3) := by decide +kernel
theorem dX11_emit_33 : decode cX11_emit 33 = .ok (.iconst 1, 1) := by decide +kernel
theorem dX11_emit_34 : decode cX11_emit 34 = .ok (.iadd, 1) := by decide +kernel
theorem dX11_emit_35 : decode cX11_emit 35 = .ok (.putfield 228, 3) := by decide +kernel
theorem dX11_emit_38 : decode cX11_emit 38 = .ok (.return_, 1) := by decide +kernel
theorem dX11_opensOne_0 : decode cX11_opensOne 0 = .ok (.aload_n 0, 1) := by decide +kernel
theorem dX11_opensOne_1 : decode cX11_opensOne 1 = .ok (.invokevirtual 133, 3) := by decide +kernel
theorem dX11_opensOne_4 : decode cX11_opensOne 4 = .ok (.ifCond .eq 21, 3) := by decide +kernel
theorem dX11_opensOne_7 : decode cX11_opensOne 7 = .ok (.aload_n 0, 1) := by decide +kernel
theorem dX11_opensOne_8 : decode cX11_opensOne 8 = .ok (.getfield 144, 3) := by decide +kernel
theorem dX11_opensOne_11 : decode cX11_opensOne 11 = .ok (.bipush 6, 2) := by decide +kernel
theorem dX11_opensOne_13 : decode cX11_opensOne 13 = .ok (.if_icmp .ne 12, 3) := by decide +kernel
theorem dX11_opensOne_16 : decode cX11_opensOne 16 = .ok (.aload_n 0, 1) := by decide +kernel
theorem dX11_opensOne_17 : decode cX11_opensOne 17 = .ok (.iconst 3, 1) := by decide +kernel
theorem dX11_opensOne_18 : decode cX11_opensOne 18 = .ok (.aload_n 0, 1) := by decide +kernel
theorem dX11_opensOne_19 : decode cX11_opensOne 19 = .ok (.getfield 110, 3) := by decide +kernel
theorem dX11_opensOne_22 : decode cX11_opensOne 22 = .ok (.invokevirtual 140, 3) := by decide +kernel
theorem dX11_opensOne_25 : decode cX11_opensOne 25 = .ok (.aload_n 0, 1) := by decide +kernel
theorem dX11_opensOne_26 : decode cX11_opensOne 26 = .ok (.invokevirtual 133, 3) := by decide +kernel
theorem dX11_opensOne_29 : decode cX11_opensOne 29 = .ok (.ifCond .eq 13, 3) := by decide +kernel
theorem dX11_opensOne_32 : decode cX11_opensOne 32 = .ok (.aload_n 0, 1) := by decide +kernel
theorem dX11_opensOne_33 : decode cX11_opensOne 33 = .ok (.dup, 1) := by decide +kernel
theorem dX11_opensOne_34 : decode cX11_opensOne 34 = .ok (.getfield 110, 3) := by decide +kernel
theorem dX11_opensOne_37 : decode cX11_opensOne 37 = .ok (.iload_n 1, 1) := by decide +kernel
theorem dX11_opensOne_38 : decode cX11_opensOne 38 = .ok (.iadd, 1) := by decide +kernel
theorem dX11_opensOne_39 : decode cX11_opensOne 39 = .ok (.putfield 110, 3) := by decide +kernel
theorem dX11_opensOne_42 : decode cX11_opensOne 42 = .ok (.aload_n 0, 1) := by decide +kernel
theorem dX11_opensOne_43 : decode cX11_opensOne 43 = .ok (.dup, 1) := by decide +kernel
theorem dX11_opensOne_44 : decode cX11_opensOne 44 = .ok (.getfield 144, 3) := by decide +kernel
theorem dX11_opensOne_47 : decode cX11_opensOne 47 = .ok (.iconst 1, 1) := by decide +kernel
theorem dX11_opensOne_48 : decode cX11_opensOne 48 = .ok (.iadd, 1) := by decide +kernel
theorem dX11_opensOne_49 : decode cX11_opensOne 49 = .ok (.putfield 144, 3) := by decide +kernel
theorem dX11_opensOne_52 : decode cX11_opensOne 52 = .ok (.return_, 1) := by decide +kernel
theorem dX11_readSum_0 : decode cX11_readSum 0 = .ok (.aload_n 0, 1) := by decide +kernel
theorem dX11_readSum_1 : decode cX11_readSum 1 = .ok (.invokevirtual 231, 3) := by decide +kernel
theorem dX11_readSum_4 : decode cX11_readSum 4 = .ok (.aload_n 0, 1) := by decide +kernel
theorem dX11_readSum_5 : decode cX11_readSum 5 = .ok (.invokevirtual 133, 3) := by decide +kernel
theorem dX11_readSum_8 : decode cX11_readSum 8 = .ok (.ifCond .eq 59, 3) := by decide +kernel
theorem dX11_readSum_11 : decode cX11_readSum 11 = .ok (.aload_n 0, 1) := by decide +kernel
theorem dX11_readSum_12 : decode cX11_readSum 12 = .ok (.invokevirtual 116, 3) := by decide +kernel
theorem dX11_readSum_15 : decode cX11_readSum 15 = .ok (.bipush 43, 2) := by decide +kernel
theorem dX11_readSum_17 : decode cX11_readSum 17 = .ok (.if_icmp .eq 12, 3) := by decide +kernel
theorem dX11_readSum_20 : decode cX11_readSum 20 = .ok (.aload_n 0, 1) := by decide +kernel
theorem dX11_readSum_21 : decode cX11_readSum 21 = .ok (.invokevirtual 116, 3) := by decide +kernel
theorem dX11_readSum_24 : decode cX11_readSum 24 = .ok (.bipush 45, 2) := by decide +kernel
theorem dX11_readSum_26 : decode cX11_readSum 26 = .ok (.if_icmp .ne 41, 3) := by decide +kernel
theorem dX11_readSum_29 : decode cX11_readSum 29 = .ok (.aload_n 0, 1) := by decide +kernel
theorem dX11_readSum_30 : decode cX11_readSum 30 = .ok (.invokevirtual 116, 3) := by decide +kernel
theorem dX11_readSum_33 : decode cX11_readSum 33 = .ok (.bipush 43, 2) := by decide +kernel
theorem dX11_readSum_35 : decode cX11_readSum 35 = .ok (.if_icmp .ne 7, 3) := by decide +kernel
theorem dX11_readSum_38 : decode cX11_readSum 38 = .ok (.iconst 2, 1) := by decide +kernel
theorem dX11_readSum_39 : decode cX11_readSum 39 = .ok (.goto 4, 3) := by decide +kernel
theorem dX11_readSum_42 : decode cX11_readSum 42 = .ok (.iconst 3, 1) := by decide +kernel
theorem dX11_readSum_43 : decode cX11_readSum 43 = .ok (.istore_n 1, 1) := by decide +kernel
theorem dX11_readSum_44 : decode cX11_readSum 44 = .ok (.aload_n 0, 1) := by decide +kernel
theorem dX11_readSum_45 : decode cX11_readSum 45 = .ok (.dup, 1) := by decide +kernel
theorem dX11_readSum_46 : decode cX11_readSum 46 = .ok (.getfield 110, 3) := by decide +kernel
theorem dX11_readSum_49 : decode cX11_readSum 49 = .ok (.iconst 1, 1) := by decide +kernel
theorem dX11_readSum_50 : decode cX11_readSum 50 = .ok (.iadd, 1) := by decide +kernel
theorem dX11_readSum_51 : decode cX11_readSum 51 = .ok (.putfield 110, 3) := by decide +kernel
theorem dX11_readSum_54 : decode cX11_readSum 54 = .ok (.aload_n 0, 1) := by decide +kernel
theorem dX11_readSum_55 : decode cX11_readSum 55 = .ok (.invokevirtual 231, 3) := by decide +kernel
theorem dX11_readSum_58 : decode cX11_readSum 58 = .ok (.aload_n 0, 1) := by decide +kernel
theorem dX11_readSum_59 : decode cX11_readSum 59 = .ok (.iload_n 1, 1) := by decide +kernel
theorem dX11_readSum_60 : decode cX11_readSum 60 = .ok (.iconst 0, 1) := by decide +kernel
theorem dX11_readSum_61 : decode cX11_readSum 61 = .ok (.invokevirtual 234, 3) := by decide +kernel
theorem dX11_readSum_64 : decode cX11_readSum 64 = .ok (.goto (-60), 3) := by decide +kernel
theorem dX11_readSum_67 : decode cX11_readSum 67 = .ok (.return_, 1) := by decide +kernel
theorem dX11_readProduct_0 : decode cX11_readProduct 0 = .ok (.aload_n 0, 1) := by decide +kernel
theorem dX11_readProduct_1 : decode cX11_readProduct 1 = .ok (.invokevirtual 237, 3) := by decide +kernel
theorem dX11_readProduct_4 : decode cX11_readProduct 4 = .ok (.aload_n 0, 1) := by decide +kernel
theorem dX11_readProduct_5 : decode cX11_readProduct 5 = .ok (.invokevirtual 133, 3) := by decide +kernel
theorem dX11_readProduct_8 : decode cX11_readProduct 8 = .ok (.ifCond .eq 59, 3) := by decide +kernel
theorem dX11_readProduct_11 : decode cX11_readProduct 11 = .ok (.aload_n 0, 1) := by decide +kernel
theorem dX11_readProduct_12 : decode cX11_readProduct 12 = .ok (.invokevirtual 116, 3) := by decide +kernel
theorem dX11_readProduct_15 : decode cX11_readProduct 15 = .ok (.bipush 42, 2) := by decide +kernel
theorem dX11_readProduct_17 : decode cX11_readProduct 17 = .ok (.if_icmp .eq 12, 3) := by decide +kernel
theorem dX11_readProduct_20 : decode cX11_readProduct 20 = .ok (.aload_n 0, 1) := by decide +kernel
theorem dX11_readProduct_21 : decode cX11_readProduct 21 = .ok (.invokevirtual 116, 3) := by decide +kernel
theorem dX11_readProduct_24 : decode cX11_readProduct 24 = .ok (.bipush 47, 2) := by decide +kernel
theorem dX11_readProduct_26 : decode cX11_readProduct 26 = .ok (.if_icmp .ne 41, 3) := by decide +kernel
theorem dX11_readProduct_29 : decode cX11_readProduct 29 = .ok (.aload_n 0, 1) := by decide +kernel
theorem dX11_readProduct_30 : decode cX11_readProduct 30 = .ok (.invokevirtual 116, 3) := by decide +kernel
theorem dX11_readProduct_33 : decode cX11_readProduct 33 = .ok (.bipush 42, 2) := by decide +kernel
theorem dX11_readProduct_35 : decode cX11_readProduct 35 = .ok (.if_icmp .ne 7, 3) := by decide +kernel
theorem dX11_readProduct_38 : decode cX11_readProduct 38 = .ok (.iconst 4, 1) := by decide +kernel
theorem dX11_readProduct_39 : decode cX11_readProduct 39 = .ok (.goto 4, 3) := by decide +kernel
theorem dX11_readProduct_42 : decode cX11_readProduct 42 = .ok (.iconst 5, 1) := by decide +kernel
theorem dX11_readProduct_43 : decode cX11_readProduct 43 = .ok (.istore_n 1, 1) := by decide +kernel
theorem dX11_readProduct_44 : decode cX11_readProduct 44 = .ok (.aload_n 0, 1) := by decide +kernel
theorem dX11_readProduct_45 : decode cX11_readProduct 45 = .ok (.dup, 1) := by decide +kernel
theorem dX11_readProduct_46 : decode cX11_readProduct 46 = .ok (.getfield 110, 3) := by decide +kernel
theorem dX11_readProduct_49 : decode cX11_readProduct 49 = .ok (.iconst 1, 1) := by decide +kernel
theorem dX11_readProduct_50 : decode cX11_readProduct 50 = .ok (.iadd, 1) := by decide +kernel
theorem dX11_readProduct_51 : decode cX11_readProduct 51 = .ok (.putfield 110, 3) := by decide +kernel
theorem dX11_readProduct_54 : decode cX11_readProduct 54 = .ok (.aload_n 0, 1) := by decide +kernel
theorem dX11_readProduct_55 : decode cX11_readProduct 55 = .ok (.invokevirtual 237, 3) := by decide +kernel
theorem dX11_readProduct_58 : decode cX11_readProduct 58 = .ok (.aload_n 0, 1) := by decide +kernel
theorem dX11_readProduct_59 : decode cX11_readProduct 59 = .ok (.iload_n 1, 1) := by decide +kernel
theorem dX11_readProduct_60 : decode cX11_readProduct 60 = .ok (.iconst 0, 1) := by decide +kernel
theorem dX11_readProduct_61 : decode cX11_readProduct 61 = .ok (.invokevirtual 234, 3) := by decide +kernel
theorem dX11_readProduct_64 : decode cX11_readProduct 64 = .ok (.goto (-60), 3) := by decide +kernel
theorem dX11_readProduct_67 : decode cX11_readProduct 67 = .ok (.return_, 1) := by decide +kernel
theorem dX11_readTwo_0 : decode cX11_readTwo 0 = .ok (.aload_n 0, 1) := by decide +kernel
theorem dX11_readTwo_1 : decode cX11_readTwo 1 = .ok (.iload_n 1, 1) := by decide +kernel
theorem dX11_readTwo_2 : decode cX11_readTwo 2 = .ok (.invokevirtual 240, 3) := by decide +kernel
theorem dX11_readTwo_5 : decode cX11_readTwo 5 = .ok (.aload_n 0, 1) := by decide +kernel
theorem dX11_readTwo_6 : decode cX11_readTwo 6 = .ok (.bipush 91, 2) := by decide +kernel
theorem dX11_readTwo_8 : decode cX11_readTwo 8 = .ok (.invokevirtual 221, 3) := by decide +kernel
theorem dX11_readTwo_11 : decode cX11_readTwo 11 = .ok (.aload_n 0, 1) := by decide +kernel
theorem dX11_readTwo_12 : decode cX11_readTwo 12 = .ok (.invokevirtual 243, 3) := by decide +kernel
theorem dX11_readTwo_15 : decode cX11_readTwo 15 = .ok (.aload_n 0, 1) := by decide +kernel
theorem dX11_readTwo_16 : decode cX11_readTwo 16 = .ok (.bipush 44, 2) := by decide +kernel
theorem dX11_readTwo_18 : decode cX11_readTwo 18 = .ok (.invokevirtual 221, 3) := by decide +kernel
theorem dX11_readTwo_21 : decode cX11_readTwo 21 = .ok (.aload_n 0, 1) := by decide +kernel
theorem dX11_readTwo_22 : decode cX11_readTwo 22 = .ok (.invokevirtual 243, 3) := by decide +kernel
theorem dX11_readTwo_25 : decode cX11_readTwo 25 = .ok (.aload_n 0, 1) := by decide +kernel
theorem dX11_readTwo_26 : decode cX11_readTwo 26 = .ok (.bipush 93, 2) := by decide +kernel
theorem dX11_readTwo_28 : decode cX11_readTwo 28 = .ok (.invokevirtual 221, 3) := by decide +kernel
theorem dX11_readTwo_31 : decode cX11_readTwo 31 = .ok (.aload_n 0, 1) := by decide +kernel
theorem dX11_readTwo_32 : decode cX11_readTwo 32 = .ok (.dup, 1) := by decide +kernel
theorem dX11_readTwo_33 : decode cX11_readTwo 33 = .ok (.getfield 144, 3) := by decide +kernel
theorem dX11_readTwo_36 : decode cX11_readTwo 36 = .ok (.iconst 1, 1) := by decide +kernel
theorem dX11_readTwo_37 : decode cX11_readTwo 37 = .ok (.isub, 1) := by decide +kernel
theorem dX11_readTwo_38 : decode cX11_readTwo 38 = .ok (.putfield 144, 3) := by decide +kernel
theorem dX11_readTwo_41 : decode cX11_readTwo 41 = .ok (.aload_n 0, 1) := by decide +kernel
theorem dX11_readTwo_42 : decode cX11_readTwo 42 = .ok (.iload_n 2, 1) := by decide +kernel
theorem dX11_readTwo_43 : decode cX11_readTwo 43 = .ok (.iconst 0, 1) := by decide +kernel
theorem dX11_readTwo_44 : decode cX11_readTwo 44 = .ok (.invokevirtual 234, 3) := by decide +kernel
theorem dX11_readTwo_47 : decode cX11_readTwo 47 = .ok (.return_, 1) := by decide +kernel
theorem dX11_factHere_0 : decode cX11_factHere 0 = .ok (.aload_n 0, 1) := by decide +kernel
theorem dX11_factHere_1 : decode cX11_factHere 1 = .ok (.invokevirtual 209, 3) := by decide +kernel
theorem dX11_factHere_4 : decode cX11_factHere 4 = .ok (.istore_n 1, 1) := by decide +kernel
theorem dX11_factHere_5 : decode cX11_factHere 5 = .ok (.iload_n 1, 1) := by decide +kernel
theorem dX11_factHere_6 : decode cX11_factHere 6 = .ok (.ldc 246, 2) := by decide +kernel
theorem dX11_factHere_8 : decode cX11_factHere 8 = .ok (.invokestatic 185, 3) := by decide +kernel
theorem dX11_factHere_11 : decode cX11_factHere 11 = .ok (.if_icmp .ne 7, 3) := by decide +kernel
theorem dX11_factHere_14 : decode cX11_factHere 14 = .ok (.iconst 0, 1) := by decide +kernel
theorem dX11_factHere_15 : decode cX11_factHere 15 = .ok (.goto 115, 3) := by decide +kernel
theorem dX11_factHere_18 : decode cX11_factHere 18 = .ok (.iload_n 1, 1) := by decide +kernel
theorem dX11_factHere_19 : decode cX11_factHere 19 = .ok (.ldc 248, 2) := by decide +kernel
theorem dX11_factHere_21 : decode cX11_factHere 21 = .ok (.invokestatic 185, 3) := by decide +kernel
theorem dX11_factHere_24 : decode cX11_factHere 24 = .ok (.if_icmp .ne 7, 3) := by decide +kernel
theorem dX11_factHere_27 : decode cX11_factHere 27 = .ok (.iconst 1, 1) := by decide +kernel
theorem dX11_factHere_28 : decode cX11_factHere 28 = .ok (.goto 102, 3) := by decide +kernel
theorem dX11_factHere_31 : decode cX11_factHere 31 = .ok (.iload_n 1, 1) := by decide +kernel
theorem dX11_factHere_32 : decode cX11_factHere 32 = .ok (.ldc 250, 2) := by decide +kernel
theorem dX11_factHere_34 : decode cX11_factHere 34 = .ok (.invokestatic 185, 3) := by decide +kernel
theorem dX11_factHere_37 : decode cX11_factHere 37 = .ok (.if_icmp .ne 7, 3) := by decide +kernel
theorem dX11_factHere_40 : decode cX11_factHere 40 = .ok (.iconst 2, 1) := by decide +kernel
theorem dX11_factHere_41 : decode cX11_factHere 41 = .ok (.goto 89, 3) := by decide +kernel
theorem dX11_factHere_44 : decode cX11_factHere 44 = .ok (.iload_n 1, 1) := by decide +kernel
theorem dX11_factHere_45 : decode cX11_factHere 45 = .ok (.ldc 252, 2) := by decide +kernel
theorem dX11_factHere_47 : decode cX11_factHere 47 = .ok (.invokestatic 185, 3) := by decide +kernel
theorem dX11_factHere_50 : decode cX11_factHere 50 = .ok (.if_icmp .ne 7, 3) := by decide +kernel
theorem dX11_factHere_53 : decode cX11_factHere 53 = .ok (.iconst 3, 1) := by decide +kernel
theorem dX11_factHere_54 : decode cX11_factHere 54 = .ok (.goto 76, 3) := by decide +kernel
theorem dX11_factHere_57 : decode cX11_factHere 57 = .ok (.iload_n 1, 1) := by decide +kernel
theorem dX11_factHere_58 : decode cX11_factHere 58 = .ok (.ldc 254, 2) := by decide +kernel
theorem dX11_factHere_60 : decode cX11_factHere 60 = .ok (.invokestatic 185, 3) := by decide +kernel
theorem dX11_factHere_63 : decode cX11_factHere 63 = .ok (.if_icmp .ne 7, 3) := by decide +kernel
theorem dX11_factHere_66 : decode cX11_factHere 66 = .ok (.iconst 4, 1) := by decide +kernel
theorem dX11_factHere_67 : decode cX11_factHere 67 = .ok (.goto 63, 3) := by decide +kernel
theorem dX11_factHere_70 : decode cX11_factHere 70 = .ok (.iload_n 1, 1) := by decide +kernel
theorem dX11_factHere_71 : decode cX11_factHere 71 = .ok (.ldc_w 256, 3) := by decide +kernel
theorem dX11_factHere_74 : decode cX11_factHere 74 = .ok (.invokestatic 185, 3) := by decide +kernel
theorem dX11_factHere_77 : decode cX11_factHere 77 = .ok (.if_icmp .ne 7, 3) := by decide +kernel
theorem dX11_factHere_80 : decode cX11_factHere 80 = .ok (.iconst 5, 1) := by decide +kernel
theorem dX11_factHere_81 : decode cX11_factHere 81 = .ok (.goto 49, 3) := by decide +kernel
theorem dX11_factHere_84 : decode cX11_factHere 84 = .ok (.iload_n 1, 1) := by decide +kernel
theorem dX11_factHere_85 : decode cX11_factHere 85 = .ok (.ldc_w 258, 3) := by decide +kernel
theorem dX11_factHere_88 : decode cX11_factHere 88 = .ok (.invokestatic 185, 3) := by decide +kernel
theorem dX11_factHere_91 : decode cX11_factHere 91 = .ok (.if_icmp .ne 8, 3) := by decide +kernel
theorem dX11_factHere_94 : decode cX11_factHere 94 = .ok (.bipush 6, 2) := by decide +kernel
theorem dX11_factHere_96 : decode cX11_factHere 96 = .ok (.goto 34, 3) := by decide +kernel
theorem dX11_factHere_99 : decode cX11_factHere 99 = .ok (.iload_n 1, 1) := by decide +kernel
theorem dX11_factHere_100 : decode cX11_factHere 100 = .ok (.ldc_w 260, 3) := by decide +kernel
theorem dX11_factHere_103 : decode cX11_factHere 103 = .ok (.invokestatic 185, 3) := by decide +kernel
theorem dX11_factHere_106 : decode cX11_factHere 106 = .ok (.if_icmp .ne 8, 3) := by decide +kernel
theorem dX11_factHere_109 : decode cX11_factHere 109 = .ok (.bipush 7, 2) := by decide +kernel
theorem dX11_factHere_111 : decode cX11_factHere 111 = .ok (.goto 19, 3) := by decide +kernel
theorem dX11_factHere_114 : decode cX11_factHere 114 = .ok (.iload_n 1, 1) := by decide +kernel
theorem dX11_factHere_115 : decode cX11_factHere 115 = .ok (.ldc_w 262, 3) := by decide +kernel
theorem dX11_factHere_118 : decode cX11_factHere 118 = .ok (.invokestatic 185, 3) := by decide +kernel
theorem dX11_factHere_121 : decode cX11_factHere 121 = .ok (.if_icmp .ne 8, 3) := by decide +kernel
theorem dX11_factHere_124 : decode cX11_factHere 124 = .ok (.bipush 8, 2) := by decide +kernel
theorem dX11_factHere_126 : decode cX11_factHere 126 = .ok (.goto 4, 3) := by decide +kernel
theorem dX11_factHere_129 : decode cX11_factHere 129 = .ok (.iconst (-1), 1) := by decide +kernel
theorem dX11_factHere_130 : decode cX11_factHere 130 = .ok (.ireturn, 1) := by decide +kernel
theorem dX11_readUnit_0 : decode cX11_readUnit 0 = .ok (.aload_n 0, 1) := by decide +kernel
theorem dX11_readUnit_1 : decode cX11_readUnit 1 = .ok (.invokevirtual 133, 3) := by decide +kernel
theorem dX11_readUnit_4 : decode cX11_readUnit 4 = .ok (.ifCond .ne 4, 3) := by decide +kernel
theorem dX11_readUnit_7 : decode cX11_readUnit 7 = .ok (.return_, 1) := by decide +kernel
theorem dX11_readUnit_8 : decode cX11_readUnit 8 = .ok (.aload_n 0, 1) := by decide +kernel
theorem dX11_readUnit_9 : decode cX11_readUnit 9 = .ok (.invokevirtual 116, 3) := by decide +kernel
theorem dX11_readUnit_12 : decode cX11_readUnit 12 = .ok (.bipush 40, 2) := by decide +kernel
theorem dX11_readUnit_14 : decode cX11_readUnit 14 = .ok (.if_icmp .ne 31, 3) := by decide +kernel
theorem dX11_readUnit_17 : decode cX11_readUnit 17 = .ok (.aload_n 0, 1) := by decide +kernel
theorem dX11_readUnit_18 : decode cX11_readUnit 18 = .ok (.iconst 1, 1) := by decide +kernel
theorem dX11_readUnit_19 : decode cX11_readUnit 19 = .ok (.invokevirtual 240, 3) := by decide +kernel
theorem dX11_readUnit_22 : decode cX11_readUnit 22 = .ok (.aload_n 0, 1) := by decide +kernel
theorem dX11_readUnit_23 : decode cX11_readUnit 23 = .ok (.invokevirtual 243, 3) := by decide +kernel
theorem dX11_readUnit_26 : decode cX11_readUnit 26 = .ok (.aload_n 0, 1) := by decide +kernel
theorem dX11_readUnit_27 : decode cX11_readUnit 27 = .ok (.bipush 41, 2) := by decide +kernel
theorem dX11_readUnit_29 : decode cX11_readUnit 29 = .ok (.invokevirtual 221, 3) := by decide +kernel
theorem dX11_readUnit_32 : decode cX11_readUnit 32 = .ok (.aload_n 0, 1) := by decide +kernel
theorem dX11_readUnit_33 : decode cX11_readUnit 33 = .ok (.dup, 1) := by decide +kernel
theorem dX11_readUnit_34 : decode cX11_readUnit 34 = .ok (.getfield 144, 3) := by decide +kernel
theorem dX11_readUnit_37 : decode cX11_readUnit 37 = .ok (.iconst 1, 1) := by decide +kernel
theorem dX11_readUnit_38 : decode cX11_readUnit 38 = .ok (.isub, 1) := by decide +kernel
theorem dX11_readUnit_39 : decode cX11_readUnit 39 = .ok (.putfield 144, 3) := by decide +kernel
theorem dX11_readUnit_42 : decode cX11_readUnit 42 = .ok (.goto 112, 3) := by decide +kernel
theorem dX11_readUnit_45 : decode cX11_readUnit 45 = .ok (.aload_n 0, 1) := by decide +kernel
theorem dX11_readUnit_46 : decode cX11_readUnit 46 = .ok (.invokevirtual 116, 3) := by decide +kernel
theorem dX11_readUnit_49 : decode cX11_readUnit 49 = .ok (.invokestatic 137, 3) := by decide +kernel
theorem dX11_readUnit_52 : decode cX11_readUnit 52 = .ok (.ifCond .eq 19, 3) := by decide +kernel
theorem dX11_readUnit_55 : decode cX11_readUnit 55 = .ok (.aload_n 0, 1) := by decide +kernel
theorem dX11_readUnit_56 : decode cX11_readUnit 56 = .ok (.iconst 0, 1) := by decide +kernel
theorem dX11_readUnit_57 : decode cX11_readUnit 57 = .ok (.aload_n 0, 1) := by decide +kernel
theorem dX11_readUnit_58 : decode cX11_readUnit 58 = .ok (.iconst 0, 1) := by decide +kernel
theorem dX11_readUnit_59 : decode cX11_readUnit 59 = .ok (.sipush 999, 3) := by decide +kernel
theorem dX11_readUnit_62 : decode cX11_readUnit 62 = .ok (.invokevirtual 194, 3) := by decide +kernel
theorem dX11_readUnit_65 : decode cX11_readUnit 65 = .ok (.invokevirtual 234, 3) := by decide +kernel
theorem dX11_readUnit_68 : decode cX11_readUnit 68 = .ok (.goto 86, 3) := by decide +kernel
theorem dX11_readUnit_71 : decode cX11_readUnit 71 = .ok (.aload_n 0, 1) := by decide +kernel
theorem dX11_readUnit_72 : decode cX11_readUnit 72 = .ok (.invokevirtual 209, 3) := by decide +kernel
theorem dX11_readUnit_75 : decode cX11_readUnit 75 = .ok (.ldc_w 263, 3) := by decide +kernel
theorem dX11_readUnit_78 : decode cX11_readUnit 78 = .ok (.invokestatic 185, 3) := by decide +kernel
theorem dX11_readUnit_81 : decode cX11_readUnit 81 = .ok (.if_icmp .ne 13, 3) := by decide +kernel
theorem dX11_readUnit_84 : decode cX11_readUnit 84 = .ok (.aload_n 0, 1) := by decide +kernel
theorem dX11_readUnit_85 : decode cX11_readUnit 85 = .ok (.iconst 5, 1) := by decide +kernel
theorem dX11_readUnit_86 : decode cX11_readUnit 86 = .ok (.bipush 6, 2) := by decide +kernel
theorem dX11_readUnit_88 : decode cX11_readUnit 88 = .ok (.invokevirtual 265, 3) := by decide +kernel
theorem dX11_readUnit_91 : decode cX11_readUnit 91 = .ok (.goto 63, 3) := by decide +kernel
theorem dX11_readUnit_94 : decode cX11_readUnit 94 = .ok (.aload_n 0, 1) := by decide +kernel
theorem dX11_readUnit_95 : decode cX11_readUnit 95 = .ok (.invokevirtual 209, 3) := by decide +kernel
theorem dX11_readUnit_98 : decode cX11_readUnit 98 = .ok (.ldc_w 268, 3) := by decide +kernel
theorem dX11_readUnit_101 : decode cX11_readUnit 101 = .ok (.invokestatic 185, 3) := by decide +kernel
theorem dX11_readUnit_104 : decode cX11_readUnit 104 = .ok (.if_icmp .ne 13, 3) := by decide +kernel
theorem dX11_readUnit_107 : decode cX11_readUnit 107 = .ok (.aload_n 0, 1) := by decide +kernel
theorem dX11_readUnit_108 : decode cX11_readUnit 108 = .ok (.iconst 4, 1) := by decide +kernel
theorem dX11_readUnit_109 : decode cX11_readUnit 109 = .ok (.bipush 7, 2) := by decide +kernel
theorem dX11_readUnit_111 : decode cX11_readUnit 111 = .ok (.invokevirtual 265, 3) := by decide +kernel
theorem dX11_readUnit_114 : decode cX11_readUnit 114 = .ok (.goto 40, 3) := by decide +kernel
theorem dX11_readUnit_117 : decode cX11_readUnit 117 = .ok (.aload_n 0, 1) := by decide +kernel
theorem dX11_readUnit_118 : decode cX11_readUnit 118 = .ok (.invokevirtual 270, 3) := by decide +kernel
theorem dX11_readUnit_121 : decode cX11_readUnit 121 = .ok (.istore_n 1, 1) := by decide +kernel
theorem dX11_readUnit_122 : decode cX11_readUnit 122 = .ok (.iload_n 1, 1) := by decide +kernel
theorem dX11_readUnit_123 : decode cX11_readUnit 123 = .ok (.iconst (-1), 1) := by decide +kernel
theorem dX11_readUnit_124 : decode cX11_readUnit 124 = .ok (.if_icmp .ne 12, 3) := by decide +kernel
theorem dX11_readUnit_127 : decode cX11_readUnit 127 = .ok (.aload_n 0, 1) := by decide +kernel
theorem dX11_readUnit_128 : decode cX11_readUnit 128 = .ok (.iconst 1, 1) := by decide +kernel
theorem dX11_readUnit_129 : decode cX11_readUnit 129 = .ok (.aload_n 0, 1) := by decide +kernel
theorem dX11_readUnit_130 : decode cX11_readUnit 130 = .ok (.getfield 110, 3) := by decide +kernel
theorem dX11_readUnit_133 : decode cX11_readUnit 133 = .ok (.invokevirtual 140, 3) := by decide +kernel
theorem dX11_readUnit_136 : decode cX11_readUnit 136 = .ok (.aload_n 0, 1) := by decide +kernel
theorem dX11_readUnit_137 : decode cX11_readUnit 137 = .ok (.invokevirtual 133, 3) := by decide +kernel
theorem dX11_readUnit_140 : decode cX11_readUnit 140 = .ok (.ifCond .ne 4, 3) := by decide +kernel
theorem dX11_readUnit_143 : decode cX11_readUnit 143 = .ok (.return_, 1) := by decide +kernel
theorem dX11_readUnit_144 : decode cX11_readUnit 144 = .ok (.aload_n 0, 1) := by decide +kernel
theorem dX11_readUnit_145 : decode cX11_readUnit 145 = .ok (.invokevirtual 215, 3) := by decide +kernel
theorem dX11_readUnit_148 : decode cX11_readUnit 148 = .ok (.aload_n 0, 1) := by decide +kernel
theorem dX11_readUnit_149 : decode cX11_readUnit 149 = .ok (.iconst 1, 1) := by decide +kernel
theorem dX11_readUnit_150 : decode cX11_readUnit 150 = .ok (.iload_n 1, 1) := by decide +kernel
theorem dX11_readUnit_151 : decode cX11_readUnit 151 = .ok (.invokevirtual 234, 3) := by decide +kernel
theorem dX11_readUnit_154 : decode cX11_readUnit 154 = .ok (.return_, 1) := by decide +kernel
theorem dX11_law_0 : decode cX11_law 0 = .ok (.aload_n 0, 1) := by decide +kernel
theorem dX11_law_1 : decode cX11_law 1 = .ok (.iconst 0, 1) := by decide +kernel
theorem dX11_law_2 : decode cX11_law 2 = .ok (.putfield 3, 3) := by decide +kernel
theorem dX11_law_5 : decode cX11_law 5 = .ok (.aload_n 0, 1) := by decide +kernel
theorem dX11_law_6 : decode cX11_law 6 = .ok (.iload_n 1, 1) := by decide +kernel
theorem dX11_law_7 : decode cX11_law 7 = .ok (.ifCond .lt 22, 3) := by decide +kernel
theorem dX11_law_10 : decode cX11_law 10 = .ok (.iload_n 1, 1) := by decide +kernel
theorem dX11_law_11 : decode cX11_law 11 = .ok (.aload_n 0, 1) := by decide +kernel
theorem dX11_law_12 : decode cX11_law 12 = .ok (.getfield 101, 3) := by decide +kernel
theorem dX11_law_15 : decode cX11_law 15 = .ok (.if_icmp .gt 14, 3) := by decide +kernel
theorem dX11_law_18 : decode cX11_law 18 = .ok (.iload_n 1, 1) := by decide +kernel
theorem dX11_law_19 : decode cX11_law 19 = .ok (.sipush 150, 3) := by decide +kernel
theorem dX11_law_22 : decode cX11_law 22 = .ok (.if_icmp .gt 7, 3) := by decide +kernel
theorem dX11_law_25 : decode cX11_law 25 = .ok (.iconst 1, 1) := by decide +kernel
theorem dX11_law_26 : decode cX11_law 26 = .ok (.goto 4, 3) := by decide +kernel
theorem dX11_law_29 : decode cX11_law 29 = .ok (.iconst 0, 1) := by decide +kernel
theorem dX11_law_30 : decode cX11_law 30 = .ok (.iconst 1, 1) := by decide +kernel
theorem dX11_law_31 : decode cX11_law 31 = .ok (.iconst 1, 1) := by decide +kernel
theorem dX11_law_32 : decode cX11_law 32 = .ok (.invokevirtual 198, 3) := by decide +kernel
theorem dX11_law_35 : decode cX11_law 35 = .ok (.ifCond .ne 5, 3) := by decide +kernel
theorem dX11_law_38 : decode cX11_law 38 = .ok (.iconst 0, 1) := by decide +kernel
theorem dX11_law_39 : decode cX11_law 39 = .ok (.ireturn, 1) := by decide +kernel
theorem dX11_law_40 : decode cX11_law 40 = .ok (.aload_n 0, 1) := by decide +kernel
theorem dX11_law_41 : decode cX11_law 41 = .ok (.iload_n 1, 1) := by decide +kernel
theorem dX11_law_42 : decode cX11_law 42 = .ok (.invokevirtual 202, 3) := by decide +kernel
theorem dX11_law_45 : decode cX11_law 45 = .ok (.aload_n 0, 1) := by decide +kernel
theorem dX11_law_46 : decode cX11_law 46 = .ok (.iconst 0, 1) := by decide +kernel
theorem dX11_law_47 : decode cX11_law 47 = .ok (.putfield 228, 3) := by decide +kernel
theorem dX11_law_50 : decode cX11_law 50 = .ok (.aload_n 0, 1) := by decide +kernel
theorem dX11_law_51 : decode cX11_law 51 = .ok (.invokevirtual 243, 3) := by decide +kernel
theorem dX11_law_54 : decode cX11_law 54 = .ok (.aload_n 0, 1) := by decide +kernel
theorem dX11_law_55 : decode cX11_law 55 = .ok (.invokevirtual 133, 3) := by decide +kernel
theorem dX11_law_58 : decode cX11_law 58 = .ok (.ifCond .eq 19, 3) := by decide +kernel
theorem dX11_law_61 : decode cX11_law 61 = .ok (.aload_n 0, 1) := by decide +kernel
theorem dX11_law_62 : decode cX11_law 62 = .ok (.invokevirtual 206, 3) := by decide +kernel
theorem dX11_law_65 : decode cX11_law 65 = .ok (.ifCond .eq 12, 3) := by decide +kernel
theorem dX11_law_68 : decode cX11_law 68 = .ok (.aload_n 0, 1) := by decide +kernel
theorem dX11_law_69 : decode cX11_law 69 = .ok (.iconst 1, 1) := by decide +kernel
theorem dX11_law_70 : decode cX11_law 70 = .ok (.aload_n 0, 1) := by decide +kernel
theorem dX11_law_71 : decode cX11_law 71 = .ok (.getfield 110, 3) := by decide +kernel
theorem dX11_law_74 : decode cX11_law 74 = .ok (.invokevirtual 140, 3) := by decide +kernel
theorem dX11_law_77 : decode cX11_law 77 = .ok (.aload_n 0, 1) := by decide +kernel
theorem dX11_law_78 : decode cX11_law 78 = .ok (.iconst 1, 1) := by decide +kernel
theorem dX11_law_79 : decode cX11_law 79 = .ok (.invokevirtual 224, 3) := by decide +kernel
theorem dX11_law_82 : decode cX11_law 82 = .ok (.istore_n 2, 1) := by decide +kernel
theorem dX11_law_83 : decode cX11_law 83 = .ok (.aload_n 0, 1) := by decide +kernel
theorem dX11_law_84 : decode cX11_law 84 = .ok (.getfield 104, 3) := by decide +kernel
theorem dX11_law_87 : decode cX11_law 87 = .ok (.iconst (-1), 1) := by decide +kernel
theorem dX11_law_88 : decode cX11_law 88 = .ok (.if_icmp .eq 5, 3) := by decide +kernel
theorem dX11_law_91 : decode cX11_law 91 = .ok (.iload_n 2, 1) := by decide +kernel
theorem dX11_law_92 : decode cX11_law 92 = .ok (.ireturn, 1) := by decide +kernel
theorem dX11_law_93 : decode cX11_law 93 = .ok (.aload_n 0, 1) := by decide +kernel
theorem dX11_law_94 : decode cX11_law 94 = .ok (.aload_n 0, 1) := by decide +kernel
theorem dX11_law_95 : decode cX11_law 95 = .ok (.getfield 228, 3) := by decide +kernel
theorem dX11_law_98 : decode cX11_law 98 = .ok (.putfield 169, 3) := by decide +kernel
theorem dX11_law_101 : decode cX11_law 101 = .ok (.aload_n 0, 1) := by decide +kernel
theorem dX11_law_102 : decode cX11_law 102 = .ok (.aload_n 0, 1) := by decide +kernel
theorem dX11_law_103 : decode cX11_law 103 = .ok (.getfield 41, 3) := by decide +kernel
theorem dX11_law_106 : decode cX11_law 106 = .ok (.aload_n 0, 1) := by decide +kernel
theorem dX11_law_107 : decode cX11_law 107 = .ok (.getfield 47, 3) := by decide +kernel
theorem dX11_law_110 : decode cX11_law 110 = .ok (.aload_n 0, 1) := by decide +kernel
theorem dX11_law_111 : decode cX11_law 111 = .ok (.getfield 228, 3) := by decide +kernel
theorem dX11_law_114 : decode cX11_law 114 = .ok (.invokevirtual 165, 3) := by decide +kernel
theorem dX11_law_117 : decode cX11_law 117 = .ok (.aload_n 0, 1) := by decide +kernel
theorem dX11_law_118 : decode cX11_law 118 = .ok (.aload_n 0, 1) := by decide +kernel
theorem dX11_law_119 : decode cX11_law 119 = .ok (.getfield 44, 3) := by decide +kernel
theorem dX11_law_122 : decode cX11_law 122 = .ok (.aload_n 0, 1) := by decide +kernel
theorem dX11_law_123 : decode cX11_law 123 = .ok (.getfield 50, 3) := by decide +kernel
theorem dX11_law_126 : decode cX11_law 126 = .ok (.aload_n 0, 1) := by decide +kernel
theorem dX11_law_127 : decode cX11_law 127 = .ok (.getfield 228, 3) := by decide +kernel
theorem dX11_law_130 : decode cX11_law 130 = .ok (.invokevirtual 165, 3) := by decide +kernel
theorem dX11_law_133 : decode cX11_law 133 = .ok (.iload_n 2, 1) := by decide +kernel
theorem dX11_law_134 : decode cX11_law 134 = .ok (.ireturn, 1) := by decide +kernel
theorem dX11_valueNow_0 : decode cX11_valueNow 0 = .ok (.iconst 0, 1) := by decide +kernel
theorem dX11_valueNow_1 : decode cX11_valueNow 1 = .ok (.istore_n 1, 1) := by decide +kernel
theorem dX11_valueNow_2 : decode cX11_valueNow 2 = .ok (.iconst 0, 1) := by decide +kernel
theorem dX11_valueNow_3 : decode cX11_valueNow 3 = .ok (.istore_n 2, 1) := by decide +kernel
theorem dX11_valueNow_4 : decode cX11_valueNow 4 = .ok (.iload_n 2, 1) := by decide +kernel
theorem dX11_valueNow_5 : decode cX11_valueNow 5 = .ok (.aload_n 0, 1) := by decide +kernel
theorem dX11_valueNow_6 : decode cX11_valueNow 6 = .ok (.getfield 169, 3) := by decide +kernel
theorem dX11_valueNow_9 : decode cX11_valueNow 9 = .ok (.if_icmp .ge 86, 3) := by decide +kernel
theorem dX11_valueNow_12 : decode cX11_valueNow 12 = .ok (.aload_n 0, 1) := by decide +kernel
theorem dX11_valueNow_13 : decode cX11_valueNow 13 = .ok (.getfield 47, 3) := by decide +kernel
theorem dX11_valueNow_16 : decode cX11_valueNow 16 = .ok (.iload_n 2, 1) := by decide +kernel
theorem dX11_valueNow_17 : decode cX11_valueNow 17 = .ok (.iaload, 1) := by decide +kernel
theorem dX11_valueNow_18 : decode cX11_valueNow 18 = .ok (.istore_n 3, 1) := by decide +kernel
theorem dX11_valueNow_19 : decode cX11_valueNow 19 = .ok (.iload_n 3, 1) := by decide +kernel
theorem dX11_valueNow_20 : decode cX11_valueNow 20 = .ok (.iconst 1, 1) := by decide +kernel
theorem dX11_valueNow_21 : decode cX11_valueNow 21 = .ok (.if_icmp .gt 39, 3) := by decide +kernel
theorem dX11_valueNow_24 : decode cX11_valueNow 24 = .ok (.aload_n 0, 1) := by decide +kernel
theorem dX11_valueNow_25 : decode cX11_valueNow 25 = .ok (.getfield 53, 3) := by decide +kernel
theorem dX11_valueNow_28 : decode cX11_valueNow 28 = .ok (.iload_n 1, 1) := by decide +kernel
theorem dX11_valueNow_29 : decode cX11_valueNow 29 = .ok (.iload_n 3, 1) := by decide +kernel
theorem dX11_valueNow_30 : decode cX11_valueNow 30 = .ok (.ifCond .ne 12, 3) := by decide +kernel
theorem dX11_valueNow_33 : decode cX11_valueNow 33 = .ok (.aload_n 0, 1) := by decide +kernel
theorem dX11_valueNow_34 : decode cX11_valueNow 34 = .ok (.getfield 50, 3) := by decide +kernel
theorem dX11_valueNow_37 : decode cX11_valueNow 37 = .ok (.iload_n 2, 1) := by decide +kernel
theorem dX11_valueNow_38 : decode cX11_valueNow 38 = .ok (.iaload, 1) := by decide +kernel
theorem dX11_valueNow_39 : decode cX11_valueNow 39 = .ok (.goto 14, 3) := by decide +kernel
theorem dX11_valueNow_42 : decode cX11_valueNow 42 = .ok (.aload_n 0, 1) := by decide +kernel
theorem dX11_valueNow_43 : decode cX11_valueNow 43 = .ok (.getfield 56, 3) := by decide +kernel
theorem dX11_valueNow_46 : decode cX11_valueNow 46 = .ok (.aload_n 0, 1) := by decide +kernel
theorem dX11_valueNow_47 : decode cX11_valueNow 47 = .ok (.getfield 50, 3) := by decide +kernel
theorem dX11_valueNow_50 : decode cX11_valueNow 50 = .ok (.iload_n 2, 1) := by decide +kernel
theorem dX11_valueNow_51 : decode cX11_valueNow 51 = .ok (.iaload, 1) := by decide +kernel
theorem dX11_valueNow_52 : decode cX11_valueNow 52 = .ok (.iaload, 1) := by decide +kernel
theorem dX11_valueNow_53 : decode cX11_valueNow 53 = .ok (.iastore, 1) := by decide +kernel
theorem dX11_valueNow_54 : decode cX11_valueNow 54 = .ok (.iinc 1 1, 3) := by decide +kernel
theorem dX11_valueNow_57 : decode cX11_valueNow 57 = .ok (.goto 32, 3) := by decide +kernel
theorem dX11_valueNow_60 : decode cX11_valueNow 60 = .ok (.iinc 1 (-1), 3) := by decide +kernel
theorem dX11_valueNow_63 : decode cX11_valueNow 63 = .ok (.aload_n 0, 1) := by decide +kernel
theorem dX11_valueNow_64 : decode cX11_valueNow 64 = .ok (.getfield 53, 3) := by decide +kernel
theorem dX11_valueNow_67 : decode cX11_valueNow 67 = .ok (.iload_n 1, 1) := by decide +kernel
theorem dX11_valueNow_68 : decode cX11_valueNow 68 = .ok (.iconst 1, 1) := by decide +kernel
theorem dX11_valueNow_69 : decode cX11_valueNow 69 = .ok (.isub, 1) := by decide +kernel
theorem dX11_valueNow_70 : decode cX11_valueNow 70 = .ok (.iload_n 3, 1) := by decide +kernel
theorem dX11_valueNow_71 : decode cX11_valueNow 71 = .ok (.aload_n 0, 1) := by decide +kernel
theorem dX11_valueNow_72 : decode cX11_valueNow 72 = .ok (.getfield 53, 3) := by decide +kernel
theorem dX11_valueNow_75 : decode cX11_valueNow 75 = .ok (.iload_n 1, 1) := by decide +kernel
theorem dX11_valueNow_76 : decode cX11_valueNow 76 = .ok (.iconst 1, 1) := by decide +kernel
theorem dX11_valueNow_77 : decode cX11_valueNow 77 = .ok (.isub, 1) := by decide +kernel
theorem dX11_valueNow_78 : decode cX11_valueNow 78 = .ok (.iaload, 1) := by decide +kernel
theorem dX11_valueNow_79 : decode cX11_valueNow 79 = .ok (.aload_n 0, 1) := by decide +kernel
theorem dX11_valueNow_80 : decode cX11_valueNow 80 = .ok (.getfield 53, 3) := by decide +kernel
theorem dX11_valueNow_83 : decode cX11_valueNow 83 = .ok (.iload_n 1, 1) := by decide +kernel
theorem dX11_valueNow_84 : decode cX11_valueNow 84 = .ok (.iaload, 1) := by decide +kernel
theorem dX11_valueNow_85 : decode cX11_valueNow 85 = .ok (.invokestatic 273, 3) := by decide +kernel
theorem dX11_valueNow_88 : decode cX11_valueNow 88 = .ok (.iastore, 1) := by decide +kernel
theorem dX11_valueNow_89 : decode cX11_valueNow 89 = .ok (.iinc 2 1, 3) := by decide +kernel
theorem dX11_valueNow_92 : decode cX11_valueNow 92 = .ok (.goto (-88), 3) := by decide +kernel
theorem dX11_valueNow_95 : decode cX11_valueNow 95 = .ok (.aload_n 0, 1) := by decide +kernel
theorem dX11_valueNow_96 : decode cX11_valueNow 96 = .ok (.getfield 53, 3) := by decide +kernel
theorem dX11_valueNow_99 : decode cX11_valueNow 99 = .ok (.iconst 0, 1) := by decide +kernel
theorem dX11_valueNow_100 : decode cX11_valueNow 100 = .ok (.iaload, 1) := by decide +kernel
theorem dX11_valueNow_101 : decode cX11_valueNow 101 = .ok (.ireturn, 1) := by decide +kernel
theorem dX11_both_0 : decode cX11_both 0 = .ok (.iload_n 0, 1) := by decide +kernel
theorem dX11_both_1 : decode cX11_both 1 = .ok (.iconst 2, 1) := by decide +kernel
theorem dX11_both_2 : decode cX11_both 2 = .ok (.if_icmp .ne 7, 3) := by decide +kernel
theorem dX11_both_5 : decode cX11_both 5 = .ok (.iload_n 1, 1) := by decide +kernel
theorem dX11_both_6 : decode cX11_both 6 = .ok (.iload_n 2, 1) := by decide +kernel
theorem dX11_both_7 : decode cX11_both 7 = .ok (.iadd, 1) := by decide +kernel
theorem dX11_both_8 : decode cX11_both 8 = .ok (.ireturn, 1) := by decide +kernel
theorem dX11_both_9 : decode cX11_both 9 = .ok (.iload_n 0, 1) := by decide +kernel
theorem dX11_both_10 : decode cX11_both 10 = .ok (.iconst 3, 1) := by decide +kernel
theorem dX11_both_11 : decode cX11_both 11 = .ok (.if_icmp .ne 7, 3) := by decide +kernel
theorem dX11_both_14 : decode cX11_both 14 = .ok (.iload_n 1, 1) := by decide +kernel
theorem dX11_both_15 : decode cX11_both 15 = .ok (.iload_n 2, 1) := by decide +kernel
theorem dX11_both_16 : decode cX11_both 16 = .ok (.isub, 1) := by decide +kernel
theorem dX11_both_17 : decode cX11_both 17 = .ok (.ireturn, 1) := by decide +kernel
theorem dX11_both_18 : decode cX11_both 18 = .ok (.iload_n 0, 1) := by decide +kernel
theorem dX11_both_19 : decode cX11_both 19 = .ok (.iconst 4, 1) := by decide +kernel
theorem dX11_both_20 : decode cX11_both 20 = .ok (.if_icmp .ne 7, 3) := by decide +kernel
theorem dX11_both_23 : decode cX11_both 23 = .ok (.iload_n 1, 1) := by decide +kernel
theorem dX11_both_24 : decode cX11_both 24 = .ok (.iload_n 2, 1) := by decide +kernel
theorem dX11_both_25 : decode cX11_both 25 = .ok (.imul, 1) := by decide +kernel
theorem dX11_both_26 : decode cX11_both 26 = .ok (.ireturn, 1) := by decide +kernel
theorem dX11_both_27 : decode cX11_both 27 = .ok (.iload_n 0, 1) := by decide +kernel
theorem dX11_both_28 : decode cX11_both 28 = .ok (.iconst 5, 1) := by decide +kernel
theorem dX11_both_29 : decode cX11_both 29 = .ok (.if_icmp .ne 15, 3) := by decide +kernel
theorem dX11_both_32 : decode cX11_both 32 = .ok (.iload_n 2, 1) := by decide +kernel
theorem dX11_both_33 : decode cX11_both 33 = .ok (.ifCond .ne 7, 3) := by decide +kernel
theorem dX11_both_36 : decode cX11_both 36 = .ok (.iconst 0, 1) := by decide +kernel
theorem dX11_both_37 : decode cX11_both 37 = .ok (.goto 6, 3) := by decide +kernel
theorem dX11_both_40 : decode cX11_both 40 = .ok (.iload_n 1, 1) := by decide +kernel
theorem dX11_both_41 : decode cX11_both 41 = .ok (.iload_n 2, 1) := by decide +kernel
theorem dX11_both_42 : decode cX11_both 42 = .ok (.idiv, 1) := by decide +kernel
theorem dX11_both_43 : decode cX11_both 43 = .ok (.ireturn, 1) := by decide +kernel
theorem dX11_both_44 : decode cX11_both 44 = .ok (.iload_n 1, 1) := by decide +kernel
theorem dX11_both_45 : decode cX11_both 45 = .ok (.iload_n 2, 1) := by decide +kernel
theorem dX11_both_46 : decode cX11_both 46 = .ok (.if_icmp .ge 7, 3) := by decide +kernel
theorem dX11_both_49 : decode cX11_both 49 = .ok (.iconst 1, 1) := by decide +kernel
theorem dX11_both_50 : decode cX11_both 50 = .ok (.goto 4, 3) := by decide +kernel
theorem dX11_both_53 : decode cX11_both 53 = .ok (.iconst 0, 1) := by decide +kernel
theorem dX11_both_54 : decode cX11_both 54 = .ok (.iload_n 0, 1) := by decide +kernel
theorem dX11_both_55 : decode cX11_both 55 = .ok (.bipush 6, 2) := by decide +kernel
theorem dX11_both_57 : decode cX11_both 57 = .ok (.if_icmp .ne 7, 3) := by decide +kernel
theorem dX11_both_60 : decode cX11_both 60 = .ok (.iconst 1, 1) := by decide +kernel
theorem dX11_both_61 : decode cX11_both 61 = .ok (.goto 4, 3) := by decide +kernel
theorem dX11_both_64 : decode cX11_both 64 = .ok (.iconst 0, 1) := by decide +kernel
theorem dX11_both_65 : decode cX11_both 65 = .ok (.if_icmp .ne 7, 3) := by decide +kernel
theorem dX11_both_68 : decode cX11_both 68 = .ok (.iload_n 1, 1) := by decide +kernel
theorem dX11_both_69 : decode cX11_both 69 = .ok (.goto 4, 3) := by decide +kernel
theorem dX11_both_72 : decode cX11_both 72 = .ok (.iload_n 2, 1) := by decide +kernel
theorem dX11_both_73 : decode cX11_both 73 = .ok (.ireturn, 1) := by decide +kernel
theorem dX11_sitsNow_0 : decode cX11_sitsNow 0 = .ok (.aload_n 0, 1) := by decide +kernel
theorem dX11_sitsNow_1 : decode cX11_sitsNow 1 = .ok (.getfield 169, 3) := by decide +kernel
theorem dX11_sitsNow_4 : decode cX11_sitsNow 4 = .ok (.ifCond .ne 15, 3) := by decide +kernel
theorem dX11_sitsNow_7 : decode cX11_sitsNow 7 = .ok (.aload_n 0, 1) := by decide +kernel
theorem dX11_sitsNow_8 : decode cX11_sitsNow 8 = .ok (.getfield 56, 3) := by decide +kernel
theorem dX11_sitsNow_11 : decode cX11_sitsNow 11 = .ok (.iconst 3, 1) := by decide +kernel
theorem dX11_sitsNow_12 : decode cX11_sitsNow 12 = .ok (.iaload, 1) := by decide +kernel
theorem dX11_sitsNow_13 : decode cX11_sitsNow 13 = .ok (.bipush 9, 2) := by decide +kernel
theorem dX11_sitsNow_15 : decode cX11_sitsNow 15 = .ok (.isub, 1) := by decide +kernel
theorem dX11_sitsNow_16 : decode cX11_sitsNow 16 = .ok (.goto 7, 3) := by decide +kernel
theorem dX11_sitsNow_19 : decode cX11_sitsNow 19 = .ok (.aload_n 0, 1) := by decide +kernel
theorem dX11_sitsNow_20 : decode cX11_sitsNow 20 = .ok (.invokevirtual 277, 3) := by decide +kernel
theorem dX11_sitsNow_23 : decode cX11_sitsNow 23 = .ok (.ifCond .le 7, 3) := by decide +kernel
theorem dX11_sitsNow_26 : decode cX11_sitsNow 26 = .ok (.iconst 1, 1) := by decide +kernel
theorem dX11_sitsNow_27 : decode cX11_sitsNow 27 = .ok (.goto 4, 3) := by decide +kernel
theorem dX11_sitsNow_30 : decode cX11_sitsNow 30 = .ok (.iconst 0, 1) := by decide +kernel
theorem dX11_sitsNow_31 : decode cX11_sitsNow 31 = .ok (.ireturn, 1) := by decide +kernel
theorem dX11_tellsStep_0 : decode cX11_tellsStep 0 = .ok (.aload_n 0, 1) := by decide +kernel
theorem dX11_tellsStep_1 : decode cX11_tellsStep 1 = .ok (.invokevirtual 133, 3) := by decide +kernel
theorem dX11_tellsStep_4 : decode cX11_tellsStep 4 = .ok (.ifCond .ne 4, 3) := by decide +kernel
theorem dX11_tellsStep_7 : decode cX11_tellsStep 7 = .ok (.return_, 1) := by decide +kernel
theorem dX11_tellsStep_8 : decode cX11_tellsStep 8 = .ok (.aload_n 0, 1) := by decide +kernel
theorem dX11_tellsStep_9 : decode cX11_tellsStep 9 = .ok (.getfield 59, 3) := by decide +kernel
theorem dX11_tellsStep_12 : decode cX11_tellsStep 12 = .ok (.aload_n 0, 1) := by decide +kernel
theorem dX11_tellsStep_13 : decode cX11_tellsStep 13 = .ok (.getfield 280, 3) := by decide +kernel
theorem dX11_tellsStep_16 : decode cX11_tellsStep 16 = .ok (.iload_n 1, 1) := by decide +kernel
theorem dX11_tellsStep_17 : decode cX11_tellsStep 17 = .ok (.iastore, 1) := by decide +kernel
theorem dX11_tellsStep_18 : decode cX11_tellsStep 18 = .ok (.aload_n 0, 1) := by decide +kernel
theorem dX11_tellsStep_19 : decode cX11_tellsStep 19 = .ok (.getfield 59, 3) := by decide +kernel
theorem dX11_tellsStep_22 : decode cX11_tellsStep 22 = .ok (.aload_n 0, 1) := by decide +kernel
theorem dX11_tellsStep_23 : decode cX11_tellsStep 23 = .ok (.getfield 280, 3) := by decide +kernel
theorem dX11_tellsStep_26 : decode cX11_tellsStep 26 = .ok (.iconst 1, 1) := by decide +kernel
theorem dX11_tellsStep_27 : decode cX11_tellsStep 27 = .ok (.iadd, 1) := by decide +kernel
theorem dX11_tellsStep_28 : decode cX11_tellsStep 28 = .ok (.iload_n 2, 1) := by decide +kernel
theorem dX11_tellsStep_29 : decode cX11_tellsStep 29 = .ok (.iastore, 1) := by decide +kernel
theorem dX11_tellsStep_30 : decode cX11_tellsStep 30 = .ok (.aload_n 0, 1) := by decide +kernel
theorem dX11_tellsStep_31 : decode cX11_tellsStep 31 = .ok (.getfield 59, 3) := by decide +kernel
theorem dX11_tellsStep_34 : decode cX11_tellsStep 34 = .ok (.aload_n 0, 1) := by decide +kernel
theorem dX11_tellsStep_35 : decode cX11_tellsStep 35 = .ok (.getfield 280, 3) := by decide +kernel
theorem dX11_tellsStep_38 : decode cX11_tellsStep 38 = .ok (.iconst 2, 1) := by decide +kernel
theorem dX11_tellsStep_39 : decode cX11_tellsStep 39 = .ok (.iadd, 1) := by decide +kernel
theorem dX11_tellsStep_40 : decode cX11_tellsStep 40 = .ok (.iload_n 3, 1) := by decide +kernel
theorem dX11_tellsStep_41 : decode cX11_tellsStep 41 = .ok (.iastore, 1) := by decide +kernel
theorem dX11_tellsStep_42 : decode cX11_tellsStep 42 = .ok (.aload_n 0, 1) := by decide +kernel
theorem dX11_tellsStep_43 : decode cX11_tellsStep 43 = .ok (.dup, 1) := by decide +kernel
theorem dX11_tellsStep_44 : decode cX11_tellsStep 44 = .ok (.getfield 280, 3) := by decide +kernel
theorem dX11_tellsStep_47 : decode cX11_tellsStep 47 = .ok (.iconst 3, 1) := by decide +kernel
theorem dX11_tellsStep_48 : decode cX11_tellsStep 48 = .ok (.iadd, 1) := by decide +kernel
theorem dX11_tellsStep_49 : decode cX11_tellsStep 49 = .ok (.putfield 280, 3) := by decide +kernel
theorem dX11_tellsStep_52 : decode cX11_tellsStep 52 = .ok (.return_, 1) := by decide +kernel
theorem dX11_readOne_0 : decode cX11_readOne 0 = .ok (.aload_n 0, 1) := by decide +kernel
theorem dX11_readOne_1 : decode cX11_readOne 1 = .ok (.iconst 0, 1) := by decide +kernel
theorem dX11_readOne_2 : decode cX11_readOne 2 = .ok (.aload_n 0, 1) := by decide +kernel
theorem dX11_readOne_3 : decode cX11_readOne 3 = .ok (.getfield 159, 3) := by decide +kernel
theorem dX11_readOne_6 : decode cX11_readOne 6 = .ok (.iconst 1, 1) := by decide +kernel
theorem dX11_readOne_7 : decode cX11_readOne 7 = .ok (.isub, 1) := by decide +kernel
theorem dX11_readOne_8 : decode cX11_readOne 8 = .ok (.invokevirtual 194, 3) := by decide +kernel
theorem dX11_readOne_11 : decode cX11_readOne 11 = .ok (.ireturn, 1) := by decide +kernel
theorem dX11_readMarriage_0 : decode cX11_readMarriage 0 = .ok (.aload_n 0, 1) := by decide +kernel
theorem dX11_readMarriage_1 : decode cX11_readMarriage 1 = .ok (.invokevirtual 283, 3) := by decide +kernel
theorem dX11_readMarriage_4 : decode cX11_readMarriage 4 = .ok (.istore_n 1, 1) := by decide +kernel
theorem dX11_readMarriage_5 : decode cX11_readMarriage 5 = .ok (.aload_n 0, 1) := by decide +kernel
theorem dX11_readMarriage_6 : decode cX11_readMarriage 6 = .ok (.invokevirtual 116, 3) := by decide +kernel
theorem dX11_readMarriage_9 : decode cX11_readMarriage 9 = .ok (.pop, 1) := by decide +kernel
theorem dX11_readMarriage_10 : decode cX11_readMarriage 10 = .ok (.aload_n 0, 1) := by decide +kernel
theorem dX11_readMarriage_11 : decode cX11_readMarriage 11 = .ok (.getfield 110, 3) := by decide +kernel
theorem dX11_readMarriage_14 : decode cX11_readMarriage 14 = .ok (.istore_n 2, 1) := by decide +kernel
theorem dX11_readMarriage_15 : decode cX11_readMarriage 15 = .ok (.aload_n 0, 1) := by decide +kernel
theorem dX11_readMarriage_16 : decode cX11_readMarriage 16 = .ok (.invokevirtual 283, 3) := by decide +kernel
theorem dX11_readMarriage_19 : decode cX11_readMarriage 19 = .ok (.istore_n 3, 1) := by decide +kernel
theorem dX11_readMarriage_20 : decode cX11_readMarriage 20 = .ok (.aload_n 0, 1) := by decide +kernel
theorem dX11_readMarriage_21 : decode cX11_readMarriage 21 = .ok (.invokevirtual 133, 3) := by decide +kernel
theorem dX11_readMarriage_24 : decode cX11_readMarriage 24 = .ok (.ifCond .eq 14, 3) := by decide +kernel
theorem dX11_readMarriage_27 : decode cX11_readMarriage 27 = .ok (.iload_n 1, 1) := by decide +kernel
theorem dX11_readMarriage_28 : decode cX11_readMarriage 28 = .ok (.iload_n 3, 1) := by decide +kernel
theorem dX11_readMarriage_29 : decode cX11_readMarriage 29 = .ok (.if_icmp .ne 9, 3) := by decide +kernel
theorem dX11_readMarriage_32 : decode cX11_readMarriage 32 = .ok (.aload_n 0, 1) := by decide +kernel
theorem dX11_readMarriage_33 : decode cX11_readMarriage 33 = .ok (.iconst 2, 1) := by decide +kernel
theorem dX11_readMarriage_34 : decode cX11_readMarriage 34 = .ok (.iload_n 2, 1) := by decide +kernel
theorem dX11_readMarriage_35 : decode cX11_readMarriage 35 = .ok (.invokevirtual 140, 3) := by decide +kernel
theorem dX11_readMarriage_38 : decode cX11_readMarriage 38 = .ok (.aload_n 0, 1) := by decide +kernel
theorem dX11_readMarriage_39 : decode cX11_readMarriage 39 = .ok (.iconst 4, 1) := by decide +kernel
theorem dX11_readMarriage_40 : decode cX11_readMarriage 40 = .ok (.iload_n 1, 1) := by decide +kernel
theorem dX11_readMarriage_41 : decode cX11_readMarriage 41 = .ok (.iload_n 3, 1) := by decide +kernel
theorem dX11_readMarriage_42 : decode cX11_readMarriage 42 = .ok (.invokevirtual 286, 3) := by decide +kernel
theorem dX11_readMarriage_45 : decode cX11_readMarriage 45 = .ok (.return_, 1) := by decide +kernel
theorem dX11_readStep_0 : decode cX11_readStep 0 = .ok (.aload_n 0, 1) := by decide +kernel
theorem dX11_readStep_1 : decode cX11_readStep 1 = .ok (.invokevirtual 209, 3) := by decide +kernel
theorem dX11_readStep_4 : decode cX11_readStep 4 = .ok (.istore_n 1, 1) := by decide +kernel
theorem dX11_readStep_5 : decode cX11_readStep 5 = .ok (.iload_n 1, 1) := by decide +kernel
theorem dX11_readStep_6 : decode cX11_readStep 6 = .ok (.ldc_w 290, 3) := by decide +kernel
theorem dX11_readStep_9 : decode cX11_readStep 9 = .ok (.invokestatic 185, 3) := by decide +kernel
theorem dX11_readStep_12 : decode cX11_readStep 12 = .ok (.if_icmp .eq 13, 3) := by decide +kernel
theorem dX11_readStep_15 : decode cX11_readStep 15 = .ok (.iload_n 1, 1) := by decide +kernel
theorem dX11_readStep_16 : decode cX11_readStep 16 = .ok (.ldc_w 260, 3) := by decide +kernel
theorem dX11_readStep_19 : decode cX11_readStep 19 = .ok (.invokestatic 185, 3) := by decide +kernel
theorem dX11_readStep_22 : decode cX11_readStep 22 = .ok (.if_icmp .ne 31, 3) := by decide +kernel
theorem dX11_readStep_25 : decode cX11_readStep 25 = .ok (.aload_n 0, 1) := by decide +kernel
theorem dX11_readStep_26 : decode cX11_readStep 26 = .ok (.invokevirtual 215, 3) := by decide +kernel
theorem dX11_readStep_29 : decode cX11_readStep 29 = .ok (.aload_n 0, 1) := by decide +kernel
theorem dX11_readStep_30 : decode cX11_readStep 30 = .ok (.iload_n 1, 1) := by decide +kernel
theorem dX11_readStep_31 : decode cX11_readStep 31 = .ok (.ldc_w 290, 3) := by decide +kernel
theorem dX11_readStep_34 : decode cX11_readStep 34 = .ok (.invokestatic 185, 3) := by decide +kernel
theorem dX11_readStep_37 : decode cX11_readStep 37 = .ok (.if_icmp .ne 7, 3) := by decide +kernel
theorem dX11_readStep_40 : decode cX11_readStep 40 = .ok (.iconst 3, 1) := by decide +kernel
theorem dX11_readStep_41 : decode cX11_readStep 41 = .ok (.goto 4, 3) := by decide +kernel
theorem dX11_readStep_44 : decode cX11_readStep 44 = .ok (.iconst 5, 1) := by decide +kernel
theorem dX11_readStep_45 : decode cX11_readStep 45 = .ok (.iconst 0, 1) := by decide +kernel
theorem dX11_readStep_46 : decode cX11_readStep 46 = .ok (.iconst 0, 1) := by decide +kernel
theorem dX11_readStep_47 : decode cX11_readStep 47 = .ok (.invokevirtual 286, 3) := by decide +kernel
theorem dX11_readStep_50 : decode cX11_readStep 50 = .ok (.goto 226, 3) := by decide +kernel
theorem dX11_readStep_53 : decode cX11_readStep 53 = .ok (.iload_n 1, 1) := by decide +kernel
theorem dX11_readStep_54 : decode cX11_readStep 54 = .ok (.ldc_w 292, 3) := by decide +kernel
theorem dX11_readStep_57 : decode cX11_readStep 57 = .ok (.invokestatic 185, 3) := by decide +kernel
theorem dX11_readStep_60 : decode cX11_readStep 60 = .ok (.if_icmp .eq 13, 3) := by decide +kernel
theorem dX11_readStep_63 : decode cX11_readStep 63 = .ok (.iload_n 1, 1) := by decide +kernel
theorem dX11_readStep_64 : decode cX11_readStep 64 = .ok (.ldc_w 294, 3) := by decide +kernel
theorem dX11_readStep_67 : decode cX11_readStep 67 = .ok (.invokestatic 185, 3) := by decide +kernel
theorem dX11_readStep_70 : decode cX11_readStep 70 = .ok (.if_icmp .ne 34, 3) := by decide +kernel
theorem dX11_readStep_73 : decode cX11_readStep 73 = .ok (.aload_n 0, 1) := by decide +kernel
theorem dX11_readStep_74 : decode cX11_readStep 74 = .ok (.invokevirtual 215, 3) := by decide +kernel
theorem dX11_readStep_77 : decode cX11_readStep 77 = .ok (.aload_n 0, 1) := by decide +kernel
theorem dX11_readStep_78 : decode cX11_readStep 78 = .ok (.iload_n 1, 1) := by decide +kernel
theorem dX11_readStep_79 : decode cX11_readStep 79 = .ok (.ldc_w 292, 3) := by decide +kernel
theorem dX11_readStep_82 : decode cX11_readStep 82 = .ok (.invokestatic 185, 3) := by decide +kernel
theorem dX11_readStep_85 : decode cX11_readStep 85 = .ok (.if_icmp .ne 7, 3) := by decide +kernel
theorem dX11_readStep_88 : decode cX11_readStep 88 = .ok (.iconst 1, 1) := by decide +kernel
theorem dX11_readStep_89 : decode cX11_readStep 89 = .ok (.goto 4, 3) := by decide +kernel
theorem dX11_readStep_92 : decode cX11_readStep 92 = .ok (.iconst 2, 1) := by decide +kernel
theorem dX11_readStep_93 : decode cX11_readStep 93 = .ok (.aload_n 0, 1) := by decide +kernel
theorem dX11_readStep_94 : decode cX11_readStep 94 = .ok (.invokevirtual 283, 3) := by decide +kernel
theorem dX11_readStep_97 : decode cX11_readStep 97 = .ok (.iconst 0, 1) := by decide +kernel
theorem dX11_readStep_98 : decode cX11_readStep 98 = .ok (.invokevirtual 286, 3) := by decide +kernel
theorem dX11_readStep_101 : decode cX11_readStep 101 = .ok (.goto 175, 3) := by decide +kernel
theorem dX11_readStep_104 : decode cX11_readStep 104 = .ok (.iload_n 1, 1) := by decide +kernel
theorem dX11_readStep_105 : decode cX11_readStep 105 = .ok (.ldc_w 296, 3) := by decide +kernel
theorem dX11_readStep_108 : decode cX11_readStep 108 = .ok (.invokestatic 185, 3) := by decide +kernel
theorem dX11_readStep_111 : decode cX11_readStep 111 = .ok (.if_icmp .ne 32, 3) := by decide +kernel
theorem dX11_readStep_114 : decode cX11_readStep 114 = .ok (.aload_n 0, 1) := by decide +kernel
theorem dX11_readStep_115 : decode cX11_readStep 115 = .ok (.invokevirtual 215, 3) := by decide +kernel
theorem dX11_readStep_118 : decode cX11_readStep 118 = .ok (.aload_n 0, 1) := by decide +kernel
theorem dX11_readStep_119 : decode cX11_readStep 119 = .ok (.invokevirtual 283, 3) := by decide +kernel
theorem dX11_readStep_122 : decode cX11_readStep 122 = .ok (.istore_n 2, 1) := by decide +kernel
theorem dX11_readStep_123 : decode cX11_readStep 123 = .ok (.aload_n 0, 1) := by decide +kernel
theorem dX11_readStep_124 : decode cX11_readStep 124 = .ok (.iconst 0, 1) := by decide +kernel
theorem dX11_readStep_125 : decode cX11_readStep 125 = .ok (.iload_n 2, 1) := by decide +kernel
theorem dX11_readStep_126 : decode cX11_readStep 126 = .ok (.aload_n 0, 1) := by decide +kernel
theorem dX11_readStep_127 : decode cX11_readStep 127 = .ok (.iconst 0, 1) := by decide +kernel
theorem dX11_readStep_128 : decode cX11_readStep 128 = .ok (.aload_n 0, 1) := by decide +kernel
theorem dX11_readStep_129 : decode cX11_readStep 129 = .ok (.getfield 156, 3) := by decide +kernel
theorem dX11_readStep_132 : decode cX11_readStep 132 = .ok (.iconst 1, 1) := by decide +kernel
theorem dX11_readStep_133 : decode cX11_readStep 133 = .ok (.isub, 1) := by decide +kernel
theorem dX11_readStep_134 : decode cX11_readStep 134 = .ok (.invokevirtual 194, 3) := by decide +kernel
theorem dX11_readStep_137 : decode cX11_readStep 137 = .ok (.invokevirtual 286, 3) := by decide +kernel
theorem dX11_readStep_140 : decode cX11_readStep 140 = .ok (.goto 136, 3) := by decide +kernel
theorem dX11_readStep_143 : decode cX11_readStep 143 = .ok (.iload_n 1, 1) := by decide +kernel
theorem dX11_readStep_144 : decode cX11_readStep 144 = .ok (.ldc_w 298, 3) := by decide +kernel
theorem dX11_readStep_147 : decode cX11_readStep 147 = .ok (.invokestatic 185, 3) := by decide +kernel
theorem dX11_readStep_150 : decode cX11_readStep 150 = .ok (.if_icmp .ne 14, 3) := by decide +kernel
theorem dX11_readStep_153 : decode cX11_readStep 153 = .ok (.aload_n 0, 1) := by decide +kernel
theorem dX11_readStep_154 : decode cX11_readStep 154 = .ok (.invokevirtual 215, 3) := by decide +kernel
theorem dX11_readStep_157 : decode cX11_readStep 157 = .ok (.aload_n 0, 1) := by decide +kernel
theorem dX11_readStep_158 : decode cX11_readStep 158 = .ok (.invokevirtual 300, 3) := by decide +kernel
theorem dX11_readStep_161 : decode cX11_readStep 161 = .ok (.goto 115, 3) := by decide +kernel
theorem dX11_readStep_164 : decode cX11_readStep 164 = .ok (.iload_n 1, 1) := by decide +kernel
theorem dX11_readStep_165 : decode cX11_readStep 165 = .ok (.ldc_w 303, 3) := by decide +kernel
theorem dX11_readStep_168 : decode cX11_readStep 168 = .ok (.invokestatic 185, 3) := by decide +kernel
theorem dX11_readStep_171 : decode cX11_readStep 171 = .ok (.if_icmp .ne 96, 3) := by decide +kernel
theorem dX11_readStep_174 : decode cX11_readStep 174 = .ok (.aload_n 0, 1) := by decide +kernel
theorem dX11_readStep_175 : decode cX11_readStep 175 = .ok (.iconst 5, 1) := by decide +kernel
theorem dX11_readStep_176 : decode cX11_readStep 176 = .ok (.invokevirtual 240, 3) := by decide +kernel
theorem dX11_readStep_179 : decode cX11_readStep 179 = .ok (.aload_n 0, 1) := by decide +kernel
theorem dX11_readStep_180 : decode cX11_readStep 180 = .ok (.iconst 0, 1) := by decide +kernel
theorem dX11_readStep_181 : decode cX11_readStep 181 = .ok (.bipush 60, 2) := by decide +kernel
theorem dX11_readStep_183 : decode cX11_readStep 183 = .ok (.invokevirtual 194, 3) := by decide +kernel
theorem dX11_readStep_186 : decode cX11_readStep 186 = .ok (.istore_n 2, 1) := by decide +kernel
theorem dX11_readStep_187 : decode cX11_readStep 187 = .ok (.aload_n 0, 1) := by decide +kernel
theorem dX11_readStep_188 : decode cX11_readStep 188 = .ok (.bipush 91, 2) := by decide +kernel
theorem dX11_readStep_190 : decode cX11_readStep 190 = .ok (.invokevirtual 221, 3) := by decide +kernel
theorem dX11_readStep_193 : decode cX11_readStep 193 = .ok (.aload_n 0, 1) := by decide +kernel
theorem dX11_readStep_194 : decode cX11_readStep 194 = .ok (.getfield 280, 3) := by decide +kernel
theorem dX11_readStep_197 : decode cX11_readStep 197 = .ok (.istore_n 3, 1) := by decide +kernel
theorem dX11_readStep_198 : decode cX11_readStep 198 = .ok (.aload_n 0, 1) := by decide +kernel
theorem dX11_readStep_199 : decode cX11_readStep 199 = .ok (.bipush 6, 2) := by decide +kernel
theorem dX11_readStep_201 : decode cX11_readStep 201 = .ok (.iload_n 2, 1) := by decide +kernel
theorem dX11_readStep_202 : decode cX11_readStep 202 = .ok (.iconst 0, 1) := by decide +kernel
theorem dX11_readStep_203 : decode cX11_readStep 203 = .ok (.invokevirtual 286, 3) := by decide +kernel
theorem dX11_readStep_206 : decode cX11_readStep 206 = .ok (.aload_n 0, 1) := by decide +kernel
theorem dX11_readStep_207 : decode cX11_readStep 207 = .ok (.invokevirtual 133, 3) := by decide +kernel
theorem dX11_readStep_210 : decode cX11_readStep 210 = .ok (.ifCond .eq 19, 3) := by decide +kernel
theorem dX11_readStep_213 : decode cX11_readStep 213 = .ok (.aload_n 0, 1) := by decide +kernel
theorem dX11_readStep_214 : decode cX11_readStep 214 = .ok (.invokevirtual 116, 3) := by decide +kernel
theorem dX11_readStep_217 : decode cX11_readStep 217 = .ok (.bipush 93, 2) := by decide +kernel
theorem dX11_readStep_219 : decode cX11_readStep 219 = .ok (.if_icmp .eq 10, 3) := by decide +kernel
theorem dX11_readStep_222 : decode cX11_readStep 222 = .ok (.aload_n 0, 1) := by decide +kernel
theorem dX11_readStep_223 : decode cX11_readStep 223 = .ok (.invokevirtual 305, 3) := by decide +kernel
theorem dX11_readStep_226 : decode cX11_readStep 226 = .ok (.goto (-20), 3) := by decide +kernel
theorem dX11_readStep_229 : decode cX11_readStep 229 = .ok (.aload_n 0, 1) := by decide +kernel
theorem dX11_readStep_230 : decode cX11_readStep 230 = .ok (.bipush 93, 2) := by decide +kernel
theorem dX11_readStep_232 : decode cX11_readStep 232 = .ok (.invokevirtual 221, 3) := by decide +kernel
theorem dX11_readStep_235 : decode cX11_readStep 235 = .ok (.aload_n 0, 1) := by decide +kernel
theorem dX11_readStep_236 : decode cX11_readStep 236 = .ok (.dup, 1) := by decide +kernel
theorem dX11_readStep_237 : decode cX11_readStep 237 = .ok (.getfield 144, 3) := by decide +kernel
theorem dX11_readStep_240 : decode cX11_readStep 240 = .ok (.iconst 1, 1) := by decide +kernel
theorem dX11_readStep_241 : decode cX11_readStep 241 = .ok (.isub, 1) := by decide +kernel
theorem dX11_readStep_242 : decode cX11_readStep 242 = .ok (.putfield 144, 3) := by decide +kernel
theorem dX11_readStep_245 : decode cX11_readStep 245 = .ok (.aload_n 0, 1) := by decide +kernel
theorem dX11_readStep_246 : decode cX11_readStep 246 = .ok (.invokevirtual 133, 3) := by decide +kernel
theorem dX11_readStep_249 : decode cX11_readStep 249 = .ok (.ifCond .eq 15, 3) := by decide +kernel
theorem dX11_readStep_252 : decode cX11_readStep 252 = .ok (.aload_n 0, 1) := by decide +kernel
theorem dX11_readStep_253 : decode cX11_readStep 253 = .ok (.getfield 59, 3) := by decide +kernel
theorem dX11_readStep_256 : decode cX11_readStep 256 = .ok (.iload_n 3, 1) := by decide +kernel
theorem dX11_readStep_257 : decode cX11_readStep 257 = .ok (.iconst 2, 1) := by decide +kernel
theorem dX11_readStep_258 : decode cX11_readStep 258 = .ok (.iadd, 1) := by decide +kernel
theorem dX11_readStep_259 : decode cX11_readStep 259 = .ok (.aload_n 0, 1) := by decide +kernel
theorem dX11_readStep_260 : decode cX11_readStep 260 = .ok (.getfield 280, 3) := by decide +kernel
theorem dX11_readStep_263 : decode cX11_readStep 263 = .ok (.iastore, 1) := by decide +kernel
theorem dX11_readStep_264 : decode cX11_readStep 264 = .ok (.goto 12, 3) := by decide +kernel
theorem dX11_readStep_267 : decode cX11_readStep 267 = .ok (.aload_n 0, 1) := by decide +kernel
theorem dX11_readStep_268 : decode cX11_readStep 268 = .ok (.iconst 1, 1) := by decide +kernel
theorem dX11_readStep_269 : decode cX11_readStep 269 = .ok (.aload_n 0, 1) := by decide +kernel
theorem dX11_readStep_270 : decode cX11_readStep 270 = .ok (.getfield 110, 3) := by decide +kernel
theorem dX11_readStep_273 : decode cX11_readStep 273 = .ok (.invokevirtual 140, 3) := by decide +kernel
theorem dX11_readStep_276 : decode cX11_readStep 276 = .ok (.aload_n 0, 1) := by decide +kernel
theorem dX11_readStep_277 : decode cX11_readStep 277 = .ok (.bipush 59, 2) := by decide +kernel
theorem dX11_readStep_279 : decode cX11_readStep 279 = .ok (.invokevirtual 221, 3) := by decide +kernel
theorem dX11_readStep_282 : decode cX11_readStep 282 = .ok (.return_, 1) := by decide +kernel
theorem dX11_work_0 : decode cX11_work 0 = .ok (.aload_n 0, 1) := by decide +kernel
theorem dX11_work_1 : decode cX11_work 1 = .ok (.iconst 0, 1) := by decide +kernel
theorem dX11_work_2 : decode cX11_work 2 = .ok (.putfield 3, 3) := by decide +kernel
theorem dX11_work_5 : decode cX11_work 5 = .ok (.aload_n 0, 1) := by decide +kernel
theorem dX11_work_6 : decode cX11_work 6 = .ok (.iload_n 1, 1) := by decide +kernel
theorem dX11_work_7 : decode cX11_work 7 = .ok (.ifCond .lt 22, 3) := by decide +kernel
theorem dX11_work_10 : decode cX11_work 10 = .ok (.iload_n 1, 1) := by decide +kernel
theorem dX11_work_11 : decode cX11_work 11 = .ok (.aload_n 0, 1) := by decide +kernel
theorem dX11_work_12 : decode cX11_work 12 = .ok (.getfield 101, 3) := by decide +kernel
theorem dX11_work_15 : decode cX11_work 15 = .ok (.if_icmp .gt 14, 3) := by decide +kernel
theorem dX11_work_18 : decode cX11_work 18 = .ok (.iload_n 1, 1) := by decide +kernel
theorem dX11_work_19 : decode cX11_work 19 = .ok (.sipush 150, 3) := by decide +kernel
theorem dX11_work_22 : decode cX11_work 22 = .ok (.if_icmp .gt 7, 3) := by decide +kernel
theorem dX11_work_25 : decode cX11_work 25 = .ok (.iconst 1, 1) := by decide +kernel
theorem dX11_work_26 : decode cX11_work 26 = .ok (.goto 4, 3) := by decide +kernel
theorem dX11_work_29 : decode cX11_work 29 = .ok (.iconst 0, 1) := by decide +kernel
theorem dX11_work_30 : decode cX11_work 30 = .ok (.iconst 1, 1) := by decide +kernel
theorem dX11_work_31 : decode cX11_work 31 = .ok (.iconst 1, 1) := by decide +kernel
theorem dX11_work_32 : decode cX11_work 32 = .ok (.invokevirtual 198, 3) := by decide +kernel
theorem dX11_work_35 : decode cX11_work 35 = .ok (.ifCond .ne 5, 3) := by decide +kernel
theorem dX11_work_38 : decode cX11_work 38 = .ok (.iconst 0, 1) := by decide +kernel
theorem dX11_work_39 : decode cX11_work 39 = .ok (.ireturn, 1) := by decide +kernel
theorem dX11_work_40 : decode cX11_work 40 = .ok (.aload_n 0, 1) := by decide +kernel
theorem dX11_work_41 : decode cX11_work 41 = .ok (.iload_n 1, 1) := by decide +kernel
theorem dX11_work_42 : decode cX11_work 42 = .ok (.invokevirtual 202, 3) := by decide +kernel
theorem dX11_work_45 : decode cX11_work 45 = .ok (.aload_n 0, 1) := by decide +kernel
theorem dX11_work_46 : decode cX11_work 46 = .ok (.getfield 175, 3) := by decide +kernel
theorem dX11_work_49 : decode cX11_work 49 = .ok (.bipush 16, 2) := by decide +kernel
theorem dX11_work_51 : decode cX11_work 51 = .ok (.if_icmp .ne 12, 3) := by decide +kernel
theorem dX11_work_54 : decode cX11_work 54 = .ok (.aload_n 0, 1) := by decide +kernel
theorem dX11_work_55 : decode cX11_work 55 = .ok (.iconst 0, 1) := by decide +kernel
theorem dX11_work_56 : decode cX11_work 56 = .ok (.invokevirtual 224, 3) := by decide +kernel
theorem dX11_work_59 : decode cX11_work 59 = .ok (.pop, 1) := by decide +kernel
theorem dX11_work_60 : decode cX11_work 60 = .ok (.bipush (-20), 2) := by decide +kernel
theorem dX11_work_62 : decode cX11_work 62 = .ok (.ireturn, 1) := by decide +kernel
theorem dX11_work_63 : decode cX11_work 63 = .ok (.aload_n 0, 1) := by decide +kernel
theorem dX11_work_64 : decode cX11_work 64 = .ok (.iconst 0, 1) := by decide +kernel
theorem dX11_work_65 : decode cX11_work 65 = .ok (.putfield 280, 3) := by decide +kernel
theorem dX11_work_68 : decode cX11_work 68 = .ok (.aload_n 0, 1) := by decide +kernel
theorem dX11_work_69 : decode cX11_work 69 = .ok (.invokevirtual 133, 3) := by decide +kernel
theorem dX11_work_72 : decode cX11_work 72 = .ok (.ifCond .eq 17, 3) := by decide +kernel
theorem dX11_work_75 : decode cX11_work 75 = .ok (.aload_n 0, 1) := by decide +kernel
theorem dX11_work_76 : decode cX11_work 76 = .ok (.invokevirtual 206, 3) := by decide +kernel
theorem dX11_work_79 : decode cX11_work 79 = .ok (.ifCond .eq 10, 3) := by decide +kernel
theorem dX11_work_82 : decode cX11_work 82 = .ok (.aload_n 0, 1) := by decide +kernel
theorem dX11_work_83 : decode cX11_work 83 = .ok (.invokevirtual 305, 3) := by decide +kernel
theorem dX11_work_86 : decode cX11_work 86 = .ok (.goto (-18), 3) := by decide +kernel
theorem dX11_work_89 : decode cX11_work 89 = .ok (.aload_n 0, 1) := by decide +kernel
theorem dX11_work_90 : decode cX11_work 90 = .ok (.iconst 0, 1) := by decide +kernel
theorem dX11_work_91 : decode cX11_work 91 = .ok (.invokevirtual 224, 3) := by decide +kernel
theorem dX11_work_94 : decode cX11_work 94 = .ok (.istore_n 2, 1) := by decide +kernel
theorem dX11_work_95 : decode cX11_work 95 = .ok (.aload_n 0, 1) := by decide +kernel
theorem dX11_work_96 : decode cX11_work 96 = .ok (.getfield 104, 3) := by decide +kernel
theorem dX11_work_99 : decode cX11_work 99 = .ok (.iconst (-1), 1) := by decide +kernel
theorem dX11_work_100 : decode cX11_work 100 = .ok (.if_icmp .eq 5, 3) := by decide +kernel
theorem dX11_work_103 : decode cX11_work 103 = .ok (.iload_n 2, 1) := by decide +kernel
theorem dX11_work_104 : decode cX11_work 104 = .ok (.ireturn, 1) := by decide +kernel
theorem dX11_work_105 : decode cX11_work 105 = .ok (.aload_n 0, 1) := by decide +kernel
theorem dX11_work_106 : decode cX11_work 106 = .ok (.aload_n 0, 1) := by decide +kernel
theorem dX11_work_107 : decode cX11_work 107 = .ok (.getfield 59, 3) := by decide +kernel
theorem dX11_work_110 : decode cX11_work 110 = .ok (.aload_n 0, 1) := by decide +kernel
theorem dX11_work_111 : decode cX11_work 111 = .ok (.getfield 62, 3) := by decide +kernel
theorem dX11_work_114 : decode cX11_work 114 = .ok (.aload_n 0, 1) := by decide +kernel
theorem dX11_work_115 : decode cX11_work 115 = .ok (.getfield 280, 3) := by decide +kernel
theorem dX11_work_118 : decode cX11_work 118 = .ok (.invokevirtual 165, 3) := by decide +kernel
theorem dX11_work_121 : decode cX11_work 121 = .ok (.iconst 0, 1) := by decide +kernel
theorem dX11_work_122 : decode cX11_work 122 = .ok (.istore_n 3, 1) := by decide +kernel
theorem dX11_work_123 : decode cX11_work 123 = .ok (.iload_n 3, 1) := by decide +kernel
theorem dX11_work_124 : decode cX11_work 124 = .ok (.bipush 60, 2) := by decide +kernel
theorem dX11_work_126 : decode cX11_work 126 = .ok (.if_icmp .ge 29, 3) := by decide +kernel
theorem dX11_work_129 : decode cX11_work 129 = .ok (.aload_n 0, 1) := by decide +kernel
theorem dX11_work_130 : decode cX11_work 130 = .ok (.getfield 71, 3) := by decide +kernel
theorem dX11_work_133 : decode cX11_work 133 = .ok (.bipush 60, 2) := by decide +kernel
theorem dX11_work_135 : decode cX11_work 135 = .ok (.aload_n 0, 1) := by decide +kernel
theorem dX11_work_136 : decode cX11_work 136 = .ok (.getfield 175, 3) := by decide +kernel
theorem dX11_work_139 : decode cX11_work 139 = .ok (.imul, 1) := by decide +kernel
theorem dX11_work_140 : decode cX11_work 140 = .ok (.iload_n 3, 1) := by decide +kernel
theorem dX11_work_141 : decode cX11_work 141 = .ok (.iadd, 1) := by decide +kernel
theorem dX11_work_142 : decode cX11_work 142 = .ok (.aload_n 0, 1) := by decide +kernel
theorem dX11_work_143 : decode cX11_work 143 = .ok (.getfield 65, 3) := by decide +kernel
theorem dX11_work_146 : decode cX11_work 146 = .ok (.iload_n 3, 1) := by decide +kernel
theorem dX11_work_147 : decode cX11_work 147 = .ok (.iaload, 1) := by decide +kernel
theorem dX11_work_148 : decode cX11_work 148 = .ok (.iastore, 1) := by decide +kernel
theorem dX11_work_149 : decode cX11_work 149 = .ok (.iinc 3 1, 3) := by decide +kernel
theorem dX11_work_152 : decode cX11_work 152 = .ok (.goto (-29), 3) := by decide +kernel
theorem dX11_work_155 : decode cX11_work 155 = .ok (.aload_n 0, 1) := by decide +kernel
theorem dX11_work_156 : decode cX11_work 156 = .ok (.dup, 1) := by decide +kernel
theorem dX11_work_157 : decode cX11_work 157 = .ok (.getfield 175, 3) := by decide +kernel
theorem dX11_work_160 : decode cX11_work 160 = .ok (.iconst 1, 1) := by decide +kernel
theorem dX11_work_161 : decode cX11_work 161 = .ok (.iadd, 1) := by decide +kernel
theorem dX11_work_162 : decode cX11_work 162 = .ok (.putfield 175, 3) := by decide +kernel
theorem dX11_work_165 : decode cX11_work 165 = .ok (.aload_n 0, 1) := by decide +kernel
theorem dX11_work_166 : decode cX11_work 166 = .ok (.invokevirtual 308, 3) := by decide +kernel
theorem dX11_work_169 : decode cX11_work 169 = .ok (.aload_n 0, 1) := by decide +kernel
theorem dX11_work_170 : decode cX11_work 170 = .ok (.iconst 0, 1) := by decide +kernel
theorem dX11_work_171 : decode cX11_work 171 = .ok (.putfield 311, 3) := by decide +kernel
theorem dX11_work_174 : decode cX11_work 174 = .ok (.aload_n 0, 1) := by decide +kernel
theorem dX11_work_175 : decode cX11_work 175 = .ok (.iconst 0, 1) := by decide +kernel
theorem dX11_work_176 : decode cX11_work 176 = .ok (.putfield 314, 3) := by decide +kernel
theorem dX11_work_179 : decode cX11_work 179 = .ok (.aload_n 0, 1) := by decide +kernel
theorem dX11_work_180 : decode cX11_work 180 = .ok (.iconst 0, 1) := by decide +kernel
theorem dX11_work_181 : decode cX11_work 181 = .ok (.putfield 317, 3) := by decide +kernel
theorem dX11_work_184 : decode cX11_work 184 = .ok (.aload_n 0, 1) := by decide +kernel
theorem dX11_work_185 : decode cX11_work 185 = .ok (.iconst 0, 1) := by decide +kernel
theorem dX11_work_186 : decode cX11_work 186 = .ok (.aload_n 0, 1) := by decide +kernel
theorem dX11_work_187 : decode cX11_work 187 = .ok (.getfield 280, 3) := by decide +kernel
theorem dX11_work_190 : decode cX11_work 190 = .ok (.invokevirtual 320, 3) := by decide +kernel
theorem dX11_work_193 : decode cX11_work 193 = .ok (.aload_n 0, 1) := by decide +kernel
theorem dX11_work_194 : decode cX11_work 194 = .ok (.aload_n 0, 1) := by decide +kernel
theorem dX11_work_195 : decode cX11_work 195 = .ok (.getfield 68, 3) := by decide +kernel
theorem dX11_work_198 : decode cX11_work 198 = .ok (.aload_n 0, 1) := by decide +kernel
theorem dX11_work_199 : decode cX11_work 199 = .ok (.getfield 65, 3) := by decide +kernel
theorem dX11_work_202 : decode cX11_work 202 = .ok (.bipush 60, 2) := by decide +kernel
theorem dX11_work_204 : decode cX11_work 204 = .ok (.invokevirtual 165, 3) := by decide +kernel
theorem dX11_work_207 : decode cX11_work 207 = .ok (.aload_n 0, 1) := by decide +kernel
theorem dX11_work_208 : decode cX11_work 208 = .ok (.aload_n 0, 1) := by decide +kernel
theorem dX11_work_209 : decode cX11_work 209 = .ok (.getfield 317, 3) := by decide +kernel
theorem dX11_work_212 : decode cX11_work 212 = .ok (.putfield 181, 3) := by decide +kernel
theorem dX11_work_215 : decode cX11_work 215 = .ok (.aload_n 0, 1) := by decide +kernel
theorem dX11_work_216 : decode cX11_work 216 = .ok (.getfield 314, 3) := by decide +kernel
theorem dX11_work_219 : decode cX11_work 219 = .ok (.ireturn, 1) := by decide +kernel
theorem dX11_goesSteps_0 : decode cX11_goesSteps 0 = .ok (.iload_n 1, 1) := by decide +kernel
theorem dX11_goesSteps_1 : decode cX11_goesSteps 1 = .ok (.istore_n 3, 1) := by decide +kernel
theorem dX11_goesSteps_2 : decode cX11_goesSteps 2 = .ok (.iload_n 3, 1) := by decide +kernel
theorem dX11_goesSteps_3 : decode cX11_goesSteps 3 = .ok (.iload_n 2, 1) := by decide +kernel
theorem dX11_goesSteps_4 : decode cX11_goesSteps 4 = .ok (.if_icmp .ge 149, 3) := by decide +kernel
theorem dX11_goesSteps_7 : decode cX11_goesSteps 7 = .ok (.aload_n 0, 1) := by decide +kernel
theorem dX11_goesSteps_8 : decode cX11_goesSteps 8 = .ok (.getfield 311, 3) := by decide +kernel
theorem dX11_goesSteps_11 : decode cX11_goesSteps 11 = .ok (.sipush 200, 3) := by decide +kernel
theorem dX11_goesSteps_14 : decode cX11_goesSteps 14 = .ok (.if_icmp .ge 139, 3) := by decide +kernel
theorem dX11_goesSteps_17 : decode cX11_goesSteps 17 = .ok (.aload_n 0, 1) := by decide +kernel
theorem dX11_goesSteps_18 : decode cX11_goesSteps 18 = .ok (.dup, 1) := by decide +kernel
theorem dX11_goesSteps_19 : decode cX11_goesSteps 19 = .ok (.getfield 311, 3) := by decide +kernel
theorem dX11_goesSteps_22 : decode cX11_goesSteps 22 = .ok (.iconst 1, 1) := by decide +kernel
theorem dX11_goesSteps_23 : decode cX11_goesSteps 23 = .ok (.iadd, 1) := by decide +kernel
theorem dX11_goesSteps_24 : decode cX11_goesSteps 24 = .ok (.putfield 311, 3) := by decide +kernel
theorem dX11_goesSteps_27 : decode cX11_goesSteps 27 = .ok (.aload_n 0, 1) := by decide +kernel
theorem dX11_goesSteps_28 : decode cX11_goesSteps 28 = .ok (.getfield 62, 3) := by decide +kernel
theorem dX11_goesSteps_31 : decode cX11_goesSteps 31 = .ok (.iload_n 3, 1) := by decide +kernel
theorem dX11_goesSteps_32 : decode cX11_goesSteps 32 = .ok (.iaload, 1) := by decide +kernel
theorem dX11_goesSteps_33 : decode cX11_goesSteps 33 = .ok (.bipush 6, 2) := by decide +kernel
theorem dX11_goesSteps_35 : decode cX11_goesSteps 35 = .ok (.if_icmp .ne 60, 3) := by decide +kernel
theorem dX11_goesSteps_38 : decode cX11_goesSteps 38 = .ok (.aload_n 0, 1) := by decide +kernel
theorem dX11_goesSteps_39 : decode cX11_goesSteps 39 = .ok (.getfield 62, 3) := by decide +kernel
theorem dX11_goesSteps_42 : decode cX11_goesSteps 42 = .ok (.iload_n 3, 1) := by decide +kernel
theorem dX11_goesSteps_43 : decode cX11_goesSteps 43 = .ok (.iconst 2, 1) := by decide +kernel
theorem dX11_goesSteps_44 : decode cX11_goesSteps 44 = .ok (.iadd, 1) := by decide +kernel
theorem dX11_goesSteps_45 : decode cX11_goesSteps 45 = .ok (.iaload, 1) := by decide +kernel
theorem dX11_goesSteps_46 : decode cX11_goesSteps 46 = .ok (.istore 4, 2) := by decide +kernel
theorem dX11_goesSteps_48 : decode cX11_goesSteps 48 = .ok (.iconst 0, 1) := by decide +kernel
theorem dX11_goesSteps_49 : decode cX11_goesSteps 49 = .ok (.istore 5, 2) := by decide +kernel
theorem dX11_goesSteps_51 : decode cX11_goesSteps 51 = .ok (.iload 5, 2) := by decide +kernel
theorem dX11_goesSteps_53 : decode cX11_goesSteps 53 = .ok (.aload_n 0, 1) := by decide +kernel
theorem dX11_goesSteps_54 : decode cX11_goesSteps 54 = .ok (.getfield 62, 3) := by decide +kernel
theorem dX11_goesSteps_57 : decode cX11_goesSteps 57 = .ok (.iload_n 3, 1) := by decide +kernel
theorem dX11_goesSteps_58 : decode cX11_goesSteps 58 = .ok (.iconst 1, 1) := by decide +kernel
theorem dX11_goesSteps_59 : decode cX11_goesSteps 59 = .ok (.iadd, 1) := by decide +kernel
theorem dX11_goesSteps_60 : decode cX11_goesSteps 60 = .ok (.iaload, 1) := by decide +kernel
theorem dX11_goesSteps_61 : decode cX11_goesSteps 61 = .ok (.if_icmp .ge 28, 3) := by decide +kernel
theorem dX11_goesSteps_64 : decode cX11_goesSteps 64 = .ok (.aload_n 0, 1) := by decide +kernel
theorem dX11_goesSteps_65 : decode cX11_goesSteps 65 = .ok (.getfield 311, 3) := by decide +kernel
theorem dX11_goesSteps_68 : decode cX11_goesSteps 68 = .ok (.sipush 200, 3) := by decide +kernel
theorem dX11_goesSteps_71 : decode cX11_goesSteps 71 = .ok (.if_icmp .ge 18, 3) := by decide +kernel
theorem dX11_goesSteps_74 : decode cX11_goesSteps 74 = .ok (.aload_n 0, 1) := by decide +kernel
theorem dX11_goesSteps_75 : decode cX11_goesSteps 75 = .ok (.iload_n 3, 1) := by decide +kernel
theorem dX11_goesSteps_76 : decode cX11_goesSteps 76 = .ok (.iconst 3, 1) := by decide +kernel
theorem dX11_goesSteps_77 : decode cX11_goesSteps 77 = .ok (.iadd, 1) := by decide +kernel
theorem dX11_goesSteps_78 : decode cX11_goesSteps 78 = .ok (.iload 4, 2) := by decide +kernel
theorem dX11_goesSteps_80 : decode cX11_goesSteps 80 = .ok (.invokevirtual 320, 3) := by decide +kernel
theorem dX11_goesSteps_83 : decode cX11_goesSteps 83 = .ok (.iinc 5 1, 3) := by decide +kernel
theorem dX11_goesSteps_86 : decode cX11_goesSteps 86 = .ok (.goto (-35), 3) := by decide +kernel
theorem dX11_goesSteps_89 : decode cX11_goesSteps 89 = .ok (.iload 4, 2) := by decide +kernel
theorem dX11_goesSteps_91 : decode cX11_goesSteps 91 = .ok (.istore_n 3, 1) := by decide +kernel
theorem dX11_goesSteps_92 : decode cX11_goesSteps 92 = .ok (.goto (-90), 3) := by decide +kernel
theorem dX11_goesSteps_95 : decode cX11_goesSteps 95 = .ok (.aload_n 0, 1) := by decide +kernel
theorem dX11_goesSteps_96 : decode cX11_goesSteps 96 = .ok (.aload_n 0, 1) := by decide +kernel
theorem dX11_goesSteps_97 : decode cX11_goesSteps 97 = .ok (.getfield 62, 3) := by decide +kernel
theorem dX11_goesSteps_100 : decode cX11_goesSteps 100 = .ok (.iload_n 3, 1) := by decide +kernel
theorem dX11_goesSteps_101 : decode cX11_goesSteps 101 = .ok (.iaload, 1) := by decide +kernel
theorem dX11_goesSteps_102 : decode cX11_goesSteps 102 = .ok (.aload_n 0, 1) := by decide +kernel
theorem dX11_goesSteps_103 : decode cX11_goesSteps 103 = .ok (.getfield 62, 3) := by decide +kernel
theorem dX11_goesSteps_106 : decode cX11_goesSteps 106 = .ok (.iload_n 3, 1) := by decide +kernel
theorem dX11_goesSteps_107 : decode cX11_goesSteps 107 = .ok (.iconst 1, 1) := by decide +kernel
theorem dX11_goesSteps_108 : decode cX11_goesSteps 108 = .ok (.iadd, 1) := by decide +kernel
theorem dX11_goesSteps_109 : decode cX11_goesSteps 109 = .ok (.iaload, 1) := by decide +kernel
theorem dX11_goesSteps_110 : decode cX11_goesSteps 110 = .ok (.aload_n 0, 1) := by decide +kernel
theorem dX11_goesSteps_111 : decode cX11_goesSteps 111 = .ok (.getfield 62, 3) := by decide +kernel
theorem dX11_goesSteps_114 : decode cX11_goesSteps 114 = .ok (.iload_n 3, 1) := by decide +kernel
theorem dX11_goesSteps_115 : decode cX11_goesSteps 115 = .ok (.iconst 2, 1) := by decide +kernel
theorem dX11_goesSteps_116 : decode cX11_goesSteps 116 = .ok (.iadd, 1) := by decide +kernel
theorem dX11_goesSteps_117 : decode cX11_goesSteps 117 = .ok (.iaload, 1) := by decide +kernel
theorem dX11_goesSteps_118 : decode cX11_goesSteps 118 = .ok (.invokevirtual 323, 3) := by decide +kernel
theorem dX11_goesSteps_121 : decode cX11_goesSteps 121 = .ok (.ifCond .eq 16, 3) := by decide +kernel
theorem dX11_goesSteps_124 : decode cX11_goesSteps 124 = .ok (.aload_n 0, 1) := by decide +kernel
theorem dX11_goesSteps_125 : decode cX11_goesSteps 125 = .ok (.dup, 1) := by decide +kernel
theorem dX11_goesSteps_126 : decode cX11_goesSteps 126 = .ok (.getfield 314, 3) := by decide +kernel
theorem dX11_goesSteps_129 : decode cX11_goesSteps 129 = .ok (.iconst 1, 1) := by decide +kernel
theorem dX11_goesSteps_130 : decode cX11_goesSteps 130 = .ok (.iadd, 1) := by decide +kernel
theorem dX11_goesSteps_131 : decode cX11_goesSteps 131 = .ok (.putfield 314, 3) := by decide +kernel
theorem dX11_goesSteps_134 : decode cX11_goesSteps 134 = .ok (.goto 13, 3) := by decide +kernel
theorem dX11_goesSteps_137 : decode cX11_goesSteps 137 = .ok (.aload_n 0, 1) := by decide +kernel
theorem dX11_goesSteps_138 : decode cX11_goesSteps 138 = .ok (.dup, 1) := by decide +kernel
theorem dX11_goesSteps_139 : decode cX11_goesSteps 139 = .ok (.getfield 317, 3) := by decide +kernel
theorem dX11_goesSteps_142 : decode cX11_goesSteps 142 = .ok (.iconst 1, 1) := by decide +kernel
theorem dX11_goesSteps_143 : decode cX11_goesSteps 143 = .ok (.iadd, 1) := by decide +kernel
theorem dX11_goesSteps_144 : decode cX11_goesSteps 144 = .ok (.putfield 317, 3) := by decide +kernel
theorem dX11_goesSteps_147 : decode cX11_goesSteps 147 = .ok (.iinc 3 3, 3) := by decide +kernel
theorem dX11_goesSteps_150 : decode cX11_goesSteps 150 = .ok (.goto (-148), 3) := by decide +kernel
theorem dX11_goesSteps_153 : decode cX11_goesSteps 153 = .ok (.return_, 1) := by decide +kernel
theorem dX11_take_0 : decode cX11_take 0 = .ok (.aload_n 0, 1) := by decide +kernel
theorem dX11_take_1 : decode cX11_take 1 = .ok (.aload_n 0, 1) := by decide +kernel
theorem dX11_take_2 : decode cX11_take 2 = .ok (.getfield 65, 3) := by decide +kernel
theorem dX11_take_5 : decode cX11_take 5 = .ok (.aload_n 0, 1) := by decide +kernel
theorem dX11_take_6 : decode cX11_take 6 = .ok (.getfield 68, 3) := by decide +kernel
theorem dX11_take_9 : decode cX11_take 9 = .ok (.bipush 60, 2) := by decide +kernel
theorem dX11_take_11 : decode cX11_take 11 = .ok (.invokevirtual 165, 3) := by decide +kernel
theorem dX11_take_14 : decode cX11_take 14 = .ok (.return_, 1) := by decide +kernel
theorem dX11_dyeOf_0 : decode cX11_dyeOf 0 = .ok (.iload_n 1, 1) := by decide +kernel
theorem dX11_dyeOf_1 : decode cX11_dyeOf 1 = .ok (.ifCond .ne 10, 3) := by decide +kernel
theorem dX11_dyeOf_4 : decode cX11_dyeOf 4 = .ok (.iload_n 0, 1) := by decide +kernel
theorem dX11_dyeOf_5 : decode cX11_dyeOf 5 = .ok (.bipush 100, 2) := by decide +kernel
theorem dX11_dyeOf_7 : decode cX11_dyeOf 7 = .ok (.idiv, 1) := by decide +kernel
theorem dX11_dyeOf_8 : decode cX11_dyeOf 8 = .ok (.goto 22, 3) := by decide +kernel
theorem dX11_dyeOf_11 : decode cX11_dyeOf 11 = .ok (.iload_n 1, 1) := by decide +kernel
theorem dX11_dyeOf_12 : decode cX11_dyeOf 12 = .ok (.iconst 1, 1) := by decide +kernel
theorem dX11_dyeOf_13 : decode cX11_dyeOf 13 = .ok (.if_icmp .ne 13, 3) := by decide +kernel
theorem dX11_dyeOf_16 : decode cX11_dyeOf 16 = .ok (.iload_n 0, 1) := by decide +kernel
theorem dX11_dyeOf_17 : decode cX11_dyeOf 17 = .ok (.bipush 10, 2) := by decide +kernel
theorem dX11_dyeOf_19 : decode cX11_dyeOf 19 = .ok (.idiv, 1) := by decide +kernel
theorem dX11_dyeOf_20 : decode cX11_dyeOf 20 = .ok (.bipush 10, 2) := by decide +kernel
theorem dX11_dyeOf_22 : decode cX11_dyeOf 22 = .ok (.irem, 1) := by decide +kernel
theorem dX11_dyeOf_23 : decode cX11_dyeOf 23 = .ok (.goto 7, 3) := by decide +kernel
theorem dX11_dyeOf_26 : decode cX11_dyeOf 26 = .ok (.iload_n 0, 1) := by decide +kernel
theorem dX11_dyeOf_27 : decode cX11_dyeOf 27 = .ok (.bipush 10, 2) := by decide +kernel
theorem dX11_dyeOf_29 : decode cX11_dyeOf 29 = .ok (.irem, 1) := by decide +kernel
theorem dX11_dyeOf_30 : decode cX11_dyeOf 30 = .ok (.ireturn, 1) := by decide +kernel
theorem dX11_shadeOf_0 : decode cX11_shadeOf 0 = .ok (.bipush 100, 2) := by decide +kernel
theorem dX11_shadeOf_2 : decode cX11_shadeOf 2 = .ok (.aload_n 0, 1) := by decide +kernel
theorem dX11_shadeOf_3 : decode cX11_shadeOf 3 = .ok (.getfield 68, 3) := by decide +kernel
theorem dX11_shadeOf_6 : decode cX11_shadeOf 6 = .ok (.iconst 0, 1) := by decide +kernel
theorem dX11_shadeOf_7 : decode cX11_shadeOf 7 = .ok (.iconst 3, 1) := by decide +kernel
theorem dX11_shadeOf_8 : decode cX11_shadeOf 8 = .ok (.iload_n 1, 1) := by decide +kernel
theorem dX11_shadeOf_9 : decode cX11_shadeOf 9 = .ok (.imul, 1) := by decide +kernel
theorem dX11_shadeOf_10 : decode cX11_shadeOf 10 = .ok (.iadd, 1) := by decide +kernel
theorem dX11_shadeOf_11 : decode cX11_shadeOf 11 = .ok (.iaload, 1) := by decide +kernel
theorem dX11_shadeOf_12 : decode cX11_shadeOf 12 = .ok (.imul, 1) := by decide +kernel
theorem dX11_shadeOf_13 : decode cX11_shadeOf 13 = .ok (.bipush 10, 2) := by decide +kernel
theorem dX11_shadeOf_15 : decode cX11_shadeOf 15 = .ok (.aload_n 0, 1) := by decide +kernel
theorem dX11_shadeOf_16 : decode cX11_shadeOf 16 = .ok (.getfield 68, 3) := by decide +kernel
theorem dX11_shadeOf_19 : decode cX11_shadeOf 19 = .ok (.iconst 0, 1) := by decide +kernel
theorem dX11_shadeOf_20 : decode cX11_shadeOf 20 = .ok (.iconst 3, 1) := by decide +kernel
theorem dX11_shadeOf_21 : decode cX11_shadeOf 21 = .ok (.iload_n 1, 1) := by decide +kernel
theorem dX11_shadeOf_22 : decode cX11_shadeOf 22 = .ok (.imul, 1) := by decide +kernel
theorem dX11_shadeOf_23 : decode cX11_shadeOf 23 = .ok (.iadd, 1) := by decide +kernel
theorem dX11_shadeOf_24 : decode cX11_shadeOf 24 = .ok (.iconst 1, 1) := by decide +kernel
theorem dX11_shadeOf_25 : decode cX11_shadeOf 25 = .ok (.iadd, 1) := by decide +kernel
theorem dX11_shadeOf_26 : decode cX11_shadeOf 26 = .ok (.iaload, 1) := by decide +kernel
theorem dX11_shadeOf_27 : decode cX11_shadeOf 27 = .ok (.imul, 1) := by decide +kernel
theorem dX11_shadeOf_28 : decode cX11_shadeOf 28 = .ok (.iadd, 1) := by decide +kernel
theorem dX11_shadeOf_29 : decode cX11_shadeOf 29 = .ok (.aload_n 0, 1) := by decide +kernel
theorem dX11_shadeOf_30 : decode cX11_shadeOf 30 = .ok (.getfield 68, 3) := by decide +kernel
theorem dX11_shadeOf_33 : decode cX11_shadeOf 33 = .ok (.iconst 0, 1) := by decide +kernel
theorem dX11_shadeOf_34 : decode cX11_shadeOf 34 = .ok (.iconst 3, 1) := by decide +kernel
theorem dX11_shadeOf_35 : decode cX11_shadeOf 35 = .ok (.iload_n 1, 1) := by decide +kernel
theorem dX11_shadeOf_36 : decode cX11_shadeOf 36 = .ok (.imul, 1) := by decide +kernel
theorem dX11_shadeOf_37 : decode cX11_shadeOf 37 = .ok (.iadd, 1) := by decide +kernel
theorem dX11_shadeOf_38 : decode cX11_shadeOf 38 = .ok (.iconst 2, 1) := by decide +kernel
theorem dX11_shadeOf_39 : decode cX11_shadeOf 39 = .ok (.iadd, 1) := by decide +kernel
theorem dX11_shadeOf_40 : decode cX11_shadeOf 40 = .ok (.iaload, 1) := by decide +kernel
theorem dX11_shadeOf_41 : decode cX11_shadeOf 41 = .ok (.iadd, 1) := by decide +kernel
theorem dX11_shadeOf_42 : decode cX11_shadeOf 42 = .ok (.ireturn, 1) := by decide +kernel
theorem dX11_shades_0 : decode cX11_shades 0 = .ok (.iconst 0, 1) := by decide +kernel
theorem dX11_shades_1 : decode cX11_shades 1 = .ok (.istore_n 3, 1) := by decide +kernel
theorem dX11_shades_2 : decode cX11_shades 2 = .ok (.iload_n 3, 1) := by decide +kernel
theorem dX11_shades_3 : decode cX11_shades 3 = .ok (.iconst 3, 1) := by decide +kernel
theorem dX11_shades_4 : decode cX11_shades 4 = .ok (.if_icmp .ge 26, 3) := by decide +kernel
theorem dX11_shades_7 : decode cX11_shades 7 = .ok (.aload_n 0, 1) := by decide +kernel
theorem dX11_shades_8 : decode cX11_shades 8 = .ok (.getfield 68, 3) := by decide +kernel
theorem dX11_shades_11 : decode cX11_shades 11 = .ok (.iconst 0, 1) := by decide +kernel
theorem dX11_shades_12 : decode cX11_shades 12 = .ok (.iconst 3, 1) := by decide +kernel
theorem dX11_shades_13 : decode cX11_shades 13 = .ok (.iload_n 1, 1) := by decide +kernel
theorem dX11_shades_14 : decode cX11_shades 14 = .ok (.imul, 1) := by decide +kernel
theorem dX11_shades_15 : decode cX11_shades 15 = .ok (.iadd, 1) := by decide +kernel
theorem dX11_shades_16 : decode cX11_shades 16 = .ok (.iload_n 3, 1) := by decide +kernel
theorem dX11_shades_17 : decode cX11_shades 17 = .ok (.iadd, 1) := by decide +kernel
theorem dX11_shades_18 : decode cX11_shades 18 = .ok (.iload_n 2, 1) := by decide +kernel
theorem dX11_shades_19 : decode cX11_shades 19 = .ok (.iload_n 3, 1) := by decide +kernel
theorem dX11_shades_20 : decode cX11_shades 20 = .ok (.invokestatic 327, 3) := by decide +kernel
theorem dX11_shades_23 : decode cX11_shades 23 = .ok (.iastore, 1) := by decide +kernel
theorem dX11_shades_24 : decode cX11_shades 24 = .ok (.iinc 3 1, 3) := by decide +kernel
theorem dX11_shades_27 : decode cX11_shades 27 = .ok (.goto (-25), 3) := by decide +kernel
theorem dX11_shades_30 : decode cX11_shades 30 = .ok (.return_, 1) := by decide +kernel
theorem dX11_vatOf_0 : decode cX11_vatOf 0 = .ok (.bipush 100, 2) := by decide +kernel
theorem dX11_vatOf_2 : decode cX11_vatOf 2 = .ok (.aload_n 0, 1) := by decide +kernel
theorem dX11_vatOf_3 : decode cX11_vatOf 3 = .ok (.getfield 35, 3) := by decide +kernel
theorem dX11_vatOf_6 : decode cX11_vatOf 6 = .ok (.iconst 4, 1) := by decide +kernel
theorem dX11_vatOf_7 : decode cX11_vatOf 7 = .ok (.iload_n 1, 1) := by decide +kernel
theorem dX11_vatOf_8 : decode cX11_vatOf 8 = .ok (.imul, 1) := by decide +kernel
theorem dX11_vatOf_9 : decode cX11_vatOf 9 = .ok (.iaload, 1) := by decide +kernel
theorem dX11_vatOf_10 : decode cX11_vatOf 10 = .ok (.imul, 1) := by decide +kernel
theorem dX11_vatOf_11 : decode cX11_vatOf 11 = .ok (.bipush 10, 2) := by decide +kernel
theorem dX11_vatOf_13 : decode cX11_vatOf 13 = .ok (.aload_n 0, 1) := by decide +kernel
theorem dX11_vatOf_14 : decode cX11_vatOf 14 = .ok (.getfield 35, 3) := by decide +kernel
theorem dX11_vatOf_17 : decode cX11_vatOf 17 = .ok (.iconst 4, 1) := by decide +kernel
theorem dX11_vatOf_18 : decode cX11_vatOf 18 = .ok (.iload_n 1, 1) := by decide +kernel
theorem dX11_vatOf_19 : decode cX11_vatOf 19 = .ok (.imul, 1) := by decide +kernel
theorem dX11_vatOf_20 : decode cX11_vatOf 20 = .ok (.iconst 1, 1) := by decide +kernel
theorem dX11_vatOf_21 : decode cX11_vatOf 21 = .ok (.iadd, 1) := by decide +kernel
theorem dX11_vatOf_22 : decode cX11_vatOf 22 = .ok (.iaload, 1) := by decide +kernel
theorem dX11_vatOf_23 : decode cX11_vatOf 23 = .ok (.imul, 1) := by decide +kernel
theorem dX11_vatOf_24 : decode cX11_vatOf 24 = .ok (.iadd, 1) := by decide +kernel
theorem dX11_vatOf_25 : decode cX11_vatOf 25 = .ok (.aload_n 0, 1) := by decide +kernel
theorem dX11_vatOf_26 : decode cX11_vatOf 26 = .ok (.getfield 35, 3) := by decide +kernel
theorem dX11_vatOf_29 : decode cX11_vatOf 29 = .ok (.iconst 4, 1) := by decide +kernel
theorem dX11_vatOf_30 : decode cX11_vatOf 30 = .ok (.iload_n 1, 1) := by decide +kernel
theorem dX11_vatOf_31 : decode cX11_vatOf 31 = .ok (.imul, 1) := by decide +kernel
theorem dX11_vatOf_32 : decode cX11_vatOf 32 = .ok (.iconst 2, 1) := by decide +kernel
theorem dX11_vatOf_33 : decode cX11_vatOf 33 = .ok (.iadd, 1) := by decide +kernel
theorem dX11_vatOf_34 : decode cX11_vatOf 34 = .ok (.iaload, 1) := by decide +kernel
theorem dX11_vatOf_35 : decode cX11_vatOf 35 = .ok (.iadd, 1) := by decide +kernel
theorem dX11_vatOf_36 : decode cX11_vatOf 36 = .ok (.ireturn, 1) := by decide +kernel
theorem dX11_apart_0 : decode cX11_apart 0 = .ok (.iconst 0, 1) := by decide +kernel
theorem dX11_apart_1 : decode cX11_apart 1 = .ok (.istore_n 2, 1) := by decide +kernel
theorem dX11_apart_2 : decode cX11_apart 2 = .ok (.iconst 0, 1) := by decide +kernel
theorem dX11_apart_3 : decode cX11_apart 3 = .ok (.istore_n 3, 1) := by decide +kernel
theorem dX11_apart_4 : decode cX11_apart 4 = .ok (.iload_n 3, 1) := by decide +kernel
theorem dX11_apart_5 : decode cX11_apart 5 = .ok (.iconst 3, 1) := by decide +kernel
theorem dX11_apart_6 : decode cX11_apart 6 = .ok (.if_icmp .ge 38, 3) := by decide +kernel
theorem dX11_apart_9 : decode cX11_apart 9 = .ok (.iload_n 0, 1) := by decide +kernel
theorem dX11_apart_10 : decode cX11_apart 10 = .ok (.iload_n 3, 1) := by decide +kernel
theorem dX11_apart_11 : decode cX11_apart 11 = .ok (.invokestatic 327, 3) := by decide +kernel
theorem dX11_apart_14 : decode cX11_apart 14 = .ok (.iload_n 1, 1) := by decide +kernel
theorem dX11_apart_15 : decode cX11_apart 15 = .ok (.iload_n 3, 1) := by decide +kernel
theorem dX11_apart_16 : decode cX11_apart 16 = .ok (.invokestatic 327, 3) := by decide +kernel
theorem dX11_apart_19 : decode cX11_apart 19 = .ok (.isub, 1) := by decide +kernel
theorem dX11_apart_20 : decode cX11_apart 20 = .ok (.istore 4, 2) := by decide +kernel
theorem dX11_apart_22 : decode cX11_apart 22 = .ok (.iload_n 2, 1) := by decide +kernel
theorem dX11_apart_23 : decode cX11_apart 23 = .ok (.iload 4, 2) := by decide +kernel
theorem dX11_apart_25 : decode cX11_apart 25 = .ok (.ifCond .ge 9, 3) := by decide +kernel
theorem dX11_apart_28 : decode cX11_apart 28 = .ok (.iload 4, 2) := by decide +kernel
theorem dX11_apart_30 : decode cX11_apart 30 = .ok (.ineg, 1) := by decide +kernel
theorem dX11_apart_31 : decode cX11_apart 31 = .ok (.goto 5, 3) := by decide +kernel
theorem dX11_apart_34 : decode cX11_apart 34 = .ok (.iload 4, 2) := by decide +kernel
theorem dX11_apart_36 : decode cX11_apart 36 = .ok (.iadd, 1) := by decide +kernel
theorem dX11_apart_37 : decode cX11_apart 37 = .ok (.istore_n 2, 1) := by decide +kernel
theorem dX11_apart_38 : decode cX11_apart 38 = .ok (.iinc 3 1, 3) := by decide +kernel
theorem dX11_apart_41 : decode cX11_apart 41 = .ok (.goto (-37), 3) := by decide +kernel
theorem dX11_apart_44 : decode cX11_apart 44 = .ok (.iload_n 2, 1) := by decide +kernel
theorem dX11_apart_45 : decode cX11_apart 45 = .ok (.ireturn, 1) := by decide +kernel
theorem dX11_seemsOf_0 : decode cX11_seemsOf 0 = .ok (.iconst (-1), 1) := by decide +kernel
theorem dX11_seemsOf_1 : decode cX11_seemsOf 1 = .ok (.istore_n 2, 1) := by decide +kernel
theorem dX11_seemsOf_2 : decode cX11_seemsOf 2 = .ok (.iconst 0, 1) := by decide +kernel
theorem dX11_seemsOf_3 : decode cX11_seemsOf 3 = .ok (.istore_n 3, 1) := by decide +kernel
theorem dX11_seemsOf_4 : decode cX11_seemsOf 4 = .ok (.iload_n 3, 1) := by decide +kernel
theorem dX11_seemsOf_5 : decode cX11_seemsOf 5 = .ok (.aload_n 0, 1) := by decide +kernel
theorem dX11_seemsOf_6 : decode cX11_seemsOf 6 = .ok (.getfield 156, 3) := by decide +kernel
theorem dX11_seemsOf_9 : decode cX11_seemsOf 9 = .ok (.if_icmp .ge 37, 3) := by decide +kernel
theorem dX11_seemsOf_12 : decode cX11_seemsOf 12 = .ok (.iload_n 2, 1) := by decide +kernel
theorem dX11_seemsOf_13 : decode cX11_seemsOf 13 = .ok (.iconst (-1), 1) := by decide +kernel
theorem dX11_seemsOf_14 : decode cX11_seemsOf 14 = .ok (.if_icmp .eq 24, 3) := by decide +kernel
theorem dX11_seemsOf_17 : decode cX11_seemsOf 17 = .ok (.iload_n 1, 1) := by decide +kernel
theorem dX11_seemsOf_18 : decode cX11_seemsOf 18 = .ok (.aload_n 0, 1) := by decide +kernel
theorem dX11_seemsOf_19 : decode cX11_seemsOf 19 = .ok (.iload_n 3, 1) := by decide +kernel
theorem dX11_seemsOf_20 : decode cX11_seemsOf 20 = .ok (.invokevirtual 330, 3) := by decide +kernel
theorem dX11_seemsOf_23 : decode cX11_seemsOf 23 = .ok (.invokestatic 333, 3) := by decide +kernel
theorem dX11_seemsOf_26 : decode cX11_seemsOf 26 = .ok (.iload_n 1, 1) := by decide +kernel
theorem dX11_seemsOf_27 : decode cX11_seemsOf 27 = .ok (.aload_n 0, 1) := by decide +kernel
theorem dX11_seemsOf_28 : decode cX11_seemsOf 28 = .ok (.iload_n 2, 1) := by decide +kernel
theorem dX11_seemsOf_29 : decode cX11_seemsOf 29 = .ok (.invokevirtual 330, 3) := by decide +kernel
theorem dX11_seemsOf_32 : decode cX11_seemsOf 32 = .ok (.invokestatic 333, 3) := by decide +kernel
theorem dX11_seemsOf_35 : decode cX11_seemsOf 35 = .ok (.if_icmp .ge 5, 3) := by decide +kernel
theorem dX11_seemsOf_38 : decode cX11_seemsOf 38 = .ok (.iload_n 3, 1) := by decide +kernel
theorem dX11_seemsOf_39 : decode cX11_seemsOf 39 = .ok (.istore_n 2, 1) := by decide +kernel
theorem dX11_seemsOf_40 : decode cX11_seemsOf 40 = .ok (.iinc 3 1, 3) := by decide +kernel
theorem dX11_seemsOf_43 : decode cX11_seemsOf 43 = .ok (.goto (-39), 3) := by decide +kernel
theorem dX11_seemsOf_46 : decode cX11_seemsOf 46 = .ok (.iload_n 2, 1) := by decide +kernel
theorem dX11_seemsOf_47 : decode cX11_seemsOf 47 = .ok (.ireturn, 1) := by decide +kernel
theorem dX11_dippedIn_0 : decode cX11_dippedIn 0 = .ok (.iconst 0, 1) := by decide +kernel
theorem dX11_dippedIn_1 : decode cX11_dippedIn 1 = .ok (.istore_n 3, 1) := by decide +kernel
theorem dX11_dippedIn_2 : decode cX11_dippedIn 2 = .ok (.iconst 0, 1) := by decide +kernel
theorem dX11_dippedIn_3 : decode cX11_dippedIn 3 = .ok (.istore 4, 2) := by decide +kernel
theorem dX11_dippedIn_5 : decode cX11_dippedIn 5 = .ok (.iload 4, 2) := by decide +kernel
theorem dX11_dippedIn_7 : decode cX11_dippedIn 7 = .ok (.iconst 3, 1) := by decide +kernel
theorem dX11_dippedIn_8 : decode cX11_dippedIn 8 = .ok (.if_icmp .ge 49, 3) := by decide +kernel
theorem dX11_dippedIn_11 : decode cX11_dippedIn 11 = .ok (.iload_n 1, 1) := by decide +kernel
theorem dX11_dippedIn_12 : decode cX11_dippedIn 12 = .ok (.iload 4, 2) := by decide +kernel
theorem dX11_dippedIn_14 : decode cX11_dippedIn 14 = .ok (.invokestatic 327, 3) := by decide +kernel
theorem dX11_dippedIn_17 : decode cX11_dippedIn 17 = .ok (.aload_n 0, 1) := by decide +kernel
theorem dX11_dippedIn_18 : decode cX11_dippedIn 18 = .ok (.getfield 35, 3) := by decide +kernel
theorem dX11_dippedIn_21 : decode cX11_dippedIn 21 = .ok (.iconst 4, 1) := by decide +kernel
theorem dX11_dippedIn_22 : decode cX11_dippedIn 22 = .ok (.iload_n 2, 1) := by decide +kernel
theorem dX11_dippedIn_23 : decode cX11_dippedIn 23 = .ok (.imul, 1) := by decide +kernel
theorem dX11_dippedIn_24 : decode cX11_dippedIn 24 = .ok (.iload 4, 2) := by decide +kernel
theorem dX11_dippedIn_26 : decode cX11_dippedIn 26 = .ok (.iadd, 1) := by decide +kernel
theorem dX11_dippedIn_27 : decode cX11_dippedIn 27 = .ok (.iaload, 1) := by decide +kernel
theorem dX11_dippedIn_28 : decode cX11_dippedIn 28 = .ok (.iadd, 1) := by decide +kernel
theorem dX11_dippedIn_29 : decode cX11_dippedIn 29 = .ok (.istore 5, 2) := by decide +kernel
theorem dX11_dippedIn_31 : decode cX11_dippedIn 31 = .ok (.bipush 10, 2) := by decide +kernel
theorem dX11_dippedIn_33 : decode cX11_dippedIn 33 = .ok (.iload_n 3, 1) := by decide +kernel
theorem dX11_dippedIn_34 : decode cX11_dippedIn 34 = .ok (.imul, 1) := by decide +kernel
theorem dX11_dippedIn_35 : decode cX11_dippedIn 35 = .ok (.iload 5, 2) := by decide +kernel
theorem dX11_dippedIn_37 : decode cX11_dippedIn 37 = .ok (.bipush 9, 2) := by decide +kernel
theorem dX11_dippedIn_39 : decode cX11_dippedIn 39 = .ok (.if_icmp .le 8, 3) := by decide +kernel
theorem dX11_dippedIn_42 : decode cX11_dippedIn 42 = .ok (.bipush 9, 2) := by decide +kernel
theorem dX11_dippedIn_44 : decode cX11_dippedIn 44 = .ok (.goto 5, 3) := by decide +kernel
theorem dX11_dippedIn_47 : decode cX11_dippedIn 47 = .ok (.iload 5, 2) := by decide +kernel
theorem dX11_dippedIn_49 : decode cX11_dippedIn 49 = .ok (.iadd, 1) := by decide +kernel
theorem dX11_dippedIn_50 : decode cX11_dippedIn 50 = .ok (.istore_n 3, 1) := by decide +kernel
theorem dX11_dippedIn_51 : decode cX11_dippedIn 51 = .ok (.iinc 4 1, 3) := by decide +kernel
theorem dX11_dippedIn_54 : decode cX11_dippedIn 54 = .ok (.goto (-49), 3) := by decide +kernel
theorem dX11_dippedIn_57 : decode cX11_dippedIn 57 = .ok (.iload_n 3, 1) := by decide +kernel
theorem dX11_dippedIn_58 : decode cX11_dippedIn 58 = .ok (.ireturn, 1) := by decide +kernel
theorem dX11_sitsBy_0 : decode cX11_sitsBy 0 = .ok (.aload_n 0, 1) := by decide +kernel
theorem dX11_sitsBy_1 : decode cX11_sitsBy 1 = .ok (.getfield 56, 3) := by decide +kernel
theorem dX11_sitsBy_4 : decode cX11_sitsBy 4 = .ok (.iconst 0, 1) := by decide +kernel
theorem dX11_sitsBy_5 : decode cX11_sitsBy 5 = .ok (.iload_n 1, 1) := by decide +kernel
theorem dX11_sitsBy_6 : decode cX11_sitsBy 6 = .ok (.iconst 0, 1) := by decide +kernel
theorem dX11_sitsBy_7 : decode cX11_sitsBy 7 = .ok (.invokestatic 327, 3) := by decide +kernel
theorem dX11_sitsBy_10 : decode cX11_sitsBy 10 = .ok (.iastore, 1) := by decide +kernel
theorem dX11_sitsBy_11 : decode cX11_sitsBy 11 = .ok (.aload_n 0, 1) := by decide +kernel
theorem dX11_sitsBy_12 : decode cX11_sitsBy 12 = .ok (.getfield 56, 3) := by decide +kernel
theorem dX11_sitsBy_15 : decode cX11_sitsBy 15 = .ok (.iconst 1, 1) := by decide +kernel
theorem dX11_sitsBy_16 : decode cX11_sitsBy 16 = .ok (.iload_n 1, 1) := by decide +kernel
theorem dX11_sitsBy_17 : decode cX11_sitsBy 17 = .ok (.iconst 1, 1) := by decide +kernel
theorem dX11_sitsBy_18 : decode cX11_sitsBy 18 = .ok (.invokestatic 327, 3) := by decide +kernel
theorem dX11_sitsBy_21 : decode cX11_sitsBy 21 = .ok (.iastore, 1) := by decide +kernel
theorem dX11_sitsBy_22 : decode cX11_sitsBy 22 = .ok (.aload_n 0, 1) := by decide +kernel
theorem dX11_sitsBy_23 : decode cX11_sitsBy 23 = .ok (.getfield 56, 3) := by decide +kernel
theorem dX11_sitsBy_26 : decode cX11_sitsBy 26 = .ok (.iconst 2, 1) := by decide +kernel
theorem dX11_sitsBy_27 : decode cX11_sitsBy 27 = .ok (.iload_n 1, 1) := by decide +kernel
theorem dX11_sitsBy_28 : decode cX11_sitsBy 28 = .ok (.iconst 2, 1) := by decide +kernel
theorem dX11_sitsBy_29 : decode cX11_sitsBy 29 = .ok (.invokestatic 327, 3) := by decide +kernel
theorem dX11_sitsBy_32 : decode cX11_sitsBy 32 = .ok (.iastore, 1) := by decide +kernel
theorem dX11_sitsBy_33 : decode cX11_sitsBy 33 = .ok (.aload_n 0, 1) := by decide +kernel
theorem dX11_sitsBy_34 : decode cX11_sitsBy 34 = .ok (.getfield 56, 3) := by decide +kernel
theorem dX11_sitsBy_37 : decode cX11_sitsBy 37 = .ok (.iconst 3, 1) := by decide +kernel
theorem dX11_sitsBy_38 : decode cX11_sitsBy 38 = .ok (.aload_n 0, 1) := by decide +kernel
theorem dX11_sitsBy_39 : decode cX11_sitsBy 39 = .ok (.getfield 56, 3) := by decide +kernel
theorem dX11_sitsBy_42 : decode cX11_sitsBy 42 = .ok (.iconst 0, 1) := by decide +kernel
theorem dX11_sitsBy_43 : decode cX11_sitsBy 43 = .ok (.iaload, 1) := by decide +kernel
theorem dX11_sitsBy_44 : decode cX11_sitsBy 44 = .ok (.aload_n 0, 1) := by decide +kernel
theorem dX11_sitsBy_45 : decode cX11_sitsBy 45 = .ok (.getfield 56, 3) := by decide +kernel
theorem dX11_sitsBy_48 : decode cX11_sitsBy 48 = .ok (.iconst 1, 1) := by decide +kernel
theorem dX11_sitsBy_49 : decode cX11_sitsBy 49 = .ok (.iaload, 1) := by decide +kernel
theorem dX11_sitsBy_50 : decode cX11_sitsBy 50 = .ok (.iadd, 1) := by decide +kernel
theorem dX11_sitsBy_51 : decode cX11_sitsBy 51 = .ok (.aload_n 0, 1) := by decide +kernel
theorem dX11_sitsBy_52 : decode cX11_sitsBy 52 = .ok (.getfield 56, 3) := by decide +kernel
theorem dX11_sitsBy_55 : decode cX11_sitsBy 55 = .ok (.iconst 2, 1) := by decide +kernel
theorem dX11_sitsBy_56 : decode cX11_sitsBy 56 = .ok (.iaload, 1) := by decide +kernel
theorem dX11_sitsBy_57 : decode cX11_sitsBy 57 = .ok (.iadd, 1) := by decide +kernel
theorem dX11_sitsBy_58 : decode cX11_sitsBy 58 = .ok (.iastore, 1) := by decide +kernel
theorem dX11_sitsBy_59 : decode cX11_sitsBy 59 = .ok (.aload_n 0, 1) := by decide +kernel
theorem dX11_sitsBy_60 : decode cX11_sitsBy 60 = .ok (.getfield 56, 3) := by decide +kernel
theorem dX11_sitsBy_63 : decode cX11_sitsBy 63 = .ok (.iconst 4, 1) := by decide +kernel
theorem dX11_sitsBy_64 : decode cX11_sitsBy 64 = .ok (.iload_n 2, 1) := by decide +kernel
theorem dX11_sitsBy_65 : decode cX11_sitsBy 65 = .ok (.iastore, 1) := by decide +kernel
theorem dX11_sitsBy_66 : decode cX11_sitsBy 66 = .ok (.aload_n 0, 1) := by decide +kernel
theorem dX11_sitsBy_67 : decode cX11_sitsBy 67 = .ok (.getfield 56, 3) := by decide +kernel
theorem dX11_sitsBy_70 : decode cX11_sitsBy 70 = .ok (.iconst 5, 1) := by decide +kernel
theorem dX11_sitsBy_71 : decode cX11_sitsBy 71 = .ok (.iload_n 3, 1) := by decide +kernel
theorem dX11_sitsBy_72 : decode cX11_sitsBy 72 = .ok (.iastore, 1) := by decide +kernel
theorem dX11_sitsBy_73 : decode cX11_sitsBy 73 = .ok (.aload_n 0, 1) := by decide +kernel
theorem dX11_sitsBy_74 : decode cX11_sitsBy 74 = .ok (.getfield 56, 3) := by decide +kernel
theorem dX11_sitsBy_77 : decode cX11_sitsBy 77 = .ok (.bipush 6, 2) := by decide +kernel
theorem dX11_sitsBy_79 : decode cX11_sitsBy 79 = .ok (.iload 4, 2) := by decide +kernel
theorem dX11_sitsBy_81 : decode cX11_sitsBy 81 = .ok (.iastore, 1) := by decide +kernel
theorem dX11_sitsBy_82 : decode cX11_sitsBy 82 = .ok (.aload_n 0, 1) := by decide +kernel
theorem dX11_sitsBy_83 : decode cX11_sitsBy 83 = .ok (.getfield 56, 3) := by decide +kernel
theorem dX11_sitsBy_86 : decode cX11_sitsBy 86 = .ok (.bipush 7, 2) := by decide +kernel
theorem dX11_sitsBy_88 : decode cX11_sitsBy 88 = .ok (.iload 5, 2) := by decide +kernel
theorem dX11_sitsBy_90 : decode cX11_sitsBy 90 = .ok (.iastore, 1) := by decide +kernel
theorem dX11_sitsBy_91 : decode cX11_sitsBy 91 = .ok (.aload_n 0, 1) := by decide +kernel
theorem dX11_sitsBy_92 : decode cX11_sitsBy 92 = .ok (.getfield 56, 3) := by decide +kernel
theorem dX11_sitsBy_95 : decode cX11_sitsBy 95 = .ok (.bipush 8, 2) := by decide +kernel
theorem dX11_sitsBy_97 : decode cX11_sitsBy 97 = .ok (.iload 6, 2) := by decide +kernel
theorem dX11_sitsBy_99 : decode cX11_sitsBy 99 = .ok (.iastore, 1) := by decide +kernel
theorem dX11_sitsBy_100 : decode cX11_sitsBy 100 = .ok (.aload_n 0, 1) := by decide +kernel
theorem dX11_sitsBy_101 : decode cX11_sitsBy 101 = .ok (.invokevirtual 336, 3) := by decide +kernel
theorem dX11_sitsBy_104 : decode cX11_sitsBy 104 = .ok (.ireturn, 1) := by decide +kernel
theorem dX11_isSitting_0 : decode cX11_isSitting 0 = .ok (.aload_n 0, 1) := by decide +kernel
theorem dX11_isSitting_1 : decode cX11_isSitting 1 = .ok (.aload_n 0, 1) := by decide +kernel
theorem dX11_isSitting_2 : decode cX11_isSitting 2 = .ok (.iload_n 1, 1) := by decide +kernel
theorem dX11_isSitting_3 : decode cX11_isSitting 3 = .ok (.invokevirtual 339, 3) := by decide +kernel
theorem dX11_isSitting_6 : decode cX11_isSitting 6 = .ok (.invokevirtual 342, 3) := by decide +kernel
theorem dX11_isSitting_9 : decode cX11_isSitting 9 = .ok (.istore_n 2, 1) := by decide +kernel
theorem dX11_isSitting_10 : decode cX11_isSitting 10 = .ok (.aload_n 0, 1) := by decide +kernel
theorem dX11_isSitting_11 : decode cX11_isSitting 11 = .ok (.aload_n 0, 1) := by decide +kernel
theorem dX11_isSitting_12 : decode cX11_isSitting 12 = .ok (.iload_n 1, 1) := by decide +kernel
theorem dX11_isSitting_13 : decode cX11_isSitting 13 = .ok (.invokevirtual 339, 3) := by decide +kernel
theorem dX11_isSitting_16 : decode cX11_isSitting 16 = .ok (.aload_n 0, 1) := by decide +kernel
theorem dX11_isSitting_17 : decode cX11_isSitting 17 = .ok (.getfield 68, 3) := by decide +kernel
theorem dX11_isSitting_20 : decode cX11_isSitting 20 = .ok (.bipush 48, 2) := by decide +kernel
theorem dX11_isSitting_22 : decode cX11_isSitting 22 = .ok (.iload_n 1, 1) := by decide +kernel
theorem dX11_isSitting_23 : decode cX11_isSitting 23 = .ok (.iadd, 1) := by decide +kernel
theorem dX11_isSitting_24 : decode cX11_isSitting 24 = .ok (.iaload, 1) := by decide +kernel
theorem dX11_isSitting_25 : decode cX11_isSitting 25 = .ok (.iload_n 2, 1) := by decide +kernel
theorem dX11_isSitting_26 : decode cX11_isSitting 26 = .ok (.iconst (-1), 1) := by decide +kernel
theorem dX11_isSitting_27 : decode cX11_isSitting 27 = .ok (.if_icmp .ne 7, 3) := by decide +kernel
theorem dX11_isSitting_30 : decode cX11_isSitting 30 = .ok (.iconst 0, 1) := by decide +kernel
theorem dX11_isSitting_31 : decode cX11_isSitting 31 = .ok (.goto 13, 3) := by decide +kernel
theorem dX11_isSitting_34 : decode cX11_isSitting 34 = .ok (.aload_n 0, 1) := by decide +kernel
theorem dX11_isSitting_35 : decode cX11_isSitting 35 = .ok (.getfield 35, 3) := by decide +kernel
theorem dX11_isSitting_38 : decode cX11_isSitting 38 = .ok (.iconst 4, 1) := by decide +kernel
theorem dX11_isSitting_39 : decode cX11_isSitting 39 = .ok (.iload_n 2, 1) := by decide +kernel
theorem dX11_isSitting_40 : decode cX11_isSitting 40 = .ok (.imul, 1) := by decide +kernel
theorem dX11_isSitting_41 : decode cX11_isSitting 41 = .ok (.iconst 3, 1) := by decide +kernel
theorem dX11_isSitting_42 : decode cX11_isSitting 42 = .ok (.iadd, 1) := by decide +kernel
theorem dX11_isSitting_43 : decode cX11_isSitting 43 = .ok (.iaload, 1) := by decide +kernel
theorem dX11_isSitting_44 : decode cX11_isSitting 44 = .ok (.aload_n 0, 1) := by decide +kernel
theorem dX11_isSitting_45 : decode cX11_isSitting 45 = .ok (.getfield 68, 3) := by decide +kernel
theorem dX11_isSitting_48 : decode cX11_isSitting 48 = .ok (.bipush 40, 2) := by decide +kernel
theorem dX11_isSitting_50 : decode cX11_isSitting 50 = .ok (.iload_n 1, 1) := by decide +kernel
theorem dX11_isSitting_51 : decode cX11_isSitting 51 = .ok (.iadd, 1) := by decide +kernel
theorem dX11_isSitting_52 : decode cX11_isSitting 52 = .ok (.iaload, 1) := by decide +kernel
theorem dX11_isSitting_53 : decode cX11_isSitting 53 = .ok (.aload_n 0, 1) := by decide +kernel
theorem dX11_isSitting_54 : decode cX11_isSitting 54 = .ok (.getfield 68, 3) := by decide +kernel
theorem dX11_isSitting_57 : decode cX11_isSitting 57 = .ok (.bipush 59, 2) := by decide +kernel
theorem dX11_isSitting_59 : decode cX11_isSitting 59 = .ok (.iaload, 1) := by decide +kernel
theorem dX11_isSitting_60 : decode cX11_isSitting 60 = .ok (.iload_n 2, 1) := by decide +kernel
theorem dX11_isSitting_61 : decode cX11_isSitting 61 = .ok (.aload_n 0, 1) := by decide +kernel
theorem dX11_isSitting_62 : decode cX11_isSitting 62 = .ok (.getfield 38, 3) := by decide +kernel
theorem dX11_isSitting_65 : decode cX11_isSitting 65 = .ok (.iload_n 1, 1) := by decide +kernel
theorem dX11_isSitting_66 : decode cX11_isSitting 66 = .ok (.iaload, 1) := by decide +kernel
theorem dX11_isSitting_67 : decode cX11_isSitting 67 = .ok (.if_icmp .ne 7, 3) := by decide +kernel
theorem dX11_isSitting_70 : decode cX11_isSitting 70 = .ok (.iconst 1, 1) := by decide +kernel
theorem dX11_isSitting_71 : decode cX11_isSitting 71 = .ok (.goto 4, 3) := by decide +kernel
theorem dX11_isSitting_74 : decode cX11_isSitting 74 = .ok (.iconst 0, 1) := by decide +kernel
theorem dX11_isSitting_75 : decode cX11_isSitting 75 = .ok (.invokevirtual 345, 3) := by decide +kernel
theorem dX11_isSitting_78 : decode cX11_isSitting 78 = .ok (.ireturn, 1) := by decide +kernel
theorem dX11_sitting_0 : decode cX11_sitting 0 = .ok (.iconst 0, 1) := by decide +kernel
theorem dX11_sitting_1 : decode cX11_sitting 1 = .ok (.istore_n 1, 1) := by decide +kernel
theorem dX11_sitting_2 : decode cX11_sitting 2 = .ok (.iconst 0, 1) := by decide +kernel
theorem dX11_sitting_3 : decode cX11_sitting 3 = .ok (.istore_n 2, 1) := by decide +kernel
theorem dX11_sitting_4 : decode cX11_sitting 4 = .ok (.iload_n 2, 1) := by decide +kernel
theorem dX11_sitting_5 : decode cX11_sitting 5 = .ok (.aload_n 0, 1) := by decide +kernel
theorem dX11_sitting_6 : decode cX11_sitting 6 = .ok (.getfield 159, 3) := by decide +kernel
theorem dX11_sitting_9 : decode cX11_sitting 9 = .ok (.if_icmp .ge 25, 3) := by decide +kernel
theorem dX11_sitting_12 : decode cX11_sitting 12 = .ok (.iload_n 1, 1) := by decide +kernel
theorem dX11_sitting_13 : decode cX11_sitting 13 = .ok (.aload_n 0, 1) := by decide +kernel
theorem dX11_sitting_14 : decode cX11_sitting 14 = .ok (.iload_n 2, 1) := by decide +kernel
theorem dX11_sitting_15 : decode cX11_sitting 15 = .ok (.invokevirtual 349, 3) := by decide +kernel
theorem dX11_sitting_18 : decode cX11_sitting 18 = .ok (.ifCond .eq 7, 3) := by decide +kernel
theorem dX11_sitting_21 : decode cX11_sitting 21 = .ok (.iconst 1, 1) := by decide +kernel
theorem dX11_sitting_22 : decode cX11_sitting 22 = .ok (.goto 4, 3) := by decide +kernel
theorem dX11_sitting_25 : decode cX11_sitting 25 = .ok (.iconst 0, 1) := by decide +kernel
theorem dX11_sitting_26 : decode cX11_sitting 26 = .ok (.iadd, 1) := by decide +kernel
theorem dX11_sitting_27 : decode cX11_sitting 27 = .ok (.istore_n 1, 1) := by decide +kernel
theorem dX11_sitting_28 : decode cX11_sitting 28 = .ok (.iinc 2 1, 3) := by decide +kernel
theorem dX11_sitting_31 : decode cX11_sitting 31 = .ok (.goto (-27), 3) := by decide +kernel
theorem dX11_sitting_34 : decode cX11_sitting 34 = .ok (.iload_n 1, 1) := by decide +kernel
theorem dX11_sitting_35 : decode cX11_sitting 35 = .ok (.ireturn, 1) := by decide +kernel
theorem dX11_unlikeShades_0 : decode cX11_unlikeShades 0 = .ok (.iconst 0, 1) := by decide +kernel
theorem dX11_unlikeShades_1 : decode cX11_unlikeShades 1 = .ok (.istore_n 1, 1) := by decide +kernel
theorem dX11_unlikeShades_2 : decode cX11_unlikeShades 2 = .ok (.iconst 0, 1) := by decide +kernel
theorem dX11_unlikeShades_3 : decode cX11_unlikeShades 3 = .ok (.istore_n 2, 1) := by decide +kernel
theorem dX11_unlikeShades_4 : decode cX11_unlikeShades 4 = .ok (.iload_n 2, 1) := by decide +kernel
theorem dX11_unlikeShades_5 : decode cX11_unlikeShades 5 = .ok (.aload_n 0, 1) := by decide +kernel
theorem dX11_unlikeShades_6 : decode cX11_unlikeShades 6 = .ok (.getfield 159, 3) := by decide +kernel
theorem dX11_unlikeShades_9 : decode cX11_unlikeShades 9 = .ok (.if_icmp .ge 62, 3) := by decide +kernel
theorem dX11_unlikeShades_12 : decode cX11_unlikeShades 12 = .ok (.iconst 1, 1) := by decide +kernel
theorem dX11_unlikeShades_13 : decode cX11_unlikeShades 13 = .ok (.istore_n 3, 1) := by decide +kernel
theorem dX11_unlikeShades_14 : decode cX11_unlikeShades 14 = .ok (.iconst 0, 1) := by decide +kernel
theorem dX11_unlikeShades_15 : decode cX11_unlikeShades 15 = .ok (.istore 4, 2) := by decide +kernel
theorem dX11_unlikeShades_17 : decode cX11_unlikeShades 17 = .ok (.iload 4, 2) := by decide +kernel
theorem dX11_unlikeShades_19 : decode cX11_unlikeShades 19 = .ok (.iload_n 2, 1) := by decide +kernel
theorem dX11_unlikeShades_20 : decode cX11_unlikeShades 20 = .ok (.if_icmp .ge 33, 3) := by decide +kernel
theorem dX11_unlikeShades_23 : decode cX11_unlikeShades 23 = .ok (.iload_n 3, 1) := by decide +kernel
theorem dX11_unlikeShades_24 : decode cX11_unlikeShades 24 = .ok (.ifCond .eq 21, 3) := by decide +kernel
theorem dX11_unlikeShades_27 : decode cX11_unlikeShades 27 = .ok (.aload_n 0, 1) := by decide +kernel
theorem dX11_unlikeShades_28 : decode cX11_unlikeShades 28 = .ok (.iload 4, 2) := by decide +kernel
theorem dX11_unlikeShades_30 : decode cX11_unlikeShades 30 = .ok (.invokevirtual 339, 3) := by decide +kernel
theorem dX11_unlikeShades_33 : decode cX11_unlikeShades 33 = .ok (.aload_n 0, 1) := by decide +kernel
theorem dX11_unlikeShades_34 : decode cX11_unlikeShades 34 = .ok (.iload_n 2, 1) := by decide +kernel
theorem dX11_unlikeShades_35 : decode cX11_unlikeShades 35 = .ok (.invokevirtual 339, 3) := by decide +kernel
theorem dX11_unlikeShades_38 : decode cX11_unlikeShades 38 = .ok (.if_icmp .eq 7, 3) := by decide +kernel
theorem dX11_unlikeShades_41 : decode cX11_unlikeShades 41 = .ok (.iconst 1, 1) := by decide +kernel
theorem dX11_unlikeShades_42 : decode cX11_unlikeShades 42 = .ok (.goto 4, 3) := by decide +kernel
theorem dX11_unlikeShades_45 : decode cX11_unlikeShades 45 = .ok (.iconst 0, 1) := by decide +kernel
theorem dX11_unlikeShades_46 : decode cX11_unlikeShades 46 = .ok (.istore_n 3, 1) := by decide +kernel
theorem dX11_unlikeShades_47 : decode cX11_unlikeShades 47 = .ok (.iinc 4 1, 3) := by decide +kernel
theorem dX11_unlikeShades_50 : decode cX11_unlikeShades 50 = .ok (.goto (-33), 3) := by decide +kernel
theorem dX11_unlikeShades_53 : decode cX11_unlikeShades 53 = .ok (.iload_n 1, 1) := by decide +kernel
theorem dX11_unlikeShades_54 : decode cX11_unlikeShades 54 = .ok (.iload_n 3, 1) := by decide +kernel
theorem dX11_unlikeShades_55 : decode cX11_unlikeShades 55 = .ok (.ifCond .eq 7, 3) := by decide +kernel
theorem dX11_unlikeShades_58 : decode cX11_unlikeShades 58 = .ok (.iconst 1, 1) := by decide +kernel
theorem dX11_unlikeShades_59 : decode cX11_unlikeShades 59 = .ok (.goto 4, 3) := by decide +kernel
theorem dX11_unlikeShades_62 : decode cX11_unlikeShades 62 = .ok (.iconst 0, 1) := by decide +kernel
theorem dX11_unlikeShades_63 : decode cX11_unlikeShades 63 = .ok (.iadd, 1) := by decide +kernel
theorem dX11_unlikeShades_64 : decode cX11_unlikeShades 64 = .ok (.istore_n 1, 1) := by decide +kernel
theorem dX11_unlikeShades_65 : decode cX11_unlikeShades 65 = .ok (.iinc 2 1, 3) := by decide +kernel
theorem dX11_unlikeShades_68 : decode cX11_unlikeShades 68 = .ok (.goto (-64), 3) := by decide +kernel
theorem dX11_unlikeShades_71 : decode cX11_unlikeShades 71 = .ok (.iload_n 1, 1) := by decide +kernel
theorem dX11_unlikeShades_72 : decode cX11_unlikeShades 72 = .ok (.ireturn, 1) := by decide +kernel
theorem dX11_dips_0 : decode cX11_dips 0 = .ok (.aload_n 0, 1) := by decide +kernel
theorem dX11_dips_1 : decode cX11_dips 1 = .ok (.aload_n 0, 1) := by decide +kernel
theorem dX11_dips_2 : decode cX11_dips 2 = .ok (.iload_n 1, 1) := by decide +kernel
theorem dX11_dips_3 : decode cX11_dips 3 = .ok (.invokevirtual 339, 3) := by decide +kernel
theorem dX11_dips_6 : decode cX11_dips 6 = .ok (.iload_n 2, 1) := by decide +kernel
theorem dX11_dips_7 : decode cX11_dips 7 = .ok (.invokevirtual 352, 3) := by decide +kernel
theorem dX11_dips_10 : decode cX11_dips 10 = .ok (.istore_n 3, 1) := by decide +kernel
theorem dX11_dips_11 : decode cX11_dips 11 = .ok (.iload_n 3, 1) := by decide +kernel
theorem dX11_dips_12 : decode cX11_dips 12 = .ok (.aload_n 0, 1) := by decide +kernel
theorem dX11_dips_13 : decode cX11_dips 13 = .ok (.iload_n 1, 1) := by decide +kernel
theorem dX11_dips_14 : decode cX11_dips 14 = .ok (.invokevirtual 339, 3) := by decide +kernel
theorem dX11_dips_17 : decode cX11_dips 17 = .ok (.if_icmp .ne 5, 3) := by decide +kernel
theorem dX11_dips_20 : decode cX11_dips 20 = .ok (.iconst 0, 1) := by decide +kernel
theorem dX11_dips_21 : decode cX11_dips 21 = .ok (.ireturn, 1) := by decide +kernel
theorem dX11_dips_22 : decode cX11_dips 22 = .ok (.iconst 0, 1) := by decide +kernel
theorem dX11_dips_23 : decode cX11_dips 23 = .ok (.istore 4, 2) := by decide +kernel
theorem dX11_dips_25 : decode cX11_dips 25 = .ok (.iload 4, 2) := by decide +kernel
theorem dX11_dips_27 : decode cX11_dips 27 = .ok (.iconst 3, 1) := by decide +kernel
theorem dX11_dips_28 : decode cX11_dips 28 = .ok (.if_icmp .ge 35, 3) := by decide +kernel
theorem dX11_dips_31 : decode cX11_dips 31 = .ok (.aload_n 0, 1) := by decide +kernel
theorem dX11_dips_32 : decode cX11_dips 32 = .ok (.getfield 68, 3) := by decide +kernel
theorem dX11_dips_35 : decode cX11_dips 35 = .ok (.bipush 56, 2) := by decide +kernel
theorem dX11_dips_37 : decode cX11_dips 37 = .ok (.iload 4, 2) := by decide +kernel
theorem dX11_dips_39 : decode cX11_dips 39 = .ok (.iadd, 1) := by decide +kernel
theorem dX11_dips_40 : decode cX11_dips 40 = .ok (.iaload, 1) := by decide +kernel
theorem dX11_dips_41 : decode cX11_dips 41 = .ok (.aload_n 0, 1) := by decide +kernel
theorem dX11_dips_42 : decode cX11_dips 42 = .ok (.getfield 35, 3) := by decide +kernel
theorem dX11_dips_45 : decode cX11_dips 45 = .ok (.iconst 4, 1) := by decide +kernel
theorem dX11_dips_46 : decode cX11_dips 46 = .ok (.iload_n 2, 1) := by decide +kernel
theorem dX11_dips_47 : decode cX11_dips 47 = .ok (.imul, 1) := by decide +kernel
theorem dX11_dips_48 : decode cX11_dips 48 = .ok (.iload 4, 2) := by decide +kernel
theorem dX11_dips_50 : decode cX11_dips 50 = .ok (.iadd, 1) := by decide +kernel
theorem dX11_dips_51 : decode cX11_dips 51 = .ok (.iaload, 1) := by decide +kernel
theorem dX11_dips_52 : decode cX11_dips 52 = .ok (.if_icmp .ge 5, 3) := by decide +kernel
theorem dX11_dips_55 : decode cX11_dips 55 = .ok (.iconst 0, 1) := by decide +kernel
theorem dX11_dips_56 : decode cX11_dips 56 = .ok (.ireturn, 1) := by decide +kernel
theorem dX11_dips_57 : decode cX11_dips 57 = .ok (.iinc 4 1, 3) := by decide +kernel
theorem dX11_dips_60 : decode cX11_dips 60 = .ok (.goto (-35), 3) := by decide +kernel
theorem dX11_dips_63 : decode cX11_dips 63 = .ok (.iconst 0, 1) := by decide +kernel
theorem dX11_dips_64 : decode cX11_dips 64 = .ok (.istore 4, 2) := by decide +kernel
theorem dX11_dips_66 : decode cX11_dips 66 = .ok (.iload 4, 2) := by decide +kernel
theorem dX11_dips_68 : decode cX11_dips 68 = .ok (.iconst 3, 1) := by decide +kernel
theorem dX11_dips_69 : decode cX11_dips 69 = .ok (.if_icmp .ge 33, 3) := by decide +kernel
theorem dX11_dips_72 : decode cX11_dips 72 = .ok (.aload_n 0, 1) := by decide +kernel
theorem dX11_dips_73 : decode cX11_dips 73 = .ok (.getfield 68, 3) := by decide +kernel
theorem dX11_dips_76 : decode cX11_dips 76 = .ok (.bipush 56, 2) := by decide +kernel
theorem dX11_dips_78 : decode cX11_dips 78 = .ok (.iload 4, 2) := by decide +kernel
theorem dX11_dips_80 : decode cX11_dips 80 = .ok (.iadd, 1) := by decide +kernel
theorem dX11_dips_81 : decode cX11_dips 81 = .ok (.dup2, 1) := by decide +kernel
theorem dX11_dips_82 : decode cX11_dips 82 = .ok (.iaload, 1) := by decide +kernel
theorem dX11_dips_83 : decode cX11_dips 83 = .ok (.aload_n 0, 1) := by decide +kernel
theorem dX11_dips_84 : decode cX11_dips 84 = .ok (.getfield 35, 3) := by decide +kernel
theorem dX11_dips_87 : decode cX11_dips 87 = .ok (.iconst 4, 1) := by decide +kernel
theorem dX11_dips_88 : decode cX11_dips 88 = .ok (.iload_n 2, 1) := by decide +kernel
theorem dX11_dips_89 : decode cX11_dips 89 = .ok (.imul, 1) := by decide +kernel
theorem dX11_dips_90 : decode cX11_dips 90 = .ok (.iload 4, 2) := by decide +kernel
theorem dX11_dips_92 : decode cX11_dips 92 = .ok (.iadd, 1) := by decide +kernel
theorem dX11_dips_93 : decode cX11_dips 93 = .ok (.iaload, 1) := by decide +kernel
theorem dX11_dips_94 : decode cX11_dips 94 = .ok (.isub, 1) := by decide +kernel
theorem dX11_dips_95 : decode cX11_dips 95 = .ok (.iastore, 1) := by decide +kernel
theorem dX11_dips_96 : decode cX11_dips 96 = .ok (.iinc 4 1, 3) := by decide +kernel
theorem dX11_dips_99 : decode cX11_dips 99 = .ok (.goto (-33), 3) := by decide +kernel
theorem dX11_dips_102 : decode cX11_dips 102 = .ok (.aload_n 0, 1) := by decide +kernel
theorem dX11_dips_103 : decode cX11_dips 103 = .ok (.iload_n 1, 1) := by decide +kernel
theorem dX11_dips_104 : decode cX11_dips 104 = .ok (.iload_n 3, 1) := by decide +kernel
theorem dX11_dips_105 : decode cX11_dips 105 = .ok (.invokevirtual 355, 3) := by decide +kernel
theorem dX11_dips_108 : decode cX11_dips 108 = .ok (.aload_n 0, 1) := by decide +kernel
theorem dX11_dips_109 : decode cX11_dips 109 = .ok (.getfield 68, 3) := by decide +kernel
theorem dX11_dips_112 : decode cX11_dips 112 = .ok (.bipush 40, 2) := by decide +kernel
theorem dX11_dips_114 : decode cX11_dips 114 = .ok (.iload_n 1, 1) := by decide +kernel
theorem dX11_dips_115 : decode cX11_dips 115 = .ok (.iadd, 1) := by decide +kernel
theorem dX11_dips_116 : decode cX11_dips 116 = .ok (.dup2, 1) := by decide +kernel
theorem dX11_dips_117 : decode cX11_dips 117 = .ok (.iaload, 1) := by decide +kernel
theorem dX11_dips_118 : decode cX11_dips 118 = .ok (.iconst 1, 1) := by decide +kernel
theorem dX11_dips_119 : decode cX11_dips 119 = .ok (.iadd, 1) := by decide +kernel
theorem dX11_dips_120 : decode cX11_dips 120 = .ok (.iastore, 1) := by decide +kernel
theorem dX11_dips_121 : decode cX11_dips 121 = .ok (.iconst 1, 1) := by decide +kernel
theorem dX11_dips_122 : decode cX11_dips 122 = .ok (.ireturn, 1) := by decide +kernel
theorem dX11_washes_0 : decode cX11_washes 0 = .ok (.aload_n 0, 1) := by decide +kernel
theorem dX11_washes_1 : decode cX11_washes 1 = .ok (.iload_n 1, 1) := by decide +kernel
theorem dX11_washes_2 : decode cX11_washes 2 = .ok (.invokevirtual 339, 3) := by decide +kernel
theorem dX11_washes_5 : decode cX11_washes 5 = .ok (.ifCond .ne 5, 3) := by decide +kernel
theorem dX11_washes_8 : decode cX11_washes 8 = .ok (.iconst 0, 1) := by decide +kernel
theorem dX11_washes_9 : decode cX11_washes 9 = .ok (.ireturn, 1) := by decide +kernel
theorem dX11_washes_10 : decode cX11_washes 10 = .ok (.iconst 0, 1) := by decide +kernel
theorem dX11_washes_11 : decode cX11_washes 11 = .ok (.istore_n 2, 1) := by decide +kernel
theorem dX11_washes_12 : decode cX11_washes 12 = .ok (.iload_n 2, 1) := by decide +kernel
theorem dX11_washes_13 : decode cX11_washes 13 = .ok (.iconst 3, 1) := by decide +kernel
theorem dX11_washes_14 : decode cX11_washes 14 = .ok (.if_icmp .ge 40, 3) := by decide +kernel
theorem dX11_washes_17 : decode cX11_washes 17 = .ok (.aload_n 0, 1) := by decide +kernel
theorem dX11_washes_18 : decode cX11_washes 18 = .ok (.getfield 68, 3) := by decide +kernel
theorem dX11_washes_21 : decode cX11_washes 21 = .ok (.iconst 0, 1) := by decide +kernel
theorem dX11_washes_22 : decode cX11_washes 22 = .ok (.iconst 3, 1) := by decide +kernel
theorem dX11_washes_23 : decode cX11_washes 23 = .ok (.iload_n 1, 1) := by decide +kernel
theorem dX11_washes_24 : decode cX11_washes 24 = .ok (.imul, 1) := by decide +kernel
theorem dX11_washes_25 : decode cX11_washes 25 = .ok (.iadd, 1) := by decide +kernel
theorem dX11_washes_26 : decode cX11_washes 26 = .ok (.iload_n 2, 1) := by decide +kernel
theorem dX11_washes_27 : decode cX11_washes 27 = .ok (.iadd, 1) := by decide +kernel
theorem dX11_washes_28 : decode cX11_washes 28 = .ok (.iaload, 1) := by decide +kernel
theorem dX11_washes_29 : decode cX11_washes 29 = .ok (.ifCond .le 19, 3) := by decide +kernel
theorem dX11_washes_32 : decode cX11_washes 32 = .ok (.aload_n 0, 1) := by decide +kernel
theorem dX11_washes_33 : decode cX11_washes 33 = .ok (.getfield 68, 3) := by decide +kernel
theorem dX11_washes_36 : decode cX11_washes 36 = .ok (.iconst 0, 1) := by decide +kernel
theorem dX11_washes_37 : decode cX11_washes 37 = .ok (.iconst 3, 1) := by decide +kernel
theorem dX11_washes_38 : decode cX11_washes 38 = .ok (.iload_n 1, 1) := by decide +kernel
theorem dX11_washes_39 : decode cX11_washes 39 = .ok (.imul, 1) := by decide +kernel
theorem dX11_washes_40 : decode cX11_washes 40 = .ok (.iadd, 1) := by decide +kernel
theorem dX11_washes_41 : decode cX11_washes 41 = .ok (.iload_n 2, 1) := by decide +kernel
theorem dX11_washes_42 : decode cX11_washes 42 = .ok (.iadd, 1) := by decide +kernel
theorem dX11_washes_43 : decode cX11_washes 43 = .ok (.dup2, 1) := by decide +kernel
theorem dX11_washes_44 : decode cX11_washes 44 = .ok (.iaload, 1) := by decide +kernel
theorem dX11_washes_45 : decode cX11_washes 45 = .ok (.iconst 1, 1) := by decide +kernel
theorem dX11_washes_46 : decode cX11_washes 46 = .ok (.isub, 1) := by decide +kernel
theorem dX11_washes_47 : decode cX11_washes 47 = .ok (.iastore, 1) := by decide +kernel
theorem dX11_washes_48 : decode cX11_washes 48 = .ok (.iinc 2 1, 3) := by decide +kernel
theorem dX11_washes_51 : decode cX11_washes 51 = .ok (.goto (-39), 3) := by decide +kernel
theorem dX11_washes_54 : decode cX11_washes 54 = .ok (.aload_n 0, 1) := by decide +kernel
theorem dX11_washes_55 : decode cX11_washes 55 = .ok (.getfield 68, 3) := by decide +kernel
theorem dX11_washes_58 : decode cX11_washes 58 = .ok (.bipush 24, 2) := by decide +kernel
theorem dX11_washes_60 : decode cX11_washes 60 = .ok (.iload_n 1, 1) := by decide +kernel
theorem dX11_washes_61 : decode cX11_washes 61 = .ok (.iadd, 1) := by decide +kernel
theorem dX11_washes_62 : decode cX11_washes 62 = .ok (.iconst 0, 1) := by decide +kernel
theorem dX11_washes_63 : decode cX11_washes 63 = .ok (.iastore, 1) := by decide +kernel
theorem dX11_washes_64 : decode cX11_washes 64 = .ok (.iconst 1, 1) := by decide +kernel
theorem dX11_washes_65 : decode cX11_washes 65 = .ok (.ireturn, 1) := by decide +kernel
theorem dX11_meanShade_0 : decode cX11_meanShade 0 = .ok (.iconst 0, 1) := by decide +kernel
theorem dX11_meanShade_1 : decode cX11_meanShade 1 = .ok (.istore_n 1, 1) := by decide +kernel
theorem dX11_meanShade_2 : decode cX11_meanShade 2 = .ok (.iconst 0, 1) := by decide +kernel
theorem dX11_meanShade_3 : decode cX11_meanShade 3 = .ok (.istore_n 2, 1) := by decide +kernel
theorem dX11_meanShade_4 : decode cX11_meanShade 4 = .ok (.iload_n 2, 1) := by decide +kernel
theorem dX11_meanShade_5 : decode cX11_meanShade 5 = .ok (.aload_n 0, 1) := by decide +kernel
theorem dX11_meanShade_6 : decode cX11_meanShade 6 = .ok (.getfield 159, 3) := by decide +kernel
theorem dX11_meanShade_9 : decode cX11_meanShade 9 = .ok (.if_icmp .ge 29, 3) := by decide +kernel
theorem dX11_meanShade_12 : decode cX11_meanShade 12 = .ok (.iload_n 1, 1) := by decide +kernel
theorem dX11_meanShade_13 : decode cX11_meanShade 13 = .ok (.aload_n 0, 1) := by decide +kernel
theorem dX11_meanShade_14 : decode cX11_meanShade 14 = .ok (.getfield 68, 3) := by decide +kernel
theorem dX11_meanShade_17 : decode cX11_meanShade 17 = .ok (.bipush 24, 2) := by decide +kernel
theorem dX11_meanShade_19 : decode cX11_meanShade 19 = .ok (.iload_n 2, 1) := by decide +kernel
theorem dX11_meanShade_20 : decode cX11_meanShade 20 = .ok (.iadd, 1) := by decide +kernel
theorem dX11_meanShade_21 : decode cX11_meanShade 21 = .ok (.iaload, 1) := by decide +kernel
theorem dX11_meanShade_22 : decode cX11_meanShade 22 = .ok (.ifCond .ne 7, 3) := by decide +kernel
theorem dX11_meanShade_25 : decode cX11_meanShade 25 = .ok (.iconst 1, 1) := by decide +kernel
theorem dX11_meanShade_26 : decode cX11_meanShade 26 = .ok (.goto 4, 3) := by decide +kernel
theorem dX11_meanShade_29 : decode cX11_meanShade 29 = .ok (.iconst 0, 1) := by decide +kernel
theorem dX11_meanShade_30 : decode cX11_meanShade 30 = .ok (.iadd, 1) := by decide +kernel
theorem dX11_meanShade_31 : decode cX11_meanShade 31 = .ok (.istore_n 1, 1) := by decide +kernel
theorem dX11_meanShade_32 : decode cX11_meanShade 32 = .ok (.iinc 2 1, 3) := by decide +kernel
theorem dX11_meanShade_35 : decode cX11_meanShade 35 = .ok (.goto (-31), 3) := by decide +kernel
theorem dX11_meanShade_38 : decode cX11_meanShade 38 = .ok (.iload_n 1, 1) := by decide +kernel
theorem dX11_meanShade_39 : decode cX11_meanShade 39 = .ok (.iconst 2, 1) := by decide +kernel
theorem dX11_meanShade_40 : decode cX11_meanShade 40 = .ok (.if_icmp .ge 5, 3) := by decide +kernel
theorem dX11_meanShade_43 : decode cX11_meanShade 43 = .ok (.iconst (-1), 1) := by decide +kernel
theorem dX11_meanShade_44 : decode cX11_meanShade 44 = .ok (.ireturn, 1) := by decide +kernel
theorem dX11_meanShade_45 : decode cX11_meanShade 45 = .ok (.iconst 0, 1) := by decide +kernel
theorem dX11_meanShade_46 : decode cX11_meanShade 46 = .ok (.istore_n 2, 1) := by decide +kernel
theorem dX11_meanShade_47 : decode cX11_meanShade 47 = .ok (.iconst 0, 1) := by decide +kernel
theorem dX11_meanShade_48 : decode cX11_meanShade 48 = .ok (.istore_n 3, 1) := by decide +kernel
theorem dX11_meanShade_49 : decode cX11_meanShade 49 = .ok (.iload_n 3, 1) := by decide +kernel
theorem dX11_meanShade_50 : decode cX11_meanShade 50 = .ok (.iconst 3, 1) := by decide +kernel
theorem dX11_meanShade_51 : decode cX11_meanShade 51 = .ok (.if_icmp .ge 75, 3) := by decide +kernel
theorem dX11_meanShade_54 : decode cX11_meanShade 54 = .ok (.iconst 0, 1) := by decide +kernel
theorem dX11_meanShade_55 : decode cX11_meanShade 55 = .ok (.istore 4, 2) := by decide +kernel
theorem dX11_meanShade_57 : decode cX11_meanShade 57 = .ok (.iconst 0, 1) := by decide +kernel
theorem dX11_meanShade_58 : decode cX11_meanShade 58 = .ok (.istore 5, 2) := by decide +kernel
theorem dX11_meanShade_60 : decode cX11_meanShade 60 = .ok (.iload 5, 2) := by decide +kernel
theorem dX11_meanShade_62 : decode cX11_meanShade 62 = .ok (.aload_n 0, 1) := by decide +kernel
theorem dX11_meanShade_63 : decode cX11_meanShade 63 = .ok (.getfield 159, 3) := by decide +kernel
theorem dX11_meanShade_66 : decode cX11_meanShade 66 = .ok (.if_icmp .ge 44, 3) := by decide +kernel
theorem dX11_meanShade_69 : decode cX11_meanShade 69 = .ok (.iload 4, 2) := by decide +kernel
theorem dX11_meanShade_71 : decode cX11_meanShade 71 = .ok (.aload_n 0, 1) := by decide +kernel
theorem dX11_meanShade_72 : decode cX11_meanShade 72 = .ok (.getfield 68, 3) := by decide +kernel
theorem dX11_meanShade_75 : decode cX11_meanShade 75 = .ok (.bipush 24, 2) := by decide +kernel
theorem dX11_meanShade_77 : decode cX11_meanShade 77 = .ok (.iload 5, 2) := by decide +kernel
theorem dX11_meanShade_79 : decode cX11_meanShade 79 = .ok (.iadd, 1) := by decide +kernel
theorem dX11_meanShade_80 : decode cX11_meanShade 80 = .ok (.iaload, 1) := by decide +kernel
theorem dX11_meanShade_81 : decode cX11_meanShade 81 = .ok (.ifCond .ne 19, 3) := by decide +kernel
theorem dX11_meanShade_84 : decode cX11_meanShade 84 = .ok (.aload_n 0, 1) := by decide +kernel
theorem dX11_meanShade_85 : decode cX11_meanShade 85 = .ok (.getfield 68, 3) := by decide +kernel
theorem dX11_meanShade_88 : decode cX11_meanShade 88 = .ok (.iconst 0, 1) := by decide +kernel
theorem dX11_meanShade_89 : decode cX11_meanShade 89 = .ok (.iconst 3, 1) := by decide +kernel
theorem dX11_meanShade_90 : decode cX11_meanShade 90 = .ok (.iload 5, 2) := by decide +kernel
theorem dX11_meanShade_92 : decode cX11_meanShade 92 = .ok (.imul, 1) := by decide +kernel
theorem dX11_meanShade_93 : decode cX11_meanShade 93 = .ok (.iadd, 1) := by decide +kernel
theorem dX11_meanShade_94 : decode cX11_meanShade 94 = .ok (.iload_n 3, 1) := by decide +kernel
theorem dX11_meanShade_95 : decode cX11_meanShade 95 = .ok (.iadd, 1) := by decide +kernel
theorem dX11_meanShade_96 : decode cX11_meanShade 96 = .ok (.iaload, 1) := by decide +kernel
theorem dX11_meanShade_97 : decode cX11_meanShade 97 = .ok (.goto 4, 3) := by decide +kernel
theorem dX11_meanShade_100 : decode cX11_meanShade 100 = .ok (.iconst 0, 1) := by decide +kernel
theorem dX11_meanShade_101 : decode cX11_meanShade 101 = .ok (.iadd, 1) := by decide +kernel
theorem dX11_meanShade_102 : decode cX11_meanShade 102 = .ok (.istore 4, 2) := by decide +kernel
theorem dX11_meanShade_104 : decode cX11_meanShade 104 = .ok (.iinc 5 1, 3) := by decide +kernel
theorem dX11_meanShade_107 : decode cX11_meanShade 107 = .ok (.goto (-47), 3) := by decide +kernel
theorem dX11_meanShade_110 : decode cX11_meanShade 110 = .ok (.bipush 10, 2) := by decide +kernel
theorem dX11_meanShade_112 : decode cX11_meanShade 112 = .ok (.iload_n 2, 1) := by decide +kernel
theorem dX11_meanShade_113 : decode cX11_meanShade 113 = .ok (.imul, 1) := by decide +kernel
theorem dX11_meanShade_114 : decode cX11_meanShade 114 = .ok (.iload 4, 2) := by decide +kernel
theorem dX11_meanShade_116 : decode cX11_meanShade 116 = .ok (.iload_n 1, 1) := by decide +kernel
theorem dX11_meanShade_117 : decode cX11_meanShade 117 = .ok (.idiv, 1) := by decide +kernel
theorem dX11_meanShade_118 : decode cX11_meanShade 118 = .ok (.iadd, 1) := by decide +kernel
theorem dX11_meanShade_119 : decode cX11_meanShade 119 = .ok (.istore_n 2, 1) := by decide +kernel
theorem dX11_meanShade_120 : decode cX11_meanShade 120 = .ok (.iinc 3 1, 3) := by decide +kernel
theorem dX11_meanShade_123 : decode cX11_meanShade 123 = .ok (.goto (-74), 3) := by decide +kernel
theorem dX11_meanShade_126 : decode cX11_meanShade 126 = .ok (.iload_n 2, 1) := by decide +kernel
theorem dX11_meanShade_127 : decode cX11_meanShade 127 = .ok (.ireturn, 1) := by decide +kernel
theorem dX11_rains_0 : decode cX11_rains 0 = .ok (.aload_n 0, 1) := by decide +kernel
theorem dX11_rains_1 : decode cX11_rains 1 = .ok (.invokevirtual 358, 3) := by decide +kernel
theorem dX11_rains_4 : decode cX11_rains 4 = .ok (.istore_n 1, 1) := by decide +kernel
theorem dX11_rains_5 : decode cX11_rains 5 = .ok (.iload_n 1, 1) := by decide +kernel
theorem dX11_rains_6 : decode cX11_rains 6 = .ok (.iconst (-1), 1) := by decide +kernel
theorem dX11_rains_7 : decode cX11_rains 7 = .ok (.if_icmp .ne 5, 3) := by decide +kernel
theorem dX11_rains_10 : decode cX11_rains 10 = .ok (.iconst 0, 1) := by decide +kernel
theorem dX11_rains_11 : decode cX11_rains 11 = .ok (.ireturn, 1) := by decide +kernel
theorem dX11_rains_12 : decode cX11_rains 12 = .ok (.iconst 0, 1) := by decide +kernel
theorem dX11_rains_13 : decode cX11_rains 13 = .ok (.istore_n 2, 1) := by decide +kernel
theorem dX11_rains_14 : decode cX11_rains 14 = .ok (.iload_n 2, 1) := by decide +kernel
theorem dX11_rains_15 : decode cX11_rains 15 = .ok (.aload_n 0, 1) := by decide +kernel
theorem dX11_rains_16 : decode cX11_rains 16 = .ok (.getfield 159, 3) := by decide +kernel
theorem dX11_rains_19 : decode cX11_rains 19 = .ok (.if_icmp .ge 27, 3) := by decide +kernel
theorem dX11_rains_22 : decode cX11_rains 22 = .ok (.aload_n 0, 1) := by decide +kernel
theorem dX11_rains_23 : decode cX11_rains 23 = .ok (.getfield 68, 3) := by decide +kernel
theorem dX11_rains_26 : decode cX11_rains 26 = .ok (.bipush 24, 2) := by decide +kernel
theorem dX11_rains_28 : decode cX11_rains 28 = .ok (.iload_n 2, 1) := by decide +kernel
theorem dX11_rains_29 : decode cX11_rains 29 = .ok (.iadd, 1) := by decide +kernel
theorem dX11_rains_30 : decode cX11_rains 30 = .ok (.iaload, 1) := by decide +kernel
theorem dX11_rains_31 : decode cX11_rains 31 = .ok (.ifCond .ne 9, 3) := by decide +kernel
theorem dX11_rains_34 : decode cX11_rains 34 = .ok (.aload_n 0, 1) := by decide +kernel
theorem dX11_rains_35 : decode cX11_rains 35 = .ok (.iload_n 2, 1) := by decide +kernel
theorem dX11_rains_36 : decode cX11_rains 36 = .ok (.iload_n 1, 1) := by decide +kernel
theorem dX11_rains_37 : decode cX11_rains 37 = .ok (.invokevirtual 355, 3) := by decide +kernel
theorem dX11_rains_40 : decode cX11_rains 40 = .ok (.iinc 2 1, 3) := by decide +kernel
theorem dX11_rains_43 : decode cX11_rains 43 = .ok (.goto (-29), 3) := by decide +kernel
theorem dX11_rains_46 : decode cX11_rains 46 = .ok (.iconst 1, 1) := by decide +kernel
theorem dX11_rains_47 : decode cX11_rains 47 = .ok (.ireturn, 1) := by decide +kernel
theorem dX11_weds_0 : decode cX11_weds 0 = .ok (.aload_n 0, 1) := by decide +kernel
theorem dX11_weds_1 : decode cX11_weds 1 = .ok (.getfield 68, 3) := by decide +kernel
theorem dX11_weds_4 : decode cX11_weds 4 = .ok (.bipush 32, 2) := by decide +kernel
theorem dX11_weds_6 : decode cX11_weds 6 = .ok (.iload_n 1, 1) := by decide +kernel
theorem dX11_weds_7 : decode cX11_weds 7 = .ok (.iadd, 1) := by decide +kernel
theorem dX11_weds_8 : decode cX11_weds 8 = .ok (.iaload, 1) := by decide +kernel
theorem dX11_weds_9 : decode cX11_weds 9 = .ok (.iconst (-1), 1) := by decide +kernel
theorem dX11_weds_10 : decode cX11_weds 10 = .ok (.if_icmp .ne 34, 3) := by decide +kernel
theorem dX11_weds_13 : decode cX11_weds 13 = .ok (.aload_n 0, 1) := by decide +kernel
theorem dX11_weds_14 : decode cX11_weds 14 = .ok (.getfield 68, 3) := by decide +kernel
theorem dX11_weds_17 : decode cX11_weds 17 = .ok (.bipush 32, 2) := by decide +kernel
theorem dX11_weds_19 : decode cX11_weds 19 = .ok (.iload_n 2, 1) := by decide +kernel
theorem dX11_weds_20 : decode cX11_weds 20 = .ok (.iadd, 1) := by decide +kernel
theorem dX11_weds_21 : decode cX11_weds 21 = .ok (.iaload, 1) := by decide +kernel
theorem dX11_weds_22 : decode cX11_weds 22 = .ok (.iconst (-1), 1) := by decide +kernel
theorem dX11_weds_23 : decode cX11_weds 23 = .ok (.if_icmp .ne 21, 3) := by decide +kernel
theorem dX11_weds_26 : decode cX11_weds 26 = .ok (.aload_n 0, 1) := by decide +kernel
theorem dX11_weds_27 : decode cX11_weds 27 = .ok (.iload_n 1, 1) := by decide +kernel
theorem dX11_weds_28 : decode cX11_weds 28 = .ok (.invokevirtual 339, 3) := by decide +kernel
theorem dX11_weds_31 : decode cX11_weds 31 = .ok (.aload_n 0, 1) := by decide +kernel
theorem dX11_weds_32 : decode cX11_weds 32 = .ok (.iload_n 2, 1) := by decide +kernel
theorem dX11_weds_33 : decode cX11_weds 33 = .ok (.invokevirtual 339, 3) := by decide +kernel
theorem dX11_weds_36 : decode cX11_weds 36 = .ok (.invokestatic 333, 3) := by decide +kernel
theorem dX11_weds_39 : decode cX11_weds 39 = .ok (.bipush 6, 2) := by decide +kernel
theorem dX11_weds_41 : decode cX11_weds 41 = .ok (.if_icmp .le 5, 3) := by decide +kernel
theorem dX11_weds_44 : decode cX11_weds 44 = .ok (.iconst 0, 1) := by decide +kernel
theorem dX11_weds_45 : decode cX11_weds 45 = .ok (.ireturn, 1) := by decide +kernel
theorem dX11_weds_46 : decode cX11_weds 46 = .ok (.aload_n 0, 1) := by decide +kernel
theorem dX11_weds_47 : decode cX11_weds 47 = .ok (.getfield 68, 3) := by decide +kernel
theorem dX11_weds_50 : decode cX11_weds 50 = .ok (.bipush 32, 2) := by decide +kernel
theorem dX11_weds_52 : decode cX11_weds 52 = .ok (.iload_n 1, 1) := by decide +kernel
theorem dX11_weds_53 : decode cX11_weds 53 = .ok (.iadd, 1) := by decide +kernel
theorem dX11_weds_54 : decode cX11_weds 54 = .ok (.iload_n 2, 1) := by decide +kernel
theorem dX11_weds_55 : decode cX11_weds 55 = .ok (.iastore, 1) := by decide +kernel
theorem dX11_weds_56 : decode cX11_weds 56 = .ok (.aload_n 0, 1) := by decide +kernel
theorem dX11_weds_57 : decode cX11_weds 57 = .ok (.getfield 68, 3) := by decide +kernel
theorem dX11_weds_60 : decode cX11_weds 60 = .ok (.bipush 32, 2) := by decide +kernel
theorem dX11_weds_62 : decode cX11_weds 62 = .ok (.iload_n 2, 1) := by decide +kernel
theorem dX11_weds_63 : decode cX11_weds 63 = .ok (.iadd, 1) := by decide +kernel
theorem dX11_weds_64 : decode cX11_weds 64 = .ok (.iload_n 1, 1) := by decide +kernel
theorem dX11_weds_65 : decode cX11_weds 65 = .ok (.iastore, 1) := by decide +kernel
theorem dX11_weds_66 : decode cX11_weds 66 = .ok (.iconst 1, 1) := by decide +kernel
theorem dX11_weds_67 : decode cX11_weds 67 = .ok (.ireturn, 1) := by decide +kernel
theorem dX11_goes_0 : decode cX11_goes 0 = .ok (.iload_n 1, 1) := by decide +kernel
theorem dX11_goes_1 : decode cX11_goes 1 = .ok (.ifCond .ne 10, 3) := by decide +kernel
theorem dX11_goes_4 : decode cX11_goes 4 = .ok (.aload_n 0, 1) := by decide +kernel
theorem dX11_goes_5 : decode cX11_goes 5 = .ok (.iload_n 2, 1) := by decide +kernel
theorem dX11_goes_6 : decode cX11_goes 6 = .ok (.iload_n 3, 1) := by decide +kernel
theorem dX11_goes_7 : decode cX11_goes 7 = .ok (.invokevirtual 361, 3) := by decide +kernel
theorem dX11_goes_10 : decode cX11_goes 10 = .ok (.ireturn, 1) := by decide +kernel
theorem dX11_goes_11 : decode cX11_goes 11 = .ok (.iload_n 1, 1) := by decide +kernel
theorem dX11_goes_12 : decode cX11_goes 12 = .ok (.iconst 1, 1) := by decide +kernel
theorem dX11_goes_13 : decode cX11_goes 13 = .ok (.if_icmp .ne 9, 3) := by decide +kernel
theorem dX11_goes_16 : decode cX11_goes 16 = .ok (.aload_n 0, 1) := by decide +kernel
theorem dX11_goes_17 : decode cX11_goes 17 = .ok (.iload_n 2, 1) := by decide +kernel
theorem dX11_goes_18 : decode cX11_goes 18 = .ok (.invokevirtual 364, 3) := by decide +kernel
theorem dX11_goes_21 : decode cX11_goes 21 = .ok (.ireturn, 1) := by decide +kernel
theorem dX11_goes_22 : decode cX11_goes 22 = .ok (.iload_n 1, 1) := by decide +kernel
theorem dX11_goes_23 : decode cX11_goes 23 = .ok (.iconst 3, 1) := by decide +kernel
theorem dX11_goes_24 : decode cX11_goes 24 = .ok (.if_icmp .ne 8, 3) := by decide +kernel
theorem dX11_goes_27 : decode cX11_goes 27 = .ok (.aload_n 0, 1) := by decide +kernel
theorem dX11_goes_28 : decode cX11_goes 28 = .ok (.invokevirtual 367, 3) := by decide +kernel
theorem dX11_goes_31 : decode cX11_goes 31 = .ok (.ireturn, 1) := by decide +kernel
theorem dX11_goes_32 : decode cX11_goes 32 = .ok (.iload_n 1, 1) := by decide +kernel
theorem dX11_goes_33 : decode cX11_goes 33 = .ok (.iconst 4, 1) := by decide +kernel
theorem dX11_goes_34 : decode cX11_goes 34 = .ok (.if_icmp .ne 10, 3) := by decide +kernel
theorem dX11_goes_37 : decode cX11_goes 37 = .ok (.aload_n 0, 1) := by decide +kernel
theorem dX11_goes_38 : decode cX11_goes 38 = .ok (.iload_n 2, 1) := by decide +kernel
theorem dX11_goes_39 : decode cX11_goes 39 = .ok (.iload_n 3, 1) := by decide +kernel
theorem dX11_goes_40 : decode cX11_goes 40 = .ok (.invokevirtual 370, 3) := by decide +kernel
theorem dX11_goes_43 : decode cX11_goes 43 = .ok (.ireturn, 1) := by decide +kernel
theorem dX11_goes_44 : decode cX11_goes 44 = .ok (.iload_n 1, 1) := by decide +kernel
theorem dX11_goes_45 : decode cX11_goes 45 = .ok (.iconst 2, 1) := by decide +kernel
theorem dX11_goes_46 : decode cX11_goes 46 = .ok (.if_icmp .ne 30, 3) := by decide +kernel
theorem dX11_goes_49 : decode cX11_goes 49 = .ok (.aload_n 0, 1) := by decide +kernel
theorem dX11_goes_50 : decode cX11_goes 50 = .ok (.getfield 68, 3) := by decide +kernel
theorem dX11_goes_53 : decode cX11_goes 53 = .ok (.bipush 24, 2) := by decide +kernel
theorem dX11_goes_55 : decode cX11_goes 55 = .ok (.iload_n 2, 1) := by decide +kernel
theorem dX11_goes_56 : decode cX11_goes 56 = .ok (.iadd, 1) := by decide +kernel
theorem dX11_goes_57 : decode cX11_goes 57 = .ok (.iaload, 1) := by decide +kernel
theorem dX11_goes_58 : decode cX11_goes 58 = .ok (.iconst 1, 1) := by decide +kernel
theorem dX11_goes_59 : decode cX11_goes 59 = .ok (.if_icmp .ne 5, 3) := by decide +kernel
theorem dX11_goes_62 : decode cX11_goes 62 = .ok (.iconst 0, 1) := by decide +kernel
theorem dX11_goes_63 : decode cX11_goes 63 = .ok (.ireturn, 1) := by decide +kernel
theorem dX11_goes_64 : decode cX11_goes 64 = .ok (.aload_n 0, 1) := by decide +kernel
theorem dX11_goes_65 : decode cX11_goes 65 = .ok (.getfield 68, 3) := by decide +kernel
theorem dX11_goes_68 : decode cX11_goes 68 = .ok (.bipush 24, 2) := by decide +kernel
theorem dX11_goes_70 : decode cX11_goes 70 = .ok (.iload_n 2, 1) := by decide +kernel
theorem dX11_goes_71 : decode cX11_goes 71 = .ok (.iadd, 1) := by decide +kernel
theorem dX11_goes_72 : decode cX11_goes 72 = .ok (.iconst 1, 1) := by decide +kernel
theorem dX11_goes_73 : decode cX11_goes 73 = .ok (.iastore, 1) := by decide +kernel
theorem dX11_goes_74 : decode cX11_goes 74 = .ok (.iconst 1, 1) := by decide +kernel
theorem dX11_goes_75 : decode cX11_goes 75 = .ok (.ireturn, 1) := by decide +kernel
theorem dX11_goes_76 : decode cX11_goes 76 = .ok (.aload_n 0, 1) := by decide +kernel
theorem dX11_goes_77 : decode cX11_goes 77 = .ok (.getfield 68, 3) := by decide +kernel
theorem dX11_goes_80 : decode cX11_goes 80 = .ok (.bipush 59, 2) := by decide +kernel
theorem dX11_goes_82 : decode cX11_goes 82 = .ok (.iaload, 1) := by decide +kernel
theorem dX11_goes_83 : decode cX11_goes 83 = .ok (.sipush 300, 3) := by decide +kernel
theorem dX11_goes_86 : decode cX11_goes 86 = .ok (.if_icmp .ne 5, 3) := by decide +kernel
theorem dX11_goes_89 : decode cX11_goes 89 = .ok (.iconst 0, 1) := by decide +kernel
theorem dX11_goes_90 : decode cX11_goes 90 = .ok (.ireturn, 1) := by decide +kernel
theorem dX11_goes_91 : decode cX11_goes 91 = .ok (.aload_n 0, 1) := by decide +kernel
theorem dX11_goes_92 : decode cX11_goes 92 = .ok (.invokevirtual 373, 3) := by decide +kernel
theorem dX11_goes_95 : decode cX11_goes 95 = .ok (.iconst 1, 1) := by decide +kernel
theorem dX11_goes_96 : decode cX11_goes 96 = .ok (.ireturn, 1) := by decide +kernel
theorem dX11_passes_0 : decode cX11_passes 0 = .ok (.aload_n 0, 1) := by decide +kernel
theorem dX11_passes_1 : decode cX11_passes 1 = .ok (.getfield 68, 3) := by decide +kernel
theorem dX11_passes_4 : decode cX11_passes 4 = .ok (.bipush 59, 2) := by decide +kernel
theorem dX11_passes_6 : decode cX11_passes 6 = .ok (.iaload, 1) := by decide +kernel
theorem dX11_passes_7 : decode cX11_passes 7 = .ok (.iconst 3, 1) := by decide +kernel
theorem dX11_passes_8 : decode cX11_passes 8 = .ok (.irem, 1) := by decide +kernel
theorem dX11_passes_9 : decode cX11_passes 9 = .ok (.istore_n 1, 1) := by decide +kernel
theorem dX11_passes_10 : decode cX11_passes 10 = .ok (.iconst 0, 1) := by decide +kernel
theorem dX11_passes_11 : decode cX11_passes 11 = .ok (.istore_n 2, 1) := by decide +kernel
theorem dX11_passes_12 : decode cX11_passes 12 = .ok (.iload_n 2, 1) := by decide +kernel
theorem dX11_passes_13 : decode cX11_passes 13 = .ok (.aload_n 0, 1) := by decide +kernel
theorem dX11_passes_14 : decode cX11_passes 14 = .ok (.getfield 159, 3) := by decide +kernel
theorem dX11_passes_17 : decode cX11_passes 17 = .ok (.if_icmp .ge 71, 3) := by decide +kernel
theorem dX11_passes_20 : decode cX11_passes 20 = .ok (.iconst 0, 1) := by decide +kernel
theorem dX11_passes_21 : decode cX11_passes 21 = .ok (.iconst 3, 1) := by decide +kernel
theorem dX11_passes_22 : decode cX11_passes 22 = .ok (.iload_n 2, 1) := by decide +kernel
theorem dX11_passes_23 : decode cX11_passes 23 = .ok (.imul, 1) := by decide +kernel
theorem dX11_passes_24 : decode cX11_passes 24 = .ok (.iadd, 1) := by decide +kernel
theorem dX11_passes_25 : decode cX11_passes 25 = .ok (.iload_n 1, 1) := by decide +kernel
theorem dX11_passes_26 : decode cX11_passes 26 = .ok (.iadd, 1) := by decide +kernel
theorem dX11_passes_27 : decode cX11_passes 27 = .ok (.istore_n 3, 1) := by decide +kernel
theorem dX11_passes_28 : decode cX11_passes 28 = .ok (.aload_n 0, 1) := by decide +kernel
theorem dX11_passes_29 : decode cX11_passes 29 = .ok (.getfield 68, 3) := by decide +kernel
theorem dX11_passes_32 : decode cX11_passes 32 = .ok (.bipush 24, 2) := by decide +kernel
theorem dX11_passes_34 : decode cX11_passes 34 = .ok (.iload_n 2, 1) := by decide +kernel
theorem dX11_passes_35 : decode cX11_passes 35 = .ok (.iadd, 1) := by decide +kernel
theorem dX11_passes_36 : decode cX11_passes 36 = .ok (.iaload, 1) := by decide +kernel
theorem dX11_passes_37 : decode cX11_passes 37 = .ok (.ifCond .ne 22, 3) := by decide +kernel
theorem dX11_passes_40 : decode cX11_passes 40 = .ok (.aload_n 0, 1) := by decide +kernel
theorem dX11_passes_41 : decode cX11_passes 41 = .ok (.getfield 68, 3) := by decide +kernel
theorem dX11_passes_44 : decode cX11_passes 44 = .ok (.iload_n 3, 1) := by decide +kernel
theorem dX11_passes_45 : decode cX11_passes 45 = .ok (.iaload, 1) := by decide +kernel
theorem dX11_passes_46 : decode cX11_passes 46 = .ok (.ifCond .le 13, 3) := by decide +kernel
theorem dX11_passes_49 : decode cX11_passes 49 = .ok (.aload_n 0, 1) := by decide +kernel
theorem dX11_passes_50 : decode cX11_passes 50 = .ok (.getfield 68, 3) := by decide +kernel
theorem dX11_passes_53 : decode cX11_passes 53 = .ok (.iload_n 3, 1) := by decide +kernel
theorem dX11_passes_54 : decode cX11_passes 54 = .ok (.dup2, 1) := by decide +kernel
theorem dX11_passes_55 : decode cX11_passes 55 = .ok (.iaload, 1) := by decide +kernel
theorem dX11_passes_56 : decode cX11_passes 56 = .ok (.iconst 1, 1) := by decide +kernel
theorem dX11_passes_57 : decode cX11_passes 57 = .ok (.isub, 1) := by decide +kernel
theorem dX11_passes_58 : decode cX11_passes 58 = .ok (.iastore, 1) := by decide +kernel
theorem dX11_passes_59 : decode cX11_passes 59 = .ok (.aload_n 0, 1) := by decide +kernel
theorem dX11_passes_60 : decode cX11_passes 60 = .ok (.getfield 68, 3) := by decide +kernel
theorem dX11_passes_63 : decode cX11_passes 63 = .ok (.bipush 24, 2) := by decide +kernel
theorem dX11_passes_65 : decode cX11_passes 65 = .ok (.iload_n 2, 1) := by decide +kernel
theorem dX11_passes_66 : decode cX11_passes 66 = .ok (.iadd, 1) := by decide +kernel
theorem dX11_passes_67 : decode cX11_passes 67 = .ok (.iconst 0, 1) := by decide +kernel
theorem dX11_passes_68 : decode cX11_passes 68 = .ok (.iastore, 1) := by decide +kernel
theorem dX11_passes_69 : decode cX11_passes 69 = .ok (.aload_n 0, 1) := by decide +kernel
theorem dX11_passes_70 : decode cX11_passes 70 = .ok (.getfield 68, 3) := by decide +kernel
theorem dX11_passes_73 : decode cX11_passes 73 = .ok (.bipush 48, 2) := by decide +kernel
theorem dX11_passes_75 : decode cX11_passes 75 = .ok (.iload_n 2, 1) := by decide +kernel
theorem dX11_passes_76 : decode cX11_passes 76 = .ok (.iadd, 1) := by decide +kernel
theorem dX11_passes_77 : decode cX11_passes 77 = .ok (.dup2, 1) := by decide +kernel
theorem dX11_passes_78 : decode cX11_passes 78 = .ok (.iaload, 1) := by decide +kernel
theorem dX11_passes_79 : decode cX11_passes 79 = .ok (.iconst 1, 1) := by decide +kernel
theorem dX11_passes_80 : decode cX11_passes 80 = .ok (.iadd, 1) := by decide +kernel
theorem dX11_passes_81 : decode cX11_passes 81 = .ok (.iastore, 1) := by decide +kernel
theorem dX11_passes_82 : decode cX11_passes 82 = .ok (.iinc 2 1, 3) := by decide +kernel
theorem dX11_passes_85 : decode cX11_passes 85 = .ok (.goto (-73), 3) := by decide +kernel
theorem dX11_passes_88 : decode cX11_passes 88 = .ok (.iconst 0, 1) := by decide +kernel
theorem dX11_passes_89 : decode cX11_passes 89 = .ok (.istore_n 2, 1) := by decide +kernel
theorem dX11_passes_90 : decode cX11_passes 90 = .ok (.iload_n 2, 1) := by decide +kernel
theorem dX11_passes_91 : decode cX11_passes 91 = .ok (.iconst 3, 1) := by decide +kernel
theorem dX11_passes_92 : decode cX11_passes 92 = .ok (.if_icmp .ge 58, 3) := by decide +kernel
theorem dX11_passes_95 : decode cX11_passes 95 = .ok (.aload_n 0, 1) := by decide +kernel
theorem dX11_passes_96 : decode cX11_passes 96 = .ok (.getfield 68, 3) := by decide +kernel
theorem dX11_passes_99 : decode cX11_passes 99 = .ok (.bipush 56, 2) := by decide +kernel
theorem dX11_passes_101 : decode cX11_passes 101 = .ok (.iload_n 2, 1) := by decide +kernel
theorem dX11_passes_102 : decode cX11_passes 102 = .ok (.iadd, 1) := by decide +kernel
theorem dX11_passes_103 : decode cX11_passes 103 = .ok (.aload_n 0, 1) := by decide +kernel
theorem dX11_passes_104 : decode cX11_passes 104 = .ok (.getfield 68, 3) := by decide +kernel
theorem dX11_passes_107 : decode cX11_passes 107 = .ok (.bipush 56, 2) := by decide +kernel
theorem dX11_passes_109 : decode cX11_passes 109 = .ok (.iload_n 2, 1) := by decide +kernel
theorem dX11_passes_110 : decode cX11_passes 110 = .ok (.iadd, 1) := by decide +kernel
theorem dX11_passes_111 : decode cX11_passes 111 = .ok (.iaload, 1) := by decide +kernel
theorem dX11_passes_112 : decode cX11_passes 112 = .ok (.aload_n 0, 1) := by decide +kernel
theorem dX11_passes_113 : decode cX11_passes 113 = .ok (.getfield 162, 3) := by decide +kernel
theorem dX11_passes_116 : decode cX11_passes 116 = .ok (.iadd, 1) := by decide +kernel
theorem dX11_passes_117 : decode cX11_passes 117 = .ok (.sipush 200, 3) := by decide +kernel
theorem dX11_passes_120 : decode cX11_passes 120 = .ok (.if_icmp .le 9, 3) := by decide +kernel
theorem dX11_passes_123 : decode cX11_passes 123 = .ok (.sipush 200, 3) := by decide +kernel
theorem dX11_passes_126 : decode cX11_passes 126 = .ok (.goto 17, 3) := by decide +kernel
theorem dX11_passes_129 : decode cX11_passes 129 = .ok (.aload_n 0, 1) := by decide +kernel
theorem dX11_passes_130 : decode cX11_passes 130 = .ok (.getfield 68, 3) := by decide +kernel
theorem dX11_passes_133 : decode cX11_passes 133 = .ok (.bipush 56, 2) := by decide +kernel
theorem dX11_passes_135 : decode cX11_passes 135 = .ok (.iload_n 2, 1) := by decide +kernel
theorem dX11_passes_136 : decode cX11_passes 136 = .ok (.iadd, 1) := by decide +kernel
theorem dX11_passes_137 : decode cX11_passes 137 = .ok (.iaload, 1) := by decide +kernel
theorem dX11_passes_138 : decode cX11_passes 138 = .ok (.aload_n 0, 1) := by decide +kernel
theorem dX11_passes_139 : decode cX11_passes 139 = .ok (.getfield 162, 3) := by decide +kernel
theorem dX11_passes_142 : decode cX11_passes 142 = .ok (.iadd, 1) := by decide +kernel
theorem dX11_passes_143 : decode cX11_passes 143 = .ok (.iastore, 1) := by decide +kernel
theorem dX11_passes_144 : decode cX11_passes 144 = .ok (.iinc 2 1, 3) := by decide +kernel
theorem dX11_passes_147 : decode cX11_passes 147 = .ok (.goto (-57), 3) := by decide +kernel
theorem dX11_passes_150 : decode cX11_passes 150 = .ok (.aload_n 0, 1) := by decide +kernel
theorem dX11_passes_151 : decode cX11_passes 151 = .ok (.getfield 68, 3) := by decide +kernel
theorem dX11_passes_154 : decode cX11_passes 154 = .ok (.bipush 59, 2) := by decide +kernel
theorem dX11_passes_156 : decode cX11_passes 156 = .ok (.dup2, 1) := by decide +kernel
theorem dX11_passes_157 : decode cX11_passes 157 = .ok (.iaload, 1) := by decide +kernel
theorem dX11_passes_158 : decode cX11_passes 158 = .ok (.iconst 1, 1) := by decide +kernel
theorem dX11_passes_159 : decode cX11_passes 159 = .ok (.iadd, 1) := by decide +kernel
theorem dX11_passes_160 : decode cX11_passes 160 = .ok (.iastore, 1) := by decide +kernel
theorem dX11_passes_161 : decode cX11_passes 161 = .ok (.return_, 1) := by decide +kernel
theorem dX11_book_0 : decode cX11_book 0 = .ok (.aload_n 0, 1) := by decide +kernel
theorem dX11_book_1 : decode cX11_book 1 = .ok (.iconst 0, 1) := by decide +kernel
theorem dX11_book_2 : decode cX11_book 2 = .ok (.putfield 3, 3) := by decide +kernel
theorem dX11_book_5 : decode cX11_book 5 = .ok (.aload_n 0, 1) := by decide +kernel
theorem dX11_book_6 : decode cX11_book 6 = .ok (.iload_n 1, 1) := by decide +kernel
theorem dX11_book_7 : decode cX11_book 7 = .ok (.ifCond .lt 21, 3) := by decide +kernel
theorem dX11_book_10 : decode cX11_book 10 = .ok (.iload_n 1, 1) := by decide +kernel
theorem dX11_book_11 : decode cX11_book 11 = .ok (.aload_n 0, 1) := by decide +kernel
theorem dX11_book_12 : decode cX11_book 12 = .ok (.getfield 101, 3) := by decide +kernel
theorem dX11_book_15 : decode cX11_book 15 = .ok (.if_icmp .gt 13, 3) := by decide +kernel
theorem dX11_book_18 : decode cX11_book 18 = .ok (.iload_n 1, 1) := by decide +kernel
theorem dX11_book_19 : decode cX11_book 19 = .ok (.bipush 60, 2) := by decide +kernel
theorem dX11_book_21 : decode cX11_book 21 = .ok (.if_icmp .gt 7, 3) := by decide +kernel
theorem dX11_book_24 : decode cX11_book 24 = .ok (.iconst 1, 1) := by decide +kernel
theorem dX11_book_25 : decode cX11_book 25 = .ok (.goto 4, 3) := by decide +kernel
theorem dX11_book_28 : decode cX11_book 28 = .ok (.iconst 0, 1) := by decide +kernel
theorem dX11_book_29 : decode cX11_book 29 = .ok (.iconst 1, 1) := by decide +kernel
theorem dX11_book_30 : decode cX11_book 30 = .ok (.iconst 1, 1) := by decide +kernel
theorem dX11_book_31 : decode cX11_book 31 = .ok (.invokevirtual 198, 3) := by decide +kernel
theorem dX11_book_34 : decode cX11_book 34 = .ok (.ifCond .ne 5, 3) := by decide +kernel
theorem dX11_book_37 : decode cX11_book 37 = .ok (.iconst 0, 1) := by decide +kernel
theorem dX11_book_38 : decode cX11_book 38 = .ok (.ireturn, 1) := by decide +kernel
theorem dX11_book_39 : decode cX11_book 39 = .ok (.aload_n 0, 1) := by decide +kernel
theorem dX11_book_40 : decode cX11_book 40 = .ok (.iload_n 1, 1) := by decide +kernel
theorem dX11_book_41 : decode cX11_book 41 = .ok (.invokevirtual 202, 3) := by decide +kernel
theorem dX11_book_44 : decode cX11_book 44 = .ok (.iconst 0, 1) := by decide +kernel
theorem dX11_book_45 : decode cX11_book 45 = .ok (.istore_n 2, 1) := by decide +kernel
theorem dX11_book_46 : decode cX11_book 46 = .ok (.iload_n 2, 1) := by decide +kernel
theorem dX11_book_47 : decode cX11_book 47 = .ok (.iconst 3, 1) := by decide +kernel
theorem dX11_book_48 : decode cX11_book 48 = .ok (.if_icmp .ge 16, 3) := by decide +kernel
theorem dX11_book_51 : decode cX11_book 51 = .ok (.aload_n 0, 1) := by decide +kernel
theorem dX11_book_52 : decode cX11_book 52 = .ok (.getfield 74, 3) := by decide +kernel
theorem dX11_book_55 : decode cX11_book 55 = .ok (.iload_n 2, 1) := by decide +kernel
theorem dX11_book_56 : decode cX11_book 56 = .ok (.iconst (-1), 1) := by decide +kernel
theorem dX11_book_57 : decode cX11_book 57 = .ok (.iastore, 1) := by decide +kernel
theorem dX11_book_58 : decode cX11_book 58 = .ok (.iinc 2 1, 3) := by decide +kernel
theorem dX11_book_61 : decode cX11_book 61 = .ok (.goto (-15), 3) := by decide +kernel
theorem dX11_book_64 : decode cX11_book 64 = .ok (.iconst 0, 1) := by decide +kernel
theorem dX11_book_65 : decode cX11_book 65 = .ok (.istore_n 2, 1) := by decide +kernel
theorem dX11_book_66 : decode cX11_book 66 = .ok (.aload_n 0, 1) := by decide +kernel
theorem dX11_book_67 : decode cX11_book 67 = .ok (.invokevirtual 133, 3) := by decide +kernel
theorem dX11_book_70 : decode cX11_book 70 = .ok (.ifCond .eq 87, 3) := by decide +kernel
theorem dX11_book_73 : decode cX11_book 73 = .ok (.aload_n 0, 1) := by decide +kernel
theorem dX11_book_74 : decode cX11_book 74 = .ok (.invokevirtual 206, 3) := by decide +kernel
theorem dX11_book_77 : decode cX11_book 77 = .ok (.ifCond .eq 80, 3) := by decide +kernel
theorem dX11_book_80 : decode cX11_book 80 = .ok (.aload_n 0, 1) := by decide +kernel
theorem dX11_book_81 : decode cX11_book 81 = .ok (.getfield 110, 3) := by decide +kernel
theorem dX11_book_84 : decode cX11_book 84 = .ok (.istore_n 3, 1) := by decide +kernel
theorem dX11_book_85 : decode cX11_book 85 = .ok (.aload_n 0, 1) := by decide +kernel
theorem dX11_book_86 : decode cX11_book 86 = .ok (.iconst 0, 1) := by decide +kernel
theorem dX11_book_87 : decode cX11_book 87 = .ok (.iconst 2, 1) := by decide +kernel
theorem dX11_book_88 : decode cX11_book 88 = .ok (.invokevirtual 194, 3) := by decide +kernel
theorem dX11_book_91 : decode cX11_book 91 = .ok (.istore 4, 2) := by decide +kernel
theorem dX11_book_93 : decode cX11_book 93 = .ok (.aload_n 0, 1) := by decide +kernel
theorem dX11_book_94 : decode cX11_book 94 = .ok (.invokevirtual 133, 3) := by decide +kernel
theorem dX11_book_97 : decode cX11_book 97 = .ok (.ifCond .eq 20, 3) := by decide +kernel
theorem dX11_book_100 : decode cX11_book 100 = .ok (.aload_n 0, 1) := by decide +kernel
theorem dX11_book_101 : decode cX11_book 101 = .ok (.getfield 74, 3) := by decide +kernel
theorem dX11_book_104 : decode cX11_book 104 = .ok (.iload 4, 2) := by decide +kernel
theorem dX11_book_106 : decode cX11_book 106 = .ok (.iaload, 1) := by decide +kernel
theorem dX11_book_107 : decode cX11_book 107 = .ok (.iconst (-1), 1) := by decide +kernel
theorem dX11_book_108 : decode cX11_book 108 = .ok (.if_icmp .eq 9, 3) := by decide +kernel
theorem dX11_book_111 : decode cX11_book 111 = .ok (.aload_n 0, 1) := by decide +kernel
theorem dX11_book_112 : decode cX11_book 112 = .ok (.iconst 2, 1) := by decide +kernel
theorem dX11_book_113 : decode cX11_book 113 = .ok (.iload_n 3, 1) := by decide +kernel
theorem dX11_book_114 : decode cX11_book 114 = .ok (.invokevirtual 140, 3) := by decide +kernel
theorem dX11_book_117 : decode cX11_book 117 = .ok (.aload_n 0, 1) := by decide +kernel
theorem dX11_book_118 : decode cX11_book 118 = .ok (.iconst 0, 1) := by decide +kernel
theorem dX11_book_119 : decode cX11_book 119 = .ok (.bipush 9, 2) := by decide +kernel
theorem dX11_book_121 : decode cX11_book 121 = .ok (.invokevirtual 194, 3) := by decide +kernel
theorem dX11_book_124 : decode cX11_book 124 = .ok (.istore 5, 2) := by decide +kernel
theorem dX11_book_126 : decode cX11_book 126 = .ok (.aload_n 0, 1) := by decide +kernel
theorem dX11_book_127 : decode cX11_book 127 = .ok (.bipush 59, 2) := by decide +kernel
theorem dX11_book_129 : decode cX11_book 129 = .ok (.invokevirtual 221, 3) := by decide +kernel
theorem dX11_book_132 : decode cX11_book 132 = .ok (.aload_n 0, 1) := by decide +kernel
theorem dX11_book_133 : decode cX11_book 133 = .ok (.invokevirtual 133, 3) := by decide +kernel
theorem dX11_book_136 : decode cX11_book 136 = .ok (.ifCond .ne 6, 3) := by decide +kernel
theorem dX11_book_139 : decode cX11_book 139 = .ok (.goto 18, 3) := by decide +kernel
theorem dX11_book_142 : decode cX11_book 142 = .ok (.aload_n 0, 1) := by decide +kernel
theorem dX11_book_143 : decode cX11_book 143 = .ok (.getfield 74, 3) := by decide +kernel
theorem dX11_book_146 : decode cX11_book 146 = .ok (.iload 4, 2) := by decide +kernel
theorem dX11_book_148 : decode cX11_book 148 = .ok (.iload 5, 2) := by decide +kernel
theorem dX11_book_150 : decode cX11_book 150 = .ok (.iastore, 1) := by decide +kernel
theorem dX11_book_151 : decode cX11_book 151 = .ok (.iinc 2 1, 3) := by decide +kernel
theorem dX11_book_154 : decode cX11_book 154 = .ok (.goto (-88), 3) := by decide +kernel
theorem dX11_book_157 : decode cX11_book 157 = .ok (.aload_n 0, 1) := by decide +kernel
theorem dX11_book_158 : decode cX11_book 158 = .ok (.iload_n 2, 1) := by decide +kernel
theorem dX11_book_159 : decode cX11_book 159 = .ok (.invokevirtual 224, 3) := by decide +kernel
theorem dX11_book_162 : decode cX11_book 162 = .ok (.istore_n 3, 1) := by decide +kernel
theorem dX11_book_163 : decode cX11_book 163 = .ok (.aload_n 0, 1) := by decide +kernel
theorem dX11_book_164 : decode cX11_book 164 = .ok (.getfield 104, 3) := by decide +kernel
theorem dX11_book_167 : decode cX11_book 167 = .ok (.iconst (-1), 1) := by decide +kernel
theorem dX11_book_168 : decode cX11_book 168 = .ok (.if_icmp .eq 5, 3) := by decide +kernel
theorem dX11_book_171 : decode cX11_book 171 = .ok (.iload_n 3, 1) := by decide +kernel
theorem dX11_book_172 : decode cX11_book 172 = .ok (.ireturn, 1) := by decide +kernel
theorem dX11_book_173 : decode cX11_book 173 = .ok (.aload_n 0, 1) := by decide +kernel
theorem dX11_book_174 : decode cX11_book 174 = .ok (.iload_n 2, 1) := by decide +kernel
theorem dX11_book_175 : decode cX11_book 175 = .ok (.putfield 172, 3) := by decide +kernel
theorem dX11_book_178 : decode cX11_book 178 = .ok (.aload_n 0, 1) := by decide +kernel
theorem dX11_book_179 : decode cX11_book 179 = .ok (.aload_n 0, 1) := by decide +kernel
theorem dX11_book_180 : decode cX11_book 180 = .ok (.getfield 74, 3) := by decide +kernel
theorem dX11_book_183 : decode cX11_book 183 = .ok (.aload_n 0, 1) := by decide +kernel
theorem dX11_book_184 : decode cX11_book 184 = .ok (.getfield 77, 3) := by decide +kernel
theorem dX11_book_187 : decode cX11_book 187 = .ok (.iconst 3, 1) := by decide +kernel
theorem dX11_book_188 : decode cX11_book 188 = .ok (.invokevirtual 165, 3) := by decide +kernel
theorem dX11_book_191 : decode cX11_book 191 = .ok (.iload_n 3, 1) := by decide +kernel
theorem dX11_book_192 : decode cX11_book 192 = .ok (.ireturn, 1) := by decide +kernel
theorem dX11_undo_0 : decode cX11_undo 0 = .ok (.aload_n 0, 1) := by decide +kernel
theorem dX11_undo_1 : decode cX11_undo 1 = .ok (.iconst 0, 1) := by decide +kernel
theorem dX11_undo_2 : decode cX11_undo 2 = .ok (.putfield 3, 3) := by decide +kernel
theorem dX11_undo_5 : decode cX11_undo 5 = .ok (.aload_n 0, 1) := by decide +kernel
theorem dX11_undo_6 : decode cX11_undo 6 = .ok (.getfield 175, 3) := by decide +kernel
theorem dX11_undo_9 : decode cX11_undo 9 = .ok (.ifCond .ne 5, 3) := by decide +kernel
theorem dX11_undo_12 : decode cX11_undo 12 = .ok (.iconst (-1), 1) := by decide +kernel
theorem dX11_undo_13 : decode cX11_undo 13 = .ok (.ireturn, 1) := by decide +kernel
theorem dX11_undo_14 : decode cX11_undo 14 = .ok (.aload_n 0, 1) := by decide +kernel
theorem dX11_undo_15 : decode cX11_undo 15 = .ok (.dup, 1) := by decide +kernel
theorem dX11_undo_16 : decode cX11_undo 16 = .ok (.getfield 175, 3) := by decide +kernel
theorem dX11_undo_19 : decode cX11_undo 19 = .ok (.iconst 1, 1) := by decide +kernel
theorem dX11_undo_20 : decode cX11_undo 20 = .ok (.isub, 1) := by decide +kernel
theorem dX11_undo_21 : decode cX11_undo 21 = .ok (.putfield 175, 3) := by decide +kernel
theorem dX11_undo_24 : decode cX11_undo 24 = .ok (.iconst 0, 1) := by decide +kernel
theorem dX11_undo_25 : decode cX11_undo 25 = .ok (.istore_n 1, 1) := by decide +kernel
theorem dX11_undo_26 : decode cX11_undo 26 = .ok (.iload_n 1, 1) := by decide +kernel
theorem dX11_undo_27 : decode cX11_undo 27 = .ok (.bipush 60, 2) := by decide +kernel
theorem dX11_undo_29 : decode cX11_undo 29 = .ok (.if_icmp .ge 29, 3) := by decide +kernel
theorem dX11_undo_32 : decode cX11_undo 32 = .ok (.aload_n 0, 1) := by decide +kernel
theorem dX11_undo_33 : decode cX11_undo 33 = .ok (.getfield 65, 3) := by decide +kernel
theorem dX11_undo_36 : decode cX11_undo 36 = .ok (.iload_n 1, 1) := by decide +kernel
theorem dX11_undo_37 : decode cX11_undo 37 = .ok (.aload_n 0, 1) := by decide +kernel
theorem dX11_undo_38 : decode cX11_undo 38 = .ok (.getfield 71, 3) := by decide +kernel
theorem dX11_undo_41 : decode cX11_undo 41 = .ok (.bipush 60, 2) := by decide +kernel
theorem dX11_undo_43 : decode cX11_undo 43 = .ok (.aload_n 0, 1) := by decide +kernel
theorem dX11_undo_44 : decode cX11_undo 44 = .ok (.getfield 175, 3) := by decide +kernel
theorem dX11_undo_47 : decode cX11_undo 47 = .ok (.imul, 1) := by decide +kernel
theorem dX11_undo_48 : decode cX11_undo 48 = .ok (.iload_n 1, 1) := by decide +kernel
theorem dX11_undo_49 : decode cX11_undo 49 = .ok (.iadd, 1) := by decide +kernel
theorem dX11_undo_50 : decode cX11_undo 50 = .ok (.iaload, 1) := by decide +kernel
theorem dX11_undo_51 : decode cX11_undo 51 = .ok (.iastore, 1) := by decide +kernel
theorem dX11_undo_52 : decode cX11_undo 52 = .ok (.iinc 1 1, 3) := by decide +kernel
theorem dX11_undo_55 : decode cX11_undo 55 = .ok (.goto (-29), 3) := by decide +kernel
theorem dX11_undo_58 : decode cX11_undo 58 = .ok (.aload_n 0, 1) := by decide +kernel
theorem dX11_undo_59 : decode cX11_undo 59 = .ok (.iconst 0, 1) := by decide +kernel
theorem dX11_undo_60 : decode cX11_undo 60 = .ok (.putfield 181, 3) := by decide +kernel
theorem dX11_undo_63 : decode cX11_undo 63 = .ok (.aload_n 0, 1) := by decide +kernel
theorem dX11_undo_64 : decode cX11_undo 64 = .ok (.getfield 175, 3) := by decide +kernel
theorem dX11_undo_67 : decode cX11_undo 67 = .ok (.ireturn, 1) := by decide +kernel
theorem dX11_many_0 : decode cX11_many 0 = .ok (.iconst 0, 1) := by decide +kernel
theorem dX11_many_1 : decode cX11_many 1 = .ok (.istore_n 3, 1) := by decide +kernel
theorem dX11_many_2 : decode cX11_many 2 = .ok (.iconst 0, 1) := by decide +kernel
theorem dX11_many_3 : decode cX11_many 3 = .ok (.istore 4, 2) := by decide +kernel
theorem dX11_many_5 : decode cX11_many 5 = .ok (.iload 4, 2) := by decide +kernel
theorem dX11_many_7 : decode cX11_many 7 = .ok (.aload_n 0, 1) := by decide +kernel
theorem dX11_many_8 : decode cX11_many 8 = .ok (.getfield 159, 3) := by decide +kernel
theorem dX11_many_11 : decode cX11_many 11 = .ok (.if_icmp .ge 30, 3) := by decide +kernel
theorem dX11_many_14 : decode cX11_many 14 = .ok (.iload_n 3, 1) := by decide +kernel
theorem dX11_many_15 : decode cX11_many 15 = .ok (.aload_n 0, 1) := by decide +kernel
theorem dX11_many_16 : decode cX11_many 16 = .ok (.getfield 68, 3) := by decide +kernel
theorem dX11_many_19 : decode cX11_many 19 = .ok (.iload_n 1, 1) := by decide +kernel
theorem dX11_many_20 : decode cX11_many 20 = .ok (.iload 4, 2) := by decide +kernel
theorem dX11_many_22 : decode cX11_many 22 = .ok (.iadd, 1) := by decide +kernel
theorem dX11_many_23 : decode cX11_many 23 = .ok (.iaload, 1) := by decide +kernel
theorem dX11_many_24 : decode cX11_many 24 = .ok (.iload_n 2, 1) := by decide +kernel
theorem dX11_many_25 : decode cX11_many 25 = .ok (.if_icmp .ne 7, 3) := by decide +kernel
theorem dX11_many_28 : decode cX11_many 28 = .ok (.iconst 0, 1) := by decide +kernel
theorem dX11_many_29 : decode cX11_many 29 = .ok (.goto 4, 3) := by decide +kernel
theorem dX11_many_32 : decode cX11_many 32 = .ok (.iconst 1, 1) := by decide +kernel
theorem dX11_many_33 : decode cX11_many 33 = .ok (.iadd, 1) := by decide +kernel
theorem dX11_many_34 : decode cX11_many 34 = .ok (.istore_n 3, 1) := by decide +kernel
theorem dX11_many_35 : decode cX11_many 35 = .ok (.iinc 4 1, 3) := by decide +kernel
theorem dX11_many_38 : decode cX11_many 38 = .ok (.goto (-33), 3) := by decide +kernel
theorem dX11_many_41 : decode cX11_many 41 = .ok (.iload_n 3, 1) := by decide +kernel
theorem dX11_many_42 : decode cX11_many 42 = .ok (.ireturn, 1) := by decide +kernel
theorem dX11_told_0 : decode cX11_told 0 = .ok (.aload_n 0, 1) := by decide +kernel
theorem dX11_told_1 : decode cX11_told 1 = .ok (.iconst 0, 1) := by decide +kernel
theorem dX11_told_2 : decode cX11_told 2 = .ok (.putfield 3, 3) := by decide +kernel
theorem dX11_told_5 : decode cX11_told 5 = .ok (.aload_n 0, 1) := by decide +kernel
theorem dX11_told_6 : decode cX11_told 6 = .ok (.iload_n 1, 1) := by decide +kernel
theorem dX11_told_7 : decode cX11_told 7 = .ok (.iconst 0, 1) := by decide +kernel
theorem dX11_told_8 : decode cX11_told 8 = .ok (.bipush 9, 2) := by decide +kernel
theorem dX11_told_10 : decode cX11_told 10 = .ok (.invokestatic 376, 3) := by decide +kernel
theorem dX11_told_13 : decode cX11_told 13 = .ok (.iconst 1, 1) := by decide +kernel
theorem dX11_told_14 : decode cX11_told 14 = .ok (.iconst 1, 1) := by decide +kernel
theorem dX11_told_15 : decode cX11_told 15 = .ok (.invokevirtual 198, 3) := by decide +kernel
theorem dX11_told_18 : decode cX11_told 18 = .ok (.ifCond .ne 5, 3) := by decide +kernel
theorem dX11_told_21 : decode cX11_told 21 = .ok (.iconst 0, 1) := by decide +kernel
theorem dX11_told_22 : decode cX11_told 22 = .ok (.ireturn, 1) := by decide +kernel
theorem dX11_told_23 : decode cX11_told 23 = .ok (.aload_n 0, 1) := by decide +kernel
theorem dX11_told_24 : decode cX11_told 24 = .ok (.invokevirtual 308, 3) := by decide +kernel
theorem dX11_told_27 : decode cX11_told 27 = .ok (.iload_n 1, 1) := by decide +kernel
theorem dX11_told_28 : decode cX11_told 28 = .ok (.iconst 3, 1) := by decide +kernel
theorem dX11_told_29 : decode cX11_told 29 = .ok (.if_icmp .ge 34, 3) := by decide +kernel
theorem dX11_told_32 : decode cX11_told 32 = .ok (.iload_n 1, 1) := by decide +kernel
theorem dX11_told_33 : decode cX11_told 33 = .ok (.ifCond .ne 10, 3) := by decide +kernel
theorem dX11_told_36 : decode cX11_told 36 = .ok (.aload_n 0, 1) := by decide +kernel
theorem dX11_told_37 : decode cX11_told 37 = .ok (.getfield 156, 3) := by decide +kernel
theorem dX11_told_40 : decode cX11_told 40 = .ok (.goto 22, 3) := by decide +kernel
theorem dX11_told_43 : decode cX11_told 43 = .ok (.iload_n 1, 1) := by decide +kernel
theorem dX11_told_44 : decode cX11_told 44 = .ok (.iconst 1, 1) := by decide +kernel
theorem dX11_told_45 : decode cX11_told 45 = .ok (.if_icmp .ne 10, 3) := by decide +kernel
theorem dX11_told_48 : decode cX11_told 48 = .ok (.aload_n 0, 1) := by decide +kernel
theorem dX11_told_49 : decode cX11_told 49 = .ok (.getfield 159, 3) := by decide +kernel
theorem dX11_told_52 : decode cX11_told 52 = .ok (.goto 10, 3) := by decide +kernel
theorem dX11_told_55 : decode cX11_told 55 = .ok (.aload_n 0, 1) := by decide +kernel
theorem dX11_told_56 : decode cX11_told 56 = .ok (.getfield 68, 3) := by decide +kernel
theorem dX11_told_59 : decode cX11_told 59 = .ok (.bipush 59, 2) := by decide +kernel
theorem dX11_told_61 : decode cX11_told 61 = .ok (.iaload, 1) := by decide +kernel
theorem dX11_told_62 : decode cX11_told 62 = .ok (.ireturn, 1) := by decide +kernel
theorem dX11_told_63 : decode cX11_told 63 = .ok (.iload_n 1, 1) := by decide +kernel
theorem dX11_told_64 : decode cX11_told 64 = .ok (.bipush 6, 2) := by decide +kernel
theorem dX11_told_66 : decode cX11_told 66 = .ok (.if_icmp .ge 38, 3) := by decide +kernel
theorem dX11_told_69 : decode cX11_told 69 = .ok (.iload_n 1, 1) := by decide +kernel
theorem dX11_told_70 : decode cX11_told 70 = .ok (.iconst 3, 1) := by decide +kernel
theorem dX11_told_71 : decode cX11_told 71 = .ok (.if_icmp .ne 10, 3) := by decide +kernel
theorem dX11_told_74 : decode cX11_told 74 = .ok (.aload_n 0, 1) := by decide +kernel
theorem dX11_told_75 : decode cX11_told 75 = .ok (.invokevirtual 379, 3) := by decide +kernel
theorem dX11_told_78 : decode cX11_told 78 = .ok (.goto 25, 3) := by decide +kernel
theorem dX11_told_81 : decode cX11_told 81 = .ok (.iload_n 1, 1) := by decide +kernel
theorem dX11_told_82 : decode cX11_told 82 = .ok (.iconst 4, 1) := by decide +kernel
theorem dX11_told_83 : decode cX11_told 83 = .ok (.if_icmp .ne 13, 3) := by decide +kernel
theorem dX11_told_86 : decode cX11_told 86 = .ok (.aload_n 0, 1) := by decide +kernel
theorem dX11_told_87 : decode cX11_told 87 = .ok (.bipush 32, 2) := by decide +kernel
theorem dX11_told_89 : decode cX11_told 89 = .ok (.iconst (-1), 1) := by decide +kernel
theorem dX11_told_90 : decode cX11_told 90 = .ok (.invokevirtual 382, 3) := by decide +kernel
theorem dX11_told_93 : decode cX11_told 93 = .ok (.goto 10, 3) := by decide +kernel
theorem dX11_told_96 : decode cX11_told 96 = .ok (.aload_n 0, 1) := by decide +kernel
theorem dX11_told_97 : decode cX11_told 97 = .ok (.bipush 24, 2) := by decide +kernel
theorem dX11_told_99 : decode cX11_told 99 = .ok (.iconst 0, 1) := by decide +kernel
theorem dX11_told_100 : decode cX11_told 100 = .ok (.invokevirtual 382, 3) := by decide +kernel
theorem dX11_told_103 : decode cX11_told 103 = .ok (.ireturn, 1) := by decide +kernel
theorem dX11_told_104 : decode cX11_told 104 = .ok (.iload_n 1, 1) := by decide +kernel
theorem dX11_told_105 : decode cX11_told 105 = .ok (.bipush 6, 2) := by decide +kernel
theorem dX11_told_107 : decode cX11_told 107 = .ok (.if_icmp .ne 10, 3) := by decide +kernel
theorem dX11_told_110 : decode cX11_told 110 = .ok (.aload_n 0, 1) := by decide +kernel
theorem dX11_told_111 : decode cX11_told 111 = .ok (.getfield 172, 3) := by decide +kernel
theorem dX11_told_114 : decode cX11_told 114 = .ok (.goto 33, 3) := by decide +kernel
theorem dX11_told_117 : decode cX11_told 117 = .ok (.iload_n 1, 1) := by decide +kernel
theorem dX11_told_118 : decode cX11_told 118 = .ok (.bipush 7, 2) := by decide +kernel
theorem dX11_told_120 : decode cX11_told 120 = .ok (.if_icmp .ne 10, 3) := by decide +kernel
theorem dX11_told_123 : decode cX11_told 123 = .ok (.aload_n 0, 1) := by decide +kernel
theorem dX11_told_124 : decode cX11_told 124 = .ok (.getfield 181, 3) := by decide +kernel
theorem dX11_told_127 : decode cX11_told 127 = .ok (.goto 20, 3) := by decide +kernel
theorem dX11_told_130 : decode cX11_told 130 = .ok (.iload_n 1, 1) := by decide +kernel
theorem dX11_told_131 : decode cX11_told 131 = .ok (.bipush 8, 2) := by decide +kernel
theorem dX11_told_133 : decode cX11_told 133 = .ok (.if_icmp .ne 10, 3) := by decide +kernel
theorem dX11_told_136 : decode cX11_told 136 = .ok (.aload_n 0, 1) := by decide +kernel
theorem dX11_told_137 : decode cX11_told 137 = .ok (.invokevirtual 385, 3) := by decide +kernel
theorem dX11_told_140 : decode cX11_told 140 = .ok (.goto 7, 3) := by decide +kernel
theorem dX11_told_143 : decode cX11_told 143 = .ok (.aload_n 0, 1) := by decide +kernel
theorem dX11_told_144 : decode cX11_told 144 = .ok (.getfield 162, 3) := by decide +kernel
theorem dX11_told_147 : decode cX11_told 147 = .ok (.ireturn, 1) := by decide +kernel
theorem dX11_isStreet_0 : decode cX11_isStreet 0 = .ok (.aload_n 0, 1) := by decide +kernel
theorem dX11_isStreet_1 : decode cX11_isStreet 1 = .ok (.iload_n 1, 1) := by decide +kernel
theorem dX11_isStreet_2 : decode cX11_isStreet 2 = .ok (.iconst 0, 1) := by decide +kernel
theorem dX11_isStreet_3 : decode cX11_isStreet 3 = .ok (.aload_n 0, 1) := by decide +kernel
theorem dX11_isStreet_4 : decode cX11_isStreet 4 = .ok (.getfield 156, 3) := by decide +kernel
theorem dX11_isStreet_7 : decode cX11_isStreet 7 = .ok (.iconst 1, 1) := by decide +kernel
theorem dX11_isStreet_8 : decode cX11_isStreet 8 = .ok (.isub, 1) := by decide +kernel
theorem dX11_isStreet_9 : decode cX11_isStreet 9 = .ok (.invokestatic 376, 3) := by decide +kernel
theorem dX11_isStreet_12 : decode cX11_isStreet 12 = .ok (.iload_n 2, 1) := by decide +kernel
theorem dX11_isStreet_13 : decode cX11_isStreet 13 = .ok (.iconst 0, 1) := by decide +kernel
theorem dX11_isStreet_14 : decode cX11_isStreet 14 = .ok (.invokevirtual 198, 3) := by decide +kernel
theorem dX11_isStreet_17 : decode cX11_isStreet 17 = .ok (.ireturn, 1) := by decide +kernel
theorem dX11_isPerson_0 : decode cX11_isPerson 0 = .ok (.aload_n 0, 1) := by decide +kernel
theorem dX11_isPerson_1 : decode cX11_isPerson 1 = .ok (.iload_n 1, 1) := by decide +kernel
theorem dX11_isPerson_2 : decode cX11_isPerson 2 = .ok (.iconst 0, 1) := by decide +kernel
theorem dX11_isPerson_3 : decode cX11_isPerson 3 = .ok (.aload_n 0, 1) := by decide +kernel
theorem dX11_isPerson_4 : decode cX11_isPerson 4 = .ok (.getfield 159, 3) := by decide +kernel
theorem dX11_isPerson_7 : decode cX11_isPerson 7 = .ok (.iconst 1, 1) := by decide +kernel
theorem dX11_isPerson_8 : decode cX11_isPerson 8 = .ok (.isub, 1) := by decide +kernel
theorem dX11_isPerson_9 : decode cX11_isPerson 9 = .ok (.invokestatic 376, 3) := by decide +kernel
theorem dX11_isPerson_12 : decode cX11_isPerson 12 = .ok (.iload_n 2, 1) := by decide +kernel
theorem dX11_isPerson_13 : decode cX11_isPerson 13 = .ok (.iconst 0, 1) := by decide +kernel
theorem dX11_isPerson_14 : decode cX11_isPerson 14 = .ok (.invokevirtual 198, 3) := by decide +kernel
theorem dX11_isPerson_17 : decode cX11_isPerson 17 = .ok (.ireturn, 1) := by decide +kernel
theorem dX11_street_0 : decode cX11_street 0 = .ok (.aload_n 0, 1) := by decide +kernel
theorem dX11_street_1 : decode cX11_street 1 = .ok (.iconst 0, 1) := by decide +kernel
theorem dX11_street_2 : decode cX11_street 2 = .ok (.putfield 3, 3) := by decide +kernel
theorem dX11_street_5 : decode cX11_street 5 = .ok (.aload_n 0, 1) := by decide +kernel
theorem dX11_street_6 : decode cX11_street 6 = .ok (.iload_n 1, 1) := by decide +kernel
theorem dX11_street_7 : decode cX11_street 7 = .ok (.iconst 1, 1) := by decide +kernel
theorem dX11_street_8 : decode cX11_street 8 = .ok (.invokevirtual 388, 3) := by decide +kernel
theorem dX11_street_11 : decode cX11_street 11 = .ok (.ifCond .eq 18, 3) := by decide +kernel
theorem dX11_street_14 : decode cX11_street 14 = .ok (.aload_n 0, 1) := by decide +kernel
theorem dX11_street_15 : decode cX11_street 15 = .ok (.iload_n 2, 1) := by decide +kernel
theorem dX11_street_16 : decode cX11_street 16 = .ok (.iconst 0, 1) := by decide +kernel
theorem dX11_street_17 : decode cX11_street 17 = .ok (.iconst 3, 1) := by decide +kernel
theorem dX11_street_18 : decode cX11_street 18 = .ok (.invokestatic 376, 3) := by decide +kernel
theorem dX11_street_21 : decode cX11_street 21 = .ok (.iconst 2, 1) := by decide +kernel
theorem dX11_street_22 : decode cX11_street 22 = .ok (.iconst 1, 1) := by decide +kernel
theorem dX11_street_23 : decode cX11_street 23 = .ok (.invokevirtual 198, 3) := by decide +kernel
theorem dX11_street_26 : decode cX11_street 26 = .ok (.ifCond .ne 5, 3) := by decide +kernel
theorem dX11_street_29 : decode cX11_street 29 = .ok (.iconst 0, 1) := by decide +kernel
theorem dX11_street_30 : decode cX11_street 30 = .ok (.ireturn, 1) := by decide +kernel
theorem dX11_street_31 : decode cX11_street 31 = .ok (.aload_n 0, 1) := by decide +kernel
theorem dX11_street_32 : decode cX11_street 32 = .ok (.invokevirtual 308, 3) := by decide +kernel
theorem dX11_street_35 : decode cX11_street 35 = .ok (.iload_n 2, 1) := by decide +kernel
theorem dX11_street_36 : decode cX11_street 36 = .ok (.iconst 2, 1) := by decide +kernel
theorem dX11_street_37 : decode cX11_street 37 = .ok (.if_icmp .ge 26, 3) := by decide +kernel
theorem dX11_street_40 : decode cX11_street 40 = .ok (.iload_n 2, 1) := by decide +kernel
theorem dX11_street_41 : decode cX11_street 41 = .ok (.ifCond .ne 11, 3) := by decide +kernel
theorem dX11_street_44 : decode cX11_street 44 = .ok (.aload_n 0, 1) := by decide +kernel
theorem dX11_street_45 : decode cX11_street 45 = .ok (.iload_n 1, 1) := by decide +kernel
theorem dX11_street_46 : decode cX11_street 46 = .ok (.invokevirtual 330, 3) := by decide +kernel
theorem dX11_street_49 : decode cX11_street 49 = .ok (.goto 13, 3) := by decide +kernel
theorem dX11_street_52 : decode cX11_street 52 = .ok (.aload_n 0, 1) := by decide +kernel
theorem dX11_street_53 : decode cX11_street 53 = .ok (.getfield 35, 3) := by decide +kernel
theorem dX11_street_56 : decode cX11_street 56 = .ok (.iconst 4, 1) := by decide +kernel
theorem dX11_street_57 : decode cX11_street 57 = .ok (.iload_n 1, 1) := by decide +kernel
theorem dX11_street_58 : decode cX11_street 58 = .ok (.imul, 1) := by decide +kernel
theorem dX11_street_59 : decode cX11_street 59 = .ok (.iconst 3, 1) := by decide +kernel
theorem dX11_street_60 : decode cX11_street 60 = .ok (.iadd, 1) := by decide +kernel
theorem dX11_street_61 : decode cX11_street 61 = .ok (.iaload, 1) := by decide +kernel
theorem dX11_street_62 : decode cX11_street 62 = .ok (.ireturn, 1) := by decide +kernel
theorem dX11_street_63 : decode cX11_street 63 = .ok (.iconst 0, 1) := by decide +kernel
theorem dX11_street_64 : decode cX11_street 64 = .ok (.istore_n 3, 1) := by decide +kernel
theorem dX11_street_65 : decode cX11_street 65 = .ok (.iconst 0, 1) := by decide +kernel
theorem dX11_street_66 : decode cX11_street 66 = .ok (.istore 4, 2) := by decide +kernel
theorem dX11_street_68 : decode cX11_street 68 = .ok (.iload 4, 2) := by decide +kernel
theorem dX11_street_70 : decode cX11_street 70 = .ok (.aload_n 0, 1) := by decide +kernel
theorem dX11_street_71 : decode cX11_street 71 = .ok (.getfield 159, 3) := by decide +kernel
theorem dX11_street_74 : decode cX11_street 74 = .ok (.if_icmp .ge 46, 3) := by decide +kernel
theorem dX11_street_77 : decode cX11_street 77 = .ok (.iload_n 3, 1) := by decide +kernel
theorem dX11_street_78 : decode cX11_street 78 = .ok (.iload_n 2, 1) := by decide +kernel
theorem dX11_street_79 : decode cX11_street 79 = .ok (.iconst 2, 1) := by decide +kernel
theorem dX11_street_80 : decode cX11_street 80 = .ok (.if_icmp .ne 16, 3) := by decide +kernel
theorem dX11_street_83 : decode cX11_street 83 = .ok (.aload_n 0, 1) := by decide +kernel
theorem dX11_street_84 : decode cX11_street 84 = .ok (.aload_n 0, 1) := by decide +kernel
theorem dX11_street_85 : decode cX11_street 85 = .ok (.iload 4, 2) := by decide +kernel
theorem dX11_street_87 : decode cX11_street 87 = .ok (.invokevirtual 339, 3) := by decide +kernel
theorem dX11_street_90 : decode cX11_street 90 = .ok (.invokevirtual 342, 3) := by decide +kernel
theorem dX11_street_93 : decode cX11_street 93 = .ok (.goto 10, 3) := by decide +kernel
theorem dX11_street_96 : decode cX11_street 96 = .ok (.aload_n 0, 1) := by decide +kernel
theorem dX11_street_97 : decode cX11_street 97 = .ok (.getfield 38, 3) := by decide +kernel
theorem dX11_street_100 : decode cX11_street 100 = .ok (.iload 4, 2) := by decide +kernel
theorem dX11_street_102 : decode cX11_street 102 = .ok (.iaload, 1) := by decide +kernel
theorem dX11_street_103 : decode cX11_street 103 = .ok (.iload_n 1, 1) := by decide +kernel
theorem dX11_street_104 : decode cX11_street 104 = .ok (.if_icmp .ne 7, 3) := by decide +kernel
theorem dX11_street_107 : decode cX11_street 107 = .ok (.iconst 1, 1) := by decide +kernel
theorem dX11_street_108 : decode cX11_street 108 = .ok (.goto 4, 3) := by decide +kernel
theorem dX11_street_111 : decode cX11_street 111 = .ok (.iconst 0, 1) := by decide +kernel
theorem dX11_street_112 : decode cX11_street 112 = .ok (.iadd, 1) := by decide +kernel
theorem dX11_street_113 : decode cX11_street 113 = .ok (.istore_n 3, 1) := by decide +kernel
theorem dX11_street_114 : decode cX11_street 114 = .ok (.iinc 4 1, 3) := by decide +kernel
theorem dX11_street_117 : decode cX11_street 117 = .ok (.goto (-49), 3) := by decide +kernel
theorem dX11_street_120 : decode cX11_street 120 = .ok (.iload_n 3, 1) := by decide +kernel
theorem dX11_street_121 : decode cX11_street 121 = .ok (.ireturn, 1) := by decide +kernel
theorem dX11_person_0 : decode cX11_person 0 = .ok (.aload_n 0, 1) := by decide +kernel
theorem dX11_person_1 : decode cX11_person 1 = .ok (.iconst 0, 1) := by decide +kernel
theorem dX11_person_2 : decode cX11_person 2 = .ok (.putfield 3, 3) := by decide +kernel
theorem dX11_person_5 : decode cX11_person 5 = .ok (.aload_n 0, 1) := by decide +kernel
theorem dX11_person_6 : decode cX11_person 6 = .ok (.iload_n 1, 1) := by decide +kernel
theorem dX11_person_7 : decode cX11_person 7 = .ok (.iconst 1, 1) := by decide +kernel
theorem dX11_person_8 : decode cX11_person 8 = .ok (.invokevirtual 391, 3) := by decide +kernel
theorem dX11_person_11 : decode cX11_person 11 = .ok (.ifCond .eq 19, 3) := by decide +kernel
theorem dX11_person_14 : decode cX11_person 14 = .ok (.aload_n 0, 1) := by decide +kernel
theorem dX11_person_15 : decode cX11_person 15 = .ok (.iload_n 2, 1) := by decide +kernel
theorem dX11_person_16 : decode cX11_person 16 = .ok (.iconst 0, 1) := by decide +kernel
theorem dX11_person_17 : decode cX11_person 17 = .ok (.bipush 7, 2) := by decide +kernel
theorem dX11_person_19 : decode cX11_person 19 = .ok (.invokestatic 376, 3) := by decide +kernel
theorem dX11_person_22 : decode cX11_person 22 = .ok (.iconst 2, 1) := by decide +kernel
theorem dX11_person_23 : decode cX11_person 23 = .ok (.iconst 1, 1) := by decide +kernel
theorem dX11_person_24 : decode cX11_person 24 = .ok (.invokevirtual 198, 3) := by decide +kernel
theorem dX11_person_27 : decode cX11_person 27 = .ok (.ifCond .ne 5, 3) := by decide +kernel
theorem dX11_person_30 : decode cX11_person 30 = .ok (.iconst 0, 1) := by decide +kernel
theorem dX11_person_31 : decode cX11_person 31 = .ok (.ireturn, 1) := by decide +kernel
theorem dX11_person_32 : decode cX11_person 32 = .ok (.aload_n 0, 1) := by decide +kernel
theorem dX11_person_33 : decode cX11_person 33 = .ok (.invokevirtual 308, 3) := by decide +kernel
theorem dX11_person_36 : decode cX11_person 36 = .ok (.iload_n 2, 1) := by decide +kernel
theorem dX11_person_37 : decode cX11_person 37 = .ok (.iconst 2, 1) := by decide +kernel
theorem dX11_person_38 : decode cX11_person 38 = .ok (.if_icmp .ge 26, 3) := by decide +kernel
theorem dX11_person_41 : decode cX11_person 41 = .ok (.iload_n 2, 1) := by decide +kernel
theorem dX11_person_42 : decode cX11_person 42 = .ok (.ifCond .ne 12, 3) := by decide +kernel
theorem dX11_person_45 : decode cX11_person 45 = .ok (.aload_n 0, 1) := by decide +kernel
theorem dX11_person_46 : decode cX11_person 46 = .ok (.getfield 38, 3) := by decide +kernel
theorem dX11_person_49 : decode cX11_person 49 = .ok (.iload_n 1, 1) := by decide +kernel
theorem dX11_person_50 : decode cX11_person 50 = .ok (.iaload, 1) := by decide +kernel
theorem dX11_person_51 : decode cX11_person 51 = .ok (.goto 12, 3) := by decide +kernel
theorem dX11_person_54 : decode cX11_person 54 = .ok (.aload_n 0, 1) := by decide +kernel
theorem dX11_person_55 : decode cX11_person 55 = .ok (.getfield 68, 3) := by decide +kernel
theorem dX11_person_58 : decode cX11_person 58 = .ok (.bipush 48, 2) := by decide +kernel
theorem dX11_person_60 : decode cX11_person 60 = .ok (.iload_n 1, 1) := by decide +kernel
theorem dX11_person_61 : decode cX11_person 61 = .ok (.iadd, 1) := by decide +kernel
theorem dX11_person_62 : decode cX11_person 62 = .ok (.iaload, 1) := by decide +kernel
theorem dX11_person_63 : decode cX11_person 63 = .ok (.ireturn, 1) := by decide +kernel
theorem dX11_person_64 : decode cX11_person 64 = .ok (.iload_n 2, 1) := by decide +kernel
theorem dX11_person_65 : decode cX11_person 65 = .ok (.iconst 4, 1) := by decide +kernel
theorem dX11_person_66 : decode cX11_person 66 = .ok (.if_icmp .ge 26, 3) := by decide +kernel
theorem dX11_person_69 : decode cX11_person 69 = .ok (.iload_n 2, 1) := by decide +kernel
theorem dX11_person_70 : decode cX11_person 70 = .ok (.iconst 2, 1) := by decide +kernel
theorem dX11_person_71 : decode cX11_person 71 = .ok (.if_icmp .ne 11, 3) := by decide +kernel
theorem dX11_person_74 : decode cX11_person 74 = .ok (.aload_n 0, 1) := by decide +kernel
theorem dX11_person_75 : decode cX11_person 75 = .ok (.iload_n 1, 1) := by decide +kernel
theorem dX11_person_76 : decode cX11_person 76 = .ok (.invokevirtual 339, 3) := by decide +kernel
theorem dX11_person_79 : decode cX11_person 79 = .ok (.goto 12, 3) := by decide +kernel
theorem dX11_person_82 : decode cX11_person 82 = .ok (.aload_n 0, 1) := by decide +kernel
theorem dX11_person_83 : decode cX11_person 83 = .ok (.aload_n 0, 1) := by decide +kernel
theorem dX11_person_84 : decode cX11_person 84 = .ok (.iload_n 1, 1) := by decide +kernel
theorem dX11_person_85 : decode cX11_person 85 = .ok (.invokevirtual 339, 3) := by decide +kernel
theorem dX11_person_88 : decode cX11_person 88 = .ok (.invokevirtual 342, 3) := by decide +kernel
theorem dX11_person_91 : decode cX11_person 91 = .ok (.ireturn, 1) := by decide +kernel
theorem dX11_person_92 : decode cX11_person 92 = .ok (.iload_n 2, 1) := by decide +kernel
theorem dX11_person_93 : decode cX11_person 93 = .ok (.bipush 6, 2) := by decide +kernel
theorem dX11_person_95 : decode cX11_person 95 = .ok (.if_icmp .ge 30, 3) := by decide +kernel
theorem dX11_person_98 : decode cX11_person 98 = .ok (.iload_n 2, 1) := by decide +kernel
theorem dX11_person_99 : decode cX11_person 99 = .ok (.iconst 4, 1) := by decide +kernel
theorem dX11_person_100 : decode cX11_person 100 = .ok (.if_icmp .ne 15, 3) := by decide +kernel
theorem dX11_person_103 : decode cX11_person 103 = .ok (.aload_n 0, 1) := by decide +kernel
theorem dX11_person_104 : decode cX11_person 104 = .ok (.getfield 68, 3) := by decide +kernel
theorem dX11_person_107 : decode cX11_person 107 = .ok (.bipush 40, 2) := by decide +kernel
theorem dX11_person_109 : decode cX11_person 109 = .ok (.iload_n 1, 1) := by decide +kernel
theorem dX11_person_110 : decode cX11_person 110 = .ok (.iadd, 1) := by decide +kernel
theorem dX11_person_111 : decode cX11_person 111 = .ok (.iaload, 1) := by decide +kernel
theorem dX11_person_112 : decode cX11_person 112 = .ok (.goto 12, 3) := by decide +kernel
theorem dX11_person_115 : decode cX11_person 115 = .ok (.aload_n 0, 1) := by decide +kernel
theorem dX11_person_116 : decode cX11_person 116 = .ok (.getfield 68, 3) := by decide +kernel
theorem dX11_person_119 : decode cX11_person 119 = .ok (.bipush 32, 2) := by decide +kernel
theorem dX11_person_121 : decode cX11_person 121 = .ok (.iload_n 1, 1) := by decide +kernel
theorem dX11_person_122 : decode cX11_person 122 = .ok (.iadd, 1) := by decide +kernel
theorem dX11_person_123 : decode cX11_person 123 = .ok (.iaload, 1) := by decide +kernel
theorem dX11_person_124 : decode cX11_person 124 = .ok (.ireturn, 1) := by decide +kernel
theorem dX11_person_125 : decode cX11_person 125 = .ok (.iload_n 2, 1) := by decide +kernel
theorem dX11_person_126 : decode cX11_person 126 = .ok (.bipush 6, 2) := by decide +kernel
theorem dX11_person_128 : decode cX11_person 128 = .ok (.if_icmp .ne 15, 3) := by decide +kernel
theorem dX11_person_131 : decode cX11_person 131 = .ok (.aload_n 0, 1) := by decide +kernel
theorem dX11_person_132 : decode cX11_person 132 = .ok (.getfield 68, 3) := by decide +kernel
theorem dX11_person_135 : decode cX11_person 135 = .ok (.bipush 24, 2) := by decide +kernel
theorem dX11_person_137 : decode cX11_person 137 = .ok (.iload_n 1, 1) := by decide +kernel
theorem dX11_person_138 : decode cX11_person 138 = .ok (.iadd, 1) := by decide +kernel
theorem dX11_person_139 : decode cX11_person 139 = .ok (.iaload, 1) := by decide +kernel
theorem dX11_person_140 : decode cX11_person 140 = .ok (.goto 16, 3) := by decide +kernel
theorem dX11_person_143 : decode cX11_person 143 = .ok (.aload_n 0, 1) := by decide +kernel
theorem dX11_person_144 : decode cX11_person 144 = .ok (.iload_n 1, 1) := by decide +kernel
theorem dX11_person_145 : decode cX11_person 145 = .ok (.invokevirtual 349, 3) := by decide +kernel
theorem dX11_person_148 : decode cX11_person 148 = .ok (.ifCond .eq 7, 3) := by decide +kernel
theorem dX11_person_151 : decode cX11_person 151 = .ok (.iconst 1, 1) := by decide +kernel
theorem dX11_person_152 : decode cX11_person 152 = .ok (.goto 4, 3) := by decide +kernel
theorem dX11_person_155 : decode cX11_person 155 = .ok (.iconst 0, 1) := by decide +kernel
theorem dX11_person_156 : decode cX11_person 156 = .ok (.ireturn, 1) := by decide +kernel
theorem dX11_isDye_0 : decode cX11_isDye 0 = .ok (.iload_n 0, 1) := by decide +kernel
theorem dX11_isDye_1 : decode cX11_isDye 1 = .ok (.ifCond .lt 12, 3) := by decide +kernel
theorem dX11_isDye_4 : decode cX11_isDye 4 = .ok (.iload_n 0, 1) := by decide +kernel
theorem dX11_isDye_5 : decode cX11_isDye 5 = .ok (.iconst 3, 1) := by decide +kernel
theorem dX11_isDye_6 : decode cX11_isDye 6 = .ok (.if_icmp .ge 7, 3) := by decide +kernel
theorem dX11_isDye_9 : decode cX11_isDye 9 = .ok (.iconst 1, 1) := by decide +kernel
theorem dX11_isDye_10 : decode cX11_isDye 10 = .ok (.goto 4, 3) := by decide +kernel
theorem dX11_isDye_13 : decode cX11_isDye 13 = .ok (.iconst 0, 1) := by decide +kernel
theorem dX11_isDye_14 : decode cX11_isDye 14 = .ok (.ireturn, 1) := by decide +kernel
theorem dX11_isShade_0 : decode cX11_isShade 0 = .ok (.iload_n 0, 1) := by decide +kernel
theorem dX11_isShade_1 : decode cX11_isShade 1 = .ok (.ifCond .lt 14, 3) := by decide +kernel
theorem dX11_isShade_4 : decode cX11_isShade 4 = .ok (.iload_n 0, 1) := by decide +kernel
theorem dX11_isShade_5 : decode cX11_isShade 5 = .ok (.sipush 1000, 3) := by decide +kernel
theorem dX11_isShade_8 : decode cX11_isShade 8 = .ok (.if_icmp .ge 7, 3) := by decide +kernel
theorem dX11_isShade_11 : decode cX11_isShade 11 = .ok (.iconst 1, 1) := by decide +kernel
theorem dX11_isShade_12 : decode cX11_isShade 12 = .ok (.goto 4, 3) := by decide +kernel
theorem dX11_isShade_15 : decode cX11_isShade 15 = .ok (.iconst 0, 1) := by decide +kernel
theorem dX11_isShade_16 : decode cX11_isShade 16 = .ok (.ireturn, 1) := by decide +kernel
theorem dX11_stock_0 : decode cX11_stock 0 = .ok (.aload_n 0, 1) := by decide +kernel
theorem dX11_stock_1 : decode cX11_stock 1 = .ok (.iconst 0, 1) := by decide +kernel
theorem dX11_stock_2 : decode cX11_stock 2 = .ok (.putfield 3, 3) := by decide +kernel
theorem dX11_stock_5 : decode cX11_stock 5 = .ok (.aload_n 0, 1) := by decide +kernel
theorem dX11_stock_6 : decode cX11_stock 6 = .ok (.iload_n 1, 1) := by decide +kernel
theorem dX11_stock_7 : decode cX11_stock 7 = .ok (.invokestatic 394, 3) := by decide +kernel
theorem dX11_stock_10 : decode cX11_stock 10 = .ok (.iconst 1, 1) := by decide +kernel
theorem dX11_stock_11 : decode cX11_stock 11 = .ok (.iconst 0, 1) := by decide +kernel
theorem dX11_stock_12 : decode cX11_stock 12 = .ok (.invokevirtual 198, 3) := by decide +kernel
theorem dX11_stock_15 : decode cX11_stock 15 = .ok (.ifCond .eq 15, 3) := by decide +kernel
theorem dX11_stock_18 : decode cX11_stock 18 = .ok (.aload_n 0, 1) := by decide +kernel
theorem dX11_stock_19 : decode cX11_stock 19 = .ok (.getfield 65, 3) := by decide +kernel
theorem dX11_stock_22 : decode cX11_stock 22 = .ok (.bipush 56, 2) := by decide +kernel
theorem dX11_stock_24 : decode cX11_stock 24 = .ok (.iload_n 1, 1) := by decide +kernel
theorem dX11_stock_25 : decode cX11_stock 25 = .ok (.iadd, 1) := by decide +kernel
theorem dX11_stock_26 : decode cX11_stock 26 = .ok (.iaload, 1) := by decide +kernel
theorem dX11_stock_27 : decode cX11_stock 27 = .ok (.goto 4, 3) := by decide +kernel
theorem dX11_stock_30 : decode cX11_stock 30 = .ok (.iconst 0, 1) := by decide +kernel
theorem dX11_stock_31 : decode cX11_stock 31 = .ok (.ireturn, 1) := by decide +kernel
theorem dX11_would_0 : decode cX11_would 0 = .ok (.aload_n 0, 1) := by decide +kernel
theorem dX11_would_1 : decode cX11_would 1 = .ok (.iconst 0, 1) := by decide +kernel
theorem dX11_would_2 : decode cX11_would 2 = .ok (.putfield 3, 3) := by decide +kernel
theorem dX11_would_5 : decode cX11_would 5 = .ok (.aload_n 0, 1) := by decide +kernel
theorem dX11_would_6 : decode cX11_would 6 = .ok (.iload_n 1, 1) := by decide +kernel
theorem dX11_would_7 : decode cX11_would 7 = .ok (.invokestatic 397, 3) := by decide +kernel
theorem dX11_would_10 : decode cX11_would 10 = .ok (.ifCond .eq 61, 3) := by decide +kernel
theorem dX11_would_13 : decode cX11_would 13 = .ok (.iload_n 2, 1) := by decide +kernel
theorem dX11_would_14 : decode cX11_would 14 = .ok (.iconst 0, 1) := by decide +kernel
theorem dX11_would_15 : decode cX11_would 15 = .ok (.sipush 400, 3) := by decide +kernel
theorem dX11_would_18 : decode cX11_would 18 = .ok (.invokestatic 376, 3) := by decide +kernel
theorem dX11_would_21 : decode cX11_would 21 = .ok (.ifCond .eq 50, 3) := by decide +kernel
theorem dX11_would_24 : decode cX11_would 24 = .ok (.iload_n 3, 1) := by decide +kernel
theorem dX11_would_25 : decode cX11_would 25 = .ok (.iconst 0, 1) := by decide +kernel
theorem dX11_would_26 : decode cX11_would 26 = .ok (.bipush 9, 2) := by decide +kernel
theorem dX11_would_28 : decode cX11_would 28 = .ok (.invokestatic 376, 3) := by decide +kernel
theorem dX11_would_31 : decode cX11_would 31 = .ok (.ifCond .eq 40, 3) := by decide +kernel
theorem dX11_would_34 : decode cX11_would 34 = .ok (.iload 4, 2) := by decide +kernel
theorem dX11_would_36 : decode cX11_would 36 = .ok (.iconst 0, 1) := by decide +kernel
theorem dX11_would_37 : decode cX11_would 37 = .ok (.bipush 99, 2) := by decide +kernel
theorem dX11_would_39 : decode cX11_would 39 = .ok (.invokestatic 376, 3) := by decide +kernel
theorem dX11_would_42 : decode cX11_would 42 = .ok (.ifCond .eq 29, 3) := by decide +kernel
theorem dX11_would_45 : decode cX11_would 45 = .ok (.iload 5, 2) := by decide +kernel
theorem dX11_would_47 : decode cX11_would 47 = .ok (.iconst 0, 1) := by decide +kernel
theorem dX11_would_48 : decode cX11_would 48 = .ok (.sipush 300, 3) := by decide +kernel
theorem dX11_would_51 : decode cX11_would 51 = .ok (.invokestatic 376, 3) := by decide +kernel
theorem dX11_would_54 : decode cX11_would 54 = .ok (.ifCond .eq 17, 3) := by decide +kernel
theorem dX11_would_57 : decode cX11_would 57 = .ok (.iload 6, 2) := by decide +kernel
theorem dX11_would_59 : decode cX11_would 59 = .ok (.iconst 0, 1) := by decide +kernel
theorem dX11_would_60 : decode cX11_would 60 = .ok (.iconst 1, 1) := by decide +kernel
theorem dX11_would_61 : decode cX11_would 61 = .ok (.invokestatic 376, 3) := by decide +kernel
theorem dX11_would_64 : decode cX11_would 64 = .ok (.ifCond .eq 7, 3) := by decide +kernel
theorem dX11_would_67 : decode cX11_would 67 = .ok (.iconst 1, 1) := by decide +kernel
theorem dX11_would_68 : decode cX11_would 68 = .ok (.goto 4, 3) := by decide +kernel
theorem dX11_would_71 : decode cX11_would 71 = .ok (.iconst 0, 1) := by decide +kernel
theorem dX11_would_72 : decode cX11_would 72 = .ok (.iconst 1, 1) := by decide +kernel
theorem dX11_would_73 : decode cX11_would 73 = .ok (.iconst 1, 1) := by decide +kernel
theorem dX11_would_74 : decode cX11_would 74 = .ok (.invokevirtual 198, 3) := by decide +kernel
theorem dX11_would_77 : decode cX11_would 77 = .ok (.ifCond .ne 5, 3) := by decide +kernel
theorem dX11_would_80 : decode cX11_would 80 = .ok (.iconst 0, 1) := by decide +kernel
theorem dX11_would_81 : decode cX11_would 81 = .ok (.ireturn, 1) := by decide +kernel
theorem dX11_would_82 : decode cX11_would 82 = .ok (.aload_n 0, 1) := by decide +kernel
theorem dX11_would_83 : decode cX11_would 83 = .ok (.iload_n 1, 1) := by decide +kernel
theorem dX11_would_84 : decode cX11_would 84 = .ok (.iload_n 2, 1) := by decide +kernel
theorem dX11_would_85 : decode cX11_would 85 = .ok (.iload_n 3, 1) := by decide +kernel
theorem dX11_would_86 : decode cX11_would 86 = .ok (.iload 4, 2) := by decide +kernel
theorem dX11_would_88 : decode cX11_would 88 = .ok (.iload 5, 2) := by decide +kernel
theorem dX11_would_90 : decode cX11_would 90 = .ok (.iload 6, 2) := by decide +kernel
theorem dX11_would_92 : decode cX11_would 92 = .ok (.invokevirtual 345, 3) := by decide +kernel
theorem dX11_would_95 : decode cX11_would 95 = .ok (.ireturn, 1) := by decide +kernel
theorem dX11_distance_0 : decode cX11_distance 0 = .ok (.aload_n 0, 1) := by decide +kernel
theorem dX11_distance_1 : decode cX11_distance 1 = .ok (.iconst 0, 1) := by decide +kernel
theorem dX11_distance_2 : decode cX11_distance 2 = .ok (.putfield 3, 3) := by decide +kernel
theorem dX11_distance_5 : decode cX11_distance 5 = .ok (.aload_n 0, 1) := by decide +kernel
theorem dX11_distance_6 : decode cX11_distance 6 = .ok (.iload_n 1, 1) := by decide +kernel
theorem dX11_distance_7 : decode cX11_distance 7 = .ok (.invokestatic 397, 3) := by decide +kernel
theorem dX11_distance_10 : decode cX11_distance 10 = .ok (.ifCond .eq 14, 3) := by decide +kernel
theorem dX11_distance_13 : decode cX11_distance 13 = .ok (.iload_n 2, 1) := by decide +kernel
theorem dX11_distance_14 : decode cX11_distance 14 = .ok (.invokestatic 397, 3) := by decide +kernel
theorem dX11_distance_17 : decode cX11_distance 17 = .ok (.ifCond .eq 7, 3) := by decide +kernel
theorem dX11_distance_20 : decode cX11_distance 20 = .ok (.iconst 1, 1) := by decide +kernel
theorem dX11_distance_21 : decode cX11_distance 21 = .ok (.goto 4, 3) := by decide +kernel
theorem dX11_distance_24 : decode cX11_distance 24 = .ok (.iconst 0, 1) := by decide +kernel
theorem dX11_distance_25 : decode cX11_distance 25 = .ok (.iconst 1, 1) := by decide +kernel
theorem dX11_distance_26 : decode cX11_distance 26 = .ok (.iconst 1, 1) := by decide +kernel
theorem dX11_distance_27 : decode cX11_distance 27 = .ok (.invokevirtual 198, 3) := by decide +kernel
theorem dX11_distance_30 : decode cX11_distance 30 = .ok (.ifCond .eq 11, 3) := by decide +kernel
theorem dX11_distance_33 : decode cX11_distance 33 = .ok (.iload_n 1, 1) := by decide +kernel
theorem dX11_distance_34 : decode cX11_distance 34 = .ok (.iload_n 2, 1) := by decide +kernel
theorem dX11_distance_35 : decode cX11_distance 35 = .ok (.invokestatic 333, 3) := by decide +kernel
theorem dX11_distance_38 : decode cX11_distance 38 = .ok (.goto 4, 3) := by decide +kernel
theorem dX11_distance_41 : decode cX11_distance 41 = .ok (.iconst 0, 1) := by decide +kernel
theorem dX11_distance_42 : decode cX11_distance 42 = .ok (.ireturn, 1) := by decide +kernel
theorem dX11_seems_0 : decode cX11_seems 0 = .ok (.aload_n 0, 1) := by decide +kernel
theorem dX11_seems_1 : decode cX11_seems 1 = .ok (.iconst 0, 1) := by decide +kernel
theorem dX11_seems_2 : decode cX11_seems 2 = .ok (.putfield 3, 3) := by decide +kernel
theorem dX11_seems_5 : decode cX11_seems 5 = .ok (.aload_n 0, 1) := by decide +kernel
theorem dX11_seems_6 : decode cX11_seems 6 = .ok (.iload_n 1, 1) := by decide +kernel
theorem dX11_seems_7 : decode cX11_seems 7 = .ok (.invokestatic 397, 3) := by decide +kernel
theorem dX11_seems_10 : decode cX11_seems 10 = .ok (.iconst 1, 1) := by decide +kernel
theorem dX11_seems_11 : decode cX11_seems 11 = .ok (.iconst 1, 1) := by decide +kernel
theorem dX11_seems_12 : decode cX11_seems 12 = .ok (.invokevirtual 198, 3) := by decide +kernel
theorem dX11_seems_15 : decode cX11_seems 15 = .ok (.ifCond .eq 11, 3) := by decide +kernel
theorem dX11_seems_18 : decode cX11_seems 18 = .ok (.aload_n 0, 1) := by decide +kernel
theorem dX11_seems_19 : decode cX11_seems 19 = .ok (.iload_n 1, 1) := by decide +kernel
theorem dX11_seems_20 : decode cX11_seems 20 = .ok (.invokevirtual 342, 3) := by decide +kernel
theorem dX11_seems_23 : decode cX11_seems 23 = .ok (.goto 4, 3) := by decide +kernel
theorem dX11_seems_26 : decode cX11_seems 26 = .ok (.iconst 0, 1) := by decide +kernel
theorem dX11_seems_27 : decode cX11_seems 27 = .ok (.ireturn, 1) := by decide +kernel
theorem dX11_dipped_0 : decode cX11_dipped 0 = .ok (.aload_n 0, 1) := by decide +kernel
theorem dX11_dipped_1 : decode cX11_dipped 1 = .ok (.iconst 0, 1) := by decide +kernel
theorem dX11_dipped_2 : decode cX11_dipped 2 = .ok (.putfield 3, 3) := by decide +kernel
theorem dX11_dipped_5 : decode cX11_dipped 5 = .ok (.aload_n 0, 1) := by decide +kernel
theorem dX11_dipped_6 : decode cX11_dipped 6 = .ok (.iload_n 2, 1) := by decide +kernel
theorem dX11_dipped_7 : decode cX11_dipped 7 = .ok (.iconst 1, 1) := by decide +kernel
theorem dX11_dipped_8 : decode cX11_dipped 8 = .ok (.invokevirtual 388, 3) := by decide +kernel
theorem dX11_dipped_11 : decode cX11_dipped 11 = .ok (.ifCond .eq 16, 3) := by decide +kernel
theorem dX11_dipped_14 : decode cX11_dipped 14 = .ok (.aload_n 0, 1) := by decide +kernel
theorem dX11_dipped_15 : decode cX11_dipped 15 = .ok (.iload_n 1, 1) := by decide +kernel
theorem dX11_dipped_16 : decode cX11_dipped 16 = .ok (.invokestatic 397, 3) := by decide +kernel
theorem dX11_dipped_19 : decode cX11_dipped 19 = .ok (.iconst 2, 1) := by decide +kernel
theorem dX11_dipped_20 : decode cX11_dipped 20 = .ok (.iconst 1, 1) := by decide +kernel
theorem dX11_dipped_21 : decode cX11_dipped 21 = .ok (.invokevirtual 198, 3) := by decide +kernel
theorem dX11_dipped_24 : decode cX11_dipped 24 = .ok (.ifCond .ne 5, 3) := by decide +kernel
theorem dX11_dipped_27 : decode cX11_dipped 27 = .ok (.iconst 0, 1) := by decide +kernel
theorem dX11_dipped_28 : decode cX11_dipped 28 = .ok (.ireturn, 1) := by decide +kernel
theorem dX11_dipped_29 : decode cX11_dipped 29 = .ok (.aload_n 0, 1) := by decide +kernel
theorem dX11_dipped_30 : decode cX11_dipped 30 = .ok (.iload_n 1, 1) := by decide +kernel
theorem dX11_dipped_31 : decode cX11_dipped 31 = .ok (.iload_n 2, 1) := by decide +kernel
theorem dX11_dipped_32 : decode cX11_dipped 32 = .ok (.invokevirtual 352, 3) := by decide +kernel
theorem dX11_dipped_35 : decode cX11_dipped 35 = .ok (.ireturn, 1) := by decide +kernel
theorem dX11_cousins_0 : decode cX11_cousins 0 = .ok (.aload_n 0, 1) := by decide +kernel
theorem dX11_cousins_1 : decode cX11_cousins 1 = .ok (.iconst 0, 1) := by decide +kernel
theorem dX11_cousins_2 : decode cX11_cousins 2 = .ok (.putfield 3, 3) := by decide +kernel
theorem dX11_cousins_5 : decode cX11_cousins 5 = .ok (.aload_n 0, 1) := by decide +kernel
theorem dX11_cousins_6 : decode cX11_cousins 6 = .ok (.invokevirtual 308, 3) := by decide +kernel
theorem dX11_cousins_9 : decode cX11_cousins 9 = .ok (.aload_n 0, 1) := by decide +kernel
theorem dX11_cousins_10 : decode cX11_cousins 10 = .ok (.invokevirtual 358, 3) := by decide +kernel
theorem dX11_cousins_13 : decode cX11_cousins 13 = .ok (.ireturn, 1) := by decide +kernel
theorem dX11_when_0 : decode cX11_when 0 = .ok (.aload_n 0, 1) := by decide +kernel
theorem dX11_when_1 : decode cX11_when 1 = .ok (.iconst 0, 1) := by decide +kernel
theorem dX11_when_2 : decode cX11_when 2 = .ok (.putfield 3, 3) := by decide +kernel
theorem dX11_when_5 : decode cX11_when 5 = .ok (.aload_n 0, 1) := by decide +kernel
theorem dX11_when_6 : decode cX11_when 6 = .ok (.iload_n 1, 1) := by decide +kernel
theorem dX11_when_7 : decode cX11_when 7 = .ok (.iconst 1, 1) := by decide +kernel
theorem dX11_when_8 : decode cX11_when 8 = .ok (.invokevirtual 391, 3) := by decide +kernel
theorem dX11_when_11 : decode cX11_when 11 = .ok (.ifCond .eq 18, 3) := by decide +kernel
theorem dX11_when_14 : decode cX11_when 14 = .ok (.aload_n 0, 1) := by decide +kernel
theorem dX11_when_15 : decode cX11_when 15 = .ok (.iload_n 2, 1) := by decide +kernel
theorem dX11_when_16 : decode cX11_when 16 = .ok (.iconst 0, 1) := by decide +kernel
theorem dX11_when_17 : decode cX11_when 17 = .ok (.iconst 1, 1) := by decide +kernel
theorem dX11_when_18 : decode cX11_when 18 = .ok (.invokestatic 376, 3) := by decide +kernel
theorem dX11_when_21 : decode cX11_when 21 = .ok (.iconst 2, 1) := by decide +kernel
theorem dX11_when_22 : decode cX11_when 22 = .ok (.iconst 1, 1) := by decide +kernel
theorem dX11_when_23 : decode cX11_when 23 = .ok (.invokevirtual 198, 3) := by decide +kernel
theorem dX11_when_26 : decode cX11_when 26 = .ok (.ifCond .ne 5, 3) := by decide +kernel
theorem dX11_when_29 : decode cX11_when 29 = .ok (.iconst 0, 1) := by decide +kernel
theorem dX11_when_30 : decode cX11_when 30 = .ok (.ireturn, 1) := by decide +kernel
theorem dX11_when_31 : decode cX11_when 31 = .ok (.aload_n 0, 1) := by decide +kernel
theorem dX11_when_32 : decode cX11_when 32 = .ok (.invokevirtual 308, 3) := by decide +kernel
theorem dX11_when_35 : decode cX11_when 35 = .ok (.iconst 0, 1) := by decide +kernel
theorem dX11_when_36 : decode cX11_when 36 = .ok (.istore_n 3, 1) := by decide +kernel
theorem dX11_when_37 : decode cX11_when 37 = .ok (.iload_n 3, 1) := by decide +kernel
theorem dX11_when_38 : decode cX11_when 38 = .ok (.bipush 60, 2) := by decide +kernel
theorem dX11_when_40 : decode cX11_when 40 = .ok (.if_icmp .gt 33, 3) := by decide +kernel
theorem dX11_when_43 : decode cX11_when 43 = .ok (.aload_n 0, 1) := by decide +kernel
theorem dX11_when_44 : decode cX11_when 44 = .ok (.iload_n 1, 1) := by decide +kernel
theorem dX11_when_45 : decode cX11_when 45 = .ok (.invokevirtual 349, 3) := by decide +kernel
theorem dX11_when_48 : decode cX11_when 48 = .ok (.iload_n 2, 1) := by decide +kernel
theorem dX11_when_49 : decode cX11_when 49 = .ok (.iconst 1, 1) := by decide +kernel
theorem dX11_when_50 : decode cX11_when 50 = .ok (.if_icmp .ne 7, 3) := by decide +kernel
theorem dX11_when_53 : decode cX11_when 53 = .ok (.iconst 1, 1) := by decide +kernel
theorem dX11_when_54 : decode cX11_when 54 = .ok (.goto 4, 3) := by decide +kernel
theorem dX11_when_57 : decode cX11_when 57 = .ok (.iconst 0, 1) := by decide +kernel
theorem dX11_when_58 : decode cX11_when 58 = .ok (.if_icmp .ne 5, 3) := by decide +kernel
theorem dX11_when_61 : decode cX11_when 61 = .ok (.iload_n 3, 1) := by decide +kernel
theorem dX11_when_62 : decode cX11_when 62 = .ok (.ireturn, 1) := by decide +kernel
theorem dX11_when_63 : decode cX11_when 63 = .ok (.aload_n 0, 1) := by decide +kernel
theorem dX11_when_64 : decode cX11_when 64 = .ok (.invokevirtual 373, 3) := by decide +kernel
theorem dX11_when_67 : decode cX11_when 67 = .ok (.iinc 3 1, 3) := by decide +kernel
theorem dX11_when_70 : decode cX11_when 70 = .ok (.goto (-33), 3) := by decide +kernel
theorem dX11_when_73 : decode cX11_when 73 = .ok (.iconst (-1), 1) := by decide +kernel
theorem dX11_when_74 : decode cX11_when 74 = .ok (.ireturn, 1) := by decide +kernel
theorem dX11_sits_0 : decode cX11_sits 0 = .ok (.aload_n 0, 1) := by decide +kernel
theorem dX11_sits_1 : decode cX11_sits 1 = .ok (.iconst 0, 1) := by decide +kernel
theorem dX11_sits_2 : decode cX11_sits 2 = .ok (.putfield 3, 3) := by decide +kernel
theorem dX11_sits_5 : decode cX11_sits 5 = .ok (.aload_n 0, 1) := by decide +kernel
theorem dX11_sits_6 : decode cX11_sits 6 = .ok (.iload_n 1, 1) := by decide +kernel
theorem dX11_sits_7 : decode cX11_sits 7 = .ok (.iconst 1, 1) := by decide +kernel
theorem dX11_sits_8 : decode cX11_sits 8 = .ok (.invokevirtual 391, 3) := by decide +kernel
theorem dX11_sits_11 : decode cX11_sits 11 = .ok (.ifCond .eq 19, 3) := by decide +kernel
theorem dX11_sits_14 : decode cX11_sits 14 = .ok (.aload_n 0, 1) := by decide +kernel
theorem dX11_sits_15 : decode cX11_sits 15 = .ok (.iload_n 2, 1) := by decide +kernel
theorem dX11_sits_16 : decode cX11_sits 16 = .ok (.iconst 0, 1) := by decide +kernel
theorem dX11_sits_17 : decode cX11_sits 17 = .ok (.bipush 30, 2) := by decide +kernel
theorem dX11_sits_19 : decode cX11_sits 19 = .ok (.invokestatic 376, 3) := by decide +kernel
theorem dX11_sits_22 : decode cX11_sits 22 = .ok (.iconst 2, 1) := by decide +kernel
theorem dX11_sits_23 : decode cX11_sits 23 = .ok (.iconst 1, 1) := by decide +kernel
theorem dX11_sits_24 : decode cX11_sits 24 = .ok (.invokevirtual 198, 3) := by decide +kernel
theorem dX11_sits_27 : decode cX11_sits 27 = .ok (.ifCond .ne 5, 3) := by decide +kernel
theorem dX11_sits_30 : decode cX11_sits 30 = .ok (.iconst 0, 1) := by decide +kernel
theorem dX11_sits_31 : decode cX11_sits 31 = .ok (.ireturn, 1) := by decide +kernel
theorem dX11_sits_32 : decode cX11_sits 32 = .ok (.aload_n 0, 1) := by decide +kernel
theorem dX11_sits_33 : decode cX11_sits 33 = .ok (.invokevirtual 308, 3) := by decide +kernel
theorem dX11_sits_36 : decode cX11_sits 36 = .ok (.iconst 0, 1) := by decide +kernel
theorem dX11_sits_37 : decode cX11_sits 37 = .ok (.istore_n 3, 1) := by decide +kernel
theorem dX11_sits_38 : decode cX11_sits 38 = .ok (.iconst 0, 1) := by decide +kernel
theorem dX11_sits_39 : decode cX11_sits 39 = .ok (.istore 4, 2) := by decide +kernel
theorem dX11_sits_41 : decode cX11_sits 41 = .ok (.iload 4, 2) := by decide +kernel
theorem dX11_sits_43 : decode cX11_sits 43 = .ok (.iload_n 2, 1) := by decide +kernel
theorem dX11_sits_44 : decode cX11_sits 44 = .ok (.if_icmp .ge 32, 3) := by decide +kernel
theorem dX11_sits_47 : decode cX11_sits 47 = .ok (.iload_n 3, 1) := by decide +kernel
theorem dX11_sits_48 : decode cX11_sits 48 = .ok (.aload_n 0, 1) := by decide +kernel
theorem dX11_sits_49 : decode cX11_sits 49 = .ok (.iload_n 1, 1) := by decide +kernel
theorem dX11_sits_50 : decode cX11_sits 50 = .ok (.invokevirtual 349, 3) := by decide +kernel
theorem dX11_sits_53 : decode cX11_sits 53 = .ok (.ifCond .eq 10, 3) := by decide +kernel
theorem dX11_sits_56 : decode cX11_sits 56 = .ok (.iconst 1, 1) := by decide +kernel
theorem dX11_sits_57 : decode cX11_sits 57 = .ok (.iload 4, 2) := by decide +kernel
theorem dX11_sits_59 : decode cX11_sits 59 = .ok (.ishl, 1) := by decide +kernel
theorem dX11_sits_60 : decode cX11_sits 60 = .ok (.goto 4, 3) := by decide +kernel
theorem dX11_sits_63 : decode cX11_sits 63 = .ok (.iconst 0, 1) := by decide +kernel
theorem dX11_sits_64 : decode cX11_sits 64 = .ok (.ior, 1) := by decide +kernel
theorem dX11_sits_65 : decode cX11_sits 65 = .ok (.istore_n 3, 1) := by decide +kernel
theorem dX11_sits_66 : decode cX11_sits 66 = .ok (.aload_n 0, 1) := by decide +kernel
theorem dX11_sits_67 : decode cX11_sits 67 = .ok (.invokevirtual 373, 3) := by decide +kernel
theorem dX11_sits_70 : decode cX11_sits 70 = .ok (.iinc 4 1, 3) := by decide +kernel
theorem dX11_sits_73 : decode cX11_sits 73 = .ok (.goto (-32), 3) := by decide +kernel
theorem dX11_sits_76 : decode cX11_sits 76 = .ok (.iload_n 3, 1) := by decide +kernel
theorem dX11_sits_77 : decode cX11_sits 77 = .ok (.ireturn, 1) := by decide +kernel
theorem dX11_layTo_0 : decode cX11_layTo 0 = .ok (.iconst 0, 1) := by decide +kernel
theorem dX11_layTo_1 : decode cX11_layTo 1 = .ok (.istore_n 2, 1) := by decide +kernel
theorem dX11_layTo_2 : decode cX11_layTo 2 = .ok (.iload_n 2, 1) := by decide +kernel
theorem dX11_layTo_3 : decode cX11_layTo 3 = .ok (.sipush 1000, 3) := by decide +kernel
theorem dX11_layTo_6 : decode cX11_layTo 6 = .ok (.if_icmp .ge 25, 3) := by decide +kernel
theorem dX11_layTo_9 : decode cX11_layTo 9 = .ok (.aload_n 0, 1) := by decide +kernel
theorem dX11_layTo_10 : decode cX11_layTo 10 = .ok (.getfield 80, 3) := by decide +kernel
theorem dX11_layTo_13 : decode cX11_layTo 13 = .ok (.iload_n 2, 1) := by decide +kernel
theorem dX11_layTo_14 : decode cX11_layTo 14 = .ok (.iload_n 2, 1) := by decide +kernel
theorem dX11_layTo_15 : decode cX11_layTo 15 = .ok (.iload_n 1, 1) := by decide +kernel
theorem dX11_layTo_16 : decode cX11_layTo 16 = .ok (.if_icmp .ne 7, 3) := by decide +kernel
theorem dX11_layTo_19 : decode cX11_layTo 19 = .ok (.iconst 0, 1) := by decide +kernel
theorem dX11_layTo_20 : decode cX11_layTo 20 = .ok (.goto 4, 3) := by decide +kernel
theorem dX11_layTo_23 : decode cX11_layTo 23 = .ok (.iconst (-1), 1) := by decide +kernel
theorem dX11_layTo_24 : decode cX11_layTo 24 = .ok (.iastore, 1) := by decide +kernel
theorem dX11_layTo_25 : decode cX11_layTo 25 = .ok (.iinc 2 1, 3) := by decide +kernel
theorem dX11_layTo_28 : decode cX11_layTo 28 = .ok (.goto (-26), 3) := by decide +kernel
theorem dX11_layTo_31 : decode cX11_layTo 31 = .ok (.iconst 1, 1) := by decide +kernel
theorem dX11_layTo_32 : decode cX11_layTo 32 = .ok (.istore_n 2, 1) := by decide +kernel
theorem dX11_layTo_33 : decode cX11_layTo 33 = .ok (.iload_n 2, 1) := by decide +kernel
theorem dX11_layTo_34 : decode cX11_layTo 34 = .ok (.ifCond .eq 98, 3) := by decide +kernel
theorem dX11_layTo_37 : decode cX11_layTo 37 = .ok (.iconst 0, 1) := by decide +kernel
theorem dX11_layTo_38 : decode cX11_layTo 38 = .ok (.istore_n 2, 1) := by decide +kernel
theorem dX11_layTo_39 : decode cX11_layTo 39 = .ok (.sipush 999, 3) := by decide +kernel
theorem dX11_layTo_42 : decode cX11_layTo 42 = .ok (.istore_n 3, 1) := by decide +kernel
theorem dX11_layTo_43 : decode cX11_layTo 43 = .ok (.iload_n 3, 1) := by decide +kernel
theorem dX11_layTo_44 : decode cX11_layTo 44 = .ok (.ifCond .lt 85, 3) := by decide +kernel
theorem dX11_layTo_47 : decode cX11_layTo 47 = .ok (.iconst 0, 1) := by decide +kernel
theorem dX11_layTo_48 : decode cX11_layTo 48 = .ok (.istore 4, 2) := by decide +kernel
theorem dX11_layTo_50 : decode cX11_layTo 50 = .ok (.iload 4, 2) := by decide +kernel
theorem dX11_layTo_52 : decode cX11_layTo 52 = .ok (.aload_n 0, 1) := by decide +kernel
theorem dX11_layTo_53 : decode cX11_layTo 53 = .ok (.getfield 156, 3) := by decide +kernel
theorem dX11_layTo_56 : decode cX11_layTo 56 = .ok (.if_icmp .ge 67, 3) := by decide +kernel
theorem dX11_layTo_59 : decode cX11_layTo 59 = .ok (.aload_n 0, 1) := by decide +kernel
theorem dX11_layTo_60 : decode cX11_layTo 60 = .ok (.getfield 80, 3) := by decide +kernel
theorem dX11_layTo_63 : decode cX11_layTo 63 = .ok (.aload_n 0, 1) := by decide +kernel
theorem dX11_layTo_64 : decode cX11_layTo 64 = .ok (.iload_n 3, 1) := by decide +kernel
theorem dX11_layTo_65 : decode cX11_layTo 65 = .ok (.iload 4, 2) := by decide +kernel
theorem dX11_layTo_67 : decode cX11_layTo 67 = .ok (.invokevirtual 352, 3) := by decide +kernel
theorem dX11_layTo_70 : decode cX11_layTo 70 = .ok (.iaload, 1) := by decide +kernel
theorem dX11_layTo_71 : decode cX11_layTo 71 = .ok (.istore 5, 2) := by decide +kernel
theorem dX11_layTo_73 : decode cX11_layTo 73 = .ok (.iload 5, 2) := by decide +kernel
theorem dX11_layTo_75 : decode cX11_layTo 75 = .ok (.iconst (-1), 1) := by decide +kernel
theorem dX11_layTo_76 : decode cX11_layTo 76 = .ok (.if_icmp .eq 41, 3) := by decide +kernel
theorem dX11_layTo_79 : decode cX11_layTo 79 = .ok (.aload_n 0, 1) := by decide +kernel
theorem dX11_layTo_80 : decode cX11_layTo 80 = .ok (.getfield 80, 3) := by decide +kernel
theorem dX11_layTo_83 : decode cX11_layTo 83 = .ok (.iload_n 3, 1) := by decide +kernel
theorem dX11_layTo_84 : decode cX11_layTo 84 = .ok (.iaload, 1) := by decide +kernel
theorem dX11_layTo_85 : decode cX11_layTo 85 = .ok (.iconst (-1), 1) := by decide +kernel
theorem dX11_layTo_86 : decode cX11_layTo 86 = .ok (.if_icmp .eq 19, 3) := by decide +kernel
theorem dX11_layTo_89 : decode cX11_layTo 89 = .ok (.aload_n 0, 1) := by decide +kernel
theorem dX11_layTo_90 : decode cX11_layTo 90 = .ok (.getfield 80, 3) := by decide +kernel
theorem dX11_layTo_93 : decode cX11_layTo 93 = .ok (.iload_n 3, 1) := by decide +kernel
theorem dX11_layTo_94 : decode cX11_layTo 94 = .ok (.iaload, 1) := by decide +kernel
theorem dX11_layTo_95 : decode cX11_layTo 95 = .ok (.iload 5, 2) := by decide +kernel
theorem dX11_layTo_97 : decode cX11_layTo 97 = .ok (.iconst 1, 1) := by decide +kernel
theorem dX11_layTo_98 : decode cX11_layTo 98 = .ok (.iadd, 1) := by decide +kernel
theorem dX11_layTo_99 : decode cX11_layTo 99 = .ok (.if_icmp .gt 6, 3) := by decide +kernel
theorem dX11_layTo_102 : decode cX11_layTo 102 = .ok (.goto 15, 3) := by decide +kernel
theorem dX11_layTo_105 : decode cX11_layTo 105 = .ok (.aload_n 0, 1) := by decide +kernel
theorem dX11_layTo_106 : decode cX11_layTo 106 = .ok (.getfield 80, 3) := by decide +kernel
theorem dX11_layTo_109 : decode cX11_layTo 109 = .ok (.iload_n 3, 1) := by decide +kernel
theorem dX11_layTo_110 : decode cX11_layTo 110 = .ok (.iload 5, 2) := by decide +kernel
theorem dX11_layTo_112 : decode cX11_layTo 112 = .ok (.iconst 1, 1) := by decide +kernel
theorem dX11_layTo_113 : decode cX11_layTo 113 = .ok (.iadd, 1) := by decide +kernel
theorem dX11_layTo_114 : decode cX11_layTo 114 = .ok (.iastore, 1) := by decide +kernel
theorem dX11_layTo_115 : decode cX11_layTo 115 = .ok (.iconst 1, 1) := by decide +kernel
theorem dX11_layTo_116 : decode cX11_layTo 116 = .ok (.istore_n 2, 1) := by decide +kernel
theorem dX11_layTo_117 : decode cX11_layTo 117 = .ok (.iinc 4 1, 3) := by decide +kernel
theorem dX11_layTo_120 : decode cX11_layTo 120 = .ok (.goto (-70), 3) := by decide +kernel
theorem dX11_layTo_123 : decode cX11_layTo 123 = .ok (.iinc 3 (-1), 3) := by decide +kernel
theorem dX11_layTo_126 : decode cX11_layTo 126 = .ok (.goto (-83), 3) := by decide +kernel
theorem dX11_layTo_129 : decode cX11_layTo 129 = .ok (.goto (-96), 3) := by decide +kernel
theorem dX11_layTo_132 : decode cX11_layTo 132 = .ok (.return_, 1) := by decide +kernel
theorem dX11_way_0 : decode cX11_way 0 = .ok (.aload_n 0, 1) := by decide +kernel
theorem dX11_way_1 : decode cX11_way 1 = .ok (.iconst 0, 1) := by decide +kernel
theorem dX11_way_2 : decode cX11_way 2 = .ok (.putfield 3, 3) := by decide +kernel
theorem dX11_way_5 : decode cX11_way 5 = .ok (.aload_n 0, 1) := by decide +kernel
theorem dX11_way_6 : decode cX11_way 6 = .ok (.iload_n 1, 1) := by decide +kernel
theorem dX11_way_7 : decode cX11_way 7 = .ok (.invokestatic 397, 3) := by decide +kernel
theorem dX11_way_10 : decode cX11_way 10 = .ok (.ifCond .eq 14, 3) := by decide +kernel
theorem dX11_way_13 : decode cX11_way 13 = .ok (.iload_n 2, 1) := by decide +kernel
theorem dX11_way_14 : decode cX11_way 14 = .ok (.invokestatic 397, 3) := by decide +kernel
theorem dX11_way_17 : decode cX11_way 17 = .ok (.ifCond .eq 7, 3) := by decide +kernel
theorem dX11_way_20 : decode cX11_way 20 = .ok (.iconst 1, 1) := by decide +kernel
theorem dX11_way_21 : decode cX11_way 21 = .ok (.goto 4, 3) := by decide +kernel
theorem dX11_way_24 : decode cX11_way 24 = .ok (.iconst 0, 1) := by decide +kernel
theorem dX11_way_25 : decode cX11_way 25 = .ok (.iconst 1, 1) := by decide +kernel
theorem dX11_way_26 : decode cX11_way 26 = .ok (.iconst 1, 1) := by decide +kernel
theorem dX11_way_27 : decode cX11_way 27 = .ok (.invokevirtual 198, 3) := by decide +kernel
theorem dX11_way_30 : decode cX11_way 30 = .ok (.ifCond .ne 5, 3) := by decide +kernel
theorem dX11_way_33 : decode cX11_way 33 = .ok (.iconst 0, 1) := by decide +kernel
theorem dX11_way_34 : decode cX11_way 34 = .ok (.ireturn, 1) := by decide +kernel
theorem dX11_way_35 : decode cX11_way 35 = .ok (.aload_n 0, 1) := by decide +kernel
theorem dX11_way_36 : decode cX11_way 36 = .ok (.iload_n 2, 1) := by decide +kernel
theorem dX11_way_37 : decode cX11_way 37 = .ok (.invokevirtual 400, 3) := by decide +kernel
theorem dX11_way_40 : decode cX11_way 40 = .ok (.aload_n 0, 1) := by decide +kernel
theorem dX11_way_41 : decode cX11_way 41 = .ok (.getfield 80, 3) := by decide +kernel
theorem dX11_way_44 : decode cX11_way 44 = .ok (.iload_n 1, 1) := by decide +kernel
theorem dX11_way_45 : decode cX11_way 45 = .ok (.iaload, 1) := by decide +kernel
theorem dX11_way_46 : decode cX11_way 46 = .ok (.ireturn, 1) := by decide +kernel
theorem dX11_step_0 : decode cX11_step 0 = .ok (.aload_n 0, 1) := by decide +kernel
theorem dX11_step_1 : decode cX11_step 1 = .ok (.iconst 0, 1) := by decide +kernel
theorem dX11_step_2 : decode cX11_step 2 = .ok (.putfield 3, 3) := by decide +kernel
theorem dX11_step_5 : decode cX11_step 5 = .ok (.aload_n 0, 1) := by decide +kernel
theorem dX11_step_6 : decode cX11_step 6 = .ok (.iload_n 1, 1) := by decide +kernel
theorem dX11_step_7 : decode cX11_step 7 = .ok (.invokestatic 397, 3) := by decide +kernel
theorem dX11_step_10 : decode cX11_step 10 = .ok (.ifCond .eq 18, 3) := by decide +kernel
theorem dX11_step_13 : decode cX11_step 13 = .ok (.iload_n 2, 1) := by decide +kernel
theorem dX11_step_14 : decode cX11_step 14 = .ok (.invokestatic 397, 3) := by decide +kernel
theorem dX11_step_17 : decode cX11_step 17 = .ok (.ifCond .eq 11, 3) := by decide +kernel
theorem dX11_step_20 : decode cX11_step 20 = .ok (.iload_n 3, 1) := by decide +kernel
theorem dX11_step_21 : decode cX11_step 21 = .ok (.ifCond .lt 7, 3) := by decide +kernel
theorem dX11_step_24 : decode cX11_step 24 = .ok (.iconst 1, 1) := by decide +kernel
theorem dX11_step_25 : decode cX11_step 25 = .ok (.goto 4, 3) := by decide +kernel
theorem dX11_step_28 : decode cX11_step 28 = .ok (.iconst 0, 1) := by decide +kernel
theorem dX11_step_29 : decode cX11_step 29 = .ok (.iconst 1, 1) := by decide +kernel
theorem dX11_step_30 : decode cX11_step 30 = .ok (.iconst 1, 1) := by decide +kernel
theorem dX11_step_31 : decode cX11_step 31 = .ok (.invokevirtual 198, 3) := by decide +kernel
theorem dX11_step_34 : decode cX11_step 34 = .ok (.ifCond .ne 5, 3) := by decide +kernel
theorem dX11_step_37 : decode cX11_step 37 = .ok (.iconst 0, 1) := by decide +kernel
theorem dX11_step_38 : decode cX11_step 38 = .ok (.ireturn, 1) := by decide +kernel
theorem dX11_step_39 : decode cX11_step 39 = .ok (.aload_n 0, 1) := by decide +kernel
theorem dX11_step_40 : decode cX11_step 40 = .ok (.iload_n 2, 1) := by decide +kernel
theorem dX11_step_41 : decode cX11_step 41 = .ok (.invokevirtual 400, 3) := by decide +kernel
theorem dX11_step_44 : decode cX11_step 44 = .ok (.aload_n 0, 1) := by decide +kernel
theorem dX11_step_45 : decode cX11_step 45 = .ok (.getfield 80, 3) := by decide +kernel
theorem dX11_step_48 : decode cX11_step 48 = .ok (.iload_n 1, 1) := by decide +kernel
theorem dX11_step_49 : decode cX11_step 49 = .ok (.iaload, 1) := by decide +kernel
theorem dX11_step_50 : decode cX11_step 50 = .ok (.iconst (-1), 1) := by decide +kernel
theorem dX11_step_51 : decode cX11_step 51 = .ok (.if_icmp .eq 13, 3) := by decide +kernel
theorem dX11_step_54 : decode cX11_step 54 = .ok (.iload_n 3, 1) := by decide +kernel
theorem dX11_step_55 : decode cX11_step 55 = .ok (.aload_n 0, 1) := by decide +kernel
theorem dX11_step_56 : decode cX11_step 56 = .ok (.getfield 80, 3) := by decide +kernel
theorem dX11_step_59 : decode cX11_step 59 = .ok (.iload_n 1, 1) := by decide +kernel
theorem dX11_step_60 : decode cX11_step 60 = .ok (.iaload, 1) := by decide +kernel
theorem dX11_step_61 : decode cX11_step 61 = .ok (.if_icmp .lt 5, 3) := by decide +kernel
theorem dX11_step_64 : decode cX11_step 64 = .ok (.iconst (-1), 1) := by decide +kernel
theorem dX11_step_65 : decode cX11_step 65 = .ok (.ireturn, 1) := by decide +kernel
theorem dX11_step_66 : decode cX11_step 66 = .ok (.iload_n 1, 1) := by decide +kernel
theorem dX11_step_67 : decode cX11_step 67 = .ok (.istore 4, 2) := by decide +kernel
theorem dX11_step_69 : decode cX11_step 69 = .ok (.iconst 0, 1) := by decide +kernel
theorem dX11_step_70 : decode cX11_step 70 = .ok (.istore 5, 2) := by decide +kernel
theorem dX11_step_72 : decode cX11_step 72 = .ok (.iconst 0, 1) := by decide +kernel
theorem dX11_step_73 : decode cX11_step 73 = .ok (.istore 6, 2) := by decide +kernel
theorem dX11_step_75 : decode cX11_step 75 = .ok (.aload_n 0, 1) := by decide +kernel
theorem dX11_step_76 : decode cX11_step 76 = .ok (.getfield 80, 3) := by decide +kernel
theorem dX11_step_79 : decode cX11_step 79 = .ok (.aload_n 0, 1) := by decide +kernel
theorem dX11_step_80 : decode cX11_step 80 = .ok (.iload 4, 2) := by decide +kernel
theorem dX11_step_82 : decode cX11_step 82 = .ok (.iload 6, 2) := by decide +kernel
theorem dX11_step_84 : decode cX11_step 84 = .ok (.invokevirtual 352, 3) := by decide +kernel
theorem dX11_step_87 : decode cX11_step 87 = .ok (.iaload, 1) := by decide +kernel
theorem dX11_step_88 : decode cX11_step 88 = .ok (.aload_n 0, 1) := by decide +kernel
theorem dX11_step_89 : decode cX11_step 89 = .ok (.getfield 80, 3) := by decide +kernel
theorem dX11_step_92 : decode cX11_step 92 = .ok (.iload 4, 2) := by decide +kernel
theorem dX11_step_94 : decode cX11_step 94 = .ok (.iaload, 1) := by decide +kernel
theorem dX11_step_95 : decode cX11_step 95 = .ok (.iconst 1, 1) := by decide +kernel
theorem dX11_step_96 : decode cX11_step 96 = .ok (.isub, 1) := by decide +kernel
theorem dX11_step_97 : decode cX11_step 97 = .ok (.if_icmp .eq 9, 3) := by decide +kernel
theorem dX11_step_100 : decode cX11_step 100 = .ok (.iinc 6 1, 3) := by decide +kernel
theorem dX11_step_103 : decode cX11_step 103 = .ok (.goto (-28), 3) := by decide +kernel
theorem dX11_step_106 : decode cX11_step 106 = .ok (.iload 5, 2) := by decide +kernel
theorem dX11_step_108 : decode cX11_step 108 = .ok (.iload_n 3, 1) := by decide +kernel
theorem dX11_step_109 : decode cX11_step 109 = .ok (.if_icmp .ne 6, 3) := by decide +kernel
theorem dX11_step_112 : decode cX11_step 112 = .ok (.iload 6, 2) := by decide +kernel
theorem dX11_step_114 : decode cX11_step 114 = .ok (.ireturn, 1) := by decide +kernel
theorem dX11_step_115 : decode cX11_step 115 = .ok (.aload_n 0, 1) := by decide +kernel
theorem dX11_step_116 : decode cX11_step 116 = .ok (.iload 4, 2) := by decide +kernel
theorem dX11_step_118 : decode cX11_step 118 = .ok (.iload 6, 2) := by decide +kernel
theorem dX11_step_120 : decode cX11_step 120 = .ok (.invokevirtual 352, 3) := by decide +kernel
theorem dX11_step_123 : decode cX11_step 123 = .ok (.istore 4, 2) := by decide +kernel
theorem dX11_step_125 : decode cX11_step 125 = .ok (.iinc 5 1, 3) := by decide +kernel
theorem dX11_step_128 : decode cX11_step 128 = .ok (.goto (-56), 3) := by decide +kernel
theorem dX11_sumsOn_0 : decode cX11_sumsOn 0 = .ok (.iload_n 1, 1) := by decide +kernel
theorem dX11_sumsOn_1 : decode cX11_sumsOn 1 = .ok (.aload_n 0, 1) := by decide +kernel
theorem dX11_sumsOn_2 : decode cX11_sumsOn 2 = .ok (.getfield 156, 3) := by decide +kernel
theorem dX11_sumsOn_5 : decode cX11_sumsOn 5 = .ok (.if_icmp .ne 54, 3) := by decide +kernel
theorem dX11_sumsOn_8 : decode cX11_sumsOn 8 = .ok (.iload_n 2, 1) := by decide +kernel
theorem dX11_sumsOn_9 : decode cX11_sumsOn 9 = .ok (.iload_n 3, 1) := by decide +kernel
theorem dX11_sumsOn_10 : decode cX11_sumsOn 10 = .ok (.iadd, 1) := by decide +kernel
theorem dX11_sumsOn_11 : decode cX11_sumsOn 11 = .ok (.iload 4, 2) := by decide +kernel
theorem dX11_sumsOn_13 : decode cX11_sumsOn 13 = .ok (.iadd, 1) := by decide +kernel
theorem dX11_sumsOn_14 : decode cX11_sumsOn 14 = .ok (.ifCond .le 4, 3) := by decide +kernel
theorem dX11_sumsOn_17 : decode cX11_sumsOn 17 = .ok (.return_, 1) := by decide +kernel
theorem dX11_sumsOn_18 : decode cX11_sumsOn 18 = .ok (.aload_n 0, 1) := by decide +kernel
theorem dX11_sumsOn_19 : decode cX11_sumsOn 19 = .ok (.dup, 1) := by decide +kernel
theorem dX11_sumsOn_20 : decode cX11_sumsOn 20 = .ok (.getfield 403, 3) := by decide +kernel
theorem dX11_sumsOn_23 : decode cX11_sumsOn 23 = .ok (.iconst 1, 1) := by decide +kernel
theorem dX11_sumsOn_24 : decode cX11_sumsOn 24 = .ok (.iadd, 1) := by decide +kernel
theorem dX11_sumsOn_25 : decode cX11_sumsOn 25 = .ok (.putfield 403, 3) := by decide +kernel
theorem dX11_sumsOn_28 : decode cX11_sumsOn 28 = .ok (.aload_n 0, 1) := by decide +kernel
theorem dX11_sumsOn_29 : decode cX11_sumsOn 29 = .ok (.aload_n 0, 1) := by decide +kernel
theorem dX11_sumsOn_30 : decode cX11_sumsOn 30 = .ok (.getfield 406, 3) := by decide +kernel
theorem dX11_sumsOn_33 : decode cX11_sumsOn 33 = .ok (.iconst (-1), 1) := by decide +kernel
theorem dX11_sumsOn_34 : decode cX11_sumsOn 34 = .ok (.if_icmp .eq 12, 3) := by decide +kernel
theorem dX11_sumsOn_37 : decode cX11_sumsOn 37 = .ok (.iload 5, 2) := by decide +kernel
theorem dX11_sumsOn_39 : decode cX11_sumsOn 39 = .ok (.aload_n 0, 1) := by decide +kernel
theorem dX11_sumsOn_40 : decode cX11_sumsOn 40 = .ok (.getfield 406, 3) := by decide +kernel
theorem dX11_sumsOn_43 : decode cX11_sumsOn 43 = .ok (.if_icmp .ge 8, 3) := by decide +kernel
theorem dX11_sumsOn_46 : decode cX11_sumsOn 46 = .ok (.iload 5, 2) := by decide +kernel
theorem dX11_sumsOn_48 : decode cX11_sumsOn 48 = .ok (.goto 7, 3) := by decide +kernel
theorem dX11_sumsOn_51 : decode cX11_sumsOn 51 = .ok (.aload_n 0, 1) := by decide +kernel
theorem dX11_sumsOn_52 : decode cX11_sumsOn 52 = .ok (.getfield 406, 3) := by decide +kernel
theorem dX11_sumsOn_55 : decode cX11_sumsOn 55 = .ok (.putfield 406, 3) := by decide +kernel
theorem dX11_sumsOn_58 : decode cX11_sumsOn 58 = .ok (.return_, 1) := by decide +kernel
theorem dX11_sumsOn_59 : decode cX11_sumsOn 59 = .ok (.iconst 4, 1) := by decide +kernel
theorem dX11_sumsOn_60 : decode cX11_sumsOn 60 = .ok (.iload_n 1, 1) := by decide +kernel
theorem dX11_sumsOn_61 : decode cX11_sumsOn 61 = .ok (.imul, 1) := by decide +kernel
theorem dX11_sumsOn_62 : decode cX11_sumsOn 62 = .ok (.istore 6, 2) := by decide +kernel
theorem dX11_sumsOn_64 : decode cX11_sumsOn 64 = .ok (.aload_n 0, 1) := by decide +kernel
theorem dX11_sumsOn_65 : decode cX11_sumsOn 65 = .ok (.getfield 35, 3) := by decide +kernel
theorem dX11_sumsOn_68 : decode cX11_sumsOn 68 = .ok (.iload 6, 2) := by decide +kernel
theorem dX11_sumsOn_70 : decode cX11_sumsOn 70 = .ok (.iaload, 1) := by decide +kernel
theorem dX11_sumsOn_71 : decode cX11_sumsOn 71 = .ok (.aload_n 0, 1) := by decide +kernel
theorem dX11_sumsOn_72 : decode cX11_sumsOn 72 = .ok (.getfield 35, 3) := by decide +kernel
theorem dX11_sumsOn_75 : decode cX11_sumsOn 75 = .ok (.iload 6, 2) := by decide +kernel
theorem dX11_sumsOn_77 : decode cX11_sumsOn 77 = .ok (.iconst 1, 1) := by decide +kernel
theorem dX11_sumsOn_78 : decode cX11_sumsOn 78 = .ok (.iadd, 1) := by decide +kernel
theorem dX11_sumsOn_79 : decode cX11_sumsOn 79 = .ok (.iaload, 1) := by decide +kernel
theorem dX11_sumsOn_80 : decode cX11_sumsOn 80 = .ok (.iadd, 1) := by decide +kernel
theorem dX11_sumsOn_81 : decode cX11_sumsOn 81 = .ok (.aload_n 0, 1) := by decide +kernel
theorem dX11_sumsOn_82 : decode cX11_sumsOn 82 = .ok (.getfield 35, 3) := by decide +kernel
theorem dX11_sumsOn_85 : decode cX11_sumsOn 85 = .ok (.iload 6, 2) := by decide +kernel
theorem dX11_sumsOn_87 : decode cX11_sumsOn 87 = .ok (.iconst 2, 1) := by decide +kernel
theorem dX11_sumsOn_88 : decode cX11_sumsOn 88 = .ok (.iadd, 1) := by decide +kernel
theorem dX11_sumsOn_89 : decode cX11_sumsOn 89 = .ok (.iaload, 1) := by decide +kernel
theorem dX11_sumsOn_90 : decode cX11_sumsOn 90 = .ok (.iadd, 1) := by decide +kernel
theorem dX11_sumsOn_91 : decode cX11_sumsOn 91 = .ok (.ifCond .ne 17, 3) := by decide +kernel
theorem dX11_sumsOn_94 : decode cX11_sumsOn 94 = .ok (.aload_n 0, 1) := by decide +kernel
theorem dX11_sumsOn_95 : decode cX11_sumsOn 95 = .ok (.iload_n 1, 1) := by decide +kernel
theorem dX11_sumsOn_96 : decode cX11_sumsOn 96 = .ok (.iconst 1, 1) := by decide +kernel
theorem dX11_sumsOn_97 : decode cX11_sumsOn 97 = .ok (.iadd, 1) := by decide +kernel
theorem dX11_sumsOn_98 : decode cX11_sumsOn 98 = .ok (.iload_n 2, 1) := by decide +kernel
theorem dX11_sumsOn_99 : decode cX11_sumsOn 99 = .ok (.iload_n 3, 1) := by decide +kernel
theorem dX11_sumsOn_100 : decode cX11_sumsOn 100 = .ok (.iload 4, 2) := by decide +kernel
theorem dX11_sumsOn_102 : decode cX11_sumsOn 102 = .ok (.iload 5, 2) := by decide +kernel
theorem dX11_sumsOn_104 : decode cX11_sumsOn 104 = .ok (.invokevirtual 409, 3) := by decide +kernel
theorem dX11_sumsOn_107 : decode cX11_sumsOn 107 = .ok (.return_, 1) := by decide +kernel
theorem dX11_sumsOn_108 : decode cX11_sumsOn 108 = .ok (.iconst 0, 1) := by decide +kernel
theorem dX11_sumsOn_109 : decode cX11_sumsOn 109 = .ok (.istore 7, 2) := by decide +kernel
theorem dX11_sumsOn_111 : decode cX11_sumsOn 111 = .ok (.iload 7, 2) := by decide +kernel
theorem dX11_sumsOn_113 : decode cX11_sumsOn 113 = .ok (.aload_n 0, 1) := by decide +kernel
theorem dX11_sumsOn_114 : decode cX11_sumsOn 114 = .ok (.getfield 35, 3) := by decide +kernel
theorem dX11_sumsOn_117 : decode cX11_sumsOn 117 = .ok (.iload 6, 2) := by decide +kernel
theorem dX11_sumsOn_119 : decode cX11_sumsOn 119 = .ok (.iaload, 1) := by decide +kernel
theorem dX11_sumsOn_120 : decode cX11_sumsOn 120 = .ok (.imul, 1) := by decide +kernel
theorem dX11_sumsOn_121 : decode cX11_sumsOn 121 = .ok (.iload_n 2, 1) := by decide +kernel
theorem dX11_sumsOn_122 : decode cX11_sumsOn 122 = .ok (.if_icmp .gt 95, 3) := by decide +kernel
theorem dX11_sumsOn_125 : decode cX11_sumsOn 125 = .ok (.iload 7, 2) := by decide +kernel
theorem dX11_sumsOn_127 : decode cX11_sumsOn 127 = .ok (.aload_n 0, 1) := by decide +kernel
theorem dX11_sumsOn_128 : decode cX11_sumsOn 128 = .ok (.getfield 35, 3) := by decide +kernel
theorem dX11_sumsOn_131 : decode cX11_sumsOn 131 = .ok (.iload 6, 2) := by decide +kernel
theorem dX11_sumsOn_133 : decode cX11_sumsOn 133 = .ok (.iconst 1, 1) := by decide +kernel
theorem dX11_sumsOn_134 : decode cX11_sumsOn 134 = .ok (.iadd, 1) := by decide +kernel
theorem dX11_sumsOn_135 : decode cX11_sumsOn 135 = .ok (.iaload, 1) := by decide +kernel
theorem dX11_sumsOn_136 : decode cX11_sumsOn 136 = .ok (.imul, 1) := by decide +kernel
theorem dX11_sumsOn_137 : decode cX11_sumsOn 137 = .ok (.iload_n 3, 1) := by decide +kernel
theorem dX11_sumsOn_138 : decode cX11_sumsOn 138 = .ok (.if_icmp .gt 79, 3) := by decide +kernel
theorem dX11_sumsOn_141 : decode cX11_sumsOn 141 = .ok (.iload 7, 2) := by decide +kernel
theorem dX11_sumsOn_143 : decode cX11_sumsOn 143 = .ok (.aload_n 0, 1) := by decide +kernel
theorem dX11_sumsOn_144 : decode cX11_sumsOn 144 = .ok (.getfield 35, 3) := by decide +kernel
theorem dX11_sumsOn_147 : decode cX11_sumsOn 147 = .ok (.iload 6, 2) := by decide +kernel
theorem dX11_sumsOn_149 : decode cX11_sumsOn 149 = .ok (.iconst 2, 1) := by decide +kernel
theorem dX11_sumsOn_150 : decode cX11_sumsOn 150 = .ok (.iadd, 1) := by decide +kernel
theorem dX11_sumsOn_151 : decode cX11_sumsOn 151 = .ok (.iaload, 1) := by decide +kernel
theorem dX11_sumsOn_152 : decode cX11_sumsOn 152 = .ok (.imul, 1) := by decide +kernel
theorem dX11_sumsOn_153 : decode cX11_sumsOn 153 = .ok (.iload 4, 2) := by decide +kernel
theorem dX11_sumsOn_155 : decode cX11_sumsOn 155 = .ok (.if_icmp .gt 62, 3) := by decide +kernel
theorem dX11_sumsOn_158 : decode cX11_sumsOn 158 = .ok (.aload_n 0, 1) := by decide +kernel
theorem dX11_sumsOn_159 : decode cX11_sumsOn 159 = .ok (.iload_n 1, 1) := by decide +kernel
theorem dX11_sumsOn_160 : decode cX11_sumsOn 160 = .ok (.iconst 1, 1) := by decide +kernel
theorem dX11_sumsOn_161 : decode cX11_sumsOn 161 = .ok (.iadd, 1) := by decide +kernel
theorem dX11_sumsOn_162 : decode cX11_sumsOn 162 = .ok (.iload_n 2, 1) := by decide +kernel
theorem dX11_sumsOn_163 : decode cX11_sumsOn 163 = .ok (.iload 7, 2) := by decide +kernel
theorem dX11_sumsOn_165 : decode cX11_sumsOn 165 = .ok (.aload_n 0, 1) := by decide +kernel
theorem dX11_sumsOn_166 : decode cX11_sumsOn 166 = .ok (.getfield 35, 3) := by decide +kernel
theorem dX11_sumsOn_169 : decode cX11_sumsOn 169 = .ok (.iload 6, 2) := by decide +kernel
theorem dX11_sumsOn_171 : decode cX11_sumsOn 171 = .ok (.iaload, 1) := by decide +kernel
theorem dX11_sumsOn_172 : decode cX11_sumsOn 172 = .ok (.imul, 1) := by decide +kernel
theorem dX11_sumsOn_173 : decode cX11_sumsOn 173 = .ok (.isub, 1) := by decide +kernel
theorem dX11_sumsOn_174 : decode cX11_sumsOn 174 = .ok (.iload_n 3, 1) := by decide +kernel
theorem dX11_sumsOn_175 : decode cX11_sumsOn 175 = .ok (.iload 7, 2) := by decide +kernel
theorem dX11_sumsOn_177 : decode cX11_sumsOn 177 = .ok (.aload_n 0, 1) := by decide +kernel
theorem dX11_sumsOn_178 : decode cX11_sumsOn 178 = .ok (.getfield 35, 3) := by decide +kernel
theorem dX11_sumsOn_181 : decode cX11_sumsOn 181 = .ok (.iload 6, 2) := by decide +kernel
theorem dX11_sumsOn_183 : decode cX11_sumsOn 183 = .ok (.iconst 1, 1) := by decide +kernel
theorem dX11_sumsOn_184 : decode cX11_sumsOn 184 = .ok (.iadd, 1) := by decide +kernel
theorem dX11_sumsOn_185 : decode cX11_sumsOn 185 = .ok (.iaload, 1) := by decide +kernel
theorem dX11_sumsOn_186 : decode cX11_sumsOn 186 = .ok (.imul, 1) := by decide +kernel
theorem dX11_sumsOn_187 : decode cX11_sumsOn 187 = .ok (.isub, 1) := by decide +kernel
theorem dX11_sumsOn_188 : decode cX11_sumsOn 188 = .ok (.iload 4, 2) := by decide +kernel
theorem dX11_sumsOn_190 : decode cX11_sumsOn 190 = .ok (.iload 7, 2) := by decide +kernel
theorem dX11_sumsOn_192 : decode cX11_sumsOn 192 = .ok (.aload_n 0, 1) := by decide +kernel
theorem dX11_sumsOn_193 : decode cX11_sumsOn 193 = .ok (.getfield 35, 3) := by decide +kernel
theorem dX11_sumsOn_196 : decode cX11_sumsOn 196 = .ok (.iload 6, 2) := by decide +kernel
theorem dX11_sumsOn_198 : decode cX11_sumsOn 198 = .ok (.iconst 2, 1) := by decide +kernel
theorem dX11_sumsOn_199 : decode cX11_sumsOn 199 = .ok (.iadd, 1) := by decide +kernel
theorem dX11_sumsOn_200 : decode cX11_sumsOn 200 = .ok (.iaload, 1) := by decide +kernel
theorem dX11_sumsOn_201 : decode cX11_sumsOn 201 = .ok (.imul, 1) := by decide +kernel
theorem dX11_sumsOn_202 : decode cX11_sumsOn 202 = .ok (.isub, 1) := by decide +kernel
theorem dX11_sumsOn_203 : decode cX11_sumsOn 203 = .ok (.iload 5, 2) := by decide +kernel
theorem dX11_sumsOn_205 : decode cX11_sumsOn 205 = .ok (.iload 7, 2) := by decide +kernel
theorem dX11_sumsOn_207 : decode cX11_sumsOn 207 = .ok (.iadd, 1) := by decide +kernel
theorem dX11_sumsOn_208 : decode cX11_sumsOn 208 = .ok (.invokevirtual 409, 3) := by decide +kernel
theorem dX11_sumsOn_211 : decode cX11_sumsOn 211 = .ok (.iinc 7 1, 3) := by decide +kernel
theorem dX11_sumsOn_214 : decode cX11_sumsOn 214 = .ok (.goto (-103), 3) := by decide +kernel
theorem dX11_sumsOn_217 : decode cX11_sumsOn 217 = .ok (.return_, 1) := by decide +kernel
theorem dX11_sums_0 : decode cX11_sums 0 = .ok (.aload_n 0, 1) := by decide +kernel
theorem dX11_sums_1 : decode cX11_sums 1 = .ok (.iconst 0, 1) := by decide +kernel
theorem dX11_sums_2 : decode cX11_sums 2 = .ok (.putfield 3, 3) := by decide +kernel
theorem dX11_sums_5 : decode cX11_sums 5 = .ok (.aload_n 0, 1) := by decide +kernel
theorem dX11_sums_6 : decode cX11_sums 6 = .ok (.iload_n 1, 1) := by decide +kernel
theorem dX11_sums_7 : decode cX11_sums 7 = .ok (.invokestatic 397, 3) := by decide +kernel
theorem dX11_sums_10 : decode cX11_sums 10 = .ok (.ifCond .eq 16, 3) := by decide +kernel
theorem dX11_sums_13 : decode cX11_sums 13 = .ok (.iload_n 2, 1) := by decide +kernel
theorem dX11_sums_14 : decode cX11_sums 14 = .ok (.iconst 0, 1) := by decide +kernel
theorem dX11_sums_15 : decode cX11_sums 15 = .ok (.iconst 1, 1) := by decide +kernel
theorem dX11_sums_16 : decode cX11_sums 16 = .ok (.invokestatic 376, 3) := by decide +kernel
theorem dX11_sums_19 : decode cX11_sums 19 = .ok (.ifCond .eq 7, 3) := by decide +kernel
theorem dX11_sums_22 : decode cX11_sums 22 = .ok (.iconst 1, 1) := by decide +kernel
theorem dX11_sums_23 : decode cX11_sums 23 = .ok (.goto 4, 3) := by decide +kernel
theorem dX11_sums_26 : decode cX11_sums 26 = .ok (.iconst 0, 1) := by decide +kernel
theorem dX11_sums_27 : decode cX11_sums 27 = .ok (.iconst 1, 1) := by decide +kernel
theorem dX11_sums_28 : decode cX11_sums 28 = .ok (.iconst 1, 1) := by decide +kernel
theorem dX11_sums_29 : decode cX11_sums 29 = .ok (.invokevirtual 198, 3) := by decide +kernel
theorem dX11_sums_32 : decode cX11_sums 32 = .ok (.ifCond .ne 5, 3) := by decide +kernel
theorem dX11_sums_35 : decode cX11_sums 35 = .ok (.iconst 0, 1) := by decide +kernel
theorem dX11_sums_36 : decode cX11_sums 36 = .ok (.ireturn, 1) := by decide +kernel
theorem dX11_sums_37 : decode cX11_sums 37 = .ok (.aload_n 0, 1) := by decide +kernel
theorem dX11_sums_38 : decode cX11_sums 38 = .ok (.iconst 0, 1) := by decide +kernel
theorem dX11_sums_39 : decode cX11_sums 39 = .ok (.putfield 403, 3) := by decide +kernel
theorem dX11_sums_42 : decode cX11_sums 42 = .ok (.aload_n 0, 1) := by decide +kernel
theorem dX11_sums_43 : decode cX11_sums 43 = .ok (.iconst (-1), 1) := by decide +kernel
theorem dX11_sums_44 : decode cX11_sums 44 = .ok (.putfield 406, 3) := by decide +kernel
theorem dX11_sums_47 : decode cX11_sums 47 = .ok (.aload_n 0, 1) := by decide +kernel
theorem dX11_sums_48 : decode cX11_sums 48 = .ok (.iconst 0, 1) := by decide +kernel
theorem dX11_sums_49 : decode cX11_sums 49 = .ok (.iload_n 1, 1) := by decide +kernel
theorem dX11_sums_50 : decode cX11_sums 50 = .ok (.iconst 0, 1) := by decide +kernel
theorem dX11_sums_51 : decode cX11_sums 51 = .ok (.invokestatic 327, 3) := by decide +kernel
theorem dX11_sums_54 : decode cX11_sums 54 = .ok (.iload_n 1, 1) := by decide +kernel
theorem dX11_sums_55 : decode cX11_sums 55 = .ok (.iconst 1, 1) := by decide +kernel
theorem dX11_sums_56 : decode cX11_sums 56 = .ok (.invokestatic 327, 3) := by decide +kernel
theorem dX11_sums_59 : decode cX11_sums 59 = .ok (.iload_n 1, 1) := by decide +kernel
theorem dX11_sums_60 : decode cX11_sums 60 = .ok (.iconst 2, 1) := by decide +kernel
theorem dX11_sums_61 : decode cX11_sums 61 = .ok (.invokestatic 327, 3) := by decide +kernel
theorem dX11_sums_64 : decode cX11_sums 64 = .ok (.iconst 0, 1) := by decide +kernel
theorem dX11_sums_65 : decode cX11_sums 65 = .ok (.invokevirtual 409, 3) := by decide +kernel
theorem dX11_sums_68 : decode cX11_sums 68 = .ok (.iload_n 2, 1) := by decide +kernel
theorem dX11_sums_69 : decode cX11_sums 69 = .ok (.ifCond .ne 10, 3) := by decide +kernel
theorem dX11_sums_72 : decode cX11_sums 72 = .ok (.aload_n 0, 1) := by decide +kernel
theorem dX11_sums_73 : decode cX11_sums 73 = .ok (.getfield 403, 3) := by decide +kernel
theorem dX11_sums_76 : decode cX11_sums 76 = .ok (.goto 7, 3) := by decide +kernel
theorem dX11_sums_79 : decode cX11_sums 79 = .ok (.aload_n 0, 1) := by decide +kernel
theorem dX11_sums_80 : decode cX11_sums 80 = .ok (.getfield 406, 3) := by decide +kernel
theorem dX11_sums_83 : decode cX11_sums 83 = .ok (.ireturn, 1) := by decide +kernel
theorem dX11_tones_0 : decode cX11_tones 0 = .ok (.aload_n 0, 1) := by decide +kernel
theorem dX11_tones_1 : decode cX11_tones 1 = .ok (.iconst 0, 1) := by decide +kernel
theorem dX11_tones_2 : decode cX11_tones 2 = .ok (.putfield 3, 3) := by decide +kernel
theorem dX11_tones_5 : decode cX11_tones 5 = .ok (.aload_n 0, 1) := by decide +kernel
theorem dX11_tones_6 : decode cX11_tones 6 = .ok (.iload_n 1, 1) := by decide +kernel
theorem dX11_tones_7 : decode cX11_tones 7 = .ok (.invokestatic 397, 3) := by decide +kernel
theorem dX11_tones_10 : decode cX11_tones 10 = .ok (.iconst 1, 1) := by decide +kernel
theorem dX11_tones_11 : decode cX11_tones 11 = .ok (.iconst 1, 1) := by decide +kernel
theorem dX11_tones_12 : decode cX11_tones 12 = .ok (.invokevirtual 198, 3) := by decide +kernel
theorem dX11_tones_15 : decode cX11_tones 15 = .ok (.ifCond .ne 5, 3) := by decide +kernel
theorem dX11_tones_18 : decode cX11_tones 18 = .ok (.iconst 0, 1) := by decide +kernel
theorem dX11_tones_19 : decode cX11_tones 19 = .ok (.ireturn, 1) := by decide +kernel
theorem dX11_tones_20 : decode cX11_tones 20 = .ok (.iconst 0, 1) := by decide +kernel
theorem dX11_tones_21 : decode cX11_tones 21 = .ok (.istore_n 2, 1) := by decide +kernel
theorem dX11_tones_22 : decode cX11_tones 22 = .ok (.iload_n 2, 1) := by decide +kernel
theorem dX11_tones_23 : decode cX11_tones 23 = .ok (.sipush 1000, 3) := by decide +kernel
theorem dX11_tones_26 : decode cX11_tones 26 = .ok (.if_icmp .ge 16, 3) := by decide +kernel
theorem dX11_tones_29 : decode cX11_tones 29 = .ok (.aload_n 0, 1) := by decide +kernel
theorem dX11_tones_30 : decode cX11_tones 30 = .ok (.getfield 80, 3) := by decide +kernel
theorem dX11_tones_33 : decode cX11_tones 33 = .ok (.iload_n 2, 1) := by decide +kernel
theorem dX11_tones_34 : decode cX11_tones 34 = .ok (.iconst (-1), 1) := by decide +kernel
theorem dX11_tones_35 : decode cX11_tones 35 = .ok (.iastore, 1) := by decide +kernel
theorem dX11_tones_36 : decode cX11_tones 36 = .ok (.iinc 2 1, 3) := by decide +kernel
theorem dX11_tones_39 : decode cX11_tones 39 = .ok (.goto (-17), 3) := by decide +kernel
theorem dX11_tones_42 : decode cX11_tones 42 = .ok (.iconst 1, 1) := by decide +kernel
theorem dX11_tones_43 : decode cX11_tones 43 = .ok (.istore_n 2, 1) := by decide +kernel
theorem dX11_tones_44 : decode cX11_tones 44 = .ok (.aload_n 0, 1) := by decide +kernel
theorem dX11_tones_45 : decode cX11_tones 45 = .ok (.getfield 83, 3) := by decide +kernel
theorem dX11_tones_48 : decode cX11_tones 48 = .ok (.iconst 0, 1) := by decide +kernel
theorem dX11_tones_49 : decode cX11_tones 49 = .ok (.iload_n 1, 1) := by decide +kernel
theorem dX11_tones_50 : decode cX11_tones 50 = .ok (.iastore, 1) := by decide +kernel
theorem dX11_tones_51 : decode cX11_tones 51 = .ok (.aload_n 0, 1) := by decide +kernel
theorem dX11_tones_52 : decode cX11_tones 52 = .ok (.getfield 80, 3) := by decide +kernel
theorem dX11_tones_55 : decode cX11_tones 55 = .ok (.iload_n 1, 1) := by decide +kernel
theorem dX11_tones_56 : decode cX11_tones 56 = .ok (.iconst 0, 1) := by decide +kernel
theorem dX11_tones_57 : decode cX11_tones 57 = .ok (.iastore, 1) := by decide +kernel
theorem dX11_tones_58 : decode cX11_tones 58 = .ok (.iconst 0, 1) := by decide +kernel
theorem dX11_tones_59 : decode cX11_tones 59 = .ok (.istore_n 3, 1) := by decide +kernel
theorem dX11_tones_60 : decode cX11_tones 60 = .ok (.iload_n 3, 1) := by decide +kernel
theorem dX11_tones_61 : decode cX11_tones 61 = .ok (.iload_n 2, 1) := by decide +kernel
theorem dX11_tones_62 : decode cX11_tones 62 = .ok (.if_icmp .ge 74, 3) := by decide +kernel
theorem dX11_tones_65 : decode cX11_tones 65 = .ok (.iconst 0, 1) := by decide +kernel
theorem dX11_tones_66 : decode cX11_tones 66 = .ok (.istore 4, 2) := by decide +kernel
theorem dX11_tones_68 : decode cX11_tones 68 = .ok (.iload 4, 2) := by decide +kernel
theorem dX11_tones_70 : decode cX11_tones 70 = .ok (.aload_n 0, 1) := by decide +kernel
theorem dX11_tones_71 : decode cX11_tones 71 = .ok (.getfield 156, 3) := by decide +kernel
theorem dX11_tones_74 : decode cX11_tones 74 = .ok (.if_icmp .ge 56, 3) := by decide +kernel
theorem dX11_tones_77 : decode cX11_tones 77 = .ok (.aload_n 0, 1) := by decide +kernel
theorem dX11_tones_78 : decode cX11_tones 78 = .ok (.aload_n 0, 1) := by decide +kernel
theorem dX11_tones_79 : decode cX11_tones 79 = .ok (.getfield 83, 3) := by decide +kernel
theorem dX11_tones_82 : decode cX11_tones 82 = .ok (.iload_n 3, 1) := by decide +kernel
theorem dX11_tones_83 : decode cX11_tones 83 = .ok (.iaload, 1) := by decide +kernel
theorem dX11_tones_84 : decode cX11_tones 84 = .ok (.iload 4, 2) := by decide +kernel
theorem dX11_tones_86 : decode cX11_tones 86 = .ok (.invokevirtual 352, 3) := by decide +kernel
theorem dX11_tones_89 : decode cX11_tones 89 = .ok (.istore 5, 2) := by decide +kernel
theorem dX11_tones_91 : decode cX11_tones 91 = .ok (.aload_n 0, 1) := by decide +kernel
theorem dX11_tones_92 : decode cX11_tones 92 = .ok (.getfield 80, 3) := by decide +kernel
theorem dX11_tones_95 : decode cX11_tones 95 = .ok (.iload 5, 2) := by decide +kernel
theorem dX11_tones_97 : decode cX11_tones 97 = .ok (.iaload, 1) := by decide +kernel
theorem dX11_tones_98 : decode cX11_tones 98 = .ok (.iconst (-1), 1) := by decide +kernel
theorem dX11_tones_99 : decode cX11_tones 99 = .ok (.if_icmp .eq 6, 3) := by decide +kernel
theorem dX11_tones_102 : decode cX11_tones 102 = .ok (.goto 22, 3) := by decide +kernel
theorem dX11_tones_105 : decode cX11_tones 105 = .ok (.aload_n 0, 1) := by decide +kernel
theorem dX11_tones_106 : decode cX11_tones 106 = .ok (.getfield 80, 3) := by decide +kernel
theorem dX11_tones_109 : decode cX11_tones 109 = .ok (.iload 5, 2) := by decide +kernel
theorem dX11_tones_111 : decode cX11_tones 111 = .ok (.iconst 0, 1) := by decide +kernel
theorem dX11_tones_112 : decode cX11_tones 112 = .ok (.iastore, 1) := by decide +kernel
theorem dX11_tones_113 : decode cX11_tones 113 = .ok (.aload_n 0, 1) := by decide +kernel
theorem dX11_tones_114 : decode cX11_tones 114 = .ok (.getfield 83, 3) := by decide +kernel
theorem dX11_tones_117 : decode cX11_tones 117 = .ok (.iload_n 2, 1) := by decide +kernel
theorem dX11_tones_118 : decode cX11_tones 118 = .ok (.iload 5, 2) := by decide +kernel
theorem dX11_tones_120 : decode cX11_tones 120 = .ok (.iastore, 1) := by decide +kernel
theorem dX11_tones_121 : decode cX11_tones 121 = .ok (.iinc 2 1, 3) := by decide +kernel
theorem dX11_tones_124 : decode cX11_tones 124 = .ok (.iinc 4 1, 3) := by decide +kernel
theorem dX11_tones_127 : decode cX11_tones 127 = .ok (.goto (-59), 3) := by decide +kernel
theorem dX11_tones_130 : decode cX11_tones 130 = .ok (.iinc 3 1, 3) := by decide +kernel
theorem dX11_tones_133 : decode cX11_tones 133 = .ok (.goto (-73), 3) := by decide +kernel
theorem dX11_tones_136 : decode cX11_tones 136 = .ok (.iload_n 2, 1) := by decide +kernel
theorem dX11_tones_137 : decode cX11_tones 137 = .ok (.ireturn, 1) := by decide +kernel
theorem dX11_hasOf_0 : decode cX11_hasOf 0 = .ok (.aload_n 0, 1) := by decide +kernel
theorem dX11_hasOf_1 : decode cX11_hasOf 1 = .ok (.getfield 68, 3) := by decide +kernel
theorem dX11_hasOf_4 : decode cX11_hasOf 4 = .ok (.iconst 0, 1) := by decide +kernel
theorem dX11_hasOf_5 : decode cX11_hasOf 5 = .ok (.iconst 3, 1) := by decide +kernel
theorem dX11_hasOf_6 : decode cX11_hasOf 6 = .ok (.iload_n 1, 1) := by decide +kernel
theorem dX11_hasOf_7 : decode cX11_hasOf 7 = .ok (.imul, 1) := by decide +kernel
theorem dX11_hasOf_8 : decode cX11_hasOf 8 = .ok (.iadd, 1) := by decide +kernel
theorem dX11_hasOf_9 : decode cX11_hasOf 9 = .ok (.iload_n 2, 1) := by decide +kernel
theorem dX11_hasOf_10 : decode cX11_hasOf 10 = .ok (.iadd, 1) := by decide +kernel
theorem dX11_hasOf_11 : decode cX11_hasOf 11 = .ok (.iaload, 1) := by decide +kernel
theorem dX11_hasOf_12 : decode cX11_hasOf 12 = .ok (.ireturn, 1) := by decide +kernel
theorem dX11_mayBeTheirs_0 : decode cX11_mayBeTheirs 0 = .ok (.iconst 0, 1) := by decide +kernel
theorem dX11_mayBeTheirs_1 : decode cX11_mayBeTheirs 1 = .ok (.istore_n 3, 1) := by decide +kernel
theorem dX11_mayBeTheirs_2 : decode cX11_mayBeTheirs 2 = .ok (.iload_n 3, 1) := by decide +kernel
theorem dX11_mayBeTheirs_3 : decode cX11_mayBeTheirs 3 = .ok (.iconst 3, 1) := by decide +kernel
theorem dX11_mayBeTheirs_4 : decode cX11_mayBeTheirs 4 = .ok (.if_icmp .ge 51, 3) := by decide +kernel
theorem dX11_mayBeTheirs_7 : decode cX11_mayBeTheirs 7 = .ok (.aload_n 0, 1) := by decide +kernel
theorem dX11_mayBeTheirs_8 : decode cX11_mayBeTheirs 8 = .ok (.getfield 77, 3) := by decide +kernel
theorem dX11_mayBeTheirs_11 : decode cX11_mayBeTheirs 11 = .ok (.iload_n 3, 1) := by decide +kernel
theorem dX11_mayBeTheirs_12 : decode cX11_mayBeTheirs 12 = .ok (.iaload, 1) := by decide +kernel
theorem dX11_mayBeTheirs_13 : decode cX11_mayBeTheirs 13 = .ok (.iconst (-1), 1) := by decide +kernel
theorem dX11_mayBeTheirs_14 : decode cX11_mayBeTheirs 14 = .ok (.if_icmp .eq 35, 3) := by decide +kernel
theorem dX11_mayBeTheirs_17 : decode cX11_mayBeTheirs 17 = .ok (.aload_n 0, 1) := by decide +kernel
theorem dX11_mayBeTheirs_18 : decode cX11_mayBeTheirs 18 = .ok (.iload_n 1, 1) := by decide +kernel
theorem dX11_mayBeTheirs_19 : decode cX11_mayBeTheirs 19 = .ok (.iload_n 3, 1) := by decide +kernel
theorem dX11_mayBeTheirs_20 : decode cX11_mayBeTheirs 20 = .ok (.invokevirtual 413, 3) := by decide +kernel
theorem dX11_mayBeTheirs_23 : decode cX11_mayBeTheirs 23 = .ok (.aload_n 0, 1) := by decide +kernel
theorem dX11_mayBeTheirs_24 : decode cX11_mayBeTheirs 24 = .ok (.getfield 77, 3) := by decide +kernel
theorem dX11_mayBeTheirs_27 : decode cX11_mayBeTheirs 27 = .ok (.iload_n 3, 1) := by decide +kernel
theorem dX11_mayBeTheirs_28 : decode cX11_mayBeTheirs 28 = .ok (.iaload, 1) := by decide +kernel
theorem dX11_mayBeTheirs_29 : decode cX11_mayBeTheirs 29 = .ok (.if_icmp .eq 20, 3) := by decide +kernel
theorem dX11_mayBeTheirs_32 : decode cX11_mayBeTheirs 32 = .ok (.aload_n 0, 1) := by decide +kernel
theorem dX11_mayBeTheirs_33 : decode cX11_mayBeTheirs 33 = .ok (.iload_n 2, 1) := by decide +kernel
theorem dX11_mayBeTheirs_34 : decode cX11_mayBeTheirs 34 = .ok (.iload_n 3, 1) := by decide +kernel
theorem dX11_mayBeTheirs_35 : decode cX11_mayBeTheirs 35 = .ok (.invokevirtual 413, 3) := by decide +kernel
theorem dX11_mayBeTheirs_38 : decode cX11_mayBeTheirs 38 = .ok (.aload_n 0, 1) := by decide +kernel
theorem dX11_mayBeTheirs_39 : decode cX11_mayBeTheirs 39 = .ok (.getfield 77, 3) := by decide +kernel
theorem dX11_mayBeTheirs_42 : decode cX11_mayBeTheirs 42 = .ok (.iload_n 3, 1) := by decide +kernel
theorem dX11_mayBeTheirs_43 : decode cX11_mayBeTheirs 43 = .ok (.iaload, 1) := by decide +kernel
theorem dX11_mayBeTheirs_44 : decode cX11_mayBeTheirs 44 = .ok (.if_icmp .eq 5, 3) := by decide +kernel
theorem dX11_mayBeTheirs_47 : decode cX11_mayBeTheirs 47 = .ok (.iconst 0, 1) := by decide +kernel
theorem dX11_mayBeTheirs_48 : decode cX11_mayBeTheirs 48 = .ok (.ireturn, 1) := by decide +kernel
theorem dX11_mayBeTheirs_49 : decode cX11_mayBeTheirs 49 = .ok (.iinc 3 1, 3) := by decide +kernel
theorem dX11_mayBeTheirs_52 : decode cX11_mayBeTheirs 52 = .ok (.goto (-50), 3) := by decide +kernel
theorem dX11_mayBeTheirs_55 : decode cX11_mayBeTheirs 55 = .ok (.iconst 1, 1) := by decide +kernel
theorem dX11_mayBeTheirs_56 : decode cX11_mayBeTheirs 56 = .ok (.ireturn, 1) := by decide +kernel
theorem dX11_fits_0 : decode cX11_fits 0 = .ok (.aload_n 0, 1) := by decide +kernel
theorem dX11_fits_1 : decode cX11_fits 1 = .ok (.iconst 0, 1) := by decide +kernel
theorem dX11_fits_2 : decode cX11_fits 2 = .ok (.putfield 3, 3) := by decide +kernel
theorem dX11_fits_5 : decode cX11_fits 5 = .ok (.aload_n 0, 1) := by decide +kernel
theorem dX11_fits_6 : decode cX11_fits 6 = .ok (.iload_n 1, 1) := by decide +kernel
theorem dX11_fits_7 : decode cX11_fits 7 = .ok (.iconst 0, 1) := by decide +kernel
theorem dX11_fits_8 : decode cX11_fits 8 = .ok (.iconst 1, 1) := by decide +kernel
theorem dX11_fits_9 : decode cX11_fits 9 = .ok (.invokestatic 376, 3) := by decide +kernel
theorem dX11_fits_12 : decode cX11_fits 12 = .ok (.iconst 1, 1) := by decide +kernel
theorem dX11_fits_13 : decode cX11_fits 13 = .ok (.iconst 1, 1) := by decide +kernel
theorem dX11_fits_14 : decode cX11_fits 14 = .ok (.invokevirtual 198, 3) := by decide +kernel
theorem dX11_fits_17 : decode cX11_fits 17 = .ok (.ifCond .ne 5, 3) := by decide +kernel
theorem dX11_fits_20 : decode cX11_fits 20 = .ok (.iconst 0, 1) := by decide +kernel
theorem dX11_fits_21 : decode cX11_fits 21 = .ok (.ireturn, 1) := by decide +kernel
theorem dX11_fits_22 : decode cX11_fits 22 = .ok (.aload_n 0, 1) := by decide +kernel
theorem dX11_fits_23 : decode cX11_fits 23 = .ok (.invokevirtual 308, 3) := by decide +kernel
theorem dX11_fits_26 : decode cX11_fits 26 = .ok (.iconst 0, 1) := by decide +kernel
theorem dX11_fits_27 : decode cX11_fits 27 = .ok (.istore_n 2, 1) := by decide +kernel
theorem dX11_fits_28 : decode cX11_fits 28 = .ok (.iconst (-1), 1) := by decide +kernel
theorem dX11_fits_29 : decode cX11_fits 29 = .ok (.istore_n 3, 1) := by decide +kernel
theorem dX11_fits_30 : decode cX11_fits 30 = .ok (.iconst 0, 1) := by decide +kernel
theorem dX11_fits_31 : decode cX11_fits 31 = .ok (.istore 4, 2) := by decide +kernel
theorem dX11_fits_33 : decode cX11_fits 33 = .ok (.iload 4, 2) := by decide +kernel
theorem dX11_fits_35 : decode cX11_fits 35 = .ok (.aload_n 0, 1) := by decide +kernel
theorem dX11_fits_36 : decode cX11_fits 36 = .ok (.getfield 159, 3) := by decide +kernel
theorem dX11_fits_39 : decode cX11_fits 39 = .ok (.if_icmp .ge 65, 3) := by decide +kernel
theorem dX11_fits_42 : decode cX11_fits 42 = .ok (.iload 4, 2) := by decide +kernel
theorem dX11_fits_44 : decode cX11_fits 44 = .ok (.iconst 1, 1) := by decide +kernel
theorem dX11_fits_45 : decode cX11_fits 45 = .ok (.iadd, 1) := by decide +kernel
theorem dX11_fits_46 : decode cX11_fits 46 = .ok (.istore 5, 2) := by decide +kernel
theorem dX11_fits_48 : decode cX11_fits 48 = .ok (.iload 5, 2) := by decide +kernel
theorem dX11_fits_50 : decode cX11_fits 50 = .ok (.aload_n 0, 1) := by decide +kernel
theorem dX11_fits_51 : decode cX11_fits 51 = .ok (.getfield 159, 3) := by decide +kernel
theorem dX11_fits_54 : decode cX11_fits 54 = .ok (.if_icmp .ge 44, 3) := by decide +kernel
theorem dX11_fits_57 : decode cX11_fits 57 = .ok (.aload_n 0, 1) := by decide +kernel
theorem dX11_fits_58 : decode cX11_fits 58 = .ok (.iload 4, 2) := by decide +kernel
theorem dX11_fits_60 : decode cX11_fits 60 = .ok (.iload 5, 2) := by decide +kernel
theorem dX11_fits_62 : decode cX11_fits 62 = .ok (.invokevirtual 416, 3) := by decide +kernel
theorem dX11_fits_65 : decode cX11_fits 65 = .ok (.ifCond .ne 6, 3) := by decide +kernel
theorem dX11_fits_68 : decode cX11_fits 68 = .ok (.goto 24, 3) := by decide +kernel
theorem dX11_fits_71 : decode cX11_fits 71 = .ok (.iinc 2 1, 3) := by decide +kernel
theorem dX11_fits_74 : decode cX11_fits 74 = .ok (.iload_n 3, 1) := by decide +kernel
theorem dX11_fits_75 : decode cX11_fits 75 = .ok (.iconst (-1), 1) := by decide +kernel
theorem dX11_fits_76 : decode cX11_fits 76 = .ok (.if_icmp .ne 14, 3) := by decide +kernel
theorem dX11_fits_79 : decode cX11_fits 79 = .ok (.bipush 10, 2) := by decide +kernel
theorem dX11_fits_81 : decode cX11_fits 81 = .ok (.iload 4, 2) := by decide +kernel
theorem dX11_fits_83 : decode cX11_fits 83 = .ok (.imul, 1) := by decide +kernel
theorem dX11_fits_84 : decode cX11_fits 84 = .ok (.iload 5, 2) := by decide +kernel
theorem dX11_fits_86 : decode cX11_fits 86 = .ok (.iadd, 1) := by decide +kernel
theorem dX11_fits_87 : decode cX11_fits 87 = .ok (.goto 4, 3) := by decide +kernel
theorem dX11_fits_90 : decode cX11_fits 90 = .ok (.iload_n 3, 1) := by decide +kernel
theorem dX11_fits_91 : decode cX11_fits 91 = .ok (.istore_n 3, 1) := by decide +kernel
theorem dX11_fits_92 : decode cX11_fits 92 = .ok (.iinc 5 1, 3) := by decide +kernel
theorem dX11_fits_95 : decode cX11_fits 95 = .ok (.goto (-47), 3) := by decide +kernel
theorem dX11_fits_98 : decode cX11_fits 98 = .ok (.iinc 4 1, 3) := by decide +kernel
theorem dX11_fits_101 : decode cX11_fits 101 = .ok (.goto (-68), 3) := by decide +kernel
theorem dX11_fits_104 : decode cX11_fits 104 = .ok (.iload_n 1, 1) := by decide +kernel
theorem dX11_fits_105 : decode cX11_fits 105 = .ok (.ifCond .ne 7, 3) := by decide +kernel
theorem dX11_fits_108 : decode cX11_fits 108 = .ok (.iload_n 2, 1) := by decide +kernel
theorem dX11_fits_109 : decode cX11_fits 109 = .ok (.goto 4, 3) := by decide +kernel
theorem dX11_fits_112 : decode cX11_fits 112 = .ok (.iload_n 3, 1) := by decide +kernel
theorem dX11_fits_113 : decode cX11_fits 113 = .ok (.ireturn, 1) := by decide +kernel
theorem dX11_leftBy_0 : decode cX11_leftBy 0 = .ok (.iconst 0, 1) := by decide +kernel
theorem dX11_leftBy_1 : decode cX11_leftBy 1 = .ok (.istore_n 3, 1) := by decide +kernel
theorem dX11_leftBy_2 : decode cX11_leftBy 2 = .ok (.iconst 0, 1) := by decide +kernel
theorem dX11_leftBy_3 : decode cX11_leftBy 3 = .ok (.istore 4, 2) := by decide +kernel
theorem dX11_leftBy_5 : decode cX11_leftBy 5 = .ok (.iload 4, 2) := by decide +kernel
theorem dX11_leftBy_7 : decode cX11_leftBy 7 = .ok (.aload_n 0, 1) := by decide +kernel
theorem dX11_leftBy_8 : decode cX11_leftBy 8 = .ok (.getfield 159, 3) := by decide +kernel
theorem dX11_leftBy_11 : decode cX11_leftBy 11 = .ok (.if_icmp .ge 71, 3) := by decide +kernel
theorem dX11_leftBy_14 : decode cX11_leftBy 14 = .ok (.iload 4, 2) := by decide +kernel
theorem dX11_leftBy_16 : decode cX11_leftBy 16 = .ok (.iconst 1, 1) := by decide +kernel
theorem dX11_leftBy_17 : decode cX11_leftBy 17 = .ok (.iadd, 1) := by decide +kernel
theorem dX11_leftBy_18 : decode cX11_leftBy 18 = .ok (.istore 5, 2) := by decide +kernel
theorem dX11_leftBy_20 : decode cX11_leftBy 20 = .ok (.iload 5, 2) := by decide +kernel
theorem dX11_leftBy_22 : decode cX11_leftBy 22 = .ok (.aload_n 0, 1) := by decide +kernel
theorem dX11_leftBy_23 : decode cX11_leftBy 23 = .ok (.getfield 159, 3) := by decide +kernel
theorem dX11_leftBy_26 : decode cX11_leftBy 26 = .ok (.if_icmp .ge 50, 3) := by decide +kernel
theorem dX11_leftBy_29 : decode cX11_leftBy 29 = .ok (.iload_n 3, 1) := by decide +kernel
theorem dX11_leftBy_30 : decode cX11_leftBy 30 = .ok (.aload_n 0, 1) := by decide +kernel
theorem dX11_leftBy_31 : decode cX11_leftBy 31 = .ok (.iload 4, 2) := by decide +kernel
theorem dX11_leftBy_33 : decode cX11_leftBy 33 = .ok (.iload 5, 2) := by decide +kernel
theorem dX11_leftBy_35 : decode cX11_leftBy 35 = .ok (.invokevirtual 416, 3) := by decide +kernel
theorem dX11_leftBy_38 : decode cX11_leftBy 38 = .ok (.ifCond .eq 29, 3) := by decide +kernel
theorem dX11_leftBy_41 : decode cX11_leftBy 41 = .ok (.aload_n 0, 1) := by decide +kernel
theorem dX11_leftBy_42 : decode cX11_leftBy 42 = .ok (.iload 4, 2) := by decide +kernel
theorem dX11_leftBy_44 : decode cX11_leftBy 44 = .ok (.iload_n 1, 1) := by decide +kernel
theorem dX11_leftBy_45 : decode cX11_leftBy 45 = .ok (.invokevirtual 413, 3) := by decide +kernel
theorem dX11_leftBy_48 : decode cX11_leftBy 48 = .ok (.iload_n 2, 1) := by decide +kernel
theorem dX11_leftBy_49 : decode cX11_leftBy 49 = .ok (.if_icmp .eq 14, 3) := by decide +kernel
theorem dX11_leftBy_52 : decode cX11_leftBy 52 = .ok (.aload_n 0, 1) := by decide +kernel
theorem dX11_leftBy_53 : decode cX11_leftBy 53 = .ok (.iload 5, 2) := by decide +kernel
theorem dX11_leftBy_55 : decode cX11_leftBy 55 = .ok (.iload_n 1, 1) := by decide +kernel
theorem dX11_leftBy_56 : decode cX11_leftBy 56 = .ok (.invokevirtual 413, 3) := by decide +kernel
theorem dX11_leftBy_59 : decode cX11_leftBy 59 = .ok (.iload_n 2, 1) := by decide +kernel
theorem dX11_leftBy_60 : decode cX11_leftBy 60 = .ok (.if_icmp .ne 7, 3) := by decide +kernel
theorem dX11_leftBy_63 : decode cX11_leftBy 63 = .ok (.iconst 1, 1) := by decide +kernel
theorem dX11_leftBy_64 : decode cX11_leftBy 64 = .ok (.goto 4, 3) := by decide +kernel
theorem dX11_leftBy_67 : decode cX11_leftBy 67 = .ok (.iconst 0, 1) := by decide +kernel
theorem dX11_leftBy_68 : decode cX11_leftBy 68 = .ok (.iadd, 1) := by decide +kernel
theorem dX11_leftBy_69 : decode cX11_leftBy 69 = .ok (.istore_n 3, 1) := by decide +kernel
theorem dX11_leftBy_70 : decode cX11_leftBy 70 = .ok (.iinc 5 1, 3) := by decide +kernel
theorem dX11_leftBy_73 : decode cX11_leftBy 73 = .ok (.goto (-53), 3) := by decide +kernel
theorem dX11_leftBy_76 : decode cX11_leftBy 76 = .ok (.iinc 4 1, 3) := by decide +kernel
theorem dX11_leftBy_79 : decode cX11_leftBy 79 = .ok (.goto (-74), 3) := by decide +kernel
theorem dX11_leftBy_82 : decode cX11_leftBy 82 = .ok (.iload_n 3, 1) := by decide +kernel
theorem dX11_leftBy_83 : decode cX11_leftBy 83 = .ok (.ireturn, 1) := by decide +kernel
theorem dX11_look_0 : decode cX11_look 0 = .ok (.aload_n 0, 1) := by decide +kernel
theorem dX11_look_1 : decode cX11_look 1 = .ok (.iconst 0, 1) := by decide +kernel
theorem dX11_look_2 : decode cX11_look 2 = .ok (.putfield 3, 3) := by decide +kernel
theorem dX11_look_5 : decode cX11_look 5 = .ok (.aload_n 0, 1) := by decide +kernel
theorem dX11_look_6 : decode cX11_look 6 = .ok (.iload_n 1, 1) := by decide +kernel
theorem dX11_look_7 : decode cX11_look 7 = .ok (.iconst 0, 1) := by decide +kernel
theorem dX11_look_8 : decode cX11_look 8 = .ok (.iconst 1, 1) := by decide +kernel
theorem dX11_look_9 : decode cX11_look 9 = .ok (.invokestatic 376, 3) := by decide +kernel
theorem dX11_look_12 : decode cX11_look 12 = .ok (.iconst 1, 1) := by decide +kernel
theorem dX11_look_13 : decode cX11_look 13 = .ok (.iconst 1, 1) := by decide +kernel
theorem dX11_look_14 : decode cX11_look 14 = .ok (.invokevirtual 198, 3) := by decide +kernel
theorem dX11_look_17 : decode cX11_look 17 = .ok (.ifCond .ne 5, 3) := by decide +kernel
theorem dX11_look_20 : decode cX11_look 20 = .ok (.iconst 0, 1) := by decide +kernel
theorem dX11_look_21 : decode cX11_look 21 = .ok (.ireturn, 1) := by decide +kernel
theorem dX11_look_22 : decode cX11_look 22 = .ok (.aload_n 0, 1) := by decide +kernel
theorem dX11_look_23 : decode cX11_look 23 = .ok (.invokevirtual 308, 3) := by decide +kernel
theorem dX11_look_26 : decode cX11_look 26 = .ok (.iconst (-1), 1) := by decide +kernel
theorem dX11_look_27 : decode cX11_look 27 = .ok (.istore_n 2, 1) := by decide +kernel
theorem dX11_look_28 : decode cX11_look 28 = .ok (.iconst (-1), 1) := by decide +kernel
theorem dX11_look_29 : decode cX11_look 29 = .ok (.istore_n 3, 1) := by decide +kernel
theorem dX11_look_30 : decode cX11_look 30 = .ok (.iconst 0, 1) := by decide +kernel
theorem dX11_look_31 : decode cX11_look 31 = .ok (.istore 4, 2) := by decide +kernel
theorem dX11_look_33 : decode cX11_look 33 = .ok (.iload 4, 2) := by decide +kernel
theorem dX11_look_35 : decode cX11_look 35 = .ok (.iconst 3, 1) := by decide +kernel
theorem dX11_look_36 : decode cX11_look 36 = .ok (.if_icmp .ge 90, 3) := by decide +kernel
theorem dX11_look_39 : decode cX11_look 39 = .ok (.aload_n 0, 1) := by decide +kernel
theorem dX11_look_40 : decode cX11_look 40 = .ok (.getfield 77, 3) := by decide +kernel
theorem dX11_look_43 : decode cX11_look 43 = .ok (.iload 4, 2) := by decide +kernel
theorem dX11_look_45 : decode cX11_look 45 = .ok (.iaload, 1) := by decide +kernel
theorem dX11_look_46 : decode cX11_look 46 = .ok (.iconst (-1), 1) := by decide +kernel
theorem dX11_look_47 : decode cX11_look 47 = .ok (.if_icmp .eq 6, 3) := by decide +kernel
theorem dX11_look_50 : decode cX11_look 50 = .ok (.goto 70, 3) := by decide +kernel
theorem dX11_look_53 : decode cX11_look 53 = .ok (.iconst 0, 1) := by decide +kernel
theorem dX11_look_54 : decode cX11_look 54 = .ok (.istore 5, 2) := by decide +kernel
theorem dX11_look_56 : decode cX11_look 56 = .ok (.iconst 0, 1) := by decide +kernel
theorem dX11_look_57 : decode cX11_look 57 = .ok (.istore 6, 2) := by decide +kernel
theorem dX11_look_59 : decode cX11_look 59 = .ok (.iload 6, 2) := by decide +kernel
theorem dX11_look_61 : decode cX11_look 61 = .ok (.bipush 9, 2) := by decide +kernel
theorem dX11_look_63 : decode cX11_look 63 = .ok (.if_icmp .gt 37, 3) := by decide +kernel
theorem dX11_look_66 : decode cX11_look 66 = .ok (.aload_n 0, 1) := by decide +kernel
theorem dX11_look_67 : decode cX11_look 67 = .ok (.iload 4, 2) := by decide +kernel
theorem dX11_look_69 : decode cX11_look 69 = .ok (.iload 6, 2) := by decide +kernel
theorem dX11_look_71 : decode cX11_look 71 = .ok (.invokevirtual 419, 3) := by decide +kernel
theorem dX11_look_74 : decode cX11_look 74 = .ok (.iload 5, 2) := by decide +kernel
theorem dX11_look_76 : decode cX11_look 76 = .ok (.if_icmp .le 14, 3) := by decide +kernel
theorem dX11_look_79 : decode cX11_look 79 = .ok (.aload_n 0, 1) := by decide +kernel
theorem dX11_look_80 : decode cX11_look 80 = .ok (.iload 4, 2) := by decide +kernel
theorem dX11_look_82 : decode cX11_look 82 = .ok (.iload 6, 2) := by decide +kernel
theorem dX11_look_84 : decode cX11_look 84 = .ok (.invokevirtual 419, 3) := by decide +kernel
theorem dX11_look_87 : decode cX11_look 87 = .ok (.goto 5, 3) := by decide +kernel
theorem dX11_look_90 : decode cX11_look 90 = .ok (.iload 5, 2) := by decide +kernel
theorem dX11_look_92 : decode cX11_look 92 = .ok (.istore 5, 2) := by decide +kernel
theorem dX11_look_94 : decode cX11_look 94 = .ok (.iinc 6 1, 3) := by decide +kernel
theorem dX11_look_97 : decode cX11_look 97 = .ok (.goto (-38), 3) := by decide +kernel
theorem dX11_look_100 : decode cX11_look 100 = .ok (.iload_n 2, 1) := by decide +kernel
theorem dX11_look_101 : decode cX11_look 101 = .ok (.iconst (-1), 1) := by decide +kernel
theorem dX11_look_102 : decode cX11_look 102 = .ok (.if_icmp .eq 12, 3) := by decide +kernel
theorem dX11_look_105 : decode cX11_look 105 = .ok (.iload 5, 2) := by decide +kernel
theorem dX11_look_107 : decode cX11_look 107 = .ok (.iload_n 3, 1) := by decide +kernel
theorem dX11_look_108 : decode cX11_look 108 = .ok (.if_icmp .lt 6, 3) := by decide +kernel
theorem dX11_look_111 : decode cX11_look 111 = .ok (.goto 9, 3) := by decide +kernel
theorem dX11_look_114 : decode cX11_look 114 = .ok (.iload 4, 2) := by decide +kernel
theorem dX11_look_116 : decode cX11_look 116 = .ok (.istore_n 2, 1) := by decide +kernel
theorem dX11_look_117 : decode cX11_look 117 = .ok (.iload 5, 2) := by decide +kernel
theorem dX11_look_119 : decode cX11_look 119 = .ok (.istore_n 3, 1) := by decide +kernel
theorem dX11_look_120 : decode cX11_look 120 = .ok (.iinc 4 1, 3) := by decide +kernel
theorem dX11_look_123 : decode cX11_look 123 = .ok (.goto (-90), 3) := by decide +kernel
theorem dX11_look_126 : decode cX11_look 126 = .ok (.iload_n 1, 1) := by decide +kernel
theorem dX11_look_127 : decode cX11_look 127 = .ok (.ifCond .ne 7, 3) := by decide +kernel
theorem dX11_look_130 : decode cX11_look 130 = .ok (.iload_n 2, 1) := by decide +kernel
theorem dX11_look_131 : decode cX11_look 131 = .ok (.goto 4, 3) := by decide +kernel
theorem dX11_look_134 : decode cX11_look 134 = .ok (.iload_n 3, 1) := by decide +kernel
theorem dX11_look_135 : decode cX11_look 135 = .ok (.ireturn, 1) := by decide +kernel
theorem dX11_mayMatch_0 : decode cX11_mayMatch 0 = .ok (.aload_n 0, 1) := by decide +kernel
theorem dX11_mayMatch_1 : decode cX11_mayMatch 1 = .ok (.getfield 68, 3) := by decide +kernel
theorem dX11_mayMatch_4 : decode cX11_mayMatch 4 = .ok (.bipush 32, 2) := by decide +kernel
theorem dX11_mayMatch_6 : decode cX11_mayMatch 6 = .ok (.iload_n 1, 1) := by decide +kernel
theorem dX11_mayMatch_7 : decode cX11_mayMatch 7 = .ok (.iadd, 1) := by decide +kernel
theorem dX11_mayMatch_8 : decode cX11_mayMatch 8 = .ok (.iaload, 1) := by decide +kernel
theorem dX11_mayMatch_9 : decode cX11_mayMatch 9 = .ok (.iconst (-1), 1) := by decide +kernel
theorem dX11_mayMatch_10 : decode cX11_mayMatch 10 = .ok (.if_icmp .ne 53, 3) := by decide +kernel
theorem dX11_mayMatch_13 : decode cX11_mayMatch 13 = .ok (.aload_n 0, 1) := by decide +kernel
theorem dX11_mayMatch_14 : decode cX11_mayMatch 14 = .ok (.getfield 68, 3) := by decide +kernel
theorem dX11_mayMatch_17 : decode cX11_mayMatch 17 = .ok (.bipush 32, 2) := by decide +kernel
theorem dX11_mayMatch_19 : decode cX11_mayMatch 19 = .ok (.iload_n 2, 1) := by decide +kernel
theorem dX11_mayMatch_20 : decode cX11_mayMatch 20 = .ok (.iadd, 1) := by decide +kernel
theorem dX11_mayMatch_21 : decode cX11_mayMatch 21 = .ok (.iaload, 1) := by decide +kernel
theorem dX11_mayMatch_22 : decode cX11_mayMatch 22 = .ok (.iconst (-1), 1) := by decide +kernel
theorem dX11_mayMatch_23 : decode cX11_mayMatch 23 = .ok (.if_icmp .ne 40, 3) := by decide +kernel
theorem dX11_mayMatch_26 : decode cX11_mayMatch 26 = .ok (.aload_n 0, 1) := by decide +kernel
theorem dX11_mayMatch_27 : decode cX11_mayMatch 27 = .ok (.getfield 38, 3) := by decide +kernel
theorem dX11_mayMatch_30 : decode cX11_mayMatch 30 = .ok (.iload_n 1, 1) := by decide +kernel
theorem dX11_mayMatch_31 : decode cX11_mayMatch 31 = .ok (.iaload, 1) := by decide +kernel
theorem dX11_mayMatch_32 : decode cX11_mayMatch 32 = .ok (.aload_n 0, 1) := by decide +kernel
theorem dX11_mayMatch_33 : decode cX11_mayMatch 33 = .ok (.getfield 38, 3) := by decide +kernel
theorem dX11_mayMatch_36 : decode cX11_mayMatch 36 = .ok (.iload_n 2, 1) := by decide +kernel
theorem dX11_mayMatch_37 : decode cX11_mayMatch 37 = .ok (.iaload, 1) := by decide +kernel
theorem dX11_mayMatch_38 : decode cX11_mayMatch 38 = .ok (.if_icmp .eq 25, 3) := by decide +kernel
theorem dX11_mayMatch_41 : decode cX11_mayMatch 41 = .ok (.aload_n 0, 1) := by decide +kernel
theorem dX11_mayMatch_42 : decode cX11_mayMatch 42 = .ok (.iload_n 1, 1) := by decide +kernel
theorem dX11_mayMatch_43 : decode cX11_mayMatch 43 = .ok (.invokevirtual 339, 3) := by decide +kernel
theorem dX11_mayMatch_46 : decode cX11_mayMatch 46 = .ok (.aload_n 0, 1) := by decide +kernel
theorem dX11_mayMatch_47 : decode cX11_mayMatch 47 = .ok (.iload_n 2, 1) := by decide +kernel
theorem dX11_mayMatch_48 : decode cX11_mayMatch 48 = .ok (.invokevirtual 339, 3) := by decide +kernel
theorem dX11_mayMatch_51 : decode cX11_mayMatch 51 = .ok (.invokestatic 333, 3) := by decide +kernel
theorem dX11_mayMatch_54 : decode cX11_mayMatch 54 = .ok (.bipush 6, 2) := by decide +kernel
theorem dX11_mayMatch_56 : decode cX11_mayMatch 56 = .ok (.if_icmp .gt 7, 3) := by decide +kernel
theorem dX11_mayMatch_59 : decode cX11_mayMatch 59 = .ok (.iconst 1, 1) := by decide +kernel
theorem dX11_mayMatch_60 : decode cX11_mayMatch 60 = .ok (.goto 4, 3) := by decide +kernel
theorem dX11_mayMatch_63 : decode cX11_mayMatch 63 = .ok (.iconst 0, 1) := by decide +kernel
theorem dX11_mayMatch_64 : decode cX11_mayMatch 64 = .ok (.ireturn, 1) := by decide +kernel
theorem dX11_worthOf_0 : decode cX11_worthOf 0 = .ok (.sipush 1000, 3) := by decide +kernel
theorem dX11_worthOf_3 : decode cX11_worthOf 3 = .ok (.aload_n 0, 1) := by decide +kernel
theorem dX11_worthOf_4 : decode cX11_worthOf 4 = .ok (.iload_n 1, 1) := by decide +kernel
theorem dX11_worthOf_5 : decode cX11_worthOf 5 = .ok (.invokevirtual 339, 3) := by decide +kernel
theorem dX11_worthOf_8 : decode cX11_worthOf 8 = .ok (.aload_n 0, 1) := by decide +kernel
theorem dX11_worthOf_9 : decode cX11_worthOf 9 = .ok (.iload_n 2, 1) := by decide +kernel
theorem dX11_worthOf_10 : decode cX11_worthOf 10 = .ok (.invokevirtual 339, 3) := by decide +kernel
theorem dX11_worthOf_13 : decode cX11_worthOf 13 = .ok (.invokestatic 333, 3) := by decide +kernel
theorem dX11_worthOf_16 : decode cX11_worthOf 16 = .ok (.isub, 1) := by decide +kernel
theorem dX11_worthOf_17 : decode cX11_worthOf 17 = .ok (.ireturn, 1) := by decide +kernel
theorem dX11_firstOut_0 : decode cX11_firstOut 0 = .ok (.iconst 0, 1) := by decide +kernel
theorem dX11_firstOut_1 : decode cX11_firstOut 1 = .ok (.istore_n 1, 1) := by decide +kernel
theorem dX11_firstOut_2 : decode cX11_firstOut 2 = .ok (.iload_n 0, 1) := by decide +kernel
theorem dX11_firstOut_3 : decode cX11_firstOut 3 = .ok (.iload_n 1, 1) := by decide +kernel
theorem dX11_firstOut_4 : decode cX11_firstOut 4 = .ok (.ishr, 1) := by decide +kernel
theorem dX11_firstOut_5 : decode cX11_firstOut 5 = .ok (.iconst 1, 1) := by decide +kernel
theorem dX11_firstOut_6 : decode cX11_firstOut 6 = .ok (.iand, 1) := by decide +kernel
theorem dX11_firstOut_7 : decode cX11_firstOut 7 = .ok (.iconst 1, 1) := by decide +kernel
theorem dX11_firstOut_8 : decode cX11_firstOut 8 = .ok (.if_icmp .ne 9, 3) := by decide +kernel
theorem dX11_firstOut_11 : decode cX11_firstOut 11 = .ok (.iinc 1 1, 3) := by decide +kernel
theorem dX11_firstOut_14 : decode cX11_firstOut 14 = .ok (.goto (-12), 3) := by decide +kernel
theorem dX11_firstOut_17 : decode cX11_firstOut 17 = .ok (.iload_n 1, 1) := by decide +kernel
theorem dX11_firstOut_18 : decode cX11_firstOut 18 = .ok (.ireturn, 1) := by decide +kernel
theorem dX11_findMatch_0 : decode cX11_findMatch 0 = .ok (.aload_n 0, 1) := by decide +kernel
theorem dX11_findMatch_1 : decode cX11_findMatch 1 = .ok (.invokevirtual 308, 3) := by decide +kernel
theorem dX11_findMatch_4 : decode cX11_findMatch 4 = .ok (.iconst 1, 1) := by decide +kernel
theorem dX11_findMatch_5 : decode cX11_findMatch 5 = .ok (.aload_n 0, 1) := by decide +kernel
theorem dX11_findMatch_6 : decode cX11_findMatch 6 = .ok (.getfield 159, 3) := by decide +kernel
theorem dX11_findMatch_9 : decode cX11_findMatch 9 = .ok (.ishl, 1) := by decide +kernel
theorem dX11_findMatch_10 : decode cX11_findMatch 10 = .ok (.iconst 1, 1) := by decide +kernel
theorem dX11_findMatch_11 : decode cX11_findMatch 11 = .ok (.isub, 1) := by decide +kernel
theorem dX11_findMatch_12 : decode cX11_findMatch 12 = .ok (.istore_n 1, 1) := by decide +kernel
theorem dX11_findMatch_13 : decode cX11_findMatch 13 = .ok (.aload_n 0, 1) := by decide +kernel
theorem dX11_findMatch_14 : decode cX11_findMatch 14 = .ok (.getfield 86, 3) := by decide +kernel
theorem dX11_findMatch_17 : decode cX11_findMatch 17 = .ok (.iload_n 1, 1) := by decide +kernel
theorem dX11_findMatch_18 : decode cX11_findMatch 18 = .ok (.iconst 0, 1) := by decide +kernel
theorem dX11_findMatch_19 : decode cX11_findMatch 19 = .ok (.iastore, 1) := by decide +kernel
theorem dX11_findMatch_20 : decode cX11_findMatch 20 = .ok (.iload_n 1, 1) := by decide +kernel
theorem dX11_findMatch_21 : decode cX11_findMatch 21 = .ok (.iconst 1, 1) := by decide +kernel
theorem dX11_findMatch_22 : decode cX11_findMatch 22 = .ok (.isub, 1) := by decide +kernel
theorem dX11_findMatch_23 : decode cX11_findMatch 23 = .ok (.istore_n 2, 1) := by decide +kernel
theorem dX11_findMatch_24 : decode cX11_findMatch 24 = .ok (.iload_n 2, 1) := by decide +kernel
theorem dX11_findMatch_25 : decode cX11_findMatch 25 = .ok (.ifCond .lt 118, 3) := by decide +kernel
theorem dX11_findMatch_28 : decode cX11_findMatch 28 = .ok (.iload_n 2, 1) := by decide +kernel
theorem dX11_findMatch_29 : decode cX11_findMatch 29 = .ok (.invokestatic 422, 3) := by decide +kernel
theorem dX11_findMatch_32 : decode cX11_findMatch 32 = .ok (.istore_n 3, 1) := by decide +kernel
theorem dX11_findMatch_33 : decode cX11_findMatch 33 = .ok (.aload_n 0, 1) := by decide +kernel
theorem dX11_findMatch_34 : decode cX11_findMatch 34 = .ok (.getfield 86, 3) := by decide +kernel
theorem dX11_findMatch_37 : decode cX11_findMatch 37 = .ok (.iload_n 2, 1) := by decide +kernel
theorem dX11_findMatch_38 : decode cX11_findMatch 38 = .ok (.iconst 1, 1) := by decide +kernel
theorem dX11_findMatch_39 : decode cX11_findMatch 39 = .ok (.iload_n 3, 1) := by decide +kernel
theorem dX11_findMatch_40 : decode cX11_findMatch 40 = .ok (.ishl, 1) := by decide +kernel
theorem dX11_findMatch_41 : decode cX11_findMatch 41 = .ok (.ior, 1) := by decide +kernel
theorem dX11_findMatch_42 : decode cX11_findMatch 42 = .ok (.iaload, 1) := by decide +kernel
theorem dX11_findMatch_43 : decode cX11_findMatch 43 = .ok (.istore 4, 2) := by decide +kernel
theorem dX11_findMatch_45 : decode cX11_findMatch 45 = .ok (.iload_n 3, 1) := by decide +kernel
theorem dX11_findMatch_46 : decode cX11_findMatch 46 = .ok (.iconst 1, 1) := by decide +kernel
theorem dX11_findMatch_47 : decode cX11_findMatch 47 = .ok (.iadd, 1) := by decide +kernel
theorem dX11_findMatch_48 : decode cX11_findMatch 48 = .ok (.istore 5, 2) := by decide +kernel
theorem dX11_findMatch_50 : decode cX11_findMatch 50 = .ok (.iload 5, 2) := by decide +kernel
theorem dX11_findMatch_52 : decode cX11_findMatch 52 = .ok (.aload_n 0, 1) := by decide +kernel
theorem dX11_findMatch_53 : decode cX11_findMatch 53 = .ok (.getfield 159, 3) := by decide +kernel
theorem dX11_findMatch_56 : decode cX11_findMatch 56 = .ok (.if_icmp .ge 73, 3) := by decide +kernel
theorem dX11_findMatch_59 : decode cX11_findMatch 59 = .ok (.iload_n 2, 1) := by decide +kernel
theorem dX11_findMatch_60 : decode cX11_findMatch 60 = .ok (.iload 5, 2) := by decide +kernel
theorem dX11_findMatch_62 : decode cX11_findMatch 62 = .ok (.ishr, 1) := by decide +kernel
theorem dX11_findMatch_63 : decode cX11_findMatch 63 = .ok (.iconst 1, 1) := by decide +kernel
theorem dX11_findMatch_64 : decode cX11_findMatch 64 = .ok (.iand, 1) := by decide +kernel
theorem dX11_findMatch_65 : decode cX11_findMatch 65 = .ok (.iconst 1, 1) := by decide +kernel
theorem dX11_findMatch_66 : decode cX11_findMatch 66 = .ok (.if_icmp .eq 57, 3) := by decide +kernel
theorem dX11_findMatch_69 : decode cX11_findMatch 69 = .ok (.aload_n 0, 1) := by decide +kernel
theorem dX11_findMatch_70 : decode cX11_findMatch 70 = .ok (.iload_n 3, 1) := by decide +kernel
theorem dX11_findMatch_71 : decode cX11_findMatch 71 = .ok (.iload 5, 2) := by decide +kernel
theorem dX11_findMatch_73 : decode cX11_findMatch 73 = .ok (.invokevirtual 425, 3) := by decide +kernel
theorem dX11_findMatch_76 : decode cX11_findMatch 76 = .ok (.ifCond .ne 6, 3) := by decide +kernel
theorem dX11_findMatch_79 : decode cX11_findMatch 79 = .ok (.goto 44, 3) := by decide +kernel
theorem dX11_findMatch_82 : decode cX11_findMatch 82 = .ok (.aload_n 0, 1) := by decide +kernel
theorem dX11_findMatch_83 : decode cX11_findMatch 83 = .ok (.iload_n 3, 1) := by decide +kernel
theorem dX11_findMatch_84 : decode cX11_findMatch 84 = .ok (.iload 5, 2) := by decide +kernel
theorem dX11_findMatch_86 : decode cX11_findMatch 86 = .ok (.invokevirtual 428, 3) := by decide +kernel
theorem dX11_findMatch_89 : decode cX11_findMatch 89 = .ok (.aload_n 0, 1) := by decide +kernel
theorem dX11_findMatch_90 : decode cX11_findMatch 90 = .ok (.getfield 86, 3) := by decide +kernel
theorem dX11_findMatch_93 : decode cX11_findMatch 93 = .ok (.iload_n 2, 1) := by decide +kernel
theorem dX11_findMatch_94 : decode cX11_findMatch 94 = .ok (.iconst 1, 1) := by decide +kernel
theorem dX11_findMatch_95 : decode cX11_findMatch 95 = .ok (.iload_n 3, 1) := by decide +kernel
theorem dX11_findMatch_96 : decode cX11_findMatch 96 = .ok (.ishl, 1) := by decide +kernel
theorem dX11_findMatch_97 : decode cX11_findMatch 97 = .ok (.ior, 1) := by decide +kernel
theorem dX11_findMatch_98 : decode cX11_findMatch 98 = .ok (.iconst 1, 1) := by decide +kernel
theorem dX11_findMatch_99 : decode cX11_findMatch 99 = .ok (.iload 5, 2) := by decide +kernel
theorem dX11_findMatch_101 : decode cX11_findMatch 101 = .ok (.ishl, 1) := by decide +kernel
theorem dX11_findMatch_102 : decode cX11_findMatch 102 = .ok (.ior, 1) := by decide +kernel
theorem dX11_findMatch_103 : decode cX11_findMatch 103 = .ok (.iaload, 1) := by decide +kernel
theorem dX11_findMatch_104 : decode cX11_findMatch 104 = .ok (.iadd, 1) := by decide +kernel
theorem dX11_findMatch_105 : decode cX11_findMatch 105 = .ok (.istore 6, 2) := by decide +kernel
theorem dX11_findMatch_107 : decode cX11_findMatch 107 = .ok (.iload 6, 2) := by decide +kernel
theorem dX11_findMatch_109 : decode cX11_findMatch 109 = .ok (.iload 4, 2) := by decide +kernel
theorem dX11_findMatch_111 : decode cX11_findMatch 111 = .ok (.if_icmp .le 8, 3) := by decide +kernel
theorem dX11_findMatch_114 : decode cX11_findMatch 114 = .ok (.iload 6, 2) := by decide +kernel
theorem dX11_findMatch_116 : decode cX11_findMatch 116 = .ok (.goto 5, 3) := by decide +kernel
theorem dX11_findMatch_119 : decode cX11_findMatch 119 = .ok (.iload 4, 2) := by decide +kernel
theorem dX11_findMatch_121 : decode cX11_findMatch 121 = .ok (.istore 4, 2) := by decide +kernel
theorem dX11_findMatch_123 : decode cX11_findMatch 123 = .ok (.iinc 5 1, 3) := by decide +kernel
theorem dX11_findMatch_126 : decode cX11_findMatch 126 = .ok (.goto (-76), 3) := by decide +kernel
theorem dX11_findMatch_129 : decode cX11_findMatch 129 = .ok (.aload_n 0, 1) := by decide +kernel
theorem dX11_findMatch_130 : decode cX11_findMatch 130 = .ok (.getfield 86, 3) := by decide +kernel
theorem dX11_findMatch_133 : decode cX11_findMatch 133 = .ok (.iload_n 2, 1) := by decide +kernel
theorem dX11_findMatch_134 : decode cX11_findMatch 134 = .ok (.iload 4, 2) := by decide +kernel
theorem dX11_findMatch_136 : decode cX11_findMatch 136 = .ok (.iastore, 1) := by decide +kernel
theorem dX11_findMatch_137 : decode cX11_findMatch 137 = .ok (.iinc 2 (-1), 3) := by decide +kernel
theorem dX11_findMatch_140 : decode cX11_findMatch 140 = .ok (.goto (-116), 3) := by decide +kernel
theorem dX11_findMatch_143 : decode cX11_findMatch 143 = .ok (.iconst 0, 1) := by decide +kernel
theorem dX11_findMatch_144 : decode cX11_findMatch 144 = .ok (.istore_n 2, 1) := by decide +kernel
theorem dX11_findMatch_145 : decode cX11_findMatch 145 = .ok (.iload_n 2, 1) := by decide +kernel
theorem dX11_findMatch_146 : decode cX11_findMatch 146 = .ok (.aload_n 0, 1) := by decide +kernel
theorem dX11_findMatch_147 : decode cX11_findMatch 147 = .ok (.getfield 159, 3) := by decide +kernel
theorem dX11_findMatch_150 : decode cX11_findMatch 150 = .ok (.if_icmp .ge 16, 3) := by decide +kernel
theorem dX11_findMatch_153 : decode cX11_findMatch 153 = .ok (.aload_n 0, 1) := by decide +kernel
theorem dX11_findMatch_154 : decode cX11_findMatch 154 = .ok (.getfield 89, 3) := by decide +kernel
theorem dX11_findMatch_157 : decode cX11_findMatch 157 = .ok (.iload_n 2, 1) := by decide +kernel
theorem dX11_findMatch_158 : decode cX11_findMatch 158 = .ok (.iconst (-1), 1) := by decide +kernel
theorem dX11_findMatch_159 : decode cX11_findMatch 159 = .ok (.iastore, 1) := by decide +kernel
theorem dX11_findMatch_160 : decode cX11_findMatch 160 = .ok (.iinc 2 1, 3) := by decide +kernel
theorem dX11_findMatch_163 : decode cX11_findMatch 163 = .ok (.goto (-18), 3) := by decide +kernel
theorem dX11_findMatch_166 : decode cX11_findMatch 166 = .ok (.iconst 0, 1) := by decide +kernel
theorem dX11_findMatch_167 : decode cX11_findMatch 167 = .ok (.istore_n 2, 1) := by decide +kernel
theorem dX11_findMatch_168 : decode cX11_findMatch 168 = .ok (.iload_n 2, 1) := by decide +kernel
theorem dX11_findMatch_169 : decode cX11_findMatch 169 = .ok (.iload_n 1, 1) := by decide +kernel
theorem dX11_findMatch_170 : decode cX11_findMatch 170 = .ok (.if_icmp .eq 127, 3) := by decide +kernel
theorem dX11_findMatch_173 : decode cX11_findMatch 173 = .ok (.iload_n 2, 1) := by decide +kernel
theorem dX11_findMatch_174 : decode cX11_findMatch 174 = .ok (.invokestatic 422, 3) := by decide +kernel
theorem dX11_findMatch_177 : decode cX11_findMatch 177 = .ok (.istore_n 3, 1) := by decide +kernel
theorem dX11_findMatch_178 : decode cX11_findMatch 178 = .ok (.iconst (-1), 1) := by decide +kernel
theorem dX11_findMatch_179 : decode cX11_findMatch 179 = .ok (.istore 4, 2) := by decide +kernel
theorem dX11_findMatch_181 : decode cX11_findMatch 181 = .ok (.aload_n 0, 1) := by decide +kernel
theorem dX11_findMatch_182 : decode cX11_findMatch 182 = .ok (.getfield 159, 3) := by decide +kernel
theorem dX11_findMatch_185 : decode cX11_findMatch 185 = .ok (.iconst 1, 1) := by decide +kernel
theorem dX11_findMatch_186 : decode cX11_findMatch 186 = .ok (.isub, 1) := by decide +kernel
theorem dX11_findMatch_187 : decode cX11_findMatch 187 = .ok (.istore 5, 2) := by decide +kernel
theorem dX11_findMatch_189 : decode cX11_findMatch 189 = .ok (.iload 5, 2) := by decide +kernel
theorem dX11_findMatch_191 : decode cX11_findMatch 191 = .ok (.iload_n 3, 1) := by decide +kernel
theorem dX11_findMatch_192 : decode cX11_findMatch 192 = .ok (.if_icmp .le 64, 3) := by decide +kernel
theorem dX11_findMatch_195 : decode cX11_findMatch 195 = .ok (.iload_n 2, 1) := by decide +kernel
theorem dX11_findMatch_196 : decode cX11_findMatch 196 = .ok (.iload 5, 2) := by decide +kernel
theorem dX11_findMatch_198 : decode cX11_findMatch 198 = .ok (.ishr, 1) := by decide +kernel
theorem dX11_findMatch_199 : decode cX11_findMatch 199 = .ok (.iconst 1, 1) := by decide +kernel
theorem dX11_findMatch_200 : decode cX11_findMatch 200 = .ok (.iand, 1) := by decide +kernel
theorem dX11_findMatch_201 : decode cX11_findMatch 201 = .ok (.ifCond .ne 49, 3) := by decide +kernel
theorem dX11_findMatch_204 : decode cX11_findMatch 204 = .ok (.aload_n 0, 1) := by decide +kernel
theorem dX11_findMatch_205 : decode cX11_findMatch 205 = .ok (.iload_n 3, 1) := by decide +kernel
theorem dX11_findMatch_206 : decode cX11_findMatch 206 = .ok (.iload 5, 2) := by decide +kernel
theorem dX11_findMatch_208 : decode cX11_findMatch 208 = .ok (.invokevirtual 425, 3) := by decide +kernel
theorem dX11_findMatch_211 : decode cX11_findMatch 211 = .ok (.ifCond .eq 39, 3) := by decide +kernel
theorem dX11_findMatch_214 : decode cX11_findMatch 214 = .ok (.aload_n 0, 1) := by decide +kernel
theorem dX11_findMatch_215 : decode cX11_findMatch 215 = .ok (.iload_n 3, 1) := by decide +kernel
theorem dX11_findMatch_216 : decode cX11_findMatch 216 = .ok (.iload 5, 2) := by decide +kernel
theorem dX11_findMatch_218 : decode cX11_findMatch 218 = .ok (.invokevirtual 428, 3) := by decide +kernel
theorem dX11_findMatch_221 : decode cX11_findMatch 221 = .ok (.aload_n 0, 1) := by decide +kernel
theorem dX11_findMatch_222 : decode cX11_findMatch 222 = .ok (.getfield 86, 3) := by decide +kernel
theorem dX11_findMatch_225 : decode cX11_findMatch 225 = .ok (.iload_n 2, 1) := by decide +kernel
theorem dX11_findMatch_226 : decode cX11_findMatch 226 = .ok (.iconst 1, 1) := by decide +kernel
theorem dX11_findMatch_227 : decode cX11_findMatch 227 = .ok (.iload_n 3, 1) := by decide +kernel
theorem dX11_findMatch_228 : decode cX11_findMatch 228 = .ok (.ishl, 1) := by decide +kernel
theorem dX11_findMatch_229 : decode cX11_findMatch 229 = .ok (.ior, 1) := by decide +kernel
theorem dX11_findMatch_230 : decode cX11_findMatch 230 = .ok (.iconst 1, 1) := by decide +kernel
theorem dX11_findMatch_231 : decode cX11_findMatch 231 = .ok (.iload 5, 2) := by decide +kernel
theorem dX11_findMatch_233 : decode cX11_findMatch 233 = .ok (.ishl, 1) := by decide +kernel
theorem dX11_findMatch_234 : decode cX11_findMatch 234 = .ok (.ior, 1) := by decide +kernel
theorem dX11_findMatch_235 : decode cX11_findMatch 235 = .ok (.iaload, 1) := by decide +kernel
theorem dX11_findMatch_236 : decode cX11_findMatch 236 = .ok (.iadd, 1) := by decide +kernel
theorem dX11_findMatch_237 : decode cX11_findMatch 237 = .ok (.aload_n 0, 1) := by decide +kernel
theorem dX11_findMatch_238 : decode cX11_findMatch 238 = .ok (.getfield 86, 3) := by decide +kernel
theorem dX11_findMatch_241 : decode cX11_findMatch 241 = .ok (.iload_n 2, 1) := by decide +kernel
theorem dX11_findMatch_242 : decode cX11_findMatch 242 = .ok (.iaload, 1) := by decide +kernel
theorem dX11_findMatch_243 : decode cX11_findMatch 243 = .ok (.if_icmp .ne 7, 3) := by decide +kernel
theorem dX11_findMatch_246 : decode cX11_findMatch 246 = .ok (.iload 5, 2) := by decide +kernel
theorem dX11_findMatch_248 : decode cX11_findMatch 248 = .ok (.istore 4, 2) := by decide +kernel
theorem dX11_findMatch_250 : decode cX11_findMatch 250 = .ok (.iinc 5 (-1), 3) := by decide +kernel
theorem dX11_findMatch_253 : decode cX11_findMatch 253 = .ok (.goto (-64), 3) := by decide +kernel
theorem dX11_findMatch_256 : decode cX11_findMatch 256 = .ok (.iload_n 2, 1) := by decide +kernel
theorem dX11_findMatch_257 : decode cX11_findMatch 257 = .ok (.iconst 1, 1) := by decide +kernel
theorem dX11_findMatch_258 : decode cX11_findMatch 258 = .ok (.iload_n 3, 1) := by decide +kernel
theorem dX11_findMatch_259 : decode cX11_findMatch 259 = .ok (.ishl, 1) := by decide +kernel
theorem dX11_findMatch_260 : decode cX11_findMatch 260 = .ok (.ior, 1) := by decide +kernel
theorem dX11_findMatch_261 : decode cX11_findMatch 261 = .ok (.istore_n 2, 1) := by decide +kernel
theorem dX11_findMatch_262 : decode cX11_findMatch 262 = .ok (.iload 4, 2) := by decide +kernel
theorem dX11_findMatch_264 : decode cX11_findMatch 264 = .ok (.iconst (-1), 1) := by decide +kernel
theorem dX11_findMatch_265 : decode cX11_findMatch 265 = .ok (.if_icmp .ne 6, 3) := by decide +kernel
theorem dX11_findMatch_268 : decode cX11_findMatch 268 = .ok (.goto (-100), 3) := by decide +kernel
theorem dX11_findMatch_271 : decode cX11_findMatch 271 = .ok (.iload_n 2, 1) := by decide +kernel
theorem dX11_findMatch_272 : decode cX11_findMatch 272 = .ok (.iconst 1, 1) := by decide +kernel
theorem dX11_findMatch_273 : decode cX11_findMatch 273 = .ok (.iload 4, 2) := by decide +kernel
theorem dX11_findMatch_275 : decode cX11_findMatch 275 = .ok (.ishl, 1) := by decide +kernel
theorem dX11_findMatch_276 : decode cX11_findMatch 276 = .ok (.ior, 1) := by decide +kernel
theorem dX11_findMatch_277 : decode cX11_findMatch 277 = .ok (.istore_n 2, 1) := by decide +kernel
theorem dX11_findMatch_278 : decode cX11_findMatch 278 = .ok (.aload_n 0, 1) := by decide +kernel
theorem dX11_findMatch_279 : decode cX11_findMatch 279 = .ok (.getfield 89, 3) := by decide +kernel
theorem dX11_findMatch_282 : decode cX11_findMatch 282 = .ok (.iload_n 3, 1) := by decide +kernel
theorem dX11_findMatch_283 : decode cX11_findMatch 283 = .ok (.iload 4, 2) := by decide +kernel
theorem dX11_findMatch_285 : decode cX11_findMatch 285 = .ok (.iastore, 1) := by decide +kernel
theorem dX11_findMatch_286 : decode cX11_findMatch 286 = .ok (.aload_n 0, 1) := by decide +kernel
theorem dX11_findMatch_287 : decode cX11_findMatch 287 = .ok (.getfield 89, 3) := by decide +kernel
theorem dX11_findMatch_290 : decode cX11_findMatch 290 = .ok (.iload 4, 2) := by decide +kernel
theorem dX11_findMatch_292 : decode cX11_findMatch 292 = .ok (.iload_n 3, 1) := by decide +kernel
theorem dX11_findMatch_293 : decode cX11_findMatch 293 = .ok (.iastore, 1) := by decide +kernel
theorem dX11_findMatch_294 : decode cX11_findMatch 294 = .ok (.goto (-126), 3) := by decide +kernel
theorem dX11_findMatch_297 : decode cX11_findMatch 297 = .ok (.return_, 1) := by decide +kernel
theorem dX11_match_0 : decode cX11_match 0 = .ok (.aload_n 0, 1) := by decide +kernel
theorem dX11_match_1 : decode cX11_match 1 = .ok (.iconst 0, 1) := by decide +kernel
theorem dX11_match_2 : decode cX11_match 2 = .ok (.putfield 3, 3) := by decide +kernel
theorem dX11_match_5 : decode cX11_match 5 = .ok (.aload_n 0, 1) := by decide +kernel
theorem dX11_match_6 : decode cX11_match 6 = .ok (.iload_n 1, 1) := by decide +kernel
theorem dX11_match_7 : decode cX11_match 7 = .ok (.iconst 0, 1) := by decide +kernel
theorem dX11_match_8 : decode cX11_match 8 = .ok (.iconst 1, 1) := by decide +kernel
theorem dX11_match_9 : decode cX11_match 9 = .ok (.invokestatic 376, 3) := by decide +kernel
theorem dX11_match_12 : decode cX11_match 12 = .ok (.iconst 1, 1) := by decide +kernel
theorem dX11_match_13 : decode cX11_match 13 = .ok (.iconst 1, 1) := by decide +kernel
theorem dX11_match_14 : decode cX11_match 14 = .ok (.invokevirtual 198, 3) := by decide +kernel
theorem dX11_match_17 : decode cX11_match 17 = .ok (.ifCond .ne 5, 3) := by decide +kernel
theorem dX11_match_20 : decode cX11_match 20 = .ok (.iconst 0, 1) := by decide +kernel
theorem dX11_match_21 : decode cX11_match 21 = .ok (.ireturn, 1) := by decide +kernel
theorem dX11_match_22 : decode cX11_match 22 = .ok (.aload_n 0, 1) := by decide +kernel
theorem dX11_match_23 : decode cX11_match 23 = .ok (.invokevirtual 431, 3) := by decide +kernel
theorem dX11_match_26 : decode cX11_match 26 = .ok (.aload_n 0, 1) := by decide +kernel
theorem dX11_match_27 : decode cX11_match 27 = .ok (.getfield 86, 3) := by decide +kernel
theorem dX11_match_30 : decode cX11_match 30 = .ok (.iconst 0, 1) := by decide +kernel
theorem dX11_match_31 : decode cX11_match 31 = .ok (.iaload, 1) := by decide +kernel
theorem dX11_match_32 : decode cX11_match 32 = .ok (.sipush 999, 3) := by decide +kernel
theorem dX11_match_35 : decode cX11_match 35 = .ok (.iadd, 1) := by decide +kernel
theorem dX11_match_36 : decode cX11_match 36 = .ok (.sipush 1000, 3) := by decide +kernel
theorem dX11_match_39 : decode cX11_match 39 = .ok (.idiv, 1) := by decide +kernel
theorem dX11_match_40 : decode cX11_match 40 = .ok (.istore_n 2, 1) := by decide +kernel
theorem dX11_match_41 : decode cX11_match 41 = .ok (.iload_n 1, 1) := by decide +kernel
theorem dX11_match_42 : decode cX11_match 42 = .ok (.ifCond .ne 7, 3) := by decide +kernel
theorem dX11_match_45 : decode cX11_match 45 = .ok (.iload_n 2, 1) := by decide +kernel
theorem dX11_match_46 : decode cX11_match 46 = .ok (.goto 15, 3) := by decide +kernel
theorem dX11_match_49 : decode cX11_match 49 = .ok (.sipush 1000, 3) := by decide +kernel
theorem dX11_match_52 : decode cX11_match 52 = .ok (.iload_n 2, 1) := by decide +kernel
theorem dX11_match_53 : decode cX11_match 53 = .ok (.imul, 1) := by decide +kernel
theorem dX11_match_54 : decode cX11_match 54 = .ok (.aload_n 0, 1) := by decide +kernel
theorem dX11_match_55 : decode cX11_match 55 = .ok (.getfield 86, 3) := by decide +kernel
theorem dX11_match_58 : decode cX11_match 58 = .ok (.iconst 0, 1) := by decide +kernel
theorem dX11_match_59 : decode cX11_match 59 = .ok (.iaload, 1) := by decide +kernel
theorem dX11_match_60 : decode cX11_match 60 = .ok (.isub, 1) := by decide +kernel
theorem dX11_match_61 : decode cX11_match 61 = .ok (.ireturn, 1) := by decide +kernel
theorem dX11_bride_0 : decode cX11_bride 0 = .ok (.aload_n 0, 1) := by decide +kernel
theorem dX11_bride_1 : decode cX11_bride 1 = .ok (.iconst 0, 1) := by decide +kernel
theorem dX11_bride_2 : decode cX11_bride 2 = .ok (.putfield 3, 3) := by decide +kernel
theorem dX11_bride_5 : decode cX11_bride 5 = .ok (.aload_n 0, 1) := by decide +kernel
theorem dX11_bride_6 : decode cX11_bride 6 = .ok (.iload_n 1, 1) := by decide +kernel
theorem dX11_bride_7 : decode cX11_bride 7 = .ok (.iconst 1, 1) := by decide +kernel
theorem dX11_bride_8 : decode cX11_bride 8 = .ok (.invokevirtual 391, 3) := by decide +kernel
theorem dX11_bride_11 : decode cX11_bride 11 = .ok (.ifCond .ne 5, 3) := by decide +kernel
theorem dX11_bride_14 : decode cX11_bride 14 = .ok (.iconst 0, 1) := by decide +kernel
theorem dX11_bride_15 : decode cX11_bride 15 = .ok (.ireturn, 1) := by decide +kernel
theorem dX11_bride_16 : decode cX11_bride 16 = .ok (.aload_n 0, 1) := by decide +kernel
theorem dX11_bride_17 : decode cX11_bride 17 = .ok (.invokevirtual 431, 3) := by decide +kernel
theorem dX11_bride_20 : decode cX11_bride 20 = .ok (.aload_n 0, 1) := by decide +kernel
theorem dX11_bride_21 : decode cX11_bride 21 = .ok (.getfield 89, 3) := by decide +kernel
theorem dX11_bride_24 : decode cX11_bride 24 = .ok (.iload_n 1, 1) := by decide +kernel
theorem dX11_bride_25 : decode cX11_bride 25 = .ok (.iaload, 1) := by decide +kernel
theorem dX11_bride_26 : decode cX11_bride 26 = .ok (.ireturn, 1) := by decide +kernel
theorem dX11_needOf_0 : decode cX11_needOf 0 = .ok (.iconst 0, 1) := by decide +kernel
theorem dX11_needOf_1 : decode cX11_needOf 1 = .ok (.istore_n 3, 1) := by decide +kernel
theorem dX11_needOf_2 : decode cX11_needOf 2 = .ok (.iconst 0, 1) := by decide +kernel
theorem dX11_needOf_3 : decode cX11_needOf 3 = .ok (.istore 4, 2) := by decide +kernel
theorem dX11_needOf_5 : decode cX11_needOf 5 = .ok (.iload 4, 2) := by decide +kernel
theorem dX11_needOf_7 : decode cX11_needOf 7 = .ok (.aload_n 0, 1) := by decide +kernel
theorem dX11_needOf_8 : decode cX11_needOf 8 = .ok (.getfield 156, 3) := by decide +kernel
theorem dX11_needOf_11 : decode cX11_needOf 11 = .ok (.if_icmp .ge 37, 3) := by decide +kernel
theorem dX11_needOf_14 : decode cX11_needOf 14 = .ok (.iload_n 3, 1) := by decide +kernel
theorem dX11_needOf_15 : decode cX11_needOf 15 = .ok (.iload_n 1, 1) := by decide +kernel
theorem dX11_needOf_16 : decode cX11_needOf 16 = .ok (.iload 4, 2) := by decide +kernel
theorem dX11_needOf_18 : decode cX11_needOf 18 = .ok (.ishr, 1) := by decide +kernel
theorem dX11_needOf_19 : decode cX11_needOf 19 = .ok (.iconst 1, 1) := by decide +kernel
theorem dX11_needOf_20 : decode cX11_needOf 20 = .ok (.iand, 1) := by decide +kernel
theorem dX11_needOf_21 : decode cX11_needOf 21 = .ok (.iconst 1, 1) := by decide +kernel
theorem dX11_needOf_22 : decode cX11_needOf 22 = .ok (.if_icmp .ne 17, 3) := by decide +kernel
theorem dX11_needOf_25 : decode cX11_needOf 25 = .ok (.aload_n 0, 1) := by decide +kernel
theorem dX11_needOf_26 : decode cX11_needOf 26 = .ok (.getfield 35, 3) := by decide +kernel
theorem dX11_needOf_29 : decode cX11_needOf 29 = .ok (.iconst 4, 1) := by decide +kernel
theorem dX11_needOf_30 : decode cX11_needOf 30 = .ok (.iload 4, 2) := by decide +kernel
theorem dX11_needOf_32 : decode cX11_needOf 32 = .ok (.imul, 1) := by decide +kernel
theorem dX11_needOf_33 : decode cX11_needOf 33 = .ok (.iload_n 2, 1) := by decide +kernel
theorem dX11_needOf_34 : decode cX11_needOf 34 = .ok (.iadd, 1) := by decide +kernel
theorem dX11_needOf_35 : decode cX11_needOf 35 = .ok (.iaload, 1) := by decide +kernel
theorem dX11_needOf_36 : decode cX11_needOf 36 = .ok (.goto 4, 3) := by decide +kernel
theorem dX11_needOf_39 : decode cX11_needOf 39 = .ok (.iconst 0, 1) := by decide +kernel
theorem dX11_needOf_40 : decode cX11_needOf 40 = .ok (.iadd, 1) := by decide +kernel
theorem dX11_needOf_41 : decode cX11_needOf 41 = .ok (.istore_n 3, 1) := by decide +kernel
theorem dX11_needOf_42 : decode cX11_needOf 42 = .ok (.iinc 4 1, 3) := by decide +kernel
theorem dX11_needOf_45 : decode cX11_needOf 45 = .ok (.goto (-40), 3) := by decide +kernel
theorem dX11_needOf_48 : decode cX11_needOf 48 = .ok (.iload_n 3, 1) := by decide +kernel
theorem dX11_needOf_49 : decode cX11_needOf 49 = .ok (.ireturn, 1) := by decide +kernel
theorem dX11_enough_0 : decode cX11_enough 0 = .ok (.aload_n 0, 1) := by decide +kernel
theorem dX11_enough_1 : decode cX11_enough 1 = .ok (.iconst 0, 1) := by decide +kernel
theorem dX11_enough_2 : decode cX11_enough 2 = .ok (.putfield 3, 3) := by decide +kernel
theorem dX11_enough_5 : decode cX11_enough 5 = .ok (.aload_n 0, 1) := by decide +kernel
theorem dX11_enough_6 : decode cX11_enough 6 = .ok (.iload_n 1, 1) := by decide +kernel
theorem dX11_enough_7 : decode cX11_enough 7 = .ok (.ifCond .lt 17, 3) := by decide +kernel
theorem dX11_enough_10 : decode cX11_enough 10 = .ok (.iload_n 1, 1) := by decide +kernel
theorem dX11_enough_11 : decode cX11_enough 11 = .ok (.iconst 1, 1) := by decide +kernel
theorem dX11_enough_12 : decode cX11_enough 12 = .ok (.aload_n 0, 1) := by decide +kernel
theorem dX11_enough_13 : decode cX11_enough 13 = .ok (.getfield 156, 3) := by decide +kernel
theorem dX11_enough_16 : decode cX11_enough 16 = .ok (.ishl, 1) := by decide +kernel
theorem dX11_enough_17 : decode cX11_enough 17 = .ok (.if_icmp .ge 7, 3) := by decide +kernel
theorem dX11_enough_20 : decode cX11_enough 20 = .ok (.iconst 1, 1) := by decide +kernel
theorem dX11_enough_21 : decode cX11_enough 21 = .ok (.goto 4, 3) := by decide +kernel
theorem dX11_enough_24 : decode cX11_enough 24 = .ok (.iconst 0, 1) := by decide +kernel
theorem dX11_enough_25 : decode cX11_enough 25 = .ok (.iconst 1, 1) := by decide +kernel
theorem dX11_enough_26 : decode cX11_enough 26 = .ok (.iconst 1, 1) := by decide +kernel
theorem dX11_enough_27 : decode cX11_enough 27 = .ok (.invokevirtual 198, 3) := by decide +kernel
theorem dX11_enough_30 : decode cX11_enough 30 = .ok (.ifCond .ne 5, 3) := by decide +kernel
theorem dX11_enough_33 : decode cX11_enough 33 = .ok (.iconst 0, 1) := by decide +kernel
theorem dX11_enough_34 : decode cX11_enough 34 = .ok (.ireturn, 1) := by decide +kernel
theorem dX11_enough_35 : decode cX11_enough 35 = .ok (.aload_n 0, 1) := by decide +kernel
theorem dX11_enough_36 : decode cX11_enough 36 = .ok (.invokevirtual 308, 3) := by decide +kernel
theorem dX11_enough_39 : decode cX11_enough 39 = .ok (.iconst 0, 1) := by decide +kernel
theorem dX11_enough_40 : decode cX11_enough 40 = .ok (.istore_n 2, 1) := by decide +kernel
theorem dX11_enough_41 : decode cX11_enough 41 = .ok (.iload_n 2, 1) := by decide +kernel
theorem dX11_enough_42 : decode cX11_enough 42 = .ok (.bipush 100, 2) := by decide +kernel
theorem dX11_enough_44 : decode cX11_enough 44 = .ok (.if_icmp .gt 63, 3) := by decide +kernel
theorem dX11_enough_47 : decode cX11_enough 47 = .ok (.aload_n 0, 1) := by decide +kernel
theorem dX11_enough_48 : decode cX11_enough 48 = .ok (.getfield 68, 3) := by decide +kernel
theorem dX11_enough_51 : decode cX11_enough 51 = .ok (.bipush 56, 2) := by decide +kernel
theorem dX11_enough_53 : decode cX11_enough 53 = .ok (.iaload, 1) := by decide +kernel
theorem dX11_enough_54 : decode cX11_enough 54 = .ok (.aload_n 0, 1) := by decide +kernel
theorem dX11_enough_55 : decode cX11_enough 55 = .ok (.iload_n 1, 1) := by decide +kernel
theorem dX11_enough_56 : decode cX11_enough 56 = .ok (.iconst 0, 1) := by decide +kernel
theorem dX11_enough_57 : decode cX11_enough 57 = .ok (.invokevirtual 434, 3) := by decide +kernel
theorem dX11_enough_60 : decode cX11_enough 60 = .ok (.if_icmp .lt 37, 3) := by decide +kernel
theorem dX11_enough_63 : decode cX11_enough 63 = .ok (.aload_n 0, 1) := by decide +kernel
theorem dX11_enough_64 : decode cX11_enough 64 = .ok (.getfield 68, 3) := by decide +kernel
theorem dX11_enough_67 : decode cX11_enough 67 = .ok (.bipush 57, 2) := by decide +kernel
theorem dX11_enough_69 : decode cX11_enough 69 = .ok (.iaload, 1) := by decide +kernel
theorem dX11_enough_70 : decode cX11_enough 70 = .ok (.aload_n 0, 1) := by decide +kernel
theorem dX11_enough_71 : decode cX11_enough 71 = .ok (.iload_n 1, 1) := by decide +kernel
theorem dX11_enough_72 : decode cX11_enough 72 = .ok (.iconst 1, 1) := by decide +kernel
theorem dX11_enough_73 : decode cX11_enough 73 = .ok (.invokevirtual 434, 3) := by decide +kernel
theorem dX11_enough_76 : decode cX11_enough 76 = .ok (.if_icmp .lt 21, 3) := by decide +kernel
theorem dX11_enough_79 : decode cX11_enough 79 = .ok (.aload_n 0, 1) := by decide +kernel
theorem dX11_enough_80 : decode cX11_enough 80 = .ok (.getfield 68, 3) := by decide +kernel
theorem dX11_enough_83 : decode cX11_enough 83 = .ok (.bipush 58, 2) := by decide +kernel
theorem dX11_enough_85 : decode cX11_enough 85 = .ok (.iaload, 1) := by decide +kernel
theorem dX11_enough_86 : decode cX11_enough 86 = .ok (.aload_n 0, 1) := by decide +kernel
theorem dX11_enough_87 : decode cX11_enough 87 = .ok (.iload_n 1, 1) := by decide +kernel
theorem dX11_enough_88 : decode cX11_enough 88 = .ok (.iconst 2, 1) := by decide +kernel
theorem dX11_enough_89 : decode cX11_enough 89 = .ok (.invokevirtual 434, 3) := by decide +kernel
theorem dX11_enough_92 : decode cX11_enough 92 = .ok (.if_icmp .lt 5, 3) := by decide +kernel
theorem dX11_enough_95 : decode cX11_enough 95 = .ok (.iload_n 2, 1) := by decide +kernel
theorem dX11_enough_96 : decode cX11_enough 96 = .ok (.ireturn, 1) := by decide +kernel
theorem dX11_enough_97 : decode cX11_enough 97 = .ok (.aload_n 0, 1) := by decide +kernel
theorem dX11_enough_98 : decode cX11_enough 98 = .ok (.invokevirtual 373, 3) := by decide +kernel
theorem dX11_enough_101 : decode cX11_enough 101 = .ok (.iinc 2 1, 3) := by decide +kernel
theorem dX11_enough_104 : decode cX11_enough 104 = .ok (.goto (-63), 3) := by decide +kernel
theorem dX11_enough_107 : decode cX11_enough 107 = .ok (.iconst (-1), 1) := by decide +kernel
theorem dX11_enough_108 : decode cX11_enough 108 = .ok (.ireturn, 1) := by decide +kernel
theorem dX11_level_0 : decode cX11_level 0 = .ok (.aload_n 0, 1) := by decide +kernel
theorem dX11_level_1 : decode cX11_level 1 = .ok (.iconst 0, 1) := by decide +kernel
theorem dX11_level_2 : decode cX11_level 2 = .ok (.putfield 3, 3) := by decide +kernel
theorem dX11_level_5 : decode cX11_level 5 = .ok (.aload_n 0, 1) := by decide +kernel
theorem dX11_level_6 : decode cX11_level 6 = .ok (.iload_n 1, 1) := by decide +kernel
theorem dX11_level_7 : decode cX11_level 7 = .ok (.invokestatic 394, 3) := by decide +kernel
theorem dX11_level_10 : decode cX11_level 10 = .ok (.iconst 1, 1) := by decide +kernel
theorem dX11_level_11 : decode cX11_level 11 = .ok (.iconst 0, 1) := by decide +kernel
theorem dX11_level_12 : decode cX11_level 12 = .ok (.invokevirtual 198, 3) := by decide +kernel
theorem dX11_level_15 : decode cX11_level 15 = .ok (.ifCond .eq 19, 3) := by decide +kernel
theorem dX11_level_18 : decode cX11_level 18 = .ok (.aload_n 0, 1) := by decide +kernel
theorem dX11_level_19 : decode cX11_level 19 = .ok (.iload_n 2, 1) := by decide +kernel
theorem dX11_level_20 : decode cX11_level 20 = .ok (.iconst 1, 1) := by decide +kernel
theorem dX11_level_21 : decode cX11_level 21 = .ok (.bipush 99, 2) := by decide +kernel
theorem dX11_level_23 : decode cX11_level 23 = .ok (.invokestatic 376, 3) := by decide +kernel
theorem dX11_level_26 : decode cX11_level 26 = .ok (.iconst 2, 1) := by decide +kernel
theorem dX11_level_27 : decode cX11_level 27 = .ok (.iconst 1, 1) := by decide +kernel
theorem dX11_level_28 : decode cX11_level 28 = .ok (.invokevirtual 198, 3) := by decide +kernel
theorem dX11_level_31 : decode cX11_level 31 = .ok (.ifCond .ne 5, 3) := by decide +kernel
theorem dX11_level_34 : decode cX11_level 34 = .ok (.iconst 0, 1) := by decide +kernel
theorem dX11_level_35 : decode cX11_level 35 = .ok (.ireturn, 1) := by decide +kernel
theorem dX11_level_36 : decode cX11_level 36 = .ok (.aload_n 0, 1) := by decide +kernel
theorem dX11_level_37 : decode cX11_level 37 = .ok (.getfield 65, 3) := by decide +kernel
theorem dX11_level_40 : decode cX11_level 40 = .ok (.bipush 56, 2) := by decide +kernel
theorem dX11_level_42 : decode cX11_level 42 = .ok (.iload_n 1, 1) := by decide +kernel
theorem dX11_level_43 : decode cX11_level 43 = .ok (.iadd, 1) := by decide +kernel
theorem dX11_level_44 : decode cX11_level 44 = .ok (.iaload, 1) := by decide +kernel
theorem dX11_level_45 : decode cX11_level 45 = .ok (.iload_n 2, 1) := by decide +kernel
theorem dX11_level_46 : decode cX11_level 46 = .ok (.idiv, 1) := by decide +kernel
theorem dX11_level_47 : decode cX11_level 47 = .ok (.istore_n 3, 1) := by decide +kernel
theorem dX11_level_48 : decode cX11_level 48 = .ok (.iload_n 3, 1) := by decide +kernel
theorem dX11_level_49 : decode cX11_level 49 = .ok (.bipush 9, 2) := by decide +kernel
theorem dX11_level_51 : decode cX11_level 51 = .ok (.if_icmp .le 8, 3) := by decide +kernel
theorem dX11_level_54 : decode cX11_level 54 = .ok (.bipush 9, 2) := by decide +kernel
theorem dX11_level_56 : decode cX11_level 56 = .ok (.goto 4, 3) := by decide +kernel
theorem dX11_level_59 : decode cX11_level 59 = .ok (.iload_n 3, 1) := by decide +kernel
theorem dX11_level_60 : decode cX11_level 60 = .ok (.ireturn, 1) := by decide +kernel
theorem dX11_least_0 : decode cX11_least 0 = .ok (.lload_n 0, 1) := by decide +kernel
theorem dX11_least_1 : decode cX11_least 1 = .ok (.lstore 5, 2) := by decide +kernel
theorem dX11_least_3 : decode cX11_least 3 = .ok (.lload_n 2, 1) := by decide +kernel
theorem dX11_least_4 : decode cX11_least 4 = .ok (.lstore 7, 2) := by decide +kernel
theorem dX11_least_6 : decode cX11_least 6 = .ok (.lload 7, 2) := by decide +kernel
theorem dX11_least_8 : decode cX11_least 8 = .ok (.lconst 0, 1) := by decide +kernel
theorem dX11_least_9 : decode cX11_least 9 = .ok (.lcmp, 1) := by decide +kernel
theorem dX11_least_10 : decode cX11_least 10 = .ok (.ifCond .eq 21, 3) := by decide +kernel
theorem dX11_least_13 : decode cX11_least 13 = .ok (.lload 5, 2) := by decide +kernel
theorem dX11_least_15 : decode cX11_least 15 = .ok (.lload 7, 2) := by decide +kernel
theorem dX11_least_17 : decode cX11_least 17 = .ok (.lrem, 1) := by decide +kernel
theorem dX11_least_18 : decode cX11_least 18 = .ok (.lstore 9, 2) := by decide +kernel
theorem dX11_least_20 : decode cX11_least 20 = .ok (.lload 7, 2) := by decide +kernel
theorem dX11_least_22 : decode cX11_least 22 = .ok (.lstore 5, 2) := by decide +kernel
theorem dX11_least_24 : decode cX11_least 24 = .ok (.lload 9, 2) := by decide +kernel
theorem dX11_least_26 : decode cX11_least 26 = .ok (.lstore 7, 2) := by decide +kernel
theorem dX11_least_28 : decode cX11_least 28 = .ok (.goto (-22), 3) := by decide +kernel
theorem dX11_least_31 : decode cX11_least 31 = .ok (.iload 4, 2) := by decide +kernel
theorem dX11_least_33 : decode cX11_least 33 = .ok (.ifCond .ne 7, 3) := by decide +kernel
theorem dX11_least_36 : decode cX11_least 36 = .ok (.lload_n 0, 1) := by decide +kernel
theorem dX11_least_37 : decode cX11_least 37 = .ok (.goto 4, 3) := by decide +kernel
theorem dX11_least_40 : decode cX11_least 40 = .ok (.lload_n 2, 1) := by decide +kernel
theorem dX11_least_41 : decode cX11_least 41 = .ok (.lload 5, 2) := by decide +kernel
theorem dX11_least_43 : decode cX11_least 43 = .ok (.ldiv, 1) := by decide +kernel
theorem dX11_least_44 : decode cX11_least 44 = .ok (.lreturn, 1) := by decide +kernel
theorem dX11_night_0 : decode cX11_night 0 = .ok (.aload_n 0, 1) := by decide +kernel
theorem dX11_night_1 : decode cX11_night 1 = .ok (.iconst 0, 1) := by decide +kernel
theorem dX11_night_2 : decode cX11_night 2 = .ok (.putfield 3, 3) := by decide +kernel
theorem dX11_night_5 : decode cX11_night 5 = .ok (.aload_n 0, 1) := by decide +kernel
theorem dX11_night_6 : decode cX11_night 6 = .ok (.iload_n 1, 1) := by decide +kernel
theorem dX11_night_7 : decode cX11_night 7 = .ok (.iconst 1, 1) := by decide +kernel
theorem dX11_night_8 : decode cX11_night 8 = .ok (.bipush 9, 2) := by decide +kernel
theorem dX11_night_10 : decode cX11_night 10 = .ok (.invokestatic 376, 3) := by decide +kernel
theorem dX11_night_13 : decode cX11_night 13 = .ok (.ifCond .eq 33, 3) := by decide +kernel
theorem dX11_night_16 : decode cX11_night 16 = .ok (.iload_n 1, 1) := by decide +kernel
theorem dX11_night_17 : decode cX11_night 17 = .ok (.iconst 2, 1) := by decide +kernel
theorem dX11_night_18 : decode cX11_night 18 = .ok (.irem, 1) := by decide +kernel
theorem dX11_night_19 : decode cX11_night 19 = .ok (.iconst 1, 1) := by decide +kernel
theorem dX11_night_20 : decode cX11_night 20 = .ok (.if_icmp .ne 26, 3) := by decide +kernel
theorem dX11_night_23 : decode cX11_night 23 = .ok (.iload_n 2, 1) := by decide +kernel
theorem dX11_night_24 : decode cX11_night 24 = .ok (.iconst 0, 1) := by decide +kernel
theorem dX11_night_25 : decode cX11_night 25 = .ok (.bipush 16, 2) := by decide +kernel
theorem dX11_night_27 : decode cX11_night 27 = .ok (.invokestatic 376, 3) := by decide +kernel
theorem dX11_night_30 : decode cX11_night 30 = .ok (.ifCond .eq 16, 3) := by decide +kernel
theorem dX11_night_33 : decode cX11_night 33 = .ok (.iload_n 3, 1) := by decide +kernel
theorem dX11_night_34 : decode cX11_night 34 = .ok (.iconst 0, 1) := by decide +kernel
theorem dX11_night_35 : decode cX11_night 35 = .ok (.iconst 1, 1) := by decide +kernel
theorem dX11_night_36 : decode cX11_night 36 = .ok (.invokestatic 376, 3) := by decide +kernel
theorem dX11_night_39 : decode cX11_night 39 = .ok (.ifCond .eq 7, 3) := by decide +kernel
theorem dX11_night_42 : decode cX11_night 42 = .ok (.iconst 1, 1) := by decide +kernel
theorem dX11_night_43 : decode cX11_night 43 = .ok (.goto 4, 3) := by decide +kernel
theorem dX11_night_46 : decode cX11_night 46 = .ok (.iconst 0, 1) := by decide +kernel
theorem dX11_night_47 : decode cX11_night 47 = .ok (.iconst 1, 1) := by decide +kernel
theorem dX11_night_48 : decode cX11_night 48 = .ok (.iconst 1, 1) := by decide +kernel
theorem dX11_night_49 : decode cX11_night 49 = .ok (.invokevirtual 198, 3) := by decide +kernel
theorem dX11_night_52 : decode cX11_night 52 = .ok (.ifCond .ne 5, 3) := by decide +kernel
theorem dX11_night_55 : decode cX11_night 55 = .ok (.lconst 0, 1) := by decide +kernel
theorem dX11_night_56 : decode cX11_night 56 = .ok (.lreturn, 1) := by decide +kernel
theorem dX11_night_57 : decode cX11_night 57 = .ok (.lconst 0, 1) := by decide +kernel
theorem dX11_night_58 : decode cX11_night 58 = .ok (.lstore 4, 2) := by decide +kernel
theorem dX11_night_60 : decode cX11_night 60 = .ok (.lconst 1, 1) := by decide +kernel
theorem dX11_night_61 : decode cX11_night 61 = .ok (.lstore 6, 2) := by decide +kernel
theorem dX11_night_63 : decode cX11_night 63 = .ok (.iconst 0, 1) := by decide +kernel
theorem dX11_night_64 : decode cX11_night 64 = .ok (.istore 8, 2) := by decide +kernel
theorem dX11_night_66 : decode cX11_night 66 = .ok (.iload 8, 2) := by decide +kernel
theorem dX11_night_68 : decode cX11_night 68 = .ok (.iload_n 1, 1) := by decide +kernel
theorem dX11_night_69 : decode cX11_night 69 = .ok (.if_icmp .ge 17, 3) := by decide +kernel
theorem dX11_night_72 : decode cX11_night 72 = .ok (.lload 6, 2) := by decide +kernel
theorem dX11_night_74 : decode cX11_night 74 = .ok (.ldc2_w 437, 3) := by decide +kernel
theorem dX11_night_77 : decode cX11_night 77 = .ok (.lmul, 1) := by decide +kernel
theorem dX11_night_78 : decode cX11_night 78 = .ok (.lstore 6, 2) := by decide +kernel
theorem dX11_night_80 : decode cX11_night 80 = .ok (.iinc 8 1, 3) := by decide +kernel
theorem dX11_night_83 : decode cX11_night 83 = .ok (.goto (-17), 3) := by decide +kernel
theorem dX11_night_86 : decode cX11_night 86 = .ok (.iconst 0, 1) := by decide +kernel
theorem dX11_night_87 : decode cX11_night 87 = .ok (.istore 8, 2) := by decide +kernel
theorem dX11_night_89 : decode cX11_night 89 = .ok (.iload 8, 2) := by decide +kernel
theorem dX11_night_91 : decode cX11_night 91 = .ok (.iconst 1, 1) := by decide +kernel
theorem dX11_night_92 : decode cX11_night 92 = .ok (.iload_n 1, 1) := by decide +kernel
theorem dX11_night_93 : decode cX11_night 93 = .ok (.ishl, 1) := by decide +kernel
theorem dX11_night_94 : decode cX11_night 94 = .ok (.if_icmp .ge 87, 3) := by decide +kernel
theorem dX11_night_97 : decode cX11_night 97 = .ok (.iconst 0, 1) := by decide +kernel
theorem dX11_night_98 : decode cX11_night 98 = .ok (.istore 9, 2) := by decide +kernel
theorem dX11_night_100 : decode cX11_night 100 = .ok (.lconst 1, 1) := by decide +kernel
theorem dX11_night_101 : decode cX11_night 101 = .ok (.lstore 10, 2) := by decide +kernel
theorem dX11_night_103 : decode cX11_night 103 = .ok (.iconst 0, 1) := by decide +kernel
theorem dX11_night_104 : decode cX11_night 104 = .ok (.istore 12, 2) := by decide +kernel
theorem dX11_night_106 : decode cX11_night 106 = .ok (.iload 12, 2) := by decide +kernel
theorem dX11_night_108 : decode cX11_night 108 = .ok (.iload_n 1, 1) := by decide +kernel
theorem dX11_night_109 : decode cX11_night 109 = .ok (.if_icmp .ge 47, 3) := by decide +kernel
theorem dX11_night_112 : decode cX11_night 112 = .ok (.iload 9, 2) := by decide +kernel
theorem dX11_night_114 : decode cX11_night 114 = .ok (.iload 8, 2) := by decide +kernel
theorem dX11_night_116 : decode cX11_night 116 = .ok (.iload 12, 2) := by decide +kernel
theorem dX11_night_118 : decode cX11_night 118 = .ok (.ishr, 1) := by decide +kernel
theorem dX11_night_119 : decode cX11_night 119 = .ok (.iconst 1, 1) := by decide +kernel
theorem dX11_night_120 : decode cX11_night 120 = .ok (.iand, 1) := by decide +kernel
theorem dX11_night_121 : decode cX11_night 121 = .ok (.iadd, 1) := by decide +kernel
theorem dX11_night_122 : decode cX11_night 122 = .ok (.istore 9, 2) := by decide +kernel
theorem dX11_night_124 : decode cX11_night 124 = .ok (.lload 10, 2) := by decide +kernel
theorem dX11_night_126 : decode cX11_night 126 = .ok (.iload 8, 2) := by decide +kernel
theorem dX11_night_128 : decode cX11_night 128 = .ok (.iload 12, 2) := by decide +kernel
theorem dX11_night_130 : decode cX11_night 130 = .ok (.ishr, 1) := by decide +kernel
theorem dX11_night_131 : decode cX11_night 131 = .ok (.iconst 1, 1) := by decide +kernel
theorem dX11_night_132 : decode cX11_night 132 = .ok (.iand, 1) := by decide +kernel
theorem dX11_night_133 : decode cX11_night 133 = .ok (.iconst 1, 1) := by decide +kernel
theorem dX11_night_134 : decode cX11_night 134 = .ok (.if_icmp .ne 8, 3) := by decide +kernel
theorem dX11_night_137 : decode cX11_night 137 = .ok (.iload_n 2, 1) := by decide +kernel
theorem dX11_night_138 : decode cX11_night 138 = .ok (.i2l, 1) := by decide +kernel
theorem dX11_night_139 : decode cX11_night 139 = .ok (.goto 8, 3) := by decide +kernel
theorem dX11_night_142 : decode cX11_night 142 = .ok (.bipush 16, 2) := by decide +kernel
theorem dX11_night_144 : decode cX11_night 144 = .ok (.iload_n 2, 1) := by decide +kernel
theorem dX11_night_145 : decode cX11_night 145 = .ok (.isub, 1) := by decide +kernel
theorem dX11_night_146 : decode cX11_night 146 = .ok (.i2l, 1) := by decide +kernel
theorem dX11_night_147 : decode cX11_night 147 = .ok (.lmul, 1) := by decide +kernel
theorem dX11_night_148 : decode cX11_night 148 = .ok (.lstore 10, 2) := by decide +kernel
theorem dX11_night_150 : decode cX11_night 150 = .ok (.iinc 12 1, 3) := by decide +kernel
theorem dX11_night_153 : decode cX11_night 153 = .ok (.goto (-47), 3) := by decide +kernel
theorem dX11_night_156 : decode cX11_night 156 = .ok (.lload 4, 2) := by decide +kernel
theorem dX11_night_158 : decode cX11_night 158 = .ok (.iconst 2, 1) := by decide +kernel
theorem dX11_night_159 : decode cX11_night 159 = .ok (.iload 9, 2) := by decide +kernel
theorem dX11_night_161 : decode cX11_night 161 = .ok (.imul, 1) := by decide +kernel
theorem dX11_night_162 : decode cX11_night 162 = .ok (.iload_n 1, 1) := by decide +kernel
theorem dX11_night_163 : decode cX11_night 163 = .ok (.if_icmp .le 8, 3) := by decide +kernel
theorem dX11_night_166 : decode cX11_night 166 = .ok (.lload 10, 2) := by decide +kernel
theorem dX11_night_168 : decode cX11_night 168 = .ok (.goto 4, 3) := by decide +kernel
theorem dX11_night_171 : decode cX11_night 171 = .ok (.lconst 0, 1) := by decide +kernel
theorem dX11_night_172 : decode cX11_night 172 = .ok (.ladd, 1) := by decide +kernel
theorem dX11_night_173 : decode cX11_night 173 = .ok (.lstore 4, 2) := by decide +kernel
theorem dX11_night_175 : decode cX11_night 175 = .ok (.iinc 8 1, 3) := by decide +kernel
theorem dX11_night_178 : decode cX11_night 178 = .ok (.goto (-89), 3) := by decide +kernel
theorem dX11_night_181 : decode cX11_night 181 = .ok (.lload 4, 2) := by decide +kernel
theorem dX11_night_183 : decode cX11_night 183 = .ok (.lload 6, 2) := by decide +kernel
theorem dX11_night_185 : decode cX11_night 185 = .ok (.iload_n 3, 1) := by decide +kernel
theorem dX11_night_186 : decode cX11_night 186 = .ok (.invokestatic 439, 3) := by decide +kernel
theorem dX11_night_189 : decode cX11_night 189 = .ok (.lreturn, 1) := by decide +kernel
theorem dX11_followsOf_0 : decode cX11_followsOf 0 = .ok (.iconst 0, 1) := by decide +kernel
theorem dX11_followsOf_1 : decode cX11_followsOf 1 = .ok (.istore_n 3, 1) := by decide +kernel
theorem dX11_followsOf_2 : decode cX11_followsOf 2 = .ok (.iconst 0, 1) := by decide +kernel
theorem dX11_followsOf_3 : decode cX11_followsOf 3 = .ok (.istore 4, 2) := by decide +kernel
theorem dX11_followsOf_5 : decode cX11_followsOf 5 = .ok (.iload 4, 2) := by decide +kernel
theorem dX11_followsOf_7 : decode cX11_followsOf 7 = .ok (.aload_n 0, 1) := by decide +kernel
theorem dX11_followsOf_8 : decode cX11_followsOf 8 = .ok (.getfield 159, 3) := by decide +kernel
theorem dX11_followsOf_11 : decode cX11_followsOf 11 = .ok (.if_icmp .ge 48, 3) := by decide +kernel
theorem dX11_followsOf_14 : decode cX11_followsOf 14 = .ok (.iload_n 3, 1) := by decide +kernel
theorem dX11_followsOf_15 : decode cX11_followsOf 15 = .ok (.aload_n 0, 1) := by decide +kernel
theorem dX11_followsOf_16 : decode cX11_followsOf 16 = .ok (.iload 4, 2) := by decide +kernel
theorem dX11_followsOf_18 : decode cX11_followsOf 18 = .ok (.invokevirtual 339, 3) := by decide +kernel
theorem dX11_followsOf_21 : decode cX11_followsOf 21 = .ok (.aload_n 0, 1) := by decide +kernel
theorem dX11_followsOf_22 : decode cX11_followsOf 22 = .ok (.iload_n 1, 1) := by decide +kernel
theorem dX11_followsOf_23 : decode cX11_followsOf 23 = .ok (.invokevirtual 330, 3) := by decide +kernel
theorem dX11_followsOf_26 : decode cX11_followsOf 26 = .ok (.invokestatic 333, 3) := by decide +kernel
theorem dX11_followsOf_29 : decode cX11_followsOf 29 = .ok (.aload_n 0, 1) := by decide +kernel
theorem dX11_followsOf_30 : decode cX11_followsOf 30 = .ok (.iload 4, 2) := by decide +kernel
theorem dX11_followsOf_32 : decode cX11_followsOf 32 = .ok (.invokevirtual 339, 3) := by decide +kernel
theorem dX11_followsOf_35 : decode cX11_followsOf 35 = .ok (.aload_n 0, 1) := by decide +kernel
theorem dX11_followsOf_36 : decode cX11_followsOf 36 = .ok (.iload_n 2, 1) := by decide +kernel
theorem dX11_followsOf_37 : decode cX11_followsOf 37 = .ok (.invokevirtual 330, 3) := by decide +kernel
theorem dX11_followsOf_40 : decode cX11_followsOf 40 = .ok (.invokestatic 333, 3) := by decide +kernel
theorem dX11_followsOf_43 : decode cX11_followsOf 43 = .ok (.if_icmp .ge 7, 3) := by decide +kernel
theorem dX11_followsOf_46 : decode cX11_followsOf 46 = .ok (.iconst 1, 1) := by decide +kernel
theorem dX11_followsOf_47 : decode cX11_followsOf 47 = .ok (.goto 4, 3) := by decide +kernel
theorem dX11_followsOf_50 : decode cX11_followsOf 50 = .ok (.iconst 0, 1) := by decide +kernel
theorem dX11_followsOf_51 : decode cX11_followsOf 51 = .ok (.iadd, 1) := by decide +kernel
theorem dX11_followsOf_52 : decode cX11_followsOf 52 = .ok (.istore_n 3, 1) := by decide +kernel
theorem dX11_followsOf_53 : decode cX11_followsOf 53 = .ok (.iinc 4 1, 3) := by decide +kernel
theorem dX11_followsOf_56 : decode cX11_followsOf 56 = .ok (.goto (-51), 3) := by decide +kernel
theorem dX11_followsOf_59 : decode cX11_followsOf 59 = .ok (.iload_n 3, 1) := by decide +kernel
theorem dX11_followsOf_60 : decode cX11_followsOf 60 = .ok (.ireturn, 1) := by decide +kernel
theorem dX11_isRest_0 : decode cX11_isRest 0 = .ok (.iconst 0, 1) := by decide +kernel
theorem dX11_isRest_1 : decode cX11_isRest 1 = .ok (.istore_n 3, 1) := by decide +kernel
theorem dX11_isRest_2 : decode cX11_isRest 2 = .ok (.iload_n 3, 1) := by decide +kernel
theorem dX11_isRest_3 : decode cX11_isRest 3 = .ok (.aload_n 0, 1) := by decide +kernel
theorem dX11_isRest_4 : decode cX11_isRest 4 = .ok (.getfield 156, 3) := by decide +kernel
theorem dX11_isRest_7 : decode cX11_isRest 7 = .ok (.if_icmp .ge 41, 3) := by decide +kernel
theorem dX11_isRest_10 : decode cX11_isRest 10 = .ok (.aload_n 0, 1) := by decide +kernel
theorem dX11_isRest_11 : decode cX11_isRest 11 = .ok (.iload_n 3, 1) := by decide +kernel
theorem dX11_isRest_12 : decode cX11_isRest 12 = .ok (.iload_n 2, 1) := by decide +kernel
theorem dX11_isRest_13 : decode cX11_isRest 13 = .ok (.invokevirtual 442, 3) := by decide +kernel
theorem dX11_isRest_16 : decode cX11_isRest 16 = .ok (.aload_n 0, 1) := by decide +kernel
theorem dX11_isRest_17 : decode cX11_isRest 17 = .ok (.iload_n 1, 1) := by decide +kernel
theorem dX11_isRest_18 : decode cX11_isRest 18 = .ok (.iload_n 2, 1) := by decide +kernel
theorem dX11_isRest_19 : decode cX11_isRest 19 = .ok (.invokevirtual 442, 3) := by decide +kernel
theorem dX11_isRest_22 : decode cX11_isRest 22 = .ok (.if_icmp .gt 18, 3) := by decide +kernel
theorem dX11_isRest_25 : decode cX11_isRest 25 = .ok (.aload_n 0, 1) := by decide +kernel
theorem dX11_isRest_26 : decode cX11_isRest 26 = .ok (.iload_n 3, 1) := by decide +kernel
theorem dX11_isRest_27 : decode cX11_isRest 27 = .ok (.iload_n 1, 1) := by decide +kernel
theorem dX11_isRest_28 : decode cX11_isRest 28 = .ok (.invokevirtual 442, 3) := by decide +kernel
theorem dX11_isRest_31 : decode cX11_isRest 31 = .ok (.aload_n 0, 1) := by decide +kernel
theorem dX11_isRest_32 : decode cX11_isRest 32 = .ok (.iload_n 2, 1) := by decide +kernel
theorem dX11_isRest_33 : decode cX11_isRest 33 = .ok (.iload_n 1, 1) := by decide +kernel
theorem dX11_isRest_34 : decode cX11_isRest 34 = .ok (.invokevirtual 442, 3) := by decide +kernel
theorem dX11_isRest_37 : decode cX11_isRest 37 = .ok (.if_icmp .le 5, 3) := by decide +kernel
theorem dX11_isRest_40 : decode cX11_isRest 40 = .ok (.iconst 0, 1) := by decide +kernel
theorem dX11_isRest_41 : decode cX11_isRest 41 = .ok (.ireturn, 1) := by decide +kernel
theorem dX11_isRest_42 : decode cX11_isRest 42 = .ok (.iinc 3 1, 3) := by decide +kernel
theorem dX11_isRest_45 : decode cX11_isRest 45 = .ok (.goto (-43), 3) := by decide +kernel
theorem dX11_isRest_48 : decode cX11_isRest 48 = .ok (.iconst 1, 1) := by decide +kernel
theorem dX11_isRest_49 : decode cX11_isRest 49 = .ok (.ireturn, 1) := by decide +kernel
theorem dX11_guilds_0 : decode cX11_guilds 0 = .ok (.aload_n 0, 1) := by decide +kernel
theorem dX11_guilds_1 : decode cX11_guilds 1 = .ok (.iconst 0, 1) := by decide +kernel
theorem dX11_guilds_2 : decode cX11_guilds 2 = .ok (.putfield 3, 3) := by decide +kernel
theorem dX11_guilds_5 : decode cX11_guilds 5 = .ok (.aload_n 0, 1) := by decide +kernel
theorem dX11_guilds_6 : decode cX11_guilds 6 = .ok (.iload_n 1, 1) := by decide +kernel
theorem dX11_guilds_7 : decode cX11_guilds 7 = .ok (.iconst 0, 1) := by decide +kernel
theorem dX11_guilds_8 : decode cX11_guilds 8 = .ok (.iconst 2, 1) := by decide +kernel
theorem dX11_guilds_9 : decode cX11_guilds 9 = .ok (.invokestatic 376, 3) := by decide +kernel
theorem dX11_guilds_12 : decode cX11_guilds 12 = .ok (.iconst 1, 1) := by decide +kernel
theorem dX11_guilds_13 : decode cX11_guilds 13 = .ok (.iconst 1, 1) := by decide +kernel
theorem dX11_guilds_14 : decode cX11_guilds 14 = .ok (.invokevirtual 198, 3) := by decide +kernel
theorem dX11_guilds_17 : decode cX11_guilds 17 = .ok (.ifCond .ne 5, 3) := by decide +kernel
theorem dX11_guilds_20 : decode cX11_guilds 20 = .ok (.iconst 0, 1) := by decide +kernel
theorem dX11_guilds_21 : decode cX11_guilds 21 = .ok (.ireturn, 1) := by decide +kernel
theorem dX11_guilds_22 : decode cX11_guilds 22 = .ok (.aload_n 0, 1) := by decide +kernel
theorem dX11_guilds_23 : decode cX11_guilds 23 = .ok (.invokevirtual 308, 3) := by decide +kernel
theorem dX11_guilds_26 : decode cX11_guilds 26 = .ok (.iconst 0, 1) := by decide +kernel
theorem dX11_guilds_27 : decode cX11_guilds 27 = .ok (.istore_n 2, 1) := by decide +kernel
theorem dX11_guilds_28 : decode cX11_guilds 28 = .ok (.iconst (-1), 1) := by decide +kernel
theorem dX11_guilds_29 : decode cX11_guilds 29 = .ok (.istore_n 3, 1) := by decide +kernel
theorem dX11_guilds_30 : decode cX11_guilds 30 = .ok (.iconst 0, 1) := by decide +kernel
theorem dX11_guilds_31 : decode cX11_guilds 31 = .ok (.istore 4, 2) := by decide +kernel
theorem dX11_guilds_33 : decode cX11_guilds 33 = .ok (.iload 4, 2) := by decide +kernel
theorem dX11_guilds_35 : decode cX11_guilds 35 = .ok (.aload_n 0, 1) := by decide +kernel
theorem dX11_guilds_36 : decode cX11_guilds 36 = .ok (.getfield 156, 3) := by decide +kernel
theorem dX11_guilds_39 : decode cX11_guilds 39 = .ok (.if_icmp .ge 62, 3) := by decide +kernel
theorem dX11_guilds_42 : decode cX11_guilds 42 = .ok (.iconst 0, 1) := by decide +kernel
theorem dX11_guilds_43 : decode cX11_guilds 43 = .ok (.istore 5, 2) := by decide +kernel
theorem dX11_guilds_45 : decode cX11_guilds 45 = .ok (.iload 5, 2) := by decide +kernel
theorem dX11_guilds_47 : decode cX11_guilds 47 = .ok (.aload_n 0, 1) := by decide +kernel
theorem dX11_guilds_48 : decode cX11_guilds 48 = .ok (.getfield 156, 3) := by decide +kernel
theorem dX11_guilds_51 : decode cX11_guilds 51 = .ok (.if_icmp .ge 44, 3) := by decide +kernel
theorem dX11_guilds_54 : decode cX11_guilds 54 = .ok (.aload_n 0, 1) := by decide +kernel
theorem dX11_guilds_55 : decode cX11_guilds 55 = .ok (.iload 4, 2) := by decide +kernel
theorem dX11_guilds_57 : decode cX11_guilds 57 = .ok (.iload 5, 2) := by decide +kernel
theorem dX11_guilds_59 : decode cX11_guilds 59 = .ok (.invokevirtual 445, 3) := by decide +kernel
theorem dX11_guilds_62 : decode cX11_guilds 62 = .ok (.ifCond .ne 6, 3) := by decide +kernel
theorem dX11_guilds_65 : decode cX11_guilds 65 = .ok (.goto 24, 3) := by decide +kernel
theorem dX11_guilds_68 : decode cX11_guilds 68 = .ok (.iinc 2 1, 3) := by decide +kernel
theorem dX11_guilds_71 : decode cX11_guilds 71 = .ok (.iload_n 3, 1) := by decide +kernel
theorem dX11_guilds_72 : decode cX11_guilds 72 = .ok (.iconst (-1), 1) := by decide +kernel
theorem dX11_guilds_73 : decode cX11_guilds 73 = .ok (.if_icmp .ne 14, 3) := by decide +kernel
theorem dX11_guilds_76 : decode cX11_guilds 76 = .ok (.bipush 10, 2) := by decide +kernel
theorem dX11_guilds_78 : decode cX11_guilds 78 = .ok (.iload 4, 2) := by decide +kernel
theorem dX11_guilds_80 : decode cX11_guilds 80 = .ok (.imul, 1) := by decide +kernel
theorem dX11_guilds_81 : decode cX11_guilds 81 = .ok (.iload 5, 2) := by decide +kernel
theorem dX11_guilds_83 : decode cX11_guilds 83 = .ok (.iadd, 1) := by decide +kernel
theorem dX11_guilds_84 : decode cX11_guilds 84 = .ok (.goto 4, 3) := by decide +kernel
theorem dX11_guilds_87 : decode cX11_guilds 87 = .ok (.iload_n 3, 1) := by decide +kernel
theorem dX11_guilds_88 : decode cX11_guilds 88 = .ok (.istore_n 3, 1) := by decide +kernel
theorem dX11_guilds_89 : decode cX11_guilds 89 = .ok (.iinc 5 1, 3) := by decide +kernel
theorem dX11_guilds_92 : decode cX11_guilds 92 = .ok (.goto (-47), 3) := by decide +kernel
theorem dX11_guilds_95 : decode cX11_guilds 95 = .ok (.iinc 4 1, 3) := by decide +kernel
theorem dX11_guilds_98 : decode cX11_guilds 98 = .ok (.goto (-65), 3) := by decide +kernel
theorem dX11_guilds_101 : decode cX11_guilds 101 = .ok (.iload_n 1, 1) := by decide +kernel
theorem dX11_guilds_102 : decode cX11_guilds 102 = .ok (.ifCond .ne 7, 3) := by decide +kernel
theorem dX11_guilds_105 : decode cX11_guilds 105 = .ok (.iload_n 2, 1) := by decide +kernel
theorem dX11_guilds_106 : decode cX11_guilds 106 = .ok (.goto 46, 3) := by decide +kernel
theorem dX11_guilds_109 : decode cX11_guilds 109 = .ok (.iload_n 1, 1) := by decide +kernel
theorem dX11_guilds_110 : decode cX11_guilds 110 = .ok (.iconst 1, 1) := by decide +kernel
theorem dX11_guilds_111 : decode cX11_guilds 111 = .ok (.if_icmp .ne 7, 3) := by decide +kernel
theorem dX11_guilds_114 : decode cX11_guilds 114 = .ok (.iload_n 3, 1) := by decide +kernel
theorem dX11_guilds_115 : decode cX11_guilds 115 = .ok (.goto 37, 3) := by decide +kernel
theorem dX11_guilds_118 : decode cX11_guilds 118 = .ok (.iload_n 3, 1) := by decide +kernel
theorem dX11_guilds_119 : decode cX11_guilds 119 = .ok (.iconst (-1), 1) := by decide +kernel
theorem dX11_guilds_120 : decode cX11_guilds 120 = .ok (.if_icmp .ne 7, 3) := by decide +kernel
theorem dX11_guilds_123 : decode cX11_guilds 123 = .ok (.iconst 0, 1) := by decide +kernel
theorem dX11_guilds_124 : decode cX11_guilds 124 = .ok (.goto 28, 3) := by decide +kernel
theorem dX11_guilds_127 : decode cX11_guilds 127 = .ok (.aload_n 0, 1) := by decide +kernel
theorem dX11_guilds_128 : decode cX11_guilds 128 = .ok (.iload_n 3, 1) := by decide +kernel
theorem dX11_guilds_129 : decode cX11_guilds 129 = .ok (.bipush 10, 2) := by decide +kernel
theorem dX11_guilds_131 : decode cX11_guilds 131 = .ok (.idiv, 1) := by decide +kernel
theorem dX11_guilds_132 : decode cX11_guilds 132 = .ok (.iload_n 3, 1) := by decide +kernel
theorem dX11_guilds_133 : decode cX11_guilds 133 = .ok (.bipush 10, 2) := by decide +kernel
theorem dX11_guilds_135 : decode cX11_guilds 135 = .ok (.irem, 1) := by decide +kernel
theorem dX11_guilds_136 : decode cX11_guilds 136 = .ok (.invokevirtual 442, 3) := by decide +kernel
theorem dX11_guilds_139 : decode cX11_guilds 139 = .ok (.aload_n 0, 1) := by decide +kernel
theorem dX11_guilds_140 : decode cX11_guilds 140 = .ok (.iload_n 3, 1) := by decide +kernel
theorem dX11_guilds_141 : decode cX11_guilds 141 = .ok (.bipush 10, 2) := by decide +kernel
theorem dX11_guilds_143 : decode cX11_guilds 143 = .ok (.irem, 1) := by decide +kernel
theorem dX11_guilds_144 : decode cX11_guilds 144 = .ok (.iload_n 3, 1) := by decide +kernel
theorem dX11_guilds_145 : decode cX11_guilds 145 = .ok (.bipush 10, 2) := by decide +kernel
theorem dX11_guilds_147 : decode cX11_guilds 147 = .ok (.idiv, 1) := by decide +kernel
theorem dX11_guilds_148 : decode cX11_guilds 148 = .ok (.invokevirtual 442, 3) := by decide +kernel
theorem dX11_guilds_151 : decode cX11_guilds 151 = .ok (.iadd, 1) := by decide +kernel
theorem dX11_guilds_152 : decode cX11_guilds 152 = .ok (.ireturn, 1) := by decide +kernel
theorem dX11_follows_0 : decode cX11_follows 0 = .ok (.aload_n 0, 1) := by decide +kernel
theorem dX11_follows_1 : decode cX11_follows 1 = .ok (.iconst 0, 1) := by decide +kernel
theorem dX11_follows_2 : decode cX11_follows 2 = .ok (.putfield 3, 3) := by decide +kernel
theorem dX11_follows_5 : decode cX11_follows 5 = .ok (.aload_n 0, 1) := by decide +kernel
theorem dX11_follows_6 : decode cX11_follows 6 = .ok (.iload_n 1, 1) := by decide +kernel
theorem dX11_follows_7 : decode cX11_follows 7 = .ok (.iconst 0, 1) := by decide +kernel
theorem dX11_follows_8 : decode cX11_follows 8 = .ok (.aload_n 0, 1) := by decide +kernel
theorem dX11_follows_9 : decode cX11_follows 9 = .ok (.getfield 156, 3) := by decide +kernel
theorem dX11_follows_12 : decode cX11_follows 12 = .ok (.iconst 1, 1) := by decide +kernel
theorem dX11_follows_13 : decode cX11_follows 13 = .ok (.isub, 1) := by decide +kernel
theorem dX11_follows_14 : decode cX11_follows 14 = .ok (.invokestatic 376, 3) := by decide +kernel
theorem dX11_follows_17 : decode cX11_follows 17 = .ok (.ifCond .eq 21, 3) := by decide +kernel
theorem dX11_follows_20 : decode cX11_follows 20 = .ok (.iload_n 2, 1) := by decide +kernel
theorem dX11_follows_21 : decode cX11_follows 21 = .ok (.iconst 0, 1) := by decide +kernel
theorem dX11_follows_22 : decode cX11_follows 22 = .ok (.aload_n 0, 1) := by decide +kernel
theorem dX11_follows_23 : decode cX11_follows 23 = .ok (.getfield 156, 3) := by decide +kernel
theorem dX11_follows_26 : decode cX11_follows 26 = .ok (.iconst 1, 1) := by decide +kernel
theorem dX11_follows_27 : decode cX11_follows 27 = .ok (.isub, 1) := by decide +kernel
theorem dX11_follows_28 : decode cX11_follows 28 = .ok (.invokestatic 376, 3) := by decide +kernel
theorem dX11_follows_31 : decode cX11_follows 31 = .ok (.ifCond .eq 7, 3) := by decide +kernel
theorem dX11_follows_34 : decode cX11_follows 34 = .ok (.iconst 1, 1) := by decide +kernel
theorem dX11_follows_35 : decode cX11_follows 35 = .ok (.goto 4, 3) := by decide +kernel
theorem dX11_follows_38 : decode cX11_follows 38 = .ok (.iconst 0, 1) := by decide +kernel
theorem dX11_follows_39 : decode cX11_follows 39 = .ok (.iconst 1, 1) := by decide +kernel
theorem dX11_follows_40 : decode cX11_follows 40 = .ok (.iconst 0, 1) := by decide +kernel
theorem dX11_follows_41 : decode cX11_follows 41 = .ok (.invokevirtual 198, 3) := by decide +kernel
theorem dX11_follows_44 : decode cX11_follows 44 = .ok (.ifCond .ne 5, 3) := by decide +kernel
theorem dX11_follows_47 : decode cX11_follows 47 = .ok (.iconst 0, 1) := by decide +kernel
theorem dX11_follows_48 : decode cX11_follows 48 = .ok (.ireturn, 1) := by decide +kernel
theorem dX11_follows_49 : decode cX11_follows 49 = .ok (.aload_n 0, 1) := by decide +kernel
theorem dX11_follows_50 : decode cX11_follows 50 = .ok (.invokevirtual 308, 3) := by decide +kernel
theorem dX11_follows_53 : decode cX11_follows 53 = .ok (.aload_n 0, 1) := by decide +kernel
theorem dX11_follows_54 : decode cX11_follows 54 = .ok (.iload_n 1, 1) := by decide +kernel
theorem dX11_follows_55 : decode cX11_follows 55 = .ok (.iload_n 2, 1) := by decide +kernel
theorem dX11_follows_56 : decode cX11_follows 56 = .ok (.invokevirtual 442, 3) := by decide +kernel
theorem dX11_follows_59 : decode cX11_follows 59 = .ok (.ireturn, 1) := by decide +kernel
theorem dX11_ahead_0 : decode cX11_ahead 0 = .ok (.aload_n 0, 1) := by decide +kernel
theorem dX11_ahead_1 : decode cX11_ahead 1 = .ok (.iconst 0, 1) := by decide +kernel
theorem dX11_ahead_2 : decode cX11_ahead 2 = .ok (.putfield 3, 3) := by decide +kernel
theorem dX11_ahead_5 : decode cX11_ahead 5 = .ok (.aload_n 0, 1) := by decide +kernel
theorem dX11_ahead_6 : decode cX11_ahead 6 = .ok (.iload_n 1, 1) := by decide +kernel
theorem dX11_ahead_7 : decode cX11_ahead 7 = .ok (.iconst 0, 1) := by decide +kernel
theorem dX11_ahead_8 : decode cX11_ahead 8 = .ok (.bipush 100, 2) := by decide +kernel
theorem dX11_ahead_10 : decode cX11_ahead 10 = .ok (.invokestatic 376, 3) := by decide +kernel
theorem dX11_ahead_13 : decode cX11_ahead 13 = .ok (.ifCond .eq 16, 3) := by decide +kernel
theorem dX11_ahead_16 : decode cX11_ahead 16 = .ok (.iload_n 2, 1) := by decide +kernel
theorem dX11_ahead_17 : decode cX11_ahead 17 = .ok (.iconst 0, 1) := by decide +kernel
theorem dX11_ahead_18 : decode cX11_ahead 18 = .ok (.iconst 2, 1) := by decide +kernel
theorem dX11_ahead_19 : decode cX11_ahead 19 = .ok (.invokestatic 376, 3) := by decide +kernel
theorem dX11_ahead_22 : decode cX11_ahead 22 = .ok (.ifCond .eq 7, 3) := by decide +kernel
theorem dX11_ahead_25 : decode cX11_ahead 25 = .ok (.iconst 1, 1) := by decide +kernel
theorem dX11_ahead_26 : decode cX11_ahead 26 = .ok (.goto 4, 3) := by decide +kernel
theorem dX11_ahead_29 : decode cX11_ahead 29 = .ok (.iconst 0, 1) := by decide +kernel
theorem dX11_ahead_30 : decode cX11_ahead 30 = .ok (.iconst 1, 1) := by decide +kernel
theorem dX11_ahead_31 : decode cX11_ahead 31 = .ok (.iconst 1, 1) := by decide +kernel
theorem dX11_ahead_32 : decode cX11_ahead 32 = .ok (.invokevirtual 198, 3) := by decide +kernel
theorem dX11_ahead_35 : decode cX11_ahead 35 = .ok (.ifCond .ne 5, 3) := by decide +kernel
theorem dX11_ahead_38 : decode cX11_ahead 38 = .ok (.iconst 0, 1) := by decide +kernel
theorem dX11_ahead_39 : decode cX11_ahead 39 = .ok (.ireturn, 1) := by decide +kernel
theorem dX11_ahead_40 : decode cX11_ahead 40 = .ok (.aload_n 0, 1) := by decide +kernel
theorem dX11_ahead_41 : decode cX11_ahead 41 = .ok (.invokevirtual 308, 3) := by decide +kernel
theorem dX11_ahead_44 : decode cX11_ahead 44 = .ok (.iconst 0, 1) := by decide +kernel
theorem dX11_ahead_45 : decode cX11_ahead 45 = .ok (.istore_n 3, 1) := by decide +kernel
theorem dX11_ahead_46 : decode cX11_ahead 46 = .ok (.iload_n 3, 1) := by decide +kernel
theorem dX11_ahead_47 : decode cX11_ahead 47 = .ok (.iload_n 1, 1) := by decide +kernel
theorem dX11_ahead_48 : decode cX11_ahead 48 = .ok (.if_icmp .ge 13, 3) := by decide +kernel
theorem dX11_ahead_51 : decode cX11_ahead 51 = .ok (.aload_n 0, 1) := by decide +kernel
theorem dX11_ahead_52 : decode cX11_ahead 52 = .ok (.invokevirtual 373, 3) := by decide +kernel
theorem dX11_ahead_55 : decode cX11_ahead 55 = .ok (.iinc 3 1, 3) := by decide +kernel
theorem dX11_ahead_58 : decode cX11_ahead 58 = .ok (.goto (-12), 3) := by decide +kernel
theorem dX11_ahead_61 : decode cX11_ahead 61 = .ok (.iload_n 2, 1) := by decide +kernel
theorem dX11_ahead_62 : decode cX11_ahead 62 = .ok (.ifCond .ne 8, 3) := by decide +kernel
theorem dX11_ahead_65 : decode cX11_ahead 65 = .ok (.aload_n 0, 1) := by decide +kernel
theorem dX11_ahead_66 : decode cX11_ahead 66 = .ok (.invokevirtual 379, 3) := by decide +kernel
theorem dX11_ahead_69 : decode cX11_ahead 69 = .ok (.ireturn, 1) := by decide +kernel
theorem dX11_ahead_70 : decode cX11_ahead 70 = .ok (.iload_n 2, 1) := by decide +kernel
theorem dX11_ahead_71 : decode cX11_ahead 71 = .ok (.iconst 2, 1) := by decide +kernel
theorem dX11_ahead_72 : decode cX11_ahead 72 = .ok (.if_icmp .ne 8, 3) := by decide +kernel
theorem dX11_ahead_75 : decode cX11_ahead 75 = .ok (.aload_n 0, 1) := by decide +kernel
theorem dX11_ahead_76 : decode cX11_ahead 76 = .ok (.invokevirtual 385, 3) := by decide +kernel
theorem dX11_ahead_79 : decode cX11_ahead 79 = .ok (.ireturn, 1) := by decide +kernel
theorem dX11_ahead_80 : decode cX11_ahead 80 = .ok (.iconst 0, 1) := by decide +kernel
theorem dX11_ahead_81 : decode cX11_ahead 81 = .ok (.istore_n 3, 1) := by decide +kernel
theorem dX11_ahead_82 : decode cX11_ahead 82 = .ok (.iconst 0, 1) := by decide +kernel
theorem dX11_ahead_83 : decode cX11_ahead 83 = .ok (.istore 4, 2) := by decide +kernel
theorem dX11_ahead_85 : decode cX11_ahead 85 = .ok (.iload 4, 2) := by decide +kernel
theorem dX11_ahead_87 : decode cX11_ahead 87 = .ok (.iconst 3, 1) := by decide +kernel
theorem dX11_ahead_88 : decode cX11_ahead 88 = .ok (.aload_n 0, 1) := by decide +kernel
theorem dX11_ahead_89 : decode cX11_ahead 89 = .ok (.getfield 159, 3) := by decide +kernel
theorem dX11_ahead_92 : decode cX11_ahead 92 = .ok (.imul, 1) := by decide +kernel
theorem dX11_ahead_93 : decode cX11_ahead 93 = .ok (.if_icmp .ge 21, 3) := by decide +kernel
theorem dX11_ahead_96 : decode cX11_ahead 96 = .ok (.iload_n 3, 1) := by decide +kernel
theorem dX11_ahead_97 : decode cX11_ahead 97 = .ok (.aload_n 0, 1) := by decide +kernel
theorem dX11_ahead_98 : decode cX11_ahead 98 = .ok (.getfield 68, 3) := by decide +kernel
theorem dX11_ahead_101 : decode cX11_ahead 101 = .ok (.iconst 0, 1) := by decide +kernel
theorem dX11_ahead_102 : decode cX11_ahead 102 = .ok (.iload 4, 2) := by decide +kernel
theorem dX11_ahead_104 : decode cX11_ahead 104 = .ok (.iadd, 1) := by decide +kernel
theorem dX11_ahead_105 : decode cX11_ahead 105 = .ok (.iaload, 1) := by decide +kernel
theorem dX11_ahead_106 : decode cX11_ahead 106 = .ok (.iadd, 1) := by decide +kernel
theorem dX11_ahead_107 : decode cX11_ahead 107 = .ok (.istore_n 3, 1) := by decide +kernel
theorem dX11_ahead_108 : decode cX11_ahead 108 = .ok (.iinc 4 1, 3) := by decide +kernel
theorem dX11_ahead_111 : decode cX11_ahead 111 = .ok (.goto (-26), 3) := by decide +kernel
theorem dX11_ahead_114 : decode cX11_ahead 114 = .ok (.iload_n 3, 1) := by decide +kernel
theorem dX11_ahead_115 : decode cX11_ahead 115 = .ok (.ireturn, 1) := by decide +kernel
theorem dX11_draws_0 : decode cX11_draws 0 = .ok (.aload_n 0, 1) := by decide +kernel
theorem dX11_draws_1 : decode cX11_draws 1 = .ok (.aload_n 0, 1) := by decide +kernel
theorem dX11_draws_2 : decode cX11_draws 2 = .ok (.getfield 448, 3) := by decide +kernel
theorem dX11_draws_5 : decode cX11_draws 5 = .ok (.ldc_w 451, 3) := by decide +kernel
theorem dX11_draws_8 : decode cX11_draws 8 = .ok (.imul, 1) := by decide +kernel
theorem dX11_draws_9 : decode cX11_draws 9 = .ok (.sipush 12345, 3) := by decide +kernel
theorem dX11_draws_12 : decode cX11_draws 12 = .ok (.iadd, 1) := by decide +kernel
theorem dX11_draws_13 : decode cX11_draws 13 = .ok (.putfield 448, 3) := by decide +kernel
theorem dX11_draws_16 : decode cX11_draws 16 = .ok (.aload_n 0, 1) := by decide +kernel
theorem dX11_draws_17 : decode cX11_draws 17 = .ok (.getfield 448, 3) := by decide +kernel
theorem dX11_draws_20 : decode cX11_draws 20 = .ok (.bipush 16, 2) := by decide +kernel
theorem dX11_draws_22 : decode cX11_draws 22 = .ok (.ishr, 1) := by decide +kernel
theorem dX11_draws_23 : decode cX11_draws 23 = .ok (.sipush 32767, 3) := by decide +kernel
theorem dX11_draws_26 : decode cX11_draws 26 = .ok (.iand, 1) := by decide +kernel
theorem dX11_draws_27 : decode cX11_draws 27 = .ok (.iload_n 1, 1) := by decide +kernel
theorem dX11_draws_28 : decode cX11_draws 28 = .ok (.irem, 1) := by decide +kernel
theorem dX11_draws_29 : decode cX11_draws 29 = .ok (.ireturn, 1) := by decide +kernel
theorem dX11_agesGo_0 : decode cX11_agesGo 0 = .ok (.aload_n 0, 1) := by decide +kernel
theorem dX11_agesGo_1 : decode cX11_agesGo 1 = .ok (.invokevirtual 308, 3) := by decide +kernel
theorem dX11_agesGo_4 : decode cX11_agesGo 4 = .ok (.aload_n 0, 1) := by decide +kernel
theorem dX11_agesGo_5 : decode cX11_agesGo 5 = .ok (.iload_n 1, 1) := by decide +kernel
theorem dX11_agesGo_6 : decode cX11_agesGo 6 = .ok (.putfield 448, 3) := by decide +kernel
theorem dX11_agesGo_9 : decode cX11_agesGo 9 = .ok (.aload_n 0, 1) := by decide +kernel
theorem dX11_agesGo_10 : decode cX11_agesGo 10 = .ok (.iconst 0, 1) := by decide +kernel
theorem dX11_agesGo_11 : decode cX11_agesGo 11 = .ok (.putfield 452, 3) := by decide +kernel
theorem dX11_agesGo_14 : decode cX11_agesGo 14 = .ok (.aload_n 0, 1) := by decide +kernel
theorem dX11_agesGo_15 : decode cX11_agesGo 15 = .ok (.iconst 0, 1) := by decide +kernel
theorem dX11_agesGo_16 : decode cX11_agesGo 16 = .ok (.putfield 455, 3) := by decide +kernel
theorem dX11_agesGo_19 : decode cX11_agesGo 19 = .ok (.iconst 0, 1) := by decide +kernel
theorem dX11_agesGo_20 : decode cX11_agesGo 20 = .ok (.istore 4, 2) := by decide +kernel
theorem dX11_agesGo_22 : decode cX11_agesGo 22 = .ok (.iload 4, 2) := by decide +kernel
theorem dX11_agesGo_24 : decode cX11_agesGo 24 = .ok (.iload_n 3, 1) := by decide +kernel
theorem dX11_agesGo_25 : decode cX11_agesGo 25 = .ok (.if_icmp .ge 99, 3) := by decide +kernel
theorem dX11_agesGo_28 : decode cX11_agesGo 28 = .ok (.aload_n 0, 1) := by decide +kernel
theorem dX11_agesGo_29 : decode cX11_agesGo 29 = .ok (.bipush 16, 2) := by decide +kernel
theorem dX11_agesGo_31 : decode cX11_agesGo 31 = .ok (.invokevirtual 458, 3) := by decide +kernel
theorem dX11_agesGo_34 : decode cX11_agesGo 34 = .ok (.iload_n 2, 1) := by decide +kernel
theorem dX11_agesGo_35 : decode cX11_agesGo 35 = .ok (.if_icmp .ge 24, 3) := by decide +kernel
theorem dX11_agesGo_38 : decode cX11_agesGo 38 = .ok (.aload_n 0, 1) := by decide +kernel
theorem dX11_agesGo_39 : decode cX11_agesGo 39 = .ok (.dup, 1) := by decide +kernel
theorem dX11_agesGo_40 : decode cX11_agesGo 40 = .ok (.getfield 455, 3) := by decide +kernel
theorem dX11_agesGo_43 : decode cX11_agesGo 43 = .ok (.aload_n 0, 1) := by decide +kernel
theorem dX11_agesGo_44 : decode cX11_agesGo 44 = .ok (.invokevirtual 367, 3) := by decide +kernel
theorem dX11_agesGo_47 : decode cX11_agesGo 47 = .ok (.ifCond .eq 7, 3) := by decide +kernel
theorem dX11_agesGo_50 : decode cX11_agesGo 50 = .ok (.iconst 1, 1) := by decide +kernel
theorem dX11_agesGo_51 : decode cX11_agesGo 51 = .ok (.goto 4, 3) := by decide +kernel
theorem dX11_agesGo_54 : decode cX11_agesGo 54 = .ok (.iconst 0, 1) := by decide +kernel
theorem dX11_agesGo_55 : decode cX11_agesGo 55 = .ok (.iadd, 1) := by decide +kernel
theorem dX11_agesGo_56 : decode cX11_agesGo 56 = .ok (.putfield 455, 3) := by decide +kernel
theorem dX11_agesGo_59 : decode cX11_agesGo 59 = .ok (.aload_n 0, 1) := by decide +kernel
theorem dX11_agesGo_60 : decode cX11_agesGo 60 = .ok (.getfield 159, 3) := by decide +kernel
theorem dX11_agesGo_63 : decode cX11_agesGo 63 = .ok (.ifCond .le 51, 3) := by decide +kernel
theorem dX11_agesGo_66 : decode cX11_agesGo 66 = .ok (.aload_n 0, 1) := by decide +kernel
theorem dX11_agesGo_67 : decode cX11_agesGo 67 = .ok (.getfield 156, 3) := by decide +kernel
theorem dX11_agesGo_70 : decode cX11_agesGo 70 = .ok (.ifCond .le 44, 3) := by decide +kernel
theorem dX11_agesGo_73 : decode cX11_agesGo 73 = .ok (.aload_n 0, 1) := by decide +kernel
theorem dX11_agesGo_74 : decode cX11_agesGo 74 = .ok (.aload_n 0, 1) := by decide +kernel
theorem dX11_agesGo_75 : decode cX11_agesGo 75 = .ok (.getfield 159, 3) := by decide +kernel
theorem dX11_agesGo_78 : decode cX11_agesGo 78 = .ok (.invokevirtual 458, 3) := by decide +kernel
theorem dX11_agesGo_81 : decode cX11_agesGo 81 = .ok (.istore 5, 2) := by decide +kernel
theorem dX11_agesGo_83 : decode cX11_agesGo 83 = .ok (.aload_n 0, 1) := by decide +kernel
theorem dX11_agesGo_84 : decode cX11_agesGo 84 = .ok (.dup, 1) := by decide +kernel
theorem dX11_agesGo_85 : decode cX11_agesGo 85 = .ok (.getfield 452, 3) := by decide +kernel
theorem dX11_agesGo_88 : decode cX11_agesGo 88 = .ok (.aload_n 0, 1) := by decide +kernel
theorem dX11_agesGo_89 : decode cX11_agesGo 89 = .ok (.iload 5, 2) := by decide +kernel
theorem dX11_agesGo_91 : decode cX11_agesGo 91 = .ok (.aload_n 0, 1) := by decide +kernel
theorem dX11_agesGo_92 : decode cX11_agesGo 92 = .ok (.aload_n 0, 1) := by decide +kernel
theorem dX11_agesGo_93 : decode cX11_agesGo 93 = .ok (.getfield 156, 3) := by decide +kernel
theorem dX11_agesGo_96 : decode cX11_agesGo 96 = .ok (.invokevirtual 458, 3) := by decide +kernel
theorem dX11_agesGo_99 : decode cX11_agesGo 99 = .ok (.invokevirtual 361, 3) := by decide +kernel
theorem dX11_agesGo_102 : decode cX11_agesGo 102 = .ok (.ifCond .eq 7, 3) := by decide +kernel
theorem dX11_agesGo_105 : decode cX11_agesGo 105 = .ok (.iconst 1, 1) := by decide +kernel
theorem dX11_agesGo_106 : decode cX11_agesGo 106 = .ok (.goto 4, 3) := by decide +kernel
theorem dX11_agesGo_109 : decode cX11_agesGo 109 = .ok (.iconst 0, 1) := by decide +kernel
theorem dX11_agesGo_110 : decode cX11_agesGo 110 = .ok (.iadd, 1) := by decide +kernel
theorem dX11_agesGo_111 : decode cX11_agesGo 111 = .ok (.putfield 452, 3) := by decide +kernel
theorem dX11_agesGo_114 : decode cX11_agesGo 114 = .ok (.aload_n 0, 1) := by decide +kernel
theorem dX11_agesGo_115 : decode cX11_agesGo 115 = .ok (.invokevirtual 373, 3) := by decide +kernel
theorem dX11_agesGo_118 : decode cX11_agesGo 118 = .ok (.iinc 4 1, 3) := by decide +kernel
theorem dX11_agesGo_121 : decode cX11_agesGo 121 = .ok (.goto (-99), 3) := by decide +kernel
theorem dX11_agesGo_124 : decode cX11_agesGo 124 = .ok (.return_, 1) := by decide +kernel
theorem dX11_areAges_0 : decode cX11_areAges 0 = .ok (.iload_n 0, 1) := by decide +kernel
theorem dX11_areAges_1 : decode cX11_areAges 1 = .ok (.ifCond .lt 24, 3) := by decide +kernel
theorem dX11_areAges_4 : decode cX11_areAges 4 = .ok (.iload_n 0, 1) := by decide +kernel
theorem dX11_areAges_5 : decode cX11_areAges 5 = .ok (.bipush 16, 2) := by decide +kernel
theorem dX11_areAges_7 : decode cX11_areAges 7 = .ok (.if_icmp .gt 18, 3) := by decide +kernel
theorem dX11_areAges_10 : decode cX11_areAges 10 = .ok (.iload_n 1, 1) := by decide +kernel
theorem dX11_areAges_11 : decode cX11_areAges 11 = .ok (.iconst 1, 1) := by decide +kernel
theorem dX11_areAges_12 : decode cX11_areAges 12 = .ok (.if_icmp .lt 13, 3) := by decide +kernel
theorem dX11_areAges_15 : decode cX11_areAges 15 = .ok (.iload_n 1, 1) := by decide +kernel
theorem dX11_areAges_16 : decode cX11_areAges 16 = .ok (.bipush 96, 2) := by decide +kernel
theorem dX11_areAges_18 : decode cX11_areAges 18 = .ok (.if_icmp .gt 7, 3) := by decide +kernel
theorem dX11_areAges_21 : decode cX11_areAges 21 = .ok (.iconst 1, 1) := by decide +kernel
theorem dX11_areAges_22 : decode cX11_areAges 22 = .ok (.goto 4, 3) := by decide +kernel
theorem dX11_areAges_25 : decode cX11_areAges 25 = .ok (.iconst 0, 1) := by decide +kernel
theorem dX11_areAges_26 : decode cX11_areAges 26 = .ok (.ireturn, 1) := by decide +kernel
theorem dX11_ages_0 : decode cX11_ages 0 = .ok (.aload_n 0, 1) := by decide +kernel
theorem dX11_ages_1 : decode cX11_ages 1 = .ok (.iconst 0, 1) := by decide +kernel
theorem dX11_ages_2 : decode cX11_ages 2 = .ok (.putfield 3, 3) := by decide +kernel
theorem dX11_ages_5 : decode cX11_ages 5 = .ok (.aload_n 0, 1) := by decide +kernel
theorem dX11_ages_6 : decode cX11_ages 6 = .ok (.iload_n 2, 1) := by decide +kernel
theorem dX11_ages_7 : decode cX11_ages 7 = .ok (.iload_n 3, 1) := by decide +kernel
theorem dX11_ages_8 : decode cX11_ages 8 = .ok (.invokestatic 461, 3) := by decide +kernel
theorem dX11_ages_11 : decode cX11_ages 11 = .ok (.ifCond .eq 17, 3) := by decide +kernel
theorem dX11_ages_14 : decode cX11_ages 14 = .ok (.iload 4, 2) := by decide +kernel
theorem dX11_ages_16 : decode cX11_ages 16 = .ok (.iconst 0, 1) := by decide +kernel
theorem dX11_ages_17 : decode cX11_ages 17 = .ok (.iconst 3, 1) := by decide +kernel
theorem dX11_ages_18 : decode cX11_ages 18 = .ok (.invokestatic 376, 3) := by decide +kernel
theorem dX11_ages_21 : decode cX11_ages 21 = .ok (.ifCond .eq 7, 3) := by decide +kernel
theorem dX11_ages_24 : decode cX11_ages 24 = .ok (.iconst 1, 1) := by decide +kernel
theorem dX11_ages_25 : decode cX11_ages 25 = .ok (.goto 4, 3) := by decide +kernel
theorem dX11_ages_28 : decode cX11_ages 28 = .ok (.iconst 0, 1) := by decide +kernel
theorem dX11_ages_29 : decode cX11_ages 29 = .ok (.iconst 1, 1) := by decide +kernel
theorem dX11_ages_30 : decode cX11_ages 30 = .ok (.iconst 1, 1) := by decide +kernel
theorem dX11_ages_31 : decode cX11_ages 31 = .ok (.invokevirtual 198, 3) := by decide +kernel
theorem dX11_ages_34 : decode cX11_ages 34 = .ok (.ifCond .ne 5, 3) := by decide +kernel
theorem dX11_ages_37 : decode cX11_ages 37 = .ok (.iconst 0, 1) := by decide +kernel
theorem dX11_ages_38 : decode cX11_ages 38 = .ok (.ireturn, 1) := by decide +kernel
theorem dX11_ages_39 : decode cX11_ages 39 = .ok (.aload_n 0, 1) := by decide +kernel
theorem dX11_ages_40 : decode cX11_ages 40 = .ok (.iload_n 1, 1) := by decide +kernel
theorem dX11_ages_41 : decode cX11_ages 41 = .ok (.iload_n 2, 1) := by decide +kernel
theorem dX11_ages_42 : decode cX11_ages 42 = .ok (.iload_n 3, 1) := by decide +kernel
theorem dX11_ages_43 : decode cX11_ages 43 = .ok (.invokevirtual 464, 3) := by decide +kernel
theorem dX11_ages_46 : decode cX11_ages 46 = .ok (.iload 4, 2) := by decide +kernel
theorem dX11_ages_48 : decode cX11_ages 48 = .ok (.ifCond .ne 10, 3) := by decide +kernel
theorem dX11_ages_51 : decode cX11_ages 51 = .ok (.aload_n 0, 1) := by decide +kernel
theorem dX11_ages_52 : decode cX11_ages 52 = .ok (.invokevirtual 379, 3) := by decide +kernel
theorem dX11_ages_55 : decode cX11_ages 55 = .ok (.goto 33, 3) := by decide +kernel
theorem dX11_ages_58 : decode cX11_ages 58 = .ok (.iload 4, 2) := by decide +kernel
theorem dX11_ages_60 : decode cX11_ages 60 = .ok (.iconst 1, 1) := by decide +kernel
theorem dX11_ages_61 : decode cX11_ages 61 = .ok (.if_icmp .ne 10, 3) := by decide +kernel
theorem dX11_ages_64 : decode cX11_ages 64 = .ok (.aload_n 0, 1) := by decide +kernel
theorem dX11_ages_65 : decode cX11_ages 65 = .ok (.getfield 452, 3) := by decide +kernel
theorem dX11_ages_68 : decode cX11_ages 68 = .ok (.goto 20, 3) := by decide +kernel
theorem dX11_ages_71 : decode cX11_ages 71 = .ok (.iload 4, 2) := by decide +kernel
theorem dX11_ages_73 : decode cX11_ages 73 = .ok (.iconst 2, 1) := by decide +kernel
theorem dX11_ages_74 : decode cX11_ages 74 = .ok (.if_icmp .ne 10, 3) := by decide +kernel
theorem dX11_ages_77 : decode cX11_ages 77 = .ok (.aload_n 0, 1) := by decide +kernel
theorem dX11_ages_78 : decode cX11_ages 78 = .ok (.getfield 455, 3) := by decide +kernel
theorem dX11_ages_81 : decode cX11_ages 81 = .ok (.goto 7, 3) := by decide +kernel
theorem dX11_ages_84 : decode cX11_ages 84 = .ok (.aload_n 0, 1) := by decide +kernel
theorem dX11_ages_85 : decode cX11_ages 85 = .ok (.invokevirtual 385, 3) := by decide +kernel
theorem dX11_ages_88 : decode cX11_ages 88 = .ok (.ireturn, 1) := by decide +kernel
theorem dX11_span_0 : decode cX11_span 0 = .ok (.aload_n 0, 1) := by decide +kernel
theorem dX11_span_1 : decode cX11_span 1 = .ok (.iconst 0, 1) := by decide +kernel
theorem dX11_span_2 : decode cX11_span 2 = .ok (.putfield 3, 3) := by decide +kernel
theorem dX11_span_5 : decode cX11_span 5 = .ok (.aload_n 0, 1) := by decide +kernel
theorem dX11_span_6 : decode cX11_span 6 = .ok (.iload_n 2, 1) := by decide +kernel
theorem dX11_span_7 : decode cX11_span 7 = .ok (.iconst 1, 1) := by decide +kernel
theorem dX11_span_8 : decode cX11_span 8 = .ok (.bipush 20, 2) := by decide +kernel
theorem dX11_span_10 : decode cX11_span 10 = .ok (.invokestatic 376, 3) := by decide +kernel
theorem dX11_span_13 : decode cX11_span 13 = .ok (.ifCond .eq 26, 3) := by decide +kernel
theorem dX11_span_16 : decode cX11_span 16 = .ok (.iload_n 3, 1) := by decide +kernel
theorem dX11_span_17 : decode cX11_span 17 = .ok (.iload 4, 2) := by decide +kernel
theorem dX11_span_19 : decode cX11_span 19 = .ok (.invokestatic 461, 3) := by decide +kernel
theorem dX11_span_22 : decode cX11_span 22 = .ok (.ifCond .eq 17, 3) := by decide +kernel
theorem dX11_span_25 : decode cX11_span 25 = .ok (.iload 5, 2) := by decide +kernel
theorem dX11_span_27 : decode cX11_span 27 = .ok (.iconst 0, 1) := by decide +kernel
theorem dX11_span_28 : decode cX11_span 28 = .ok (.iconst 2, 1) := by decide +kernel
theorem dX11_span_29 : decode cX11_span 29 = .ok (.invokestatic 376, 3) := by decide +kernel
theorem dX11_span_32 : decode cX11_span 32 = .ok (.ifCond .eq 7, 3) := by decide +kernel
theorem dX11_span_35 : decode cX11_span 35 = .ok (.iconst 1, 1) := by decide +kernel
theorem dX11_span_36 : decode cX11_span 36 = .ok (.goto 4, 3) := by decide +kernel
theorem dX11_span_39 : decode cX11_span 39 = .ok (.iconst 0, 1) := by decide +kernel
theorem dX11_span_40 : decode cX11_span 40 = .ok (.iconst 1, 1) := by decide +kernel
theorem dX11_span_41 : decode cX11_span 41 = .ok (.iconst 1, 1) := by decide +kernel
theorem dX11_span_42 : decode cX11_span 42 = .ok (.invokevirtual 198, 3) := by decide +kernel
theorem dX11_span_45 : decode cX11_span 45 = .ok (.ifCond .ne 5, 3) := by decide +kernel
theorem dX11_span_48 : decode cX11_span 48 = .ok (.iconst 0, 1) := by decide +kernel
theorem dX11_span_49 : decode cX11_span 49 = .ok (.ireturn, 1) := by decide +kernel
theorem dX11_span_50 : decode cX11_span 50 = .ok (.iconst (-1), 1) := by decide +kernel
theorem dX11_span_51 : decode cX11_span 51 = .ok (.istore 6, 2) := by decide +kernel
theorem dX11_span_53 : decode cX11_span 53 = .ok (.iconst 0, 1) := by decide +kernel
theorem dX11_span_54 : decode cX11_span 54 = .ok (.istore 7, 2) := by decide +kernel
theorem dX11_span_56 : decode cX11_span 56 = .ok (.iconst 0, 1) := by decide +kernel
theorem dX11_span_57 : decode cX11_span 57 = .ok (.istore 8, 2) := by decide +kernel
theorem dX11_span_59 : decode cX11_span 59 = .ok (.iconst 0, 1) := by decide +kernel
theorem dX11_span_60 : decode cX11_span 60 = .ok (.istore 9, 2) := by decide +kernel
theorem dX11_span_62 : decode cX11_span 62 = .ok (.iload 9, 2) := by decide +kernel
theorem dX11_span_64 : decode cX11_span 64 = .ok (.iload_n 2, 1) := by decide +kernel
theorem dX11_span_65 : decode cX11_span 65 = .ok (.if_icmp .ge 81, 3) := by decide +kernel
theorem dX11_span_68 : decode cX11_span 68 = .ok (.aload_n 0, 1) := by decide +kernel
theorem dX11_span_69 : decode cX11_span 69 = .ok (.iload_n 1, 1) := by decide +kernel
theorem dX11_span_70 : decode cX11_span 70 = .ok (.iload 9, 2) := by decide +kernel
theorem dX11_span_72 : decode cX11_span 72 = .ok (.iadd, 1) := by decide +kernel
theorem dX11_span_73 : decode cX11_span 73 = .ok (.iload_n 3, 1) := by decide +kernel
theorem dX11_span_74 : decode cX11_span 74 = .ok (.iload 4, 2) := by decide +kernel
theorem dX11_span_76 : decode cX11_span 76 = .ok (.invokevirtual 464, 3) := by decide +kernel
theorem dX11_span_79 : decode cX11_span 79 = .ok (.aload_n 0, 1) := by decide +kernel
theorem dX11_span_80 : decode cX11_span 80 = .ok (.invokevirtual 385, 3) := by decide +kernel
theorem dX11_span_83 : decode cX11_span 83 = .ok (.istore 10, 2) := by decide +kernel
theorem dX11_span_85 : decode cX11_span 85 = .ok (.iload 6, 2) := by decide +kernel
theorem dX11_span_87 : decode cX11_span 87 = .ok (.iconst (-1), 1) := by decide +kernel
theorem dX11_span_88 : decode cX11_span 88 = .ok (.if_icmp .eq 10, 3) := by decide +kernel
theorem dX11_span_91 : decode cX11_span 91 = .ok (.iload 10, 2) := by decide +kernel
theorem dX11_span_93 : decode cX11_span 93 = .ok (.iload 6, 2) := by decide +kernel
theorem dX11_span_95 : decode cX11_span 95 = .ok (.if_icmp .ge 8, 3) := by decide +kernel
theorem dX11_span_98 : decode cX11_span 98 = .ok (.iload 10, 2) := by decide +kernel
theorem dX11_span_100 : decode cX11_span 100 = .ok (.goto 5, 3) := by decide +kernel
theorem dX11_span_103 : decode cX11_span 103 = .ok (.iload 6, 2) := by decide +kernel
theorem dX11_span_105 : decode cX11_span 105 = .ok (.istore 6, 2) := by decide +kernel
theorem dX11_span_107 : decode cX11_span 107 = .ok (.iload 10, 2) := by decide +kernel
theorem dX11_span_109 : decode cX11_span 109 = .ok (.iload 7, 2) := by decide +kernel
theorem dX11_span_111 : decode cX11_span 111 = .ok (.if_icmp .le 8, 3) := by decide +kernel
theorem dX11_span_114 : decode cX11_span 114 = .ok (.iload 10, 2) := by decide +kernel
theorem dX11_span_116 : decode cX11_span 116 = .ok (.goto 5, 3) := by decide +kernel
theorem dX11_span_119 : decode cX11_span 119 = .ok (.iload 7, 2) := by decide +kernel
theorem dX11_span_121 : decode cX11_span 121 = .ok (.istore 7, 2) := by decide +kernel
theorem dX11_span_123 : decode cX11_span 123 = .ok (.iload 8, 2) := by decide +kernel
theorem dX11_span_125 : decode cX11_span 125 = .ok (.aload_n 0, 1) := by decide +kernel
theorem dX11_span_126 : decode cX11_span 126 = .ok (.invokevirtual 379, 3) := by decide +kernel
theorem dX11_span_129 : decode cX11_span 129 = .ok (.ifCond .ne 7, 3) := by decide +kernel
theorem dX11_span_132 : decode cX11_span 132 = .ok (.iconst 1, 1) := by decide +kernel
theorem dX11_span_133 : decode cX11_span 133 = .ok (.goto 4, 3) := by decide +kernel
theorem dX11_span_136 : decode cX11_span 136 = .ok (.iconst 0, 1) := by decide +kernel
theorem dX11_span_137 : decode cX11_span 137 = .ok (.iadd, 1) := by decide +kernel
theorem dX11_span_138 : decode cX11_span 138 = .ok (.istore 8, 2) := by decide +kernel
theorem dX11_span_140 : decode cX11_span 140 = .ok (.iinc 9 1, 3) := by decide +kernel
theorem dX11_span_143 : decode cX11_span 143 = .ok (.goto (-81), 3) := by decide +kernel
theorem dX11_span_146 : decode cX11_span 146 = .ok (.iload 5, 2) := by decide +kernel
theorem dX11_span_148 : decode cX11_span 148 = .ok (.ifCond .ne 8, 3) := by decide +kernel
theorem dX11_span_151 : decode cX11_span 151 = .ok (.iload 6, 2) := by decide +kernel
theorem dX11_span_153 : decode cX11_span 153 = .ok (.goto 16, 3) := by decide +kernel
theorem dX11_span_156 : decode cX11_span 156 = .ok (.iload 5, 2) := by decide +kernel
theorem dX11_span_158 : decode cX11_span 158 = .ok (.iconst 1, 1) := by decide +kernel
theorem dX11_span_159 : decode cX11_span 159 = .ok (.if_icmp .ne 8, 3) := by decide +kernel
theorem dX11_span_162 : decode cX11_span 162 = .ok (.iload 7, 2) := by decide +kernel
theorem dX11_span_164 : decode cX11_span 164 = .ok (.goto 5, 3) := by decide +kernel
theorem dX11_span_167 : decode cX11_span 167 = .ok (.iload 8, 2) := by decide +kernel
theorem dX11_span_169 : decode cX11_span 169 = .ok (.ireturn, 1) := by decide +kernel
theorem dX11_keepsRow_0 : decode cX11_keepsRow 0 = .ok (.iconst 0, 1) := by decide +kernel
theorem dX11_keepsRow_1 : decode cX11_keepsRow 1 = .ok (.istore 5, 2) := by decide +kernel
theorem dX11_keepsRow_3 : decode cX11_keepsRow 3 = .ok (.iload 5, 2) := by decide +kernel
theorem dX11_keepsRow_5 : decode cX11_keepsRow 5 = .ok (.iload_n 3, 1) := by decide +kernel
theorem dX11_keepsRow_6 : decode cX11_keepsRow 6 = .ok (.if_icmp .ge 43, 3) := by decide +kernel
theorem dX11_keepsRow_9 : decode cX11_keepsRow 9 = .ok (.iload 4, 2) := by decide +kernel
theorem dX11_keepsRow_11 : decode cX11_keepsRow 11 = .ok (.ifCond .eq 19, 3) := by decide +kernel
theorem dX11_keepsRow_14 : decode cX11_keepsRow 14 = .ok (.aload_n 0, 1) := by decide +kernel
theorem dX11_keepsRow_15 : decode cX11_keepsRow 15 = .ok (.getfield 92, 3) := by decide +kernel
theorem dX11_keepsRow_18 : decode cX11_keepsRow 18 = .ok (.iload_n 1, 1) := by decide +kernel
theorem dX11_keepsRow_19 : decode cX11_keepsRow 19 = .ok (.iload 5, 2) := by decide +kernel
theorem dX11_keepsRow_21 : decode cX11_keepsRow 21 = .ok (.iadd, 1) := by decide +kernel
theorem dX11_keepsRow_22 : decode cX11_keepsRow 22 = .ok (.aload_n 2, 1) := by decide +kernel
theorem dX11_keepsRow_23 : decode cX11_keepsRow 23 = .ok (.iload 5, 2) := by decide +kernel
theorem dX11_keepsRow_25 : decode cX11_keepsRow 25 = .ok (.iaload, 1) := by decide +kernel
theorem dX11_keepsRow_26 : decode cX11_keepsRow 26 = .ok (.iastore, 1) := by decide +kernel
theorem dX11_keepsRow_27 : decode cX11_keepsRow 27 = .ok (.goto 16, 3) := by decide +kernel
theorem dX11_keepsRow_30 : decode cX11_keepsRow 30 = .ok (.aload_n 2, 1) := by decide +kernel
theorem dX11_keepsRow_31 : decode cX11_keepsRow 31 = .ok (.iload 5, 2) := by decide +kernel
theorem dX11_keepsRow_33 : decode cX11_keepsRow 33 = .ok (.aload_n 0, 1) := by decide +kernel
theorem dX11_keepsRow_34 : decode cX11_keepsRow 34 = .ok (.getfield 92, 3) := by decide +kernel
theorem dX11_keepsRow_37 : decode cX11_keepsRow 37 = .ok (.iload_n 1, 1) := by decide +kernel
theorem dX11_keepsRow_38 : decode cX11_keepsRow 38 = .ok (.iload 5, 2) := by decide +kernel
theorem dX11_keepsRow_40 : decode cX11_keepsRow 40 = .ok (.iadd, 1) := by decide +kernel
theorem dX11_keepsRow_41 : decode cX11_keepsRow 41 = .ok (.iaload, 1) := by decide +kernel
theorem dX11_keepsRow_42 : decode cX11_keepsRow 42 = .ok (.iastore, 1) := by decide +kernel
theorem dX11_keepsRow_43 : decode cX11_keepsRow 43 = .ok (.iinc 5 1, 3) := by decide +kernel
theorem dX11_keepsRow_46 : decode cX11_keepsRow 46 = .ok (.goto (-43), 3) := by decide +kernel
theorem dX11_keepsRow_49 : decode cX11_keepsRow 49 = .ok (.iload_n 1, 1) := by decide +kernel
theorem dX11_keepsRow_50 : decode cX11_keepsRow 50 = .ok (.iload_n 3, 1) := by decide +kernel
theorem dX11_keepsRow_51 : decode cX11_keepsRow 51 = .ok (.iadd, 1) := by decide +kernel
theorem dX11_keepsRow_52 : decode cX11_keepsRow 52 = .ok (.ireturn, 1) := by decide +kernel
theorem dX11_keepsAll_0 : decode cX11_keepsAll 0 = .ok (.aload_n 0, 1) := by decide +kernel
theorem dX11_keepsAll_1 : decode cX11_keepsAll 1 = .ok (.sipush 1021, 3) := by decide +kernel
theorem dX11_keepsAll_4 : decode cX11_keepsAll 4 = .ok (.iload_n 1, 1) := by decide +kernel
theorem dX11_keepsAll_5 : decode cX11_keepsAll 5 = .ok (.imul, 1) := by decide +kernel
theorem dX11_keepsAll_6 : decode cX11_keepsAll 6 = .ok (.aload_n 0, 1) := by decide +kernel
theorem dX11_keepsAll_7 : decode cX11_keepsAll 7 = .ok (.getfield 65, 3) := by decide +kernel
theorem dX11_keepsAll_10 : decode cX11_keepsAll 10 = .ok (.bipush 60, 2) := by decide +kernel
theorem dX11_keepsAll_12 : decode cX11_keepsAll 12 = .ok (.iload_n 2, 1) := by decide +kernel
theorem dX11_keepsAll_13 : decode cX11_keepsAll 13 = .ok (.invokevirtual 467, 3) := by decide +kernel
theorem dX11_keepsAll_16 : decode cX11_keepsAll 16 = .ok (.istore_n 3, 1) := by decide +kernel
theorem dX11_keepsAll_17 : decode cX11_keepsAll 17 = .ok (.aload_n 0, 1) := by decide +kernel
theorem dX11_keepsAll_18 : decode cX11_keepsAll 18 = .ok (.iload_n 3, 1) := by decide +kernel
theorem dX11_keepsAll_19 : decode cX11_keepsAll 19 = .ok (.aload_n 0, 1) := by decide +kernel
theorem dX11_keepsAll_20 : decode cX11_keepsAll 20 = .ok (.getfield 71, 3) := by decide +kernel
theorem dX11_keepsAll_23 : decode cX11_keepsAll 23 = .ok (.sipush 960, 3) := by decide +kernel
theorem dX11_keepsAll_26 : decode cX11_keepsAll 26 = .ok (.iload_n 2, 1) := by decide +kernel
theorem dX11_keepsAll_27 : decode cX11_keepsAll 27 = .ok (.invokevirtual 467, 3) := by decide +kernel
theorem dX11_keepsAll_30 : decode cX11_keepsAll 30 = .ok (.istore_n 3, 1) := by decide +kernel
theorem dX11_keepsAll_31 : decode cX11_keepsAll 31 = .ok (.iload_n 2, 1) := by decide +kernel
theorem dX11_keepsAll_32 : decode cX11_keepsAll 32 = .ok (.ifCond .eq 16, 3) := by decide +kernel
theorem dX11_keepsAll_35 : decode cX11_keepsAll 35 = .ok (.aload_n 0, 1) := by decide +kernel
theorem dX11_keepsAll_36 : decode cX11_keepsAll 36 = .ok (.getfield 92, 3) := by decide +kernel
theorem dX11_keepsAll_39 : decode cX11_keepsAll 39 = .ok (.iload_n 3, 1) := by decide +kernel
theorem dX11_keepsAll_40 : decode cX11_keepsAll 40 = .ok (.aload_n 0, 1) := by decide +kernel
theorem dX11_keepsAll_41 : decode cX11_keepsAll 41 = .ok (.getfield 175, 3) := by decide +kernel
theorem dX11_keepsAll_44 : decode cX11_keepsAll 44 = .ok (.iastore, 1) := by decide +kernel
theorem dX11_keepsAll_45 : decode cX11_keepsAll 45 = .ok (.goto 13, 3) := by decide +kernel
theorem dX11_keepsAll_48 : decode cX11_keepsAll 48 = .ok (.aload_n 0, 1) := by decide +kernel
theorem dX11_keepsAll_49 : decode cX11_keepsAll 49 = .ok (.aload_n 0, 1) := by decide +kernel
theorem dX11_keepsAll_50 : decode cX11_keepsAll 50 = .ok (.getfield 92, 3) := by decide +kernel
theorem dX11_keepsAll_53 : decode cX11_keepsAll 53 = .ok (.iload_n 3, 1) := by decide +kernel
theorem dX11_keepsAll_54 : decode cX11_keepsAll 54 = .ok (.iaload, 1) := by decide +kernel
theorem dX11_keepsAll_55 : decode cX11_keepsAll 55 = .ok (.putfield 175, 3) := by decide +kernel
theorem dX11_keepsAll_58 : decode cX11_keepsAll 58 = .ok (.return_, 1) := by decide +kernel
theorem dX11_image_0 : decode cX11_image 0 = .ok (.aload_n 0, 1) := by decide +kernel
theorem dX11_image_1 : decode cX11_image 1 = .ok (.iconst 0, 1) := by decide +kernel
theorem dX11_image_2 : decode cX11_image 2 = .ok (.putfield 3, 3) := by decide +kernel
theorem dX11_image_5 : decode cX11_image 5 = .ok (.aload_n 0, 1) := by decide +kernel
theorem dX11_image_6 : decode cX11_image 6 = .ok (.getfield 178, 3) := by decide +kernel
theorem dX11_image_9 : decode cX11_image 9 = .ok (.iconst 3, 1) := by decide +kernel
theorem dX11_image_10 : decode cX11_image 10 = .ok (.if_icmp .ne 5, 3) := by decide +kernel
theorem dX11_image_13 : decode cX11_image 13 = .ok (.iconst (-1), 1) := by decide +kernel
theorem dX11_image_14 : decode cX11_image 14 = .ok (.ireturn, 1) := by decide +kernel
theorem dX11_image_15 : decode cX11_image 15 = .ok (.aload_n 0, 1) := by decide +kernel
theorem dX11_image_16 : decode cX11_image 16 = .ok (.aload_n 0, 1) := by decide +kernel
theorem dX11_image_17 : decode cX11_image 17 = .ok (.getfield 178, 3) := by decide +kernel
theorem dX11_image_20 : decode cX11_image 20 = .ok (.iconst 1, 1) := by decide +kernel
theorem dX11_image_21 : decode cX11_image 21 = .ok (.invokevirtual 471, 3) := by decide +kernel
theorem dX11_image_24 : decode cX11_image 24 = .ok (.aload_n 0, 1) := by decide +kernel
theorem dX11_image_25 : decode cX11_image 25 = .ok (.dup, 1) := by decide +kernel
theorem dX11_image_26 : decode cX11_image 26 = .ok (.getfield 178, 3) := by decide +kernel
theorem dX11_image_29 : decode cX11_image 29 = .ok (.iconst 1, 1) := by decide +kernel
theorem dX11_image_30 : decode cX11_image 30 = .ok (.iadd, 1) := by decide +kernel
theorem dX11_image_31 : decode cX11_image 31 = .ok (.putfield 178, 3) := by decide +kernel
theorem dX11_image_34 : decode cX11_image 34 = .ok (.aload_n 0, 1) := by decide +kernel
theorem dX11_image_35 : decode cX11_image 35 = .ok (.getfield 178, 3) := by decide +kernel
theorem dX11_image_38 : decode cX11_image 38 = .ok (.ireturn, 1) := by decide +kernel
theorem dX11_restore_0 : decode cX11_restore 0 = .ok (.aload_n 0, 1) := by decide +kernel
theorem dX11_restore_1 : decode cX11_restore 1 = .ok (.iconst 0, 1) := by decide +kernel
theorem dX11_restore_2 : decode cX11_restore 2 = .ok (.putfield 3, 3) := by decide +kernel
theorem dX11_restore_5 : decode cX11_restore 5 = .ok (.aload_n 0, 1) := by decide +kernel
theorem dX11_restore_6 : decode cX11_restore 6 = .ok (.getfield 178, 3) := by decide +kernel
theorem dX11_restore_9 : decode cX11_restore 9 = .ok (.ifCond .ne 5, 3) := by decide +kernel
theorem dX11_restore_12 : decode cX11_restore 12 = .ok (.iconst (-1), 1) := by decide +kernel
theorem dX11_restore_13 : decode cX11_restore 13 = .ok (.ireturn, 1) := by decide +kernel
theorem dX11_restore_14 : decode cX11_restore 14 = .ok (.aload_n 0, 1) := by decide +kernel
theorem dX11_restore_15 : decode cX11_restore 15 = .ok (.dup, 1) := by decide +kernel
theorem dX11_restore_16 : decode cX11_restore 16 = .ok (.getfield 178, 3) := by decide +kernel
theorem dX11_restore_19 : decode cX11_restore 19 = .ok (.iconst 1, 1) := by decide +kernel
theorem dX11_restore_20 : decode cX11_restore 20 = .ok (.isub, 1) := by decide +kernel
theorem dX11_restore_21 : decode cX11_restore 21 = .ok (.putfield 178, 3) := by decide +kernel
theorem dX11_restore_24 : decode cX11_restore 24 = .ok (.aload_n 0, 1) := by decide +kernel
theorem dX11_restore_25 : decode cX11_restore 25 = .ok (.aload_n 0, 1) := by decide +kernel
theorem dX11_restore_26 : decode cX11_restore 26 = .ok (.getfield 178, 3) := by decide +kernel
theorem dX11_restore_29 : decode cX11_restore 29 = .ok (.iconst 0, 1) := by decide +kernel
theorem dX11_restore_30 : decode cX11_restore 30 = .ok (.invokevirtual 471, 3) := by decide +kernel
theorem dX11_restore_33 : decode cX11_restore 33 = .ok (.aload_n 0, 1) := by decide +kernel
theorem dX11_restore_34 : decode cX11_restore 34 = .ok (.iconst 0, 1) := by decide +kernel
theorem dX11_restore_35 : decode cX11_restore 35 = .ok (.putfield 181, 3) := by decide +kernel
theorem dX11_restore_38 : decode cX11_restore 38 = .ok (.aload_n 0, 1) := by decide +kernel
theorem dX11_restore_39 : decode cX11_restore 39 = .ok (.getfield 178, 3) := by decide +kernel
theorem dX11_restore_42 : decode cX11_restore 42 = .ok (.ireturn, 1) := by decide +kernel
theorem dX11_status_0 : decode cX11_status 0 = .ok (.aload_n 0, 1) := by decide +kernel
theorem dX11_status_1 : decode cX11_status 1 = .ok (.iconst 0, 1) := by decide +kernel
theorem dX11_status_2 : decode cX11_status 2 = .ok (.putfield 3, 3) := by decide +kernel
theorem dX11_status_5 : decode cX11_status 5 = .ok (.iload_n 1, 1) := by decide +kernel
theorem dX11_status_6 : decode cX11_status 6 = .ok (.iconst 0, 1) := by decide +kernel
theorem dX11_status_7 : decode cX11_status 7 = .ok (.iconst 1, 1) := by decide +kernel
theorem dX11_status_8 : decode cX11_status 8 = .ok (.invokestatic 376, 3) := by decide +kernel
theorem dX11_status_11 : decode cX11_status 11 = .ok (.ifCond .eq 12, 3) := by decide +kernel
theorem dX11_status_14 : decode cX11_status 14 = .ok (.aload_n 0, 1) := by decide +kernel
theorem dX11_status_15 : decode cX11_status 15 = .ok (.getfield 7, 3) := by decide +kernel
theorem dX11_status_18 : decode cX11_status 18 = .ok (.iload_n 1, 1) := by decide +kernel
theorem dX11_status_19 : decode cX11_status 19 = .ok (.iaload, 1) := by decide +kernel
theorem dX11_status_20 : decode cX11_status 20 = .ok (.goto 4, 3) := by decide +kernel
theorem dX11_status_23 : decode cX11_status 23 = .ok (.iconst (-1), 1) := by decide +kernel
theorem dX11_status_24 : decode cX11_status 24 = .ok (.ireturn, 1) := by decide +kernel
theorem dX11_count_0 : decode cX11_count 0 = .ok (.aload_n 0, 1) := by decide +kernel
theorem dX11_count_1 : decode cX11_count 1 = .ok (.iconst 0, 1) := by decide +kernel
theorem dX11_count_2 : decode cX11_count 2 = .ok (.putfield 3, 3) := by decide +kernel
theorem dX11_count_5 : decode cX11_count 5 = .ok (.iload_n 1, 1) := by decide +kernel
theorem dX11_count_6 : decode cX11_count 6 = .ok (.ifCond .ne 10, 3) := by decide +kernel
theorem dX11_count_9 : decode cX11_count 9 = .ok (.aload_n 0, 1) := by decide +kernel
theorem dX11_count_10 : decode cX11_count 10 = .ok (.getfield 178, 3) := by decide +kernel
theorem dX11_count_13 : decode cX11_count 13 = .ok (.goto 28, 3) := by decide +kernel
theorem dX11_count_16 : decode cX11_count 16 = .ok (.iload_n 1, 1) := by decide +kernel
theorem dX11_count_17 : decode cX11_count 17 = .ok (.iconst 1, 1) := by decide +kernel
theorem dX11_count_18 : decode cX11_count 18 = .ok (.if_icmp .ne 10, 3) := by decide +kernel
theorem dX11_count_21 : decode cX11_count 21 = .ok (.aload_n 0, 1) := by decide +kernel
theorem dX11_count_22 : decode cX11_count 22 = .ok (.getfield 101, 3) := by decide +kernel
theorem dX11_count_25 : decode cX11_count 25 = .ok (.goto 16, 3) := by decide +kernel
theorem dX11_count_28 : decode cX11_count 28 = .ok (.iload_n 1, 1) := by decide +kernel
theorem dX11_count_29 : decode cX11_count 29 = .ok (.iconst 2, 1) := by decide +kernel
theorem dX11_count_30 : decode cX11_count 30 = .ok (.if_icmp .ne 10, 3) := by decide +kernel
theorem dX11_count_33 : decode cX11_count 33 = .ok (.aload_n 0, 1) := by decide +kernel
theorem dX11_count_34 : decode cX11_count 34 = .ok (.getfield 175, 3) := by decide +kernel
theorem dX11_count_37 : decode cX11_count 37 = .ok (.goto 4, 3) := by decide +kernel
theorem dX11_count_40 : decode cX11_count 40 = .ok (.iconst (-1), 1) := by decide +kernel
theorem dX11_count_41 : decode cX11_count 41 = .ok (.ireturn, 1) := by decide +kernel
