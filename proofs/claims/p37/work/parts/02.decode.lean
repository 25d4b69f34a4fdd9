theorem dX0_init_0 : decode cX0_init 0 = .ok (.aload_n 0, 1) := by decide +kernel
theorem dX0_init_1 : decode cX0_init 1 = .ok (.invokespecial 3, 3) := by decide +kernel
theorem dX0_init_4 : decode cX0_init 4 = .ok (.aload_n 0, 1) := by decide +kernel
theorem dX0_init_5 : decode cX0_init 5 = .ok (.bipush 80, 2) := by decide +kernel
theorem dX0_init_7 : decode cX0_init 7 = .ok (.newarray .char, 2) := by decide +kernel
theorem dX0_init_9 : decode cX0_init 9 = .ok (.putfield 9, 3) := by decide +kernel
theorem dX0_init_12 : decode cX0_init 12 = .ok (.return_, 1) := by decide +kernel
theorem dX0_addSign_0 : decode cX0_addSign 0 = .ok (.aload_n 0, 1) := by decide +kernel
theorem dX0_addSign_1 : decode cX0_addSign 1 = .ok (.getfield 15, 3) := by decide +kernel
theorem dX0_addSign_4 : decode cX0_addSign 4 = .ok (.ifCond .lt 12, 3) := by decide +kernel
theorem dX0_addSign_7 : decode cX0_addSign 7 = .ok (.aload_n 0, 1) := by decide +kernel
theorem dX0_addSign_8 : decode cX0_addSign 8 = .ok (.getfield 15, 3) := by decide +kernel
theorem dX0_addSign_11 : decode cX0_addSign 11 = .ok (.bipush 80, 2) := by decide +kernel
theorem dX0_addSign_13 : decode cX0_addSign 13 = .ok (.if_icmp .lt 5, 3) := by decide +kernel
theorem dX0_addSign_16 : decode cX0_addSign 16 = .ok (.iconst 0, 1) := by decide +kernel
theorem dX0_addSign_17 : decode cX0_addSign 17 = .ok (.ireturn, 1) := by decide +kernel
theorem dX0_addSign_18 : decode cX0_addSign 18 = .ok (.aload_n 0, 1) := by decide +kernel
theorem dX0_addSign_19 : decode cX0_addSign 19 = .ok (.getfield 9, 3) := by decide +kernel
theorem dX0_addSign_22 : decode cX0_addSign 22 = .ok (.aload_n 0, 1) := by decide +kernel
theorem dX0_addSign_23 : decode cX0_addSign 23 = .ok (.getfield 15, 3) := by decide +kernel
theorem dX0_addSign_26 : decode cX0_addSign 26 = .ok (.iload_n 1, 1) := by decide +kernel
theorem dX0_addSign_27 : decode cX0_addSign 27 = .ok (.castore, 1) := by decide +kernel
theorem dX0_addSign_28 : decode cX0_addSign 28 = .ok (.aload_n 0, 1) := by decide +kernel
theorem dX0_addSign_29 : decode cX0_addSign 29 = .ok (.dup, 1) := by decide +kernel
theorem dX0_addSign_30 : decode cX0_addSign 30 = .ok (.getfield 15, 3) := by decide +kernel
theorem dX0_addSign_33 : decode cX0_addSign 33 = .ok (.iconst 1, 1) := by decide +kernel
theorem dX0_addSign_34 : decode cX0_addSign 34 = .ok (.iadd, 1) := by decide +kernel
theorem dX0_addSign_35 : decode cX0_addSign 35 = .ok (.putfield 15, 3) := by decide +kernel
theorem dX0_addSign_38 : decode cX0_addSign 38 = .ok (.iconst 1, 1) := by decide +kernel
theorem dX0_addSign_39 : decode cX0_addSign 39 = .ok (.ireturn, 1) := by decide +kernel
theorem dX0_firstFault_0 : decode cX0_firstFault 0 = .ok (.aload_n 0, 1) := by decide +kernel
theorem dX0_firstFault_1 : decode cX0_firstFault 1 = .ok (.iconst 0, 1) := by decide +kernel
theorem dX0_firstFault_2 : decode cX0_firstFault 2 = .ok (.putfield 19, 3) := by decide +kernel
theorem dX0_firstFault_5 : decode cX0_firstFault 5 = .ok (.iconst 0, 1) := by decide +kernel
theorem dX0_firstFault_6 : decode cX0_firstFault 6 = .ok (.istore_n 1, 1) := by decide +kernel
theorem dX0_firstFault_7 : decode cX0_firstFault 7 = .ok (.iload_n 1, 1) := by decide +kernel
theorem dX0_firstFault_8 : decode cX0_firstFault 8 = .ok (.bipush 80, 2) := by decide +kernel
theorem dX0_firstFault_10 : decode cX0_firstFault 10 = .ok (.if_icmp .ge 44, 3) := by decide +kernel
theorem dX0_firstFault_13 : decode cX0_firstFault 13 = .ok (.aload_n 0, 1) := by decide +kernel
theorem dX0_firstFault_14 : decode cX0_firstFault 14 = .ok (.invokevirtual 22, 3) := by decide +kernel
theorem dX0_firstFault_17 : decode cX0_firstFault 17 = .ok (.ifCond .eq 37, 3) := by decide +kernel
theorem dX0_firstFault_20 : decode cX0_firstFault 20 = .ok (.aload_n 0, 1) := by decide +kernel
theorem dX0_firstFault_21 : decode cX0_firstFault 21 = .ok (.getfield 19, 3) := by decide +kernel
theorem dX0_firstFault_24 : decode cX0_firstFault 24 = .ok (.aload_n 0, 1) := by decide +kernel
theorem dX0_firstFault_25 : decode cX0_firstFault 25 = .ok (.getfield 15, 3) := by decide +kernel
theorem dX0_firstFault_28 : decode cX0_firstFault 28 = .ok (.if_icmp .lt 6, 3) := by decide +kernel
theorem dX0_firstFault_31 : decode cX0_firstFault 31 = .ok (.bipush (-6), 2) := by decide +kernel
theorem dX0_firstFault_33 : decode cX0_firstFault 33 = .ok (.ireturn, 1) := by decide +kernel
theorem dX0_firstFault_34 : decode cX0_firstFault 34 = .ok (.aload_n 0, 1) := by decide +kernel
theorem dX0_firstFault_35 : decode cX0_firstFault 35 = .ok (.bipush 59, 2) := by decide +kernel
theorem dX0_firstFault_37 : decode cX0_firstFault 37 = .ok (.invokevirtual 26, 3) := by decide +kernel
theorem dX0_firstFault_40 : decode cX0_firstFault 40 = .ok (.ifCond .ne 8, 3) := by decide +kernel
theorem dX0_firstFault_43 : decode cX0_firstFault 43 = .ok (.aload_n 0, 1) := by decide +kernel
theorem dX0_firstFault_44 : decode cX0_firstFault 44 = .ok (.getfield 19, 3) := by decide +kernel
theorem dX0_firstFault_47 : decode cX0_firstFault 47 = .ok (.ireturn, 1) := by decide +kernel
theorem dX0_firstFault_48 : decode cX0_firstFault 48 = .ok (.iinc 1 1, 3) := by decide +kernel
theorem dX0_firstFault_51 : decode cX0_firstFault 51 = .ok (.goto (-44), 3) := by decide +kernel
theorem dX0_firstFault_54 : decode cX0_firstFault 54 = .ok (.aload_n 0, 1) := by decide +kernel
theorem dX0_firstFault_55 : decode cX0_firstFault 55 = .ok (.getfield 19, 3) := by decide +kernel
theorem dX0_firstFault_58 : decode cX0_firstFault 58 = .ok (.ireturn, 1) := by decide +kernel
theorem dX0_readCommand_0 : decode cX0_readCommand 0 = .ok (.aload_n 0, 1) := by decide +kernel
theorem dX0_readCommand_1 : decode cX0_readCommand 1 = .ok (.aload_n 0, 1) := by decide +kernel
theorem dX0_readCommand_2 : decode cX0_readCommand 2 = .ok (.invokevirtual 30, 3) := by decide +kernel
theorem dX0_readCommand_5 : decode cX0_readCommand 5 = .ok (.putfield 34, 3) := by decide +kernel
theorem dX0_readCommand_8 : decode cX0_readCommand 8 = .ok (.aload_n 0, 1) := by decide +kernel
theorem dX0_readCommand_9 : decode cX0_readCommand 9 = .ok (.getfield 34, 3) := by decide +kernel
theorem dX0_readCommand_12 : decode cX0_readCommand 12 = .ok (.tableswitch 255 98 119 #[104, 243, 225, 243, 255, 255, 255, 255, 255, 181, 255, 255, 255, 255, 255, 255, 164, 255, 255, 255, 255, 120], 104) := by decide +kernel
theorem dX0_readCommand_116 : decode cX0_readCommand 116 = .ok (.aload_n 0, 1) := by decide +kernel
theorem dX0_readCommand_117 : decode cX0_readCommand 117 = .ok (.dup, 1) := by decide +kernel
theorem dX0_readCommand_118 : decode cX0_readCommand 118 = .ok (.getfield 19, 3) := by decide +kernel
theorem dX0_readCommand_121 : decode cX0_readCommand 121 = .ok (.iconst 1, 1) := by decide +kernel
theorem dX0_readCommand_122 : decode cX0_readCommand 122 = .ok (.iadd, 1) := by decide +kernel
theorem dX0_readCommand_123 : decode cX0_readCommand 123 = .ok (.putfield 19, 3) := by decide +kernel
theorem dX0_readCommand_126 : decode cX0_readCommand 126 = .ok (.aload_n 0, 1) := by decide +kernel
theorem dX0_readCommand_127 : decode cX0_readCommand 127 = .ok (.iconst 1, 1) := by decide +kernel
theorem dX0_readCommand_128 : decode cX0_readCommand 128 = .ok (.invokevirtual 37, 3) := by decide +kernel
theorem dX0_readCommand_131 : decode cX0_readCommand 131 = .ok (.ireturn, 1) := by decide +kernel
theorem dX0_readCommand_132 : decode cX0_readCommand 132 = .ok (.aload_n 0, 1) := by decide +kernel
theorem dX0_readCommand_133 : decode cX0_readCommand 133 = .ok (.dup, 1) := by decide +kernel
theorem dX0_readCommand_134 : decode cX0_readCommand 134 = .ok (.getfield 19, 3) := by decide +kernel
theorem dX0_readCommand_137 : decode cX0_readCommand 137 = .ok (.iconst 1, 1) := by decide +kernel
theorem dX0_readCommand_138 : decode cX0_readCommand 138 = .ok (.iadd, 1) := by decide +kernel
theorem dX0_readCommand_139 : decode cX0_readCommand 139 = .ok (.putfield 19, 3) := by decide +kernel
theorem dX0_readCommand_142 : decode cX0_readCommand 142 = .ok (.aload_n 0, 1) := by decide +kernel
theorem dX0_readCommand_143 : decode cX0_readCommand 143 = .ok (.bipush 19, 2) := by decide +kernel
theorem dX0_readCommand_145 : decode cX0_readCommand 145 = .ok (.invokevirtual 37, 3) := by decide +kernel
theorem dX0_readCommand_148 : decode cX0_readCommand 148 = .ok (.ifCond .eq 26, 3) := by decide +kernel
theorem dX0_readCommand_151 : decode cX0_readCommand 151 = .ok (.aload_n 0, 1) := by decide +kernel
theorem dX0_readCommand_152 : decode cX0_readCommand 152 = .ok (.bipush 61, 2) := by decide +kernel
theorem dX0_readCommand_154 : decode cX0_readCommand 154 = .ok (.invokevirtual 26, 3) := by decide +kernel
theorem dX0_readCommand_157 : decode cX0_readCommand 157 = .ok (.ifCond .eq 17, 3) := by decide +kernel
theorem dX0_readCommand_160 : decode cX0_readCommand 160 = .ok (.aload_n 0, 1) := by decide +kernel
theorem dX0_readCommand_161 : decode cX0_readCommand 161 = .ok (.iconst 1, 1) := by decide +kernel
theorem dX0_readCommand_162 : decode cX0_readCommand 162 = .ok (.bipush 40, 2) := by decide +kernel
theorem dX0_readCommand_164 : decode cX0_readCommand 164 = .ok (.invokevirtual 41, 3) := by decide +kernel
theorem dX0_readCommand_167 : decode cX0_readCommand 167 = .ok (.ifCond .eq 7, 3) := by decide +kernel
theorem dX0_readCommand_170 : decode cX0_readCommand 170 = .ok (.iconst 1, 1) := by decide +kernel
theorem dX0_readCommand_171 : decode cX0_readCommand 171 = .ok (.goto 4, 3) := by decide +kernel
theorem dX0_readCommand_174 : decode cX0_readCommand 174 = .ok (.iconst 0, 1) := by decide +kernel
theorem dX0_readCommand_175 : decode cX0_readCommand 175 = .ok (.ireturn, 1) := by decide +kernel
theorem dX0_readCommand_176 : decode cX0_readCommand 176 = .ok (.aload_n 0, 1) := by decide +kernel
theorem dX0_readCommand_177 : decode cX0_readCommand 177 = .ok (.dup, 1) := by decide +kernel
theorem dX0_readCommand_178 : decode cX0_readCommand 178 = .ok (.getfield 19, 3) := by decide +kernel
theorem dX0_readCommand_181 : decode cX0_readCommand 181 = .ok (.iconst 1, 1) := by decide +kernel
theorem dX0_readCommand_182 : decode cX0_readCommand 182 = .ok (.iadd, 1) := by decide +kernel
theorem dX0_readCommand_183 : decode cX0_readCommand 183 = .ok (.putfield 19, 3) := by decide +kernel
theorem dX0_readCommand_186 : decode cX0_readCommand 186 = .ok (.aload_n 0, 1) := by decide +kernel
theorem dX0_readCommand_187 : decode cX0_readCommand 187 = .ok (.bipush 19, 2) := by decide +kernel
theorem dX0_readCommand_189 : decode cX0_readCommand 189 = .ok (.invokevirtual 37, 3) := by decide +kernel
theorem dX0_readCommand_192 : decode cX0_readCommand 192 = .ok (.ireturn, 1) := by decide +kernel
theorem dX0_readCommand_193 : decode cX0_readCommand 193 = .ok (.aload_n 0, 1) := by decide +kernel
theorem dX0_readCommand_194 : decode cX0_readCommand 194 = .ok (.dup, 1) := by decide +kernel
theorem dX0_readCommand_195 : decode cX0_readCommand 195 = .ok (.getfield 19, 3) := by decide +kernel
theorem dX0_readCommand_198 : decode cX0_readCommand 198 = .ok (.iconst 1, 1) := by decide +kernel
theorem dX0_readCommand_199 : decode cX0_readCommand 199 = .ok (.iadd, 1) := by decide +kernel
theorem dX0_readCommand_200 : decode cX0_readCommand 200 = .ok (.putfield 19, 3) := by decide +kernel
theorem dX0_readCommand_203 : decode cX0_readCommand 203 = .ok (.aload_n 0, 1) := by decide +kernel
theorem dX0_readCommand_204 : decode cX0_readCommand 204 = .ok (.bipush 19, 2) := by decide +kernel
theorem dX0_readCommand_206 : decode cX0_readCommand 206 = .ok (.invokevirtual 37, 3) := by decide +kernel
theorem dX0_readCommand_209 : decode cX0_readCommand 209 = .ok (.ifCond .eq 26, 3) := by decide +kernel
theorem dX0_readCommand_212 : decode cX0_readCommand 212 = .ok (.aload_n 0, 1) := by decide +kernel
theorem dX0_readCommand_213 : decode cX0_readCommand 213 = .ok (.bipush 46, 2) := by decide +kernel
theorem dX0_readCommand_215 : decode cX0_readCommand 215 = .ok (.invokevirtual 26, 3) := by decide +kernel
theorem dX0_readCommand_218 : decode cX0_readCommand 218 = .ok (.ifCond .eq 17, 3) := by decide +kernel
theorem dX0_readCommand_221 : decode cX0_readCommand 221 = .ok (.aload_n 0, 1) := by decide +kernel
theorem dX0_readCommand_222 : decode cX0_readCommand 222 = .ok (.iconst 0, 1) := by decide +kernel
theorem dX0_readCommand_223 : decode cX0_readCommand 223 = .ok (.bipush 11, 2) := by decide +kernel
theorem dX0_readCommand_225 : decode cX0_readCommand 225 = .ok (.invokevirtual 41, 3) := by decide +kernel
theorem dX0_readCommand_228 : decode cX0_readCommand 228 = .ok (.ifCond .eq 7, 3) := by decide +kernel
theorem dX0_readCommand_231 : decode cX0_readCommand 231 = .ok (.iconst 1, 1) := by decide +kernel
theorem dX0_readCommand_232 : decode cX0_readCommand 232 = .ok (.goto 4, 3) := by decide +kernel
theorem dX0_readCommand_235 : decode cX0_readCommand 235 = .ok (.iconst 0, 1) := by decide +kernel
theorem dX0_readCommand_236 : decode cX0_readCommand 236 = .ok (.ireturn, 1) := by decide +kernel
theorem dX0_readCommand_237 : decode cX0_readCommand 237 = .ok (.aload_n 0, 1) := by decide +kernel
theorem dX0_readCommand_238 : decode cX0_readCommand 238 = .ok (.dup, 1) := by decide +kernel
theorem dX0_readCommand_239 : decode cX0_readCommand 239 = .ok (.getfield 19, 3) := by decide +kernel
theorem dX0_readCommand_242 : decode cX0_readCommand 242 = .ok (.iconst 1, 1) := by decide +kernel
theorem dX0_readCommand_243 : decode cX0_readCommand 243 = .ok (.iadd, 1) := by decide +kernel
theorem dX0_readCommand_244 : decode cX0_readCommand 244 = .ok (.putfield 19, 3) := by decide +kernel
theorem dX0_readCommand_247 : decode cX0_readCommand 247 = .ok (.aload_n 0, 1) := by decide +kernel
theorem dX0_readCommand_248 : decode cX0_readCommand 248 = .ok (.sipush 239, 3) := by decide +kernel
theorem dX0_readCommand_251 : decode cX0_readCommand 251 = .ok (.invokevirtual 37, 3) := by decide +kernel
theorem dX0_readCommand_254 : decode cX0_readCommand 254 = .ok (.ireturn, 1) := by decide +kernel
theorem dX0_readCommand_255 : decode cX0_readCommand 255 = .ok (.aload_n 0, 1) := by decide +kernel
theorem dX0_readCommand_256 : decode cX0_readCommand 256 = .ok (.dup, 1) := by decide +kernel
theorem dX0_readCommand_257 : decode cX0_readCommand 257 = .ok (.getfield 19, 3) := by decide +kernel
theorem dX0_readCommand_260 : decode cX0_readCommand 260 = .ok (.iconst 1, 1) := by decide +kernel
theorem dX0_readCommand_261 : decode cX0_readCommand 261 = .ok (.iadd, 1) := by decide +kernel
theorem dX0_readCommand_262 : decode cX0_readCommand 262 = .ok (.putfield 19, 3) := by decide +kernel
theorem dX0_readCommand_265 : decode cX0_readCommand 265 = .ok (.iconst 1, 1) := by decide +kernel
theorem dX0_readCommand_266 : decode cX0_readCommand 266 = .ok (.ireturn, 1) := by decide +kernel
theorem dX0_readCommand_267 : decode cX0_readCommand 267 = .ok (.iconst 0, 1) := by decide +kernel
theorem dX0_readCommand_268 : decode cX0_readCommand 268 = .ok (.ireturn, 1) := by decide +kernel
theorem dX0_readSign_0 : decode cX0_readSign 0 = .ok (.aload_n 0, 1) := by decide +kernel
theorem dX0_readSign_1 : decode cX0_readSign 1 = .ok (.invokevirtual 30, 3) := by decide +kernel
theorem dX0_readSign_4 : decode cX0_readSign 4 = .ok (.iload_n 1, 1) := by decide +kernel
theorem dX0_readSign_5 : decode cX0_readSign 5 = .ok (.if_icmp .eq 5, 3) := by decide +kernel
theorem dX0_readSign_8 : decode cX0_readSign 8 = .ok (.iconst 0, 1) := by decide +kernel
theorem dX0_readSign_9 : decode cX0_readSign 9 = .ok (.ireturn, 1) := by decide +kernel
theorem dX0_readSign_10 : decode cX0_readSign 10 = .ok (.aload_n 0, 1) := by decide +kernel
theorem dX0_readSign_11 : decode cX0_readSign 11 = .ok (.dup, 1) := by decide +kernel
theorem dX0_readSign_12 : decode cX0_readSign 12 = .ok (.getfield 19, 3) := by decide +kernel
theorem dX0_readSign_15 : decode cX0_readSign 15 = .ok (.iconst 1, 1) := by decide +kernel
theorem dX0_readSign_16 : decode cX0_readSign 16 = .ok (.iadd, 1) := by decide +kernel
theorem dX0_readSign_17 : decode cX0_readSign 17 = .ok (.putfield 19, 3) := by decide +kernel
theorem dX0_readSign_20 : decode cX0_readSign 20 = .ok (.iconst 1, 1) := by decide +kernel
theorem dX0_readSign_21 : decode cX0_readSign 21 = .ok (.ireturn, 1) := by decide +kernel
theorem dX0_readFirst_0 : decode cX0_readFirst 0 = .ok (.aload_n 0, 1) := by decide +kernel
theorem dX0_readFirst_1 : decode cX0_readFirst 1 = .ok (.aload_n 0, 1) := by decide +kernel
theorem dX0_readFirst_2 : decode cX0_readFirst 2 = .ok (.iconst 0, 1) := by decide +kernel
theorem dX0_readFirst_3 : decode cX0_readFirst 3 = .ok (.iload_n 1, 1) := by decide +kernel
theorem dX0_readFirst_4 : decode cX0_readFirst 4 = .ok (.invokevirtual 45, 3) := by decide +kernel
theorem dX0_readFirst_7 : decode cX0_readFirst 7 = .ok (.putfield 49, 3) := by decide +kernel
theorem dX0_readFirst_10 : decode cX0_readFirst 10 = .ok (.aload_n 0, 1) := by decide +kernel
theorem dX0_readFirst_11 : decode cX0_readFirst 11 = .ok (.getfield 49, 3) := by decide +kernel
theorem dX0_readFirst_14 : decode cX0_readFirst 14 = .ok (.bipush (-6), 2) := by decide +kernel
theorem dX0_readFirst_16 : decode cX0_readFirst 16 = .ok (.if_icmp .eq 7, 3) := by decide +kernel
theorem dX0_readFirst_19 : decode cX0_readFirst 19 = .ok (.iconst 1, 1) := by decide +kernel
theorem dX0_readFirst_20 : decode cX0_readFirst 20 = .ok (.goto 4, 3) := by decide +kernel
theorem dX0_readFirst_23 : decode cX0_readFirst 23 = .ok (.iconst 0, 1) := by decide +kernel
theorem dX0_readFirst_24 : decode cX0_readFirst 24 = .ok (.ireturn, 1) := by decide +kernel
theorem dX0_readSecond_0 : decode cX0_readSecond 0 = .ok (.aload_n 0, 1) := by decide +kernel
theorem dX0_readSecond_1 : decode cX0_readSecond 1 = .ok (.aload_n 0, 1) := by decide +kernel
theorem dX0_readSecond_2 : decode cX0_readSecond 2 = .ok (.iload_n 1, 1) := by decide +kernel
theorem dX0_readSecond_3 : decode cX0_readSecond 3 = .ok (.iload_n 2, 1) := by decide +kernel
theorem dX0_readSecond_4 : decode cX0_readSecond 4 = .ok (.invokevirtual 45, 3) := by decide +kernel
theorem dX0_readSecond_7 : decode cX0_readSecond 7 = .ok (.putfield 52, 3) := by decide +kernel
theorem dX0_readSecond_10 : decode cX0_readSecond 10 = .ok (.aload_n 0, 1) := by decide +kernel
theorem dX0_readSecond_11 : decode cX0_readSecond 11 = .ok (.getfield 52, 3) := by decide +kernel
theorem dX0_readSecond_14 : decode cX0_readSecond 14 = .ok (.bipush (-6), 2) := by decide +kernel
theorem dX0_readSecond_16 : decode cX0_readSecond 16 = .ok (.if_icmp .eq 7, 3) := by decide +kernel
theorem dX0_readSecond_19 : decode cX0_readSecond 19 = .ok (.iconst 1, 1) := by decide +kernel
theorem dX0_readSecond_20 : decode cX0_readSecond 20 = .ok (.goto 4, 3) := by decide +kernel
theorem dX0_readSecond_23 : decode cX0_readSecond 23 = .ok (.iconst 0, 1) := by decide +kernel
theorem dX0_readSecond_24 : decode cX0_readSecond 24 = .ok (.ireturn, 1) := by decide +kernel
theorem dX0_readNumber_0 : decode cX0_readNumber 0 = .ok (.aload_n 0, 1) := by decide +kernel
theorem dX0_readNumber_1 : decode cX0_readNumber 1 = .ok (.invokevirtual 55, 3) := by decide +kernel
theorem dX0_readNumber_4 : decode cX0_readNumber 4 = .ok (.istore_n 3, 1) := by decide +kernel
theorem dX0_readNumber_5 : decode cX0_readNumber 5 = .ok (.iload_n 3, 1) := by decide +kernel
theorem dX0_readNumber_6 : decode cX0_readNumber 6 = .ok (.iload_n 1, 1) := by decide +kernel
theorem dX0_readNumber_7 : decode cX0_readNumber 7 = .ok (.if_icmp .lt 8, 3) := by decide +kernel
theorem dX0_readNumber_10 : decode cX0_readNumber 10 = .ok (.iload_n 3, 1) := by decide +kernel
theorem dX0_readNumber_11 : decode cX0_readNumber 11 = .ok (.iload_n 2, 1) := by decide +kernel
theorem dX0_readNumber_12 : decode cX0_readNumber 12 = .ok (.if_icmp .le 6, 3) := by decide +kernel
theorem dX0_readNumber_15 : decode cX0_readNumber 15 = .ok (.bipush (-6), 2) := by decide +kernel
theorem dX0_readNumber_17 : decode cX0_readNumber 17 = .ok (.ireturn, 1) := by decide +kernel
theorem dX0_readNumber_18 : decode cX0_readNumber 18 = .ok (.aload_n 0, 1) := by decide +kernel
theorem dX0_readNumber_19 : decode cX0_readNumber 19 = .ok (.dup, 1) := by decide +kernel
theorem dX0_readNumber_20 : decode cX0_readNumber 20 = .ok (.getfield 19, 3) := by decide +kernel
theorem dX0_readNumber_23 : decode cX0_readNumber 23 = .ok (.iconst 1, 1) := by decide +kernel
theorem dX0_readNumber_24 : decode cX0_readNumber 24 = .ok (.iadd, 1) := by decide +kernel
theorem dX0_readNumber_25 : decode cX0_readNumber 25 = .ok (.putfield 19, 3) := by decide +kernel
theorem dX0_readNumber_28 : decode cX0_readNumber 28 = .ok (.iconst 0, 1) := by decide +kernel
theorem dX0_readNumber_29 : decode cX0_readNumber 29 = .ok (.istore 4, 2) := by decide +kernel
theorem dX0_readNumber_31 : decode cX0_readNumber 31 = .ok (.iload 4, 2) := by decide +kernel
theorem dX0_readNumber_33 : decode cX0_readNumber 33 = .ok (.bipush 80, 2) := by decide +kernel
theorem dX0_readNumber_35 : decode cX0_readNumber 35 = .ok (.if_icmp .ge 55, 3) := by decide +kernel
theorem dX0_readNumber_38 : decode cX0_readNumber 38 = .ok (.iload_n 3, 1) := by decide +kernel
theorem dX0_readNumber_39 : decode cX0_readNumber 39 = .ok (.ifCond .le 51, 3) := by decide +kernel
theorem dX0_readNumber_42 : decode cX0_readNumber 42 = .ok (.aload_n 0, 1) := by decide +kernel
theorem dX0_readNumber_43 : decode cX0_readNumber 43 = .ok (.invokevirtual 55, 3) := by decide +kernel
theorem dX0_readNumber_46 : decode cX0_readNumber 46 = .ok (.istore 5, 2) := by decide +kernel
theorem dX0_readNumber_48 : decode cX0_readNumber 48 = .ok (.iload 5, 2) := by decide +kernel
theorem dX0_readNumber_50 : decode cX0_readNumber 50 = .ok (.ifCond .lt 14, 3) := by decide +kernel
theorem dX0_readNumber_53 : decode cX0_readNumber 53 = .ok (.iload_n 3, 1) := by decide +kernel
theorem dX0_readNumber_54 : decode cX0_readNumber 54 = .ok (.bipush 10, 2) := by decide +kernel
theorem dX0_readNumber_56 : decode cX0_readNumber 56 = .ok (.imul, 1) := by decide +kernel
theorem dX0_readNumber_57 : decode cX0_readNumber 57 = .ok (.iload 5, 2) := by decide +kernel
theorem dX0_readNumber_59 : decode cX0_readNumber 59 = .ok (.iadd, 1) := by decide +kernel
theorem dX0_readNumber_60 : decode cX0_readNumber 60 = .ok (.iload_n 2, 1) := by decide +kernel
theorem dX0_readNumber_61 : decode cX0_readNumber 61 = .ok (.if_icmp .le 5, 3) := by decide +kernel
theorem dX0_readNumber_64 : decode cX0_readNumber 64 = .ok (.iload_n 3, 1) := by decide +kernel
theorem dX0_readNumber_65 : decode cX0_readNumber 65 = .ok (.ireturn, 1) := by decide +kernel
theorem dX0_readNumber_66 : decode cX0_readNumber 66 = .ok (.iload_n 3, 1) := by decide +kernel
theorem dX0_readNumber_67 : decode cX0_readNumber 67 = .ok (.bipush 10, 2) := by decide +kernel
theorem dX0_readNumber_69 : decode cX0_readNumber 69 = .ok (.imul, 1) := by decide +kernel
theorem dX0_readNumber_70 : decode cX0_readNumber 70 = .ok (.iload 5, 2) := by decide +kernel
theorem dX0_readNumber_72 : decode cX0_readNumber 72 = .ok (.iadd, 1) := by decide +kernel
theorem dX0_readNumber_73 : decode cX0_readNumber 73 = .ok (.istore_n 3, 1) := by decide +kernel
theorem dX0_readNumber_74 : decode cX0_readNumber 74 = .ok (.aload_n 0, 1) := by decide +kernel
theorem dX0_readNumber_75 : decode cX0_readNumber 75 = .ok (.dup, 1) := by decide +kernel
theorem dX0_readNumber_76 : decode cX0_readNumber 76 = .ok (.getfield 19, 3) := by decide +kernel
theorem dX0_readNumber_79 : decode cX0_readNumber 79 = .ok (.iconst 1, 1) := by decide +kernel
theorem dX0_readNumber_80 : decode cX0_readNumber 80 = .ok (.iadd, 1) := by decide +kernel
theorem dX0_readNumber_81 : decode cX0_readNumber 81 = .ok (.putfield 19, 3) := by decide +kernel
theorem dX0_readNumber_84 : decode cX0_readNumber 84 = .ok (.iinc 4 1, 3) := by decide +kernel
theorem dX0_readNumber_87 : decode cX0_readNumber 87 = .ok (.goto (-56), 3) := by decide +kernel
theorem dX0_readNumber_90 : decode cX0_readNumber 90 = .ok (.iload_n 3, 1) := by decide +kernel
theorem dX0_readNumber_91 : decode cX0_readNumber 91 = .ok (.ireturn, 1) := by decide +kernel
theorem dX0_digitAt_0 : decode cX0_digitAt 0 = .ok (.aload_n 0, 1) := by decide +kernel
theorem dX0_digitAt_1 : decode cX0_digitAt 1 = .ok (.invokevirtual 30, 3) := by decide +kernel
theorem dX0_digitAt_4 : decode cX0_digitAt 4 = .ok (.istore_n 1, 1) := by decide +kernel
theorem dX0_digitAt_5 : decode cX0_digitAt 5 = .ok (.iload_n 1, 1) := by decide +kernel
theorem dX0_digitAt_6 : decode cX0_digitAt 6 = .ok (.bipush 48, 2) := by decide +kernel
theorem dX0_digitAt_8 : decode cX0_digitAt 8 = .ok (.if_icmp .lt 16, 3) := by decide +kernel
theorem dX0_digitAt_11 : decode cX0_digitAt 11 = .ok (.iload_n 1, 1) := by decide +kernel
theorem dX0_digitAt_12 : decode cX0_digitAt 12 = .ok (.bipush 57, 2) := by decide +kernel
theorem dX0_digitAt_14 : decode cX0_digitAt 14 = .ok (.if_icmp .gt 10, 3) := by decide +kernel
theorem dX0_digitAt_17 : decode cX0_digitAt 17 = .ok (.iload_n 1, 1) := by decide +kernel
theorem dX0_digitAt_18 : decode cX0_digitAt 18 = .ok (.bipush 48, 2) := by decide +kernel
theorem dX0_digitAt_20 : decode cX0_digitAt 20 = .ok (.isub, 1) := by decide +kernel
theorem dX0_digitAt_21 : decode cX0_digitAt 21 = .ok (.goto 5, 3) := by decide +kernel
theorem dX0_digitAt_24 : decode cX0_digitAt 24 = .ok (.bipush (-6), 2) := by decide +kernel
theorem dX0_digitAt_26 : decode cX0_digitAt 26 = .ok (.ireturn, 1) := by decide +kernel
theorem dX0_signAt_0 : decode cX0_signAt 0 = .ok (.aload_n 0, 1) := by decide +kernel
theorem dX0_signAt_1 : decode cX0_signAt 1 = .ok (.getfield 19, 3) := by decide +kernel
theorem dX0_signAt_4 : decode cX0_signAt 4 = .ok (.ifCond .lt 35, 3) := by decide +kernel
theorem dX0_signAt_7 : decode cX0_signAt 7 = .ok (.aload_n 0, 1) := by decide +kernel
theorem dX0_signAt_8 : decode cX0_signAt 8 = .ok (.getfield 19, 3) := by decide +kernel
theorem dX0_signAt_11 : decode cX0_signAt 11 = .ok (.aload_n 0, 1) := by decide +kernel
theorem dX0_signAt_12 : decode cX0_signAt 12 = .ok (.getfield 15, 3) := by decide +kernel
theorem dX0_signAt_15 : decode cX0_signAt 15 = .ok (.if_icmp .ge 24, 3) := by decide +kernel
theorem dX0_signAt_18 : decode cX0_signAt 18 = .ok (.aload_n 0, 1) := by decide +kernel
theorem dX0_signAt_19 : decode cX0_signAt 19 = .ok (.getfield 19, 3) := by decide +kernel
theorem dX0_signAt_22 : decode cX0_signAt 22 = .ok (.bipush 80, 2) := by decide +kernel
theorem dX0_signAt_24 : decode cX0_signAt 24 = .ok (.if_icmp .ge 15, 3) := by decide +kernel
theorem dX0_signAt_27 : decode cX0_signAt 27 = .ok (.aload_n 0, 1) := by decide +kernel
theorem dX0_signAt_28 : decode cX0_signAt 28 = .ok (.getfield 9, 3) := by decide +kernel
theorem dX0_signAt_31 : decode cX0_signAt 31 = .ok (.aload_n 0, 1) := by decide +kernel
theorem dX0_signAt_32 : decode cX0_signAt 32 = .ok (.getfield 19, 3) := by decide +kernel
theorem dX0_signAt_35 : decode cX0_signAt 35 = .ok (.caload, 1) := by decide +kernel
theorem dX0_signAt_36 : decode cX0_signAt 36 = .ok (.goto 5, 3) := by decide +kernel
theorem dX0_signAt_39 : decode cX0_signAt 39 = .ok (.bipush (-6), 2) := by decide +kernel
theorem dX0_signAt_41 : decode cX0_signAt 41 = .ok (.ireturn, 1) := by decide +kernel
theorem dX1_init_0 : decode cX1_init 0 = .ok (.aload_n 0, 1) := by decide +kernel
theorem dX1_init_1 : decode cX1_init 1 = .ok (.invokespecial 3, 3) := by decide +kernel
theorem dX1_init_4 : decode cX1_init 4 = .ok (.aload_n 0, 1) := by decide +kernel
theorem dX1_init_5 : decode cX1_init 5 = .ok (.bipush 12, 2) := by decide +kernel
theorem dX1_init_7 : decode cX1_init 7 = .ok (.anewarray 9, 3) := by decide +kernel
theorem dX1_init_10 : decode cX1_init 10 = .ok (.putfield 11, 3) := by decide +kernel
theorem dX1_init_13 : decode cX1_init 13 = .ok (.aload_n 0, 1) := by decide +kernel
theorem dX1_init_14 : decode cX1_init 14 = .ok (.sipush 240, 3) := by decide +kernel
theorem dX1_init_17 : decode cX1_init 17 = .ok (.newarray .boolean, 2) := by decide +kernel
theorem dX1_init_19 : decode cX1_init 19 = .ok (.putfield 17, 3) := by decide +kernel
theorem dX1_init_22 : decode cX1_init 22 = .ok (.aload_n 0, 1) := by decide +kernel
theorem dX1_init_23 : decode cX1_init 23 = .ok (.bipush 20, 2) := by decide +kernel
theorem dX1_init_25 : decode cX1_init 25 = .ok (.newarray .int, 2) := by decide +kernel
theorem dX1_init_27 : decode cX1_init 27 = .ok (.putfield 21, 3) := by decide +kernel
theorem dX1_init_30 : decode cX1_init 30 = .ok (.aload_n 0, 1) := by decide +kernel
theorem dX1_init_31 : decode cX1_init 31 = .ok (.iconst 2, 1) := by decide +kernel
theorem dX1_init_32 : decode cX1_init 32 = .ok (.newarray .int, 2) := by decide +kernel
theorem dX1_init_34 : decode cX1_init 34 = .ok (.putfield 25, 3) := by decide +kernel
theorem dX1_init_37 : decode cX1_init 37 = .ok (.aload_n 0, 1) := by decide +kernel
theorem dX1_init_38 : decode cX1_init 38 = .ok (.getfield 25, 3) := by decide +kernel
theorem dX1_init_41 : decode cX1_init 41 = .ok (.iconst 0, 1) := by decide +kernel
theorem dX1_init_42 : decode cX1_init 42 = .ok (.iconst 4, 1) := by decide +kernel
theorem dX1_init_43 : decode cX1_init 43 = .ok (.iastore, 1) := by decide +kernel
theorem dX1_init_44 : decode cX1_init 44 = .ok (.aload_n 0, 1) := by decide +kernel
theorem dX1_init_45 : decode cX1_init 45 = .ok (.getfield 25, 3) := by decide +kernel
theorem dX1_init_48 : decode cX1_init 48 = .ok (.iconst 1, 1) := by decide +kernel
theorem dX1_init_49 : decode cX1_init 49 = .ok (.iconst 3, 1) := by decide +kernel
theorem dX1_init_50 : decode cX1_init 50 = .ok (.iastore, 1) := by decide +kernel
theorem dX1_init_51 : decode cX1_init 51 = .ok (.iconst 0, 1) := by decide +kernel
theorem dX1_init_52 : decode cX1_init 52 = .ok (.istore_n 1, 1) := by decide +kernel
theorem dX1_init_53 : decode cX1_init 53 = .ok (.iload_n 1, 1) := by decide +kernel
theorem dX1_init_54 : decode cX1_init 54 = .ok (.bipush 12, 2) := by decide +kernel
theorem dX1_init_56 : decode cX1_init 56 = .ok (.if_icmp .ge 22, 3) := by decide +kernel
theorem dX1_init_59 : decode cX1_init 59 = .ok (.aload_n 0, 1) := by decide +kernel
theorem dX1_init_60 : decode cX1_init 60 = .ok (.getfield 11, 3) := by decide +kernel
theorem dX1_init_63 : decode cX1_init 63 = .ok (.iload_n 1, 1) := by decide +kernel
theorem dX1_init_64 : decode cX1_init 64 = .ok (.new 9, 3) := by decide +kernel
theorem dX1_init_67 : decode cX1_init 67 = .ok (.dup, 1) := by decide +kernel
theorem dX1_init_68 : decode cX1_init 68 = .ok (.invokespecial 28, 3) := by decide +kernel
theorem dX1_init_71 : decode cX1_init 71 = .ok (.aastore, 1) := by decide +kernel
theorem dX1_init_72 : decode cX1_init 72 = .ok (.iinc 1 1, 3) := by decide +kernel
theorem dX1_init_75 : decode cX1_init 75 = .ok (.goto (-22), 3) := by decide +kernel
theorem dX1_init_78 : decode cX1_init 78 = .ok (.return_, 1) := by decide +kernel
theorem dX1_copyAll_0 : decode cX1_copyAll 0 = .ok (.aload_n 0, 1) := by decide +kernel
theorem dX1_copyAll_1 : decode cX1_copyAll 1 = .ok (.aload_n 1, 1) := by decide +kernel
theorem dX1_copyAll_2 : decode cX1_copyAll 2 = .ok (.getfield 29, 3) := by decide +kernel
theorem dX1_copyAll_5 : decode cX1_copyAll 5 = .ok (.putfield 29, 3) := by decide +kernel
theorem dX1_copyAll_8 : decode cX1_copyAll 8 = .ok (.aload_n 0, 1) := by decide +kernel
theorem dX1_copyAll_9 : decode cX1_copyAll 9 = .ok (.aload_n 1, 1) := by decide +kernel
theorem dX1_copyAll_10 : decode cX1_copyAll 10 = .ok (.getfield 33, 3) := by decide +kernel
theorem dX1_copyAll_13 : decode cX1_copyAll 13 = .ok (.putfield 33, 3) := by decide +kernel
theorem dX1_copyAll_16 : decode cX1_copyAll 16 = .ok (.aload_n 0, 1) := by decide +kernel
theorem dX1_copyAll_17 : decode cX1_copyAll 17 = .ok (.aload_n 1, 1) := by decide +kernel
theorem dX1_copyAll_18 : decode cX1_copyAll 18 = .ok (.getfield 36, 3) := by decide +kernel
theorem dX1_copyAll_21 : decode cX1_copyAll 21 = .ok (.putfield 36, 3) := by decide +kernel
theorem dX1_copyAll_24 : decode cX1_copyAll 24 = .ok (.iconst 0, 1) := by decide +kernel
theorem dX1_copyAll_25 : decode cX1_copyAll 25 = .ok (.istore_n 2, 1) := by decide +kernel
theorem dX1_copyAll_26 : decode cX1_copyAll 26 = .ok (.iload_n 2, 1) := by decide +kernel
theorem dX1_copyAll_27 : decode cX1_copyAll 27 = .ok (.bipush 12, 2) := by decide +kernel
theorem dX1_copyAll_29 : decode cX1_copyAll 29 = .ok (.if_icmp .ge 32, 3) := by decide +kernel
theorem dX1_copyAll_32 : decode cX1_copyAll 32 = .ok (.iload_n 2, 1) := by decide +kernel
theorem dX1_copyAll_33 : decode cX1_copyAll 33 = .ok (.aload_n 0, 1) := by decide +kernel
theorem dX1_copyAll_34 : decode cX1_copyAll 34 = .ok (.getfield 29, 3) := by decide +kernel
theorem dX1_copyAll_37 : decode cX1_copyAll 37 = .ok (.if_icmp .ge 24, 3) := by decide +kernel
theorem dX1_copyAll_40 : decode cX1_copyAll 40 = .ok (.aload_n 0, 1) := by decide +kernel
theorem dX1_copyAll_41 : decode cX1_copyAll 41 = .ok (.getfield 11, 3) := by decide +kernel
theorem dX1_copyAll_44 : decode cX1_copyAll 44 = .ok (.iload_n 2, 1) := by decide +kernel
theorem dX1_copyAll_45 : decode cX1_copyAll 45 = .ok (.aaload, 1) := by decide +kernel
theorem dX1_copyAll_46 : decode cX1_copyAll 46 = .ok (.aload_n 1, 1) := by decide +kernel
theorem dX1_copyAll_47 : decode cX1_copyAll 47 = .ok (.getfield 11, 3) := by decide +kernel
theorem dX1_copyAll_50 : decode cX1_copyAll 50 = .ok (.iload_n 2, 1) := by decide +kernel
theorem dX1_copyAll_51 : decode cX1_copyAll 51 = .ok (.aaload, 1) := by decide +kernel
theorem dX1_copyAll_52 : decode cX1_copyAll 52 = .ok (.invokevirtual 39, 3) := by decide +kernel
theorem dX1_copyAll_55 : decode cX1_copyAll 55 = .ok (.iinc 2 1, 3) := by decide +kernel
theorem dX1_copyAll_58 : decode cX1_copyAll 58 = .ok (.goto (-32), 3) := by decide +kernel
theorem dX1_copyAll_61 : decode cX1_copyAll 61 = .ok (.iconst 0, 1) := by decide +kernel
theorem dX1_copyAll_62 : decode cX1_copyAll 62 = .ok (.istore_n 2, 1) := by decide +kernel
theorem dX1_copyAll_63 : decode cX1_copyAll 63 = .ok (.iload_n 2, 1) := by decide +kernel
theorem dX1_copyAll_64 : decode cX1_copyAll 64 = .ok (.sipush 240, 3) := by decide +kernel
theorem dX1_copyAll_67 : decode cX1_copyAll 67 = .ok (.if_icmp .ge 21, 3) := by decide +kernel
theorem dX1_copyAll_70 : decode cX1_copyAll 70 = .ok (.aload_n 0, 1) := by decide +kernel
theorem dX1_copyAll_71 : decode cX1_copyAll 71 = .ok (.getfield 17, 3) := by decide +kernel
theorem dX1_copyAll_74 : decode cX1_copyAll 74 = .ok (.iload_n 2, 1) := by decide +kernel
theorem dX1_copyAll_75 : decode cX1_copyAll 75 = .ok (.aload_n 1, 1) := by decide +kernel
theorem dX1_copyAll_76 : decode cX1_copyAll 76 = .ok (.getfield 17, 3) := by decide +kernel
theorem dX1_copyAll_79 : decode cX1_copyAll 79 = .ok (.iload_n 2, 1) := by decide +kernel
theorem dX1_copyAll_80 : decode cX1_copyAll 80 = .ok (.baload, 1) := by decide +kernel
theorem dX1_copyAll_81 : decode cX1_copyAll 81 = .ok (.bastore, 1) := by decide +kernel
theorem dX1_copyAll_82 : decode cX1_copyAll 82 = .ok (.iinc 2 1, 3) := by decide +kernel
theorem dX1_copyAll_85 : decode cX1_copyAll 85 = .ok (.goto (-22), 3) := by decide +kernel
theorem dX1_copyAll_88 : decode cX1_copyAll 88 = .ok (.iconst 0, 1) := by decide +kernel
theorem dX1_copyAll_89 : decode cX1_copyAll 89 = .ok (.istore_n 2, 1) := by decide +kernel
theorem dX1_copyAll_90 : decode cX1_copyAll 90 = .ok (.iload_n 2, 1) := by decide +kernel
theorem dX1_copyAll_91 : decode cX1_copyAll 91 = .ok (.bipush 20, 2) := by decide +kernel
theorem dX1_copyAll_93 : decode cX1_copyAll 93 = .ok (.if_icmp .ge 21, 3) := by decide +kernel
theorem dX1_copyAll_96 : decode cX1_copyAll 96 = .ok (.aload_n 0, 1) := by decide +kernel
theorem dX1_copyAll_97 : decode cX1_copyAll 97 = .ok (.getfield 21, 3) := by decide +kernel
theorem dX1_copyAll_100 : decode cX1_copyAll 100 = .ok (.iload_n 2, 1) := by decide +kernel
theorem dX1_copyAll_101 : decode cX1_copyAll 101 = .ok (.aload_n 1, 1) := by decide +kernel
theorem dX1_copyAll_102 : decode cX1_copyAll 102 = .ok (.getfield 21, 3) := by decide +kernel
theorem dX1_copyAll_105 : decode cX1_copyAll 105 = .ok (.iload_n 2, 1) := by decide +kernel
theorem dX1_copyAll_106 : decode cX1_copyAll 106 = .ok (.iaload, 1) := by decide +kernel
theorem dX1_copyAll_107 : decode cX1_copyAll 107 = .ok (.iastore, 1) := by decide +kernel
theorem dX1_copyAll_108 : decode cX1_copyAll 108 = .ok (.iinc 2 1, 3) := by decide +kernel
theorem dX1_copyAll_111 : decode cX1_copyAll 111 = .ok (.goto (-21), 3) := by decide +kernel
theorem dX1_copyAll_114 : decode cX1_copyAll 114 = .ok (.iconst 0, 1) := by decide +kernel
theorem dX1_copyAll_115 : decode cX1_copyAll 115 = .ok (.istore_n 2, 1) := by decide +kernel
theorem dX1_copyAll_116 : decode cX1_copyAll 116 = .ok (.iload_n 2, 1) := by decide +kernel
theorem dX1_copyAll_117 : decode cX1_copyAll 117 = .ok (.iconst 2, 1) := by decide +kernel
theorem dX1_copyAll_118 : decode cX1_copyAll 118 = .ok (.if_icmp .ge 21, 3) := by decide +kernel
theorem dX1_copyAll_121 : decode cX1_copyAll 121 = .ok (.aload_n 0, 1) := by decide +kernel
theorem dX1_copyAll_122 : decode cX1_copyAll 122 = .ok (.getfield 25, 3) := by decide +kernel
theorem dX1_copyAll_125 : decode cX1_copyAll 125 = .ok (.iload_n 2, 1) := by decide +kernel
theorem dX1_copyAll_126 : decode cX1_copyAll 126 = .ok (.aload_n 1, 1) := by decide +kernel
theorem dX1_copyAll_127 : decode cX1_copyAll 127 = .ok (.getfield 25, 3) := by decide +kernel
theorem dX1_copyAll_130 : decode cX1_copyAll 130 = .ok (.iload_n 2, 1) := by decide +kernel
theorem dX1_copyAll_131 : decode cX1_copyAll 131 = .ok (.iaload, 1) := by decide +kernel
theorem dX1_copyAll_132 : decode cX1_copyAll 132 = .ok (.iastore, 1) := by decide +kernel
theorem dX1_copyAll_133 : decode cX1_copyAll 133 = .ok (.iinc 2 1, 3) := by decide +kernel
theorem dX1_copyAll_136 : decode cX1_copyAll 136 = .ok (.goto (-20), 3) := by decide +kernel
theorem dX1_copyAll_139 : decode cX1_copyAll 139 = .ok (.return_, 1) := by decide +kernel
theorem dX1_beginSession_0 : decode cX1_beginSession 0 = .ok (.iload_n 1, 1) := by decide +kernel
theorem dX1_beginSession_1 : decode cX1_beginSession 1 = .ok (.ifCond .eq 11, 3) := by decide +kernel
theorem dX1_beginSession_4 : decode cX1_beginSession 4 = .ok (.iload_n 1, 1) := by decide +kernel
theorem dX1_beginSession_5 : decode cX1_beginSession 5 = .ok (.iconst 1, 1) := by decide +kernel
theorem dX1_beginSession_6 : decode cX1_beginSession 6 = .ok (.if_icmp .eq 6, 3) := by decide +kernel
theorem dX1_beginSession_9 : decode cX1_beginSession 9 = .ok (.bipush (-2), 2) := by decide +kernel
theorem dX1_beginSession_11 : decode cX1_beginSession 11 = .ok (.ireturn, 1) := by decide +kernel
theorem dX1_beginSession_12 : decode cX1_beginSession 12 = .ok (.aload_n 0, 1) := by decide +kernel
theorem dX1_beginSession_13 : decode cX1_beginSession 13 = .ok (.invokevirtual 43, 3) := by decide +kernel
theorem dX1_beginSession_16 : decode cX1_beginSession 16 = .ok (.ifnull 6, 3) := by decide +kernel
theorem dX1_beginSession_19 : decode cX1_beginSession 19 = .ok (.bipush (-5), 2) := by decide +kernel
theorem dX1_beginSession_21 : decode cX1_beginSession 21 = .ok (.ireturn, 1) := by decide +kernel
theorem dX1_beginSession_22 : decode cX1_beginSession 22 = .ok (.aload_n 0, 1) := by decide +kernel
theorem dX1_beginSession_23 : decode cX1_beginSession 23 = .ok (.getfield 25, 3) := by decide +kernel
theorem dX1_beginSession_26 : decode cX1_beginSession 26 = .ok (.iconst 0, 1) := by decide +kernel
theorem dX1_beginSession_27 : decode cX1_beginSession 27 = .ok (.iaload, 1) := by decide +kernel
theorem dX1_beginSession_28 : decode cX1_beginSession 28 = .ok (.aload_n 0, 1) := by decide +kernel
theorem dX1_beginSession_29 : decode cX1_beginSession 29 = .ok (.getfield 25, 3) := by decide +kernel
theorem dX1_beginSession_32 : decode cX1_beginSession 32 = .ok (.iconst 1, 1) := by decide +kernel
theorem dX1_beginSession_33 : decode cX1_beginSession 33 = .ok (.iaload, 1) := by decide +kernel
theorem dX1_beginSession_34 : decode cX1_beginSession 34 = .ok (.iadd, 1) := by decide +kernel
theorem dX1_beginSession_35 : decode cX1_beginSession 35 = .ok (.istore_n 2, 1) := by decide +kernel
theorem dX1_beginSession_36 : decode cX1_beginSession 36 = .ok (.aload_n 0, 1) := by decide +kernel
theorem dX1_beginSession_37 : decode cX1_beginSession 37 = .ok (.invokevirtual 47, 3) := by decide +kernel
theorem dX1_beginSession_40 : decode cX1_beginSession 40 = .ok (.astore_n 3, 1) := by decide +kernel
theorem dX1_beginSession_41 : decode cX1_beginSession 41 = .ok (.aload_n 3, 1) := by decide +kernel
theorem dX1_beginSession_42 : decode cX1_beginSession 42 = .ok (.ifnull 15, 3) := by decide +kernel
theorem dX1_beginSession_45 : decode cX1_beginSession 45 = .ok (.aload_n 0, 1) := by decide +kernel
theorem dX1_beginSession_46 : decode cX1_beginSession 46 = .ok (.getfield 33, 3) := by decide +kernel
theorem dX1_beginSession_49 : decode cX1_beginSession 49 = .ok (.iload_n 2, 1) := by decide +kernel
theorem dX1_beginSession_50 : decode cX1_beginSession 50 = .ok (.iadd, 1) := by decide +kernel
theorem dX1_beginSession_51 : decode cX1_beginSession 51 = .ok (.sipush 240, 3) := by decide +kernel
theorem dX1_beginSession_54 : decode cX1_beginSession 54 = .ok (.if_icmp .le 6, 3) := by decide +kernel
theorem dX1_beginSession_57 : decode cX1_beginSession 57 = .ok (.bipush (-4), 2) := by decide +kernel
theorem dX1_beginSession_59 : decode cX1_beginSession 59 = .ok (.ireturn, 1) := by decide +kernel
theorem dX1_beginSession_60 : decode cX1_beginSession 60 = .ok (.aload_n 0, 1) := by decide +kernel
theorem dX1_beginSession_61 : decode cX1_beginSession 61 = .ok (.aload_n 0, 1) := by decide +kernel
theorem dX1_beginSession_62 : decode cX1_beginSession 62 = .ok (.iconst (-1), 1) := by decide +kernel
theorem dX1_beginSession_63 : decode cX1_beginSession 63 = .ok (.invokevirtual 50, 3) := by decide +kernel
theorem dX1_beginSession_66 : decode cX1_beginSession 66 = .ok (.invokevirtual 54, 3) := by decide +kernel
theorem dX1_beginSession_69 : decode cX1_beginSession 69 = .ok (.astore 4, 2) := by decide +kernel
theorem dX1_beginSession_71 : decode cX1_beginSession 71 = .ok (.aload_n 3, 1) := by decide +kernel
theorem dX1_beginSession_72 : decode cX1_beginSession 72 = .ok (.aload_n 0, 1) := by decide +kernel
theorem dX1_beginSession_73 : decode cX1_beginSession 73 = .ok (.getfield 33, 3) := by decide +kernel
theorem dX1_beginSession_76 : decode cX1_beginSession 76 = .ok (.aload_n 0, 1) := by decide +kernel
theorem dX1_beginSession_77 : decode cX1_beginSession 77 = .ok (.getfield 25, 3) := by decide +kernel
theorem dX1_beginSession_80 : decode cX1_beginSession 80 = .ok (.iconst 0, 1) := by decide +kernel
theorem dX1_beginSession_81 : decode cX1_beginSession 81 = .ok (.iaload, 1) := by decide +kernel
theorem dX1_beginSession_82 : decode cX1_beginSession 82 = .ok (.aload_n 0, 1) := by decide +kernel
theorem dX1_beginSession_83 : decode cX1_beginSession 83 = .ok (.getfield 25, 3) := by decide +kernel
theorem dX1_beginSession_86 : decode cX1_beginSession 86 = .ok (.iconst 1, 1) := by decide +kernel
theorem dX1_beginSession_87 : decode cX1_beginSession 87 = .ok (.iaload, 1) := by decide +kernel
theorem dX1_beginSession_88 : decode cX1_beginSession 88 = .ok (.invokevirtual 58, 3) := by decide +kernel
theorem dX1_beginSession_91 : decode cX1_beginSession 91 = .ok (.iload_n 1, 1) := by decide +kernel
theorem dX1_beginSession_92 : decode cX1_beginSession 92 = .ok (.iconst 1, 1) := by decide +kernel
theorem dX1_beginSession_93 : decode cX1_beginSession 93 = .ok (.if_icmp .ne 14, 3) := by decide +kernel
theorem dX1_beginSession_96 : decode cX1_beginSession 96 = .ok (.aload 4, 2) := by decide +kernel
theorem dX1_beginSession_98 : decode cX1_beginSession 98 = .ok (.ifnull 9, 3) := by decide +kernel
theorem dX1_beginSession_101 : decode cX1_beginSession 101 = .ok (.aload_n 3, 1) := by decide +kernel
theorem dX1_beginSession_102 : decode cX1_beginSession 102 = .ok (.aload 4, 2) := by decide +kernel
theorem dX1_beginSession_104 : decode cX1_beginSession 104 = .ok (.invokevirtual 62, 3) := by decide +kernel
theorem dX1_beginSession_107 : decode cX1_beginSession 107 = .ok (.aload_n 0, 1) := by decide +kernel
theorem dX1_beginSession_108 : decode cX1_beginSession 108 = .ok (.aload_n 3, 1) := by decide +kernel
theorem dX1_beginSession_109 : decode cX1_beginSession 109 = .ok (.getfield 65, 3) := by decide +kernel
theorem dX1_beginSession_112 : decode cX1_beginSession 112 = .ok (.putfield 33, 3) := by decide +kernel
theorem dX1_beginSession_115 : decode cX1_beginSession 115 = .ok (.aload_n 0, 1) := by decide +kernel
theorem dX1_beginSession_116 : decode cX1_beginSession 116 = .ok (.dup, 1) := by decide +kernel
theorem dX1_beginSession_117 : decode cX1_beginSession 117 = .ok (.getfield 29, 3) := by decide +kernel
theorem dX1_beginSession_120 : decode cX1_beginSession 120 = .ok (.iconst 1, 1) := by decide +kernel
theorem dX1_beginSession_121 : decode cX1_beginSession 121 = .ok (.iadd, 1) := by decide +kernel
theorem dX1_beginSession_122 : decode cX1_beginSession 122 = .ok (.putfield 29, 3) := by decide +kernel
theorem dX1_beginSession_125 : decode cX1_beginSession 125 = .ok (.aload_n 0, 1) := by decide +kernel
theorem dX1_beginSession_126 : decode cX1_beginSession 126 = .ok (.getfield 29, 3) := by decide +kernel
theorem dX1_beginSession_129 : decode cX1_beginSession 129 = .ok (.iconst 1, 1) := by decide +kernel
theorem dX1_beginSession_130 : decode cX1_beginSession 130 = .ok (.isub, 1) := by decide +kernel
theorem dX1_beginSession_131 : decode cX1_beginSession 131 = .ok (.ireturn, 1) := by decide +kernel
theorem dX1_writeFile_0 : decode cX1_writeFile 0 = .ok (.iload_n 1, 1) := by decide +kernel
theorem dX1_writeFile_1 : decode cX1_writeFile 1 = .ok (.invokestatic 68, 3) := by decide +kernel
theorem dX1_writeFile_4 : decode cX1_writeFile 4 = .ok (.ifCond .ne 5, 3) := by decide +kernel
theorem dX1_writeFile_7 : decode cX1_writeFile 7 = .ok (.iconst (-1), 1) := by decide +kernel
theorem dX1_writeFile_8 : decode cX1_writeFile 8 = .ok (.ireturn, 1) := by decide +kernel
theorem dX1_writeFile_9 : decode cX1_writeFile 9 = .ok (.iload_n 2, 1) := by decide +kernel
theorem dX1_writeFile_10 : decode cX1_writeFile 10 = .ok (.invokestatic 72, 3) := by decide +kernel
theorem dX1_writeFile_13 : decode cX1_writeFile 13 = .ok (.ifCond .ne 6, 3) := by decide +kernel
theorem dX1_writeFile_16 : decode cX1_writeFile 16 = .ok (.bipush (-2), 2) := by decide +kernel
theorem dX1_writeFile_18 : decode cX1_writeFile 18 = .ok (.ireturn, 1) := by decide +kernel
theorem dX1_writeFile_19 : decode cX1_writeFile 19 = .ok (.aload_n 0, 1) := by decide +kernel
theorem dX1_writeFile_20 : decode cX1_writeFile 20 = .ok (.invokevirtual 43, 3) := by decide +kernel
theorem dX1_writeFile_23 : decode cX1_writeFile 23 = .ok (.astore_n 3, 1) := by decide +kernel
theorem dX1_writeFile_24 : decode cX1_writeFile 24 = .ok (.aload_n 3, 1) := by decide +kernel
theorem dX1_writeFile_25 : decode cX1_writeFile 25 = .ok (.ifnonnull 6, 3) := by decide +kernel
theorem dX1_writeFile_28 : decode cX1_writeFile 28 = .ok (.bipush (-5), 2) := by decide +kernel
theorem dX1_writeFile_30 : decode cX1_writeFile 30 = .ok (.ireturn, 1) := by decide +kernel
theorem dX1_writeFile_31 : decode cX1_writeFile 31 = .ok (.iload_n 2, 1) := by decide +kernel
theorem dX1_writeFile_32 : decode cX1_writeFile 32 = .ok (.aload_n 0, 1) := by decide +kernel
theorem dX1_writeFile_33 : decode cX1_writeFile 33 = .ok (.invokevirtual 75, 3) := by decide +kernel
theorem dX1_writeFile_36 : decode cX1_writeFile 36 = .ok (.if_icmp .le 6, 3) := by decide +kernel
theorem dX1_writeFile_39 : decode cX1_writeFile 39 = .ok (.bipush (-4), 2) := by decide +kernel
theorem dX1_writeFile_41 : decode cX1_writeFile 41 = .ok (.ireturn, 1) := by decide +kernel
theorem dX1_writeFile_42 : decode cX1_writeFile 42 = .ok (.new 79, 3) := by decide +kernel
theorem dX1_writeFile_45 : decode cX1_writeFile 45 = .ok (.dup, 1) := by decide +kernel
theorem dX1_writeFile_46 : decode cX1_writeFile 46 = .ok (.aload_n 0, 1) := by decide +kernel
theorem dX1_writeFile_47 : decode cX1_writeFile 47 = .ok (.getfield 33, 3) := by decide +kernel
theorem dX1_writeFile_50 : decode cX1_writeFile 50 = .ok (.iload_n 2, 1) := by decide +kernel
theorem dX1_writeFile_51 : decode cX1_writeFile 51 = .ok (.aload_n 0, 1) := by decide +kernel
theorem dX1_writeFile_52 : decode cX1_writeFile 52 = .ok (.getfield 29, 3) := by decide +kernel
theorem dX1_writeFile_55 : decode cX1_writeFile 55 = .ok (.iconst 1, 1) := by decide +kernel
theorem dX1_writeFile_56 : decode cX1_writeFile 56 = .ok (.isub, 1) := by decide +kernel
theorem dX1_writeFile_57 : decode cX1_writeFile 57 = .ok (.invokespecial 81, 3) := by decide +kernel
theorem dX1_writeFile_60 : decode cX1_writeFile 60 = .ok (.astore 4, 2) := by decide +kernel
theorem dX1_writeFile_62 : decode cX1_writeFile 62 = .ok (.aload_n 3, 1) := by decide +kernel
theorem dX1_writeFile_63 : decode cX1_writeFile 63 = .ok (.iload_n 1, 1) := by decide +kernel
theorem dX1_writeFile_64 : decode cX1_writeFile 64 = .ok (.aload 4, 2) := by decide +kernel
theorem dX1_writeFile_66 : decode cX1_writeFile 66 = .ok (.invokevirtual 83, 3) := by decide +kernel
theorem dX1_writeFile_69 : decode cX1_writeFile 69 = .ok (.aload_n 3, 1) := by decide +kernel
theorem dX1_writeFile_70 : decode cX1_writeFile 70 = .ok (.dup, 1) := by decide +kernel
theorem dX1_writeFile_71 : decode cX1_writeFile 71 = .ok (.getfield 87, 3) := by decide +kernel
theorem dX1_writeFile_74 : decode cX1_writeFile 74 = .ok (.iconst 1, 1) := by decide +kernel
theorem dX1_writeFile_75 : decode cX1_writeFile 75 = .ok (.iadd, 1) := by decide +kernel
theorem dX1_writeFile_76 : decode cX1_writeFile 76 = .ok (.putfield 87, 3) := by decide +kernel
theorem dX1_writeFile_79 : decode cX1_writeFile 79 = .ok (.aload_n 0, 1) := by decide +kernel
theorem dX1_writeFile_80 : decode cX1_writeFile 80 = .ok (.getfield 21, 3) := by decide +kernel
theorem dX1_writeFile_83 : decode cX1_writeFile 83 = .ok (.iload_n 1, 1) := by decide +kernel
theorem dX1_writeFile_84 : decode cX1_writeFile 84 = .ok (.dup2, 1) := by decide +kernel
theorem dX1_writeFile_85 : decode cX1_writeFile 85 = .ok (.iaload, 1) := by decide +kernel
theorem dX1_writeFile_86 : decode cX1_writeFile 86 = .ok (.iconst 1, 1) := by decide +kernel
theorem dX1_writeFile_87 : decode cX1_writeFile 87 = .ok (.iadd, 1) := by decide +kernel
theorem dX1_writeFile_88 : decode cX1_writeFile 88 = .ok (.iastore, 1) := by decide +kernel
theorem dX1_writeFile_89 : decode cX1_writeFile 89 = .ok (.aload_n 0, 1) := by decide +kernel
theorem dX1_writeFile_90 : decode cX1_writeFile 90 = .ok (.dup, 1) := by decide +kernel
theorem dX1_writeFile_91 : decode cX1_writeFile 91 = .ok (.getfield 33, 3) := by decide +kernel
theorem dX1_writeFile_94 : decode cX1_writeFile 94 = .ok (.iload_n 2, 1) := by decide +kernel
theorem dX1_writeFile_95 : decode cX1_writeFile 95 = .ok (.iadd, 1) := by decide +kernel
theorem dX1_writeFile_96 : decode cX1_writeFile 96 = .ok (.putfield 33, 3) := by decide +kernel
theorem dX1_writeFile_99 : decode cX1_writeFile 99 = .ok (.aload_n 3, 1) := by decide +kernel
theorem dX1_writeFile_100 : decode cX1_writeFile 100 = .ok (.aload_n 0, 1) := by decide +kernel
theorem dX1_writeFile_101 : decode cX1_writeFile 101 = .ok (.getfield 33, 3) := by decide +kernel
theorem dX1_writeFile_104 : decode cX1_writeFile 104 = .ok (.putfield 65, 3) := by decide +kernel
theorem dX1_writeFile_107 : decode cX1_writeFile 107 = .ok (.aload 4, 2) := by decide +kernel
theorem dX1_writeFile_109 : decode cX1_writeFile 109 = .ok (.getfield 90, 3) := by decide +kernel
theorem dX1_writeFile_112 : decode cX1_writeFile 112 = .ok (.ireturn, 1) := by decide +kernel
theorem dX1_removeEntry_0 : decode cX1_removeEntry 0 = .ok (.iload_n 1, 1) := by decide +kernel
theorem dX1_removeEntry_1 : decode cX1_removeEntry 1 = .ok (.invokestatic 68, 3) := by decide +kernel
theorem dX1_removeEntry_4 : decode cX1_removeEntry 4 = .ok (.ifCond .ne 5, 3) := by decide +kernel
theorem dX1_removeEntry_7 : decode cX1_removeEntry 7 = .ok (.iconst (-1), 1) := by decide +kernel
theorem dX1_removeEntry_8 : decode cX1_removeEntry 8 = .ok (.ireturn, 1) := by decide +kernel
theorem dX1_removeEntry_9 : decode cX1_removeEntry 9 = .ok (.aload_n 0, 1) := by decide +kernel
theorem dX1_removeEntry_10 : decode cX1_removeEntry 10 = .ok (.invokevirtual 43, 3) := by decide +kernel
theorem dX1_removeEntry_13 : decode cX1_removeEntry 13 = .ok (.astore_n 2, 1) := by decide +kernel
theorem dX1_removeEntry_14 : decode cX1_removeEntry 14 = .ok (.aload_n 2, 1) := by decide +kernel
theorem dX1_removeEntry_15 : decode cX1_removeEntry 15 = .ok (.ifnull 11, 3) := by decide +kernel
theorem dX1_removeEntry_18 : decode cX1_removeEntry 18 = .ok (.aload_n 2, 1) := by decide +kernel
theorem dX1_removeEntry_19 : decode cX1_removeEntry 19 = .ok (.iload_n 1, 1) := by decide +kernel
theorem dX1_removeEntry_20 : decode cX1_removeEntry 20 = .ok (.invokevirtual 93, 3) := by decide +kernel
theorem dX1_removeEntry_23 : decode cX1_removeEntry 23 = .ok (.ifnonnull 6, 3) := by decide +kernel
theorem dX1_removeEntry_26 : decode cX1_removeEntry 26 = .ok (.bipush (-5), 2) := by decide +kernel
theorem dX1_removeEntry_28 : decode cX1_removeEntry 28 = .ok (.ireturn, 1) := by decide +kernel
theorem dX1_removeEntry_29 : decode cX1_removeEntry 29 = .ok (.aload_n 2, 1) := by decide +kernel
theorem dX1_removeEntry_30 : decode cX1_removeEntry 30 = .ok (.iload_n 1, 1) := by decide +kernel
theorem dX1_removeEntry_31 : decode cX1_removeEntry 31 = .ok (.aconst_null, 1) := by decide +kernel
theorem dX1_removeEntry_32 : decode cX1_removeEntry 32 = .ok (.invokevirtual 83, 3) := by decide +kernel
theorem dX1_removeEntry_35 : decode cX1_removeEntry 35 = .ok (.aload_n 2, 1) := by decide +kernel
theorem dX1_removeEntry_36 : decode cX1_removeEntry 36 = .ok (.invokevirtual 97, 3) := by decide +kernel
theorem dX1_removeEntry_39 : decode cX1_removeEntry 39 = .ok (.ireturn, 1) := by decide +kernel
theorem dX1_keepEntry_0 : decode cX1_keepEntry 0 = .ok (.aload_n 0, 1) := by decide +kernel
theorem dX1_keepEntry_1 : decode cX1_keepEntry 1 = .ok (.iload_n 2, 1) := by decide +kernel
theorem dX1_keepEntry_2 : decode cX1_keepEntry 2 = .ok (.invokevirtual 54, 3) := by decide +kernel
theorem dX1_keepEntry_5 : decode cX1_keepEntry 5 = .ok (.astore_n 3, 1) := by decide +kernel
theorem dX1_keepEntry_6 : decode cX1_keepEntry 6 = .ok (.iload_n 1, 1) := by decide +kernel
theorem dX1_keepEntry_7 : decode cX1_keepEntry 7 = .ok (.invokestatic 68, 3) := by decide +kernel
theorem dX1_keepEntry_10 : decode cX1_keepEntry 10 = .ok (.ifCond .eq 7, 3) := by decide +kernel
theorem dX1_keepEntry_13 : decode cX1_keepEntry 13 = .ok (.aload_n 3, 1) := by decide +kernel
theorem dX1_keepEntry_14 : decode cX1_keepEntry 14 = .ok (.ifnonnull 5, 3) := by decide +kernel
theorem dX1_keepEntry_17 : decode cX1_keepEntry 17 = .ok (.iconst (-1), 1) := by decide +kernel
theorem dX1_keepEntry_18 : decode cX1_keepEntry 18 = .ok (.ireturn, 1) := by decide +kernel
theorem dX1_keepEntry_19 : decode cX1_keepEntry 19 = .ok (.aload_n 0, 1) := by decide +kernel
theorem dX1_keepEntry_20 : decode cX1_keepEntry 20 = .ok (.invokevirtual 43, 3) := by decide +kernel
theorem dX1_keepEntry_23 : decode cX1_keepEntry 23 = .ok (.astore 4, 2) := by decide +kernel
theorem dX1_keepEntry_25 : decode cX1_keepEntry 25 = .ok (.aload 4, 2) := by decide +kernel
theorem dX1_keepEntry_27 : decode cX1_keepEntry 27 = .ok (.ifnull 12, 3) := by decide +kernel
theorem dX1_keepEntry_30 : decode cX1_keepEntry 30 = .ok (.aload_n 0, 1) := by decide +kernel
theorem dX1_keepEntry_31 : decode cX1_keepEntry 31 = .ok (.aload_n 3, 1) := by decide +kernel
theorem dX1_keepEntry_32 : decode cX1_keepEntry 32 = .ok (.iconst (-1), 1) := by decide +kernel
theorem dX1_keepEntry_33 : decode cX1_keepEntry 33 = .ok (.invokevirtual 100, 3) := by decide +kernel
theorem dX1_keepEntry_36 : decode cX1_keepEntry 36 = .ok (.ifCond .ne 6, 3) := by decide +kernel
theorem dX1_keepEntry_39 : decode cX1_keepEntry 39 = .ok (.bipush (-5), 2) := by decide +kernel
theorem dX1_keepEntry_41 : decode cX1_keepEntry 41 = .ok (.ireturn, 1) := by decide +kernel
theorem dX1_keepEntry_42 : decode cX1_keepEntry 42 = .ok (.aload_n 3, 1) := by decide +kernel
theorem dX1_keepEntry_43 : decode cX1_keepEntry 43 = .ok (.iload_n 1, 1) := by decide +kernel
theorem dX1_keepEntry_44 : decode cX1_keepEntry 44 = .ok (.invokevirtual 93, 3) := by decide +kernel
theorem dX1_keepEntry_47 : decode cX1_keepEntry 47 = .ok (.astore 5, 2) := by decide +kernel
theorem dX1_keepEntry_49 : decode cX1_keepEntry 49 = .ok (.aload 5, 2) := by decide +kernel
theorem dX1_keepEntry_51 : decode cX1_keepEntry 51 = .ok (.ifnonnull 6, 3) := by decide +kernel
theorem dX1_keepEntry_54 : decode cX1_keepEntry 54 = .ok (.bipush (-5), 2) := by decide +kernel
theorem dX1_keepEntry_56 : decode cX1_keepEntry 56 = .ok (.ireturn, 1) := by decide +kernel
theorem dX1_keepEntry_57 : decode cX1_keepEntry 57 = .ok (.aload 4, 2) := by decide +kernel
theorem dX1_keepEntry_59 : decode cX1_keepEntry 59 = .ok (.iload_n 1, 1) := by decide +kernel
theorem dX1_keepEntry_60 : decode cX1_keepEntry 60 = .ok (.aload 5, 2) := by decide +kernel
theorem dX1_keepEntry_62 : decode cX1_keepEntry 62 = .ok (.invokevirtual 83, 3) := by decide +kernel
theorem dX1_keepEntry_65 : decode cX1_keepEntry 65 = .ok (.aload 5, 2) := by decide +kernel
theorem dX1_keepEntry_67 : decode cX1_keepEntry 67 = .ok (.getfield 90, 3) := by decide +kernel
theorem dX1_keepEntry_70 : decode cX1_keepEntry 70 = .ok (.ireturn, 1) := by decide +kernel
theorem dX1_closeSession_0 : decode cX1_closeSession 0 = .ok (.aload_n 0, 1) := by decide +kernel
theorem dX1_closeSession_1 : decode cX1_closeSession 1 = .ok (.invokevirtual 43, 3) := by decide +kernel
theorem dX1_closeSession_4 : decode cX1_closeSession 4 = .ok (.astore_n 1, 1) := by decide +kernel
theorem dX1_closeSession_5 : decode cX1_closeSession 5 = .ok (.aload_n 1, 1) := by decide +kernel
theorem dX1_closeSession_6 : decode cX1_closeSession 6 = .ok (.ifnonnull 8, 3) := by decide +kernel
theorem dX1_closeSession_9 : decode cX1_closeSession 9 = .ok (.bipush (-5), 2) := by decide +kernel
theorem dX1_closeSession_11 : decode cX1_closeSession 11 = .ok (.goto 8, 3) := by decide +kernel
theorem dX1_closeSession_14 : decode cX1_closeSession 14 = .ok (.aload_n 0, 1) := by decide +kernel
theorem dX1_closeSession_15 : decode cX1_closeSession 15 = .ok (.aload_n 1, 1) := by decide +kernel
theorem dX1_closeSession_16 : decode cX1_closeSession 16 = .ok (.invokevirtual 104, 3) := by decide +kernel
theorem dX1_closeSession_19 : decode cX1_closeSession 19 = .ok (.ireturn, 1) := by decide +kernel
theorem dX1_breakSession_0 : decode cX1_breakSession 0 = .ok (.aload_n 0, 1) := by decide +kernel
theorem dX1_breakSession_1 : decode cX1_breakSession 1 = .ok (.invokevirtual 43, 3) := by decide +kernel
theorem dX1_breakSession_4 : decode cX1_breakSession 4 = .ok (.astore_n 1, 1) := by decide +kernel
theorem dX1_breakSession_5 : decode cX1_breakSession 5 = .ok (.aload_n 1, 1) := by decide +kernel
theorem dX1_breakSession_6 : decode cX1_breakSession 6 = .ok (.ifnonnull 5, 3) := by decide +kernel
theorem dX1_breakSession_9 : decode cX1_breakSession 9 = .ok (.iconst 0, 1) := by decide +kernel
theorem dX1_breakSession_10 : decode cX1_breakSession 10 = .ok (.ireturn, 1) := by decide +kernel
theorem dX1_breakSession_11 : decode cX1_breakSession 11 = .ok (.aload_n 1, 1) := by decide +kernel
theorem dX1_breakSession_12 : decode cX1_breakSession 12 = .ok (.iconst 2, 1) := by decide +kernel
theorem dX1_breakSession_13 : decode cX1_breakSession 13 = .ok (.putfield 108, 3) := by decide +kernel
theorem dX1_breakSession_16 : decode cX1_breakSession 16 = .ok (.iconst 1, 1) := by decide +kernel
theorem dX1_breakSession_17 : decode cX1_breakSession 17 = .ok (.ireturn, 1) := by decide +kernel
theorem dX1_repairSession_0 : decode cX1_repairSession 0 = .ok (.aload_n 0, 1) := by decide +kernel
theorem dX1_repairSession_1 : decode cX1_repairSession 1 = .ok (.iload_n 1, 1) := by decide +kernel
theorem dX1_repairSession_2 : decode cX1_repairSession 2 = .ok (.invokevirtual 54, 3) := by decide +kernel
theorem dX1_repairSession_5 : decode cX1_repairSession 5 = .ok (.astore_n 2, 1) := by decide +kernel
theorem dX1_repairSession_6 : decode cX1_repairSession 6 = .ok (.aload_n 2, 1) := by decide +kernel
theorem dX1_repairSession_7 : decode cX1_repairSession 7 = .ok (.ifnonnull 5, 3) := by decide +kernel
theorem dX1_repairSession_10 : decode cX1_repairSession 10 = .ok (.iconst (-1), 1) := by decide +kernel
theorem dX1_repairSession_11 : decode cX1_repairSession 11 = .ok (.ireturn, 1) := by decide +kernel
theorem dX1_repairSession_12 : decode cX1_repairSession 12 = .ok (.iload_n 1, 1) := by decide +kernel
theorem dX1_repairSession_13 : decode cX1_repairSession 13 = .ok (.aload_n 0, 1) := by decide +kernel
theorem dX1_repairSession_14 : decode cX1_repairSession 14 = .ok (.getfield 29, 3) := by decide +kernel
theorem dX1_repairSession_17 : decode cX1_repairSession 17 = .ok (.iconst 1, 1) := by decide +kernel
theorem dX1_repairSession_18 : decode cX1_repairSession 18 = .ok (.isub, 1) := by decide +kernel
theorem dX1_repairSession_19 : decode cX1_repairSession 19 = .ok (.if_icmp .ne 7, 3) := by decide +kernel
theorem dX1_repairSession_22 : decode cX1_repairSession 22 = .ok (.iconst 1, 1) := by decide +kernel
theorem dX1_repairSession_23 : decode cX1_repairSession 23 = .ok (.goto 4, 3) := by decide +kernel
theorem dX1_repairSession_26 : decode cX1_repairSession 26 = .ok (.iconst 0, 1) := by decide +kernel
theorem dX1_repairSession_27 : decode cX1_repairSession 27 = .ok (.istore_n 3, 1) := by decide +kernel
theorem dX1_repairSession_28 : decode cX1_repairSession 28 = .ok (.aload_n 2, 1) := by decide +kernel
theorem dX1_repairSession_29 : decode cX1_repairSession 29 = .ok (.getfield 108, 3) := by decide +kernel
theorem dX1_repairSession_32 : decode cX1_repairSession 32 = .ok (.iconst 2, 1) := by decide +kernel
theorem dX1_repairSession_33 : decode cX1_repairSession 33 = .ok (.if_icmp .ne 23, 3) := by decide +kernel
theorem dX1_repairSession_36 : decode cX1_repairSession 36 = .ok (.iload_n 3, 1) := by decide +kernel
theorem dX1_repairSession_37 : decode cX1_repairSession 37 = .ok (.ifCond .eq 19, 3) := by decide +kernel
theorem dX1_repairSession_40 : decode cX1_repairSession 40 = .ok (.aload_n 0, 1) := by decide +kernel
theorem dX1_repairSession_41 : decode cX1_repairSession 41 = .ok (.aload_n 2, 1) := by decide +kernel
theorem dX1_repairSession_42 : decode cX1_repairSession 42 = .ok (.getfield 111, 3) := by decide +kernel
theorem dX1_repairSession_45 : decode cX1_repairSession 45 = .ok (.aload_n 2, 1) := by decide +kernel
theorem dX1_repairSession_46 : decode cX1_repairSession 46 = .ok (.getfield 112, 3) := by decide +kernel
theorem dX1_repairSession_49 : decode cX1_repairSession 49 = .ok (.iconst (-1), 1) := by decide +kernel
theorem dX1_repairSession_50 : decode cX1_repairSession 50 = .ok (.invokevirtual 115, 3) := by decide +kernel
theorem dX1_repairSession_53 : decode cX1_repairSession 53 = .ok (.ifCond .ne 6, 3) := by decide +kernel
theorem dX1_repairSession_56 : decode cX1_repairSession 56 = .ok (.bipush (-5), 2) := by decide +kernel
theorem dX1_repairSession_58 : decode cX1_repairSession 58 = .ok (.ireturn, 1) := by decide +kernel
theorem dX1_repairSession_59 : decode cX1_repairSession 59 = .ok (.aload_n 0, 1) := by decide +kernel
theorem dX1_repairSession_60 : decode cX1_repairSession 60 = .ok (.aload_n 2, 1) := by decide +kernel
theorem dX1_repairSession_61 : decode cX1_repairSession 61 = .ok (.invokevirtual 104, 3) := by decide +kernel
theorem dX1_repairSession_64 : decode cX1_repairSession 64 = .ok (.ireturn, 1) := by decide +kernel
theorem dX1_damageSector_0 : decode cX1_damageSector 0 = .ok (.iload_n 1, 1) := by decide +kernel
theorem dX1_damageSector_1 : decode cX1_damageSector 1 = .ok (.invokestatic 119, 3) := by decide +kernel
theorem dX1_damageSector_4 : decode cX1_damageSector 4 = .ok (.ifCond .ne 5, 3) := by decide +kernel
theorem dX1_damageSector_7 : decode cX1_damageSector 7 = .ok (.iconst (-1), 1) := by decide +kernel
theorem dX1_damageSector_8 : decode cX1_damageSector 8 = .ok (.ireturn, 1) := by decide +kernel
theorem dX1_damageSector_9 : decode cX1_damageSector 9 = .ok (.aload_n 0, 1) := by decide +kernel
theorem dX1_damageSector_10 : decode cX1_damageSector 10 = .ok (.getfield 17, 3) := by decide +kernel
theorem dX1_damageSector_13 : decode cX1_damageSector 13 = .ok (.iload_n 1, 1) := by decide +kernel
theorem dX1_damageSector_14 : decode cX1_damageSector 14 = .ok (.baload, 1) := by decide +kernel
theorem dX1_damageSector_15 : decode cX1_damageSector 15 = .ok (.ifCond .ne 20, 3) := by decide +kernel
theorem dX1_damageSector_18 : decode cX1_damageSector 18 = .ok (.aload_n 0, 1) := by decide +kernel
theorem dX1_damageSector_19 : decode cX1_damageSector 19 = .ok (.getfield 17, 3) := by decide +kernel
theorem dX1_damageSector_22 : decode cX1_damageSector 22 = .ok (.iload_n 1, 1) := by decide +kernel
theorem dX1_damageSector_23 : decode cX1_damageSector 23 = .ok (.iconst 1, 1) := by decide +kernel
theorem dX1_damageSector_24 : decode cX1_damageSector 24 = .ok (.bastore, 1) := by decide +kernel
theorem dX1_damageSector_25 : decode cX1_damageSector 25 = .ok (.aload_n 0, 1) := by decide +kernel
theorem dX1_damageSector_26 : decode cX1_damageSector 26 = .ok (.dup, 1) := by decide +kernel
theorem dX1_damageSector_27 : decode cX1_damageSector 27 = .ok (.getfield 36, 3) := by decide +kernel
theorem dX1_damageSector_30 : decode cX1_damageSector 30 = .ok (.iconst 1, 1) := by decide +kernel
theorem dX1_damageSector_31 : decode cX1_damageSector 31 = .ok (.iadd, 1) := by decide +kernel
theorem dX1_damageSector_32 : decode cX1_damageSector 32 = .ok (.putfield 36, 3) := by decide +kernel
theorem dX1_damageSector_35 : decode cX1_damageSector 35 = .ok (.aload_n 0, 1) := by decide +kernel
theorem dX1_damageSector_36 : decode cX1_damageSector 36 = .ok (.getfield 36, 3) := by decide +kernel
theorem dX1_damageSector_39 : decode cX1_damageSector 39 = .ok (.ireturn, 1) := by decide +kernel
theorem dX1_changeSetting_0 : decode cX1_changeSetting 0 = .ok (.iload_n 1, 1) := by decide +kernel
theorem dX1_changeSetting_1 : decode cX1_changeSetting 1 = .ok (.invokestatic 122, 3) := by decide +kernel
theorem dX1_changeSetting_4 : decode cX1_changeSetting 4 = .ok (.ifCond .ne 5, 3) := by decide +kernel
theorem dX1_changeSetting_7 : decode cX1_changeSetting 7 = .ok (.iconst (-1), 1) := by decide +kernel
theorem dX1_changeSetting_8 : decode cX1_changeSetting 8 = .ok (.ireturn, 1) := by decide +kernel
theorem dX1_changeSetting_9 : decode cX1_changeSetting 9 = .ok (.iload_n 1, 1) := by decide +kernel
theorem dX1_changeSetting_10 : decode cX1_changeSetting 10 = .ok (.ifCond .ne 7, 3) := by decide +kernel
theorem dX1_changeSetting_13 : decode cX1_changeSetting 13 = .ok (.iconst 2, 1) := by decide +kernel
theorem dX1_changeSetting_14 : decode cX1_changeSetting 14 = .ok (.goto 4, 3) := by decide +kernel
theorem dX1_changeSetting_17 : decode cX1_changeSetting 17 = .ok (.iconst 1, 1) := by decide +kernel
theorem dX1_changeSetting_18 : decode cX1_changeSetting 18 = .ok (.istore_n 3, 1) := by decide +kernel
theorem dX1_changeSetting_19 : decode cX1_changeSetting 19 = .ok (.iload_n 2, 1) := by decide +kernel
theorem dX1_changeSetting_20 : decode cX1_changeSetting 20 = .ok (.iload_n 3, 1) := by decide +kernel
theorem dX1_changeSetting_21 : decode cX1_changeSetting 21 = .ok (.if_icmp .lt 9, 3) := by decide +kernel
theorem dX1_changeSetting_24 : decode cX1_changeSetting 24 = .ok (.iload_n 2, 1) := by decide +kernel
theorem dX1_changeSetting_25 : decode cX1_changeSetting 25 = .ok (.bipush 9, 2) := by decide +kernel
theorem dX1_changeSetting_27 : decode cX1_changeSetting 27 = .ok (.if_icmp .le 6, 3) := by decide +kernel
theorem dX1_changeSetting_30 : decode cX1_changeSetting 30 = .ok (.bipush (-2), 2) := by decide +kernel
theorem dX1_changeSetting_32 : decode cX1_changeSetting 32 = .ok (.ireturn, 1) := by decide +kernel
theorem dX1_changeSetting_33 : decode cX1_changeSetting 33 = .ok (.aload_n 0, 1) := by decide +kernel
theorem dX1_changeSetting_34 : decode cX1_changeSetting 34 = .ok (.getfield 25, 3) := by decide +kernel
theorem dX1_changeSetting_37 : decode cX1_changeSetting 37 = .ok (.iload_n 1, 1) := by decide +kernel
theorem dX1_changeSetting_38 : decode cX1_changeSetting 38 = .ok (.iaload, 1) := by decide +kernel
theorem dX1_changeSetting_39 : decode cX1_changeSetting 39 = .ok (.istore 4, 2) := by decide +kernel
theorem dX1_changeSetting_41 : decode cX1_changeSetting 41 = .ok (.aload_n 0, 1) := by decide +kernel
theorem dX1_changeSetting_42 : decode cX1_changeSetting 42 = .ok (.getfield 25, 3) := by decide +kernel
theorem dX1_changeSetting_45 : decode cX1_changeSetting 45 = .ok (.iload_n 1, 1) := by decide +kernel
theorem dX1_changeSetting_46 : decode cX1_changeSetting 46 = .ok (.iload_n 2, 1) := by decide +kernel
theorem dX1_changeSetting_47 : decode cX1_changeSetting 47 = .ok (.iastore, 1) := by decide +kernel
theorem dX1_changeSetting_48 : decode cX1_changeSetting 48 = .ok (.iload 4, 2) := by decide +kernel
theorem dX1_changeSetting_50 : decode cX1_changeSetting 50 = .ok (.ireturn, 1) := by decide +kernel
theorem dX1_leadOutOf_0 : decode cX1_leadOutOf 0 = .ok (.aload_n 0, 1) := by decide +kernel
theorem dX1_leadOutOf_1 : decode cX1_leadOutOf 1 = .ok (.dup, 1) := by decide +kernel
theorem dX1_leadOutOf_2 : decode cX1_leadOutOf 2 = .ok (.getfield 33, 3) := by decide +kernel
theorem dX1_leadOutOf_5 : decode cX1_leadOutOf 5 = .ok (.aload_n 1, 1) := by decide +kernel
theorem dX1_leadOutOf_6 : decode cX1_leadOutOf 6 = .ok (.getfield 125, 3) := by decide +kernel
theorem dX1_leadOutOf_9 : decode cX1_leadOutOf 9 = .ok (.iadd, 1) := by decide +kernel
theorem dX1_leadOutOf_10 : decode cX1_leadOutOf 10 = .ok (.putfield 33, 3) := by decide +kernel
theorem dX1_leadOutOf_13 : decode cX1_leadOutOf 13 = .ok (.aload_n 1, 1) := by decide +kernel
theorem dX1_leadOutOf_14 : decode cX1_leadOutOf 14 = .ok (.aload_n 0, 1) := by decide +kernel
theorem dX1_leadOutOf_15 : decode cX1_leadOutOf 15 = .ok (.getfield 33, 3) := by decide +kernel
theorem dX1_leadOutOf_18 : decode cX1_leadOutOf 18 = .ok (.putfield 65, 3) := by decide +kernel
theorem dX1_leadOutOf_21 : decode cX1_leadOutOf 21 = .ok (.aload_n 1, 1) := by decide +kernel
theorem dX1_leadOutOf_22 : decode cX1_leadOutOf 22 = .ok (.iconst 1, 1) := by decide +kernel
theorem dX1_leadOutOf_23 : decode cX1_leadOutOf 23 = .ok (.putfield 108, 3) := by decide +kernel
theorem dX1_leadOutOf_26 : decode cX1_leadOutOf 26 = .ok (.aload_n 0, 1) := by decide +kernel
theorem dX1_leadOutOf_27 : decode cX1_leadOutOf 27 = .ok (.getfield 33, 3) := by decide +kernel
theorem dX1_leadOutOf_30 : decode cX1_leadOutOf 30 = .ok (.ireturn, 1) := by decide +kernel
theorem dX1_sessionAt_0 : decode cX1_sessionAt 0 = .ok (.iload_n 1, 1) := by decide +kernel
theorem dX1_sessionAt_1 : decode cX1_sessionAt 1 = .ok (.ifCond .lt 26, 3) := by decide +kernel
theorem dX1_sessionAt_4 : decode cX1_sessionAt 4 = .ok (.iload_n 1, 1) := by decide +kernel
theorem dX1_sessionAt_5 : decode cX1_sessionAt 5 = .ok (.aload_n 0, 1) := by decide +kernel
theorem dX1_sessionAt_6 : decode cX1_sessionAt 6 = .ok (.getfield 29, 3) := by decide +kernel
theorem dX1_sessionAt_9 : decode cX1_sessionAt 9 = .ok (.if_icmp .ge 18, 3) := by decide +kernel
theorem dX1_sessionAt_12 : decode cX1_sessionAt 12 = .ok (.iload_n 1, 1) := by decide +kernel
theorem dX1_sessionAt_13 : decode cX1_sessionAt 13 = .ok (.bipush 12, 2) := by decide +kernel
theorem dX1_sessionAt_15 : decode cX1_sessionAt 15 = .ok (.if_icmp .ge 12, 3) := by decide +kernel
theorem dX1_sessionAt_18 : decode cX1_sessionAt 18 = .ok (.aload_n 0, 1) := by decide +kernel
theorem dX1_sessionAt_19 : decode cX1_sessionAt 19 = .ok (.getfield 11, 3) := by decide +kernel
theorem dX1_sessionAt_22 : decode cX1_sessionAt 22 = .ok (.iload_n 1, 1) := by decide +kernel
theorem dX1_sessionAt_23 : decode cX1_sessionAt 23 = .ok (.aaload, 1) := by decide +kernel
theorem dX1_sessionAt_24 : decode cX1_sessionAt 24 = .ok (.goto 4, 3) := by decide +kernel
theorem dX1_sessionAt_27 : decode cX1_sessionAt 27 = .ok (.aconst_null, 1) := by decide +kernel
theorem dX1_sessionAt_28 : decode cX1_sessionAt 28 = .ok (.areturn, 1) := by decide +kernel
theorem dX1_freshSession_0 : decode cX1_freshSession 0 = .ok (.aload_n 0, 1) := by decide +kernel
theorem dX1_freshSession_1 : decode cX1_freshSession 1 = .ok (.getfield 29, 3) := by decide +kernel
theorem dX1_freshSession_4 : decode cX1_freshSession 4 = .ok (.ifCond .lt 24, 3) := by decide +kernel
theorem dX1_freshSession_7 : decode cX1_freshSession 7 = .ok (.aload_n 0, 1) := by decide +kernel
theorem dX1_freshSession_8 : decode cX1_freshSession 8 = .ok (.getfield 29, 3) := by decide +kernel
theorem dX1_freshSession_11 : decode cX1_freshSession 11 = .ok (.bipush 12, 2) := by decide +kernel
theorem dX1_freshSession_13 : decode cX1_freshSession 13 = .ok (.if_icmp .ge 15, 3) := by decide +kernel
theorem dX1_freshSession_16 : decode cX1_freshSession 16 = .ok (.aload_n 0, 1) := by decide +kernel
theorem dX1_freshSession_17 : decode cX1_freshSession 17 = .ok (.getfield 11, 3) := by decide +kernel
theorem dX1_freshSession_20 : decode cX1_freshSession 20 = .ok (.aload_n 0, 1) := by decide +kernel
theorem dX1_freshSession_21 : decode cX1_freshSession 21 = .ok (.getfield 29, 3) := by decide +kernel
theorem dX1_freshSession_24 : decode cX1_freshSession 24 = .ok (.aaload, 1) := by decide +kernel
theorem dX1_freshSession_25 : decode cX1_freshSession 25 = .ok (.goto 4, 3) := by decide +kernel
theorem dX1_freshSession_28 : decode cX1_freshSession 28 = .ok (.aconst_null, 1) := by decide +kernel
theorem dX1_freshSession_29 : decode cX1_freshSession 29 = .ok (.areturn, 1) := by decide +kernel
theorem dX1_openSession_0 : decode cX1_openSession 0 = .ok (.aload_n 0, 1) := by decide +kernel
theorem dX1_openSession_1 : decode cX1_openSession 1 = .ok (.aload_n 0, 1) := by decide +kernel
theorem dX1_openSession_2 : decode cX1_openSession 2 = .ok (.getfield 29, 3) := by decide +kernel
theorem dX1_openSession_5 : decode cX1_openSession 5 = .ok (.iconst 1, 1) := by decide +kernel
theorem dX1_openSession_6 : decode cX1_openSession 6 = .ok (.isub, 1) := by decide +kernel
theorem dX1_openSession_7 : decode cX1_openSession 7 = .ok (.invokevirtual 54, 3) := by decide +kernel
theorem dX1_openSession_10 : decode cX1_openSession 10 = .ok (.astore_n 1, 1) := by decide +kernel
theorem dX1_openSession_11 : decode cX1_openSession 11 = .ok (.aload_n 1, 1) := by decide +kernel
theorem dX1_openSession_12 : decode cX1_openSession 12 = .ok (.ifnull 14, 3) := by decide +kernel
theorem dX1_openSession_15 : decode cX1_openSession 15 = .ok (.aload_n 1, 1) := by decide +kernel
theorem dX1_openSession_16 : decode cX1_openSession 16 = .ok (.getfield 108, 3) := by decide +kernel
theorem dX1_openSession_19 : decode cX1_openSession 19 = .ok (.ifCond .ne 7, 3) := by decide +kernel
theorem dX1_openSession_22 : decode cX1_openSession 22 = .ok (.aload_n 1, 1) := by decide +kernel
theorem dX1_openSession_23 : decode cX1_openSession 23 = .ok (.goto 4, 3) := by decide +kernel
theorem dX1_openSession_26 : decode cX1_openSession 26 = .ok (.aconst_null, 1) := by decide +kernel
theorem dX1_openSession_27 : decode cX1_openSession 27 = .ok (.areturn, 1) := by decide +kernel
theorem dX1_validNumberIf_0 : decode cX1_validNumberIf 0 = .ok (.aload_n 0, 1) := by decide +kernel
theorem dX1_validNumberIf_1 : decode cX1_validNumberIf 1 = .ok (.getfield 29, 3) := by decide +kernel
theorem dX1_validNumberIf_4 : decode cX1_validNumberIf 4 = .ok (.iconst 1, 1) := by decide +kernel
theorem dX1_validNumberIf_5 : decode cX1_validNumberIf 5 = .ok (.isub, 1) := by decide +kernel
theorem dX1_validNumberIf_6 : decode cX1_validNumberIf 6 = .ok (.istore_n 2, 1) := by decide +kernel
theorem dX1_validNumberIf_7 : decode cX1_validNumberIf 7 = .ok (.iload_n 2, 1) := by decide +kernel
theorem dX1_validNumberIf_8 : decode cX1_validNumberIf 8 = .ok (.ifCond .lt 30, 3) := by decide +kernel
theorem dX1_validNumberIf_11 : decode cX1_validNumberIf 11 = .ok (.aload_n 0, 1) := by decide +kernel
theorem dX1_validNumberIf_12 : decode cX1_validNumberIf 12 = .ok (.iload_n 2, 1) := by decide +kernel
theorem dX1_validNumberIf_13 : decode cX1_validNumberIf 13 = .ok (.invokevirtual 54, 3) := by decide +kernel
theorem dX1_validNumberIf_16 : decode cX1_validNumberIf 16 = .ok (.astore_n 3, 1) := by decide +kernel
theorem dX1_validNumberIf_17 : decode cX1_validNumberIf 17 = .ok (.aload_n 3, 1) := by decide +kernel
theorem dX1_validNumberIf_18 : decode cX1_validNumberIf 18 = .ok (.ifnull 14, 3) := by decide +kernel
theorem dX1_validNumberIf_21 : decode cX1_validNumberIf 21 = .ok (.aload_n 0, 1) := by decide +kernel
theorem dX1_validNumberIf_22 : decode cX1_validNumberIf 22 = .ok (.aload_n 3, 1) := by decide +kernel
theorem dX1_validNumberIf_23 : decode cX1_validNumberIf 23 = .ok (.iload_n 1, 1) := by decide +kernel
theorem dX1_validNumberIf_24 : decode cX1_validNumberIf 24 = .ok (.invokevirtual 100, 3) := by decide +kernel
theorem dX1_validNumberIf_27 : decode cX1_validNumberIf 27 = .ok (.ifCond .eq 5, 3) := by decide +kernel
theorem dX1_validNumberIf_30 : decode cX1_validNumberIf 30 = .ok (.iload_n 2, 1) := by decide +kernel
theorem dX1_validNumberIf_31 : decode cX1_validNumberIf 31 = .ok (.ireturn, 1) := by decide +kernel
theorem dX1_validNumberIf_32 : decode cX1_validNumberIf 32 = .ok (.iinc 2 (-1), 3) := by decide +kernel
theorem dX1_validNumberIf_35 : decode cX1_validNumberIf 35 = .ok (.goto (-28), 3) := by decide +kernel
theorem dX1_validNumberIf_38 : decode cX1_validNumberIf 38 = .ok (.bipush (-6), 2) := by decide +kernel
theorem dX1_validNumberIf_40 : decode cX1_validNumberIf 40 = .ok (.ireturn, 1) := by decide +kernel
theorem dX1_isReadableIf_0 : decode cX1_isReadableIf 0 = .ok (.aload_n 1, 1) := by decide +kernel
theorem dX1_isReadableIf_1 : decode cX1_isReadableIf 1 = .ok (.getfield 108, 3) := by decide +kernel
theorem dX1_isReadableIf_4 : decode cX1_isReadableIf 4 = .ok (.iconst 1, 1) := by decide +kernel
theorem dX1_isReadableIf_5 : decode cX1_isReadableIf 5 = .ok (.if_icmp .ne 23, 3) := by decide +kernel
theorem dX1_isReadableIf_8 : decode cX1_isReadableIf 8 = .ok (.aload_n 0, 1) := by decide +kernel
theorem dX1_isReadableIf_9 : decode cX1_isReadableIf 9 = .ok (.aload_n 1, 1) := by decide +kernel
theorem dX1_isReadableIf_10 : decode cX1_isReadableIf 10 = .ok (.getfield 111, 3) := by decide +kernel
theorem dX1_isReadableIf_13 : decode cX1_isReadableIf 13 = .ok (.aload_n 1, 1) := by decide +kernel
theorem dX1_isReadableIf_14 : decode cX1_isReadableIf 14 = .ok (.getfield 112, 3) := by decide +kernel
theorem dX1_isReadableIf_17 : decode cX1_isReadableIf 17 = .ok (.iload_n 2, 1) := by decide +kernel
theorem dX1_isReadableIf_18 : decode cX1_isReadableIf 18 = .ok (.invokevirtual 115, 3) := by decide +kernel
theorem dX1_isReadableIf_21 : decode cX1_isReadableIf 21 = .ok (.ifCond .eq 7, 3) := by decide +kernel
theorem dX1_isReadableIf_24 : decode cX1_isReadableIf 24 = .ok (.iconst 1, 1) := by decide +kernel
theorem dX1_isReadableIf_25 : decode cX1_isReadableIf 25 = .ok (.goto 4, 3) := by decide +kernel
theorem dX1_isReadableIf_28 : decode cX1_isReadableIf 28 = .ok (.iconst 0, 1) := by decide +kernel
theorem dX1_isReadableIf_29 : decode cX1_isReadableIf 29 = .ok (.ireturn, 1) := by decide +kernel
theorem dX1_areWholeIf_0 : decode cX1_areWholeIf 0 = .ok (.iload_n 1, 1) := by decide +kernel
theorem dX1_areWholeIf_1 : decode cX1_areWholeIf 1 = .ok (.iload_n 2, 1) := by decide +kernel
theorem dX1_areWholeIf_2 : decode cX1_areWholeIf 2 = .ok (.iadd, 1) := by decide +kernel
theorem dX1_areWholeIf_3 : decode cX1_areWholeIf 3 = .ok (.sipush 240, 3) := by decide +kernel
theorem dX1_areWholeIf_6 : decode cX1_areWholeIf 6 = .ok (.invokestatic 128, 3) := by decide +kernel
theorem dX1_areWholeIf_9 : decode cX1_areWholeIf 9 = .ok (.istore 4, 2) := by decide +kernel
theorem dX1_areWholeIf_11 : decode cX1_areWholeIf 11 = .ok (.iload_n 1, 1) := by decide +kernel
theorem dX1_areWholeIf_12 : decode cX1_areWholeIf 12 = .ok (.iconst 0, 1) := by decide +kernel
theorem dX1_areWholeIf_13 : decode cX1_areWholeIf 13 = .ok (.invokestatic 134, 3) := by decide +kernel
theorem dX1_areWholeIf_16 : decode cX1_areWholeIf 16 = .ok (.istore 5, 2) := by decide +kernel
theorem dX1_areWholeIf_18 : decode cX1_areWholeIf 18 = .ok (.iload 5, 2) := by decide +kernel
theorem dX1_areWholeIf_20 : decode cX1_areWholeIf 20 = .ok (.iload 4, 2) := by decide +kernel
theorem dX1_areWholeIf_22 : decode cX1_areWholeIf 22 = .ok (.if_icmp .ge 27, 3) := by decide +kernel
theorem dX1_areWholeIf_25 : decode cX1_areWholeIf 25 = .ok (.iload 5, 2) := by decide +kernel
theorem dX1_areWholeIf_27 : decode cX1_areWholeIf 27 = .ok (.iload_n 3, 1) := by decide +kernel
theorem dX1_areWholeIf_28 : decode cX1_areWholeIf 28 = .ok (.if_icmp .eq 13, 3) := by decide +kernel
theorem dX1_areWholeIf_31 : decode cX1_areWholeIf 31 = .ok (.aload_n 0, 1) := by decide +kernel
theorem dX1_areWholeIf_32 : decode cX1_areWholeIf 32 = .ok (.getfield 17, 3) := by decide +kernel
theorem dX1_areWholeIf_35 : decode cX1_areWholeIf 35 = .ok (.iload 5, 2) := by decide +kernel
theorem dX1_areWholeIf_37 : decode cX1_areWholeIf 37 = .ok (.baload, 1) := by decide +kernel
theorem dX1_areWholeIf_38 : decode cX1_areWholeIf 38 = .ok (.ifCond .eq 5, 3) := by decide +kernel
theorem dX1_areWholeIf_41 : decode cX1_areWholeIf 41 = .ok (.iconst 0, 1) := by decide +kernel
theorem dX1_areWholeIf_42 : decode cX1_areWholeIf 42 = .ok (.ireturn, 1) := by decide +kernel
theorem dX1_areWholeIf_43 : decode cX1_areWholeIf 43 = .ok (.iinc 5 1, 3) := by decide +kernel
theorem dX1_areWholeIf_46 : decode cX1_areWholeIf 46 = .ok (.goto (-28), 3) := by decide +kernel
theorem dX1_areWholeIf_49 : decode cX1_areWholeIf 49 = .ok (.iconst 1, 1) := by decide +kernel
theorem dX1_areWholeIf_50 : decode cX1_areWholeIf 50 = .ok (.ireturn, 1) := by decide +kernel
theorem dX1_useOf_0 : decode cX1_useOf 0 = .ok (.iconst 0, 1) := by decide +kernel
theorem dX1_useOf_1 : decode cX1_useOf 1 = .ok (.istore_n 2, 1) := by decide +kernel
theorem dX1_useOf_2 : decode cX1_useOf 2 = .ok (.iload_n 2, 1) := by decide +kernel
theorem dX1_useOf_3 : decode cX1_useOf 3 = .ok (.aload_n 0, 1) := by decide +kernel
theorem dX1_useOf_4 : decode cX1_useOf 4 = .ok (.getfield 29, 3) := by decide +kernel
theorem dX1_useOf_7 : decode cX1_useOf 7 = .ok (.if_icmp .ge 33, 3) := by decide +kernel
theorem dX1_useOf_10 : decode cX1_useOf 10 = .ok (.aload_n 0, 1) := by decide +kernel
theorem dX1_useOf_11 : decode cX1_useOf 11 = .ok (.iload_n 2, 1) := by decide +kernel
theorem dX1_useOf_12 : decode cX1_useOf 12 = .ok (.invokevirtual 54, 3) := by decide +kernel
theorem dX1_useOf_15 : decode cX1_useOf 15 = .ok (.astore_n 3, 1) := by decide +kernel
theorem dX1_useOf_16 : decode cX1_useOf 16 = .ok (.aload_n 3, 1) := by decide +kernel
theorem dX1_useOf_17 : decode cX1_useOf 17 = .ok (.ifnull 17, 3) := by decide +kernel
theorem dX1_useOf_20 : decode cX1_useOf 20 = .ok (.aload_n 3, 1) := by decide +kernel
theorem dX1_useOf_21 : decode cX1_useOf 21 = .ok (.iload_n 1, 1) := by decide +kernel
theorem dX1_useOf_22 : decode cX1_useOf 22 = .ok (.invokevirtual 137, 3) := by decide +kernel
theorem dX1_useOf_25 : decode cX1_useOf 25 = .ok (.ifCond .eq 9, 3) := by decide +kernel
theorem dX1_useOf_28 : decode cX1_useOf 28 = .ok (.aload_n 3, 1) := by decide +kernel
theorem dX1_useOf_29 : decode cX1_useOf 29 = .ok (.iload_n 1, 1) := by decide +kernel
theorem dX1_useOf_30 : decode cX1_useOf 30 = .ok (.invokevirtual 140, 3) := by decide +kernel
theorem dX1_useOf_33 : decode cX1_useOf 33 = .ok (.ireturn, 1) := by decide +kernel
theorem dX1_useOf_34 : decode cX1_useOf 34 = .ok (.iinc 2 1, 3) := by decide +kernel
theorem dX1_useOf_37 : decode cX1_useOf 37 = .ok (.goto (-35), 3) := by decide +kernel
theorem dX1_useOf_40 : decode cX1_useOf 40 = .ok (.iconst 0, 1) := by decide +kernel
theorem dX1_useOf_41 : decode cX1_useOf 41 = .ok (.ireturn, 1) := by decide +kernel
theorem dX1_isIntactIf_0 : decode cX1_isIntactIf 0 = .ok (.aload_n 0, 1) := by decide +kernel
theorem dX1_isIntactIf_1 : decode cX1_isIntactIf 1 = .ok (.aload_n 1, 1) := by decide +kernel
theorem dX1_isIntactIf_2 : decode cX1_isIntactIf 2 = .ok (.getfield 90, 3) := by decide +kernel
theorem dX1_isIntactIf_5 : decode cX1_isIntactIf 5 = .ok (.aload_n 1, 1) := by decide +kernel
theorem dX1_isIntactIf_6 : decode cX1_isIntactIf 6 = .ok (.getfield 143, 3) := by decide +kernel
theorem dX1_isIntactIf_9 : decode cX1_isIntactIf 9 = .ok (.iload_n 2, 1) := by decide +kernel
theorem dX1_isIntactIf_10 : decode cX1_isIntactIf 10 = .ok (.invokevirtual 115, 3) := by decide +kernel
theorem dX1_isIntactIf_13 : decode cX1_isIntactIf 13 = .ok (.ireturn, 1) := by decide +kernel
theorem dX1_foundFile_0 : decode cX1_foundFile 0 = .ok (.aload_n 0, 1) := by decide +kernel
theorem dX1_foundFile_1 : decode cX1_foundFile 1 = .ok (.aload_n 0, 1) := by decide +kernel
theorem dX1_foundFile_2 : decode cX1_foundFile 2 = .ok (.iconst (-1), 1) := by decide +kernel
theorem dX1_foundFile_3 : decode cX1_foundFile 3 = .ok (.invokevirtual 50, 3) := by decide +kernel
theorem dX1_foundFile_6 : decode cX1_foundFile 6 = .ok (.invokevirtual 54, 3) := by decide +kernel
theorem dX1_foundFile_9 : decode cX1_foundFile 9 = .ok (.astore_n 2, 1) := by decide +kernel
theorem dX1_foundFile_10 : decode cX1_foundFile 10 = .ok (.aload_n 2, 1) := by decide +kernel
theorem dX1_foundFile_11 : decode cX1_foundFile 11 = .ok (.ifnonnull 7, 3) := by decide +kernel
theorem dX1_foundFile_14 : decode cX1_foundFile 14 = .ok (.aconst_null, 1) := by decide +kernel
theorem dX1_foundFile_15 : decode cX1_foundFile 15 = .ok (.goto 8, 3) := by decide +kernel
theorem dX1_foundFile_18 : decode cX1_foundFile 18 = .ok (.aload_n 2, 1) := by decide +kernel
theorem dX1_foundFile_19 : decode cX1_foundFile 19 = .ok (.iload_n 1, 1) := by decide +kernel
theorem dX1_foundFile_20 : decode cX1_foundFile 20 = .ok (.invokevirtual 93, 3) := by decide +kernel
theorem dX1_foundFile_23 : decode cX1_foundFile 23 = .ok (.areturn, 1) := by decide +kernel
theorem dX1_countIntactIf_0 : decode cX1_countIntactIf 0 = .ok (.aload_n 0, 1) := by decide +kernel
theorem dX1_countIntactIf_1 : decode cX1_countIntactIf 1 = .ok (.aload_n 0, 1) := by decide +kernel
theorem dX1_countIntactIf_2 : decode cX1_countIntactIf 2 = .ok (.iload_n 1, 1) := by decide +kernel
theorem dX1_countIntactIf_3 : decode cX1_countIntactIf 3 = .ok (.invokevirtual 50, 3) := by decide +kernel
theorem dX1_countIntactIf_6 : decode cX1_countIntactIf 6 = .ok (.invokevirtual 54, 3) := by decide +kernel
theorem dX1_countIntactIf_9 : decode cX1_countIntactIf 9 = .ok (.astore_n 2, 1) := by decide +kernel
theorem dX1_countIntactIf_10 : decode cX1_countIntactIf 10 = .ok (.aload_n 2, 1) := by decide +kernel
theorem dX1_countIntactIf_11 : decode cX1_countIntactIf 11 = .ok (.ifnonnull 5, 3) := by decide +kernel
theorem dX1_countIntactIf_14 : decode cX1_countIntactIf 14 = .ok (.iconst 0, 1) := by decide +kernel
theorem dX1_countIntactIf_15 : decode cX1_countIntactIf 15 = .ok (.ireturn, 1) := by decide +kernel
theorem dX1_countIntactIf_16 : decode cX1_countIntactIf 16 = .ok (.iconst 0, 1) := by decide +kernel
theorem dX1_countIntactIf_17 : decode cX1_countIntactIf 17 = .ok (.istore_n 3, 1) := by decide +kernel
theorem dX1_countIntactIf_18 : decode cX1_countIntactIf 18 = .ok (.iconst 0, 1) := by decide +kernel
theorem dX1_countIntactIf_19 : decode cX1_countIntactIf 19 = .ok (.istore 4, 2) := by decide +kernel
theorem dX1_countIntactIf_21 : decode cX1_countIntactIf 21 = .ok (.iload 4, 2) := by decide +kernel
theorem dX1_countIntactIf_23 : decode cX1_countIntactIf 23 = .ok (.bipush 20, 2) := by decide +kernel
theorem dX1_countIntactIf_25 : decode cX1_countIntactIf 25 = .ok (.if_icmp .ge 35, 3) := by decide +kernel
theorem dX1_countIntactIf_28 : decode cX1_countIntactIf 28 = .ok (.aload_n 2, 1) := by decide +kernel
theorem dX1_countIntactIf_29 : decode cX1_countIntactIf 29 = .ok (.iload 4, 2) := by decide +kernel
theorem dX1_countIntactIf_31 : decode cX1_countIntactIf 31 = .ok (.invokevirtual 93, 3) := by decide +kernel
theorem dX1_countIntactIf_34 : decode cX1_countIntactIf 34 = .ok (.astore 5, 2) := by decide +kernel
theorem dX1_countIntactIf_36 : decode cX1_countIntactIf 36 = .ok (.aload 5, 2) := by decide +kernel
theorem dX1_countIntactIf_38 : decode cX1_countIntactIf 38 = .ok (.ifnull 16, 3) := by decide +kernel
theorem dX1_countIntactIf_41 : decode cX1_countIntactIf 41 = .ok (.aload_n 0, 1) := by decide +kernel
theorem dX1_countIntactIf_42 : decode cX1_countIntactIf 42 = .ok (.aload 5, 2) := by decide +kernel
theorem dX1_countIntactIf_44 : decode cX1_countIntactIf 44 = .ok (.iload_n 1, 1) := by decide +kernel
theorem dX1_countIntactIf_45 : decode cX1_countIntactIf 45 = .ok (.invokevirtual 146, 3) := by decide +kernel
theorem dX1_countIntactIf_48 : decode cX1_countIntactIf 48 = .ok (.ifCond .eq 6, 3) := by decide +kernel
theorem dX1_countIntactIf_51 : decode cX1_countIntactIf 51 = .ok (.iinc 3 1, 3) := by decide +kernel
theorem dX1_countIntactIf_54 : decode cX1_countIntactIf 54 = .ok (.iinc 4 1, 3) := by decide +kernel
theorem dX1_countIntactIf_57 : decode cX1_countIntactIf 57 = .ok (.goto (-36), 3) := by decide +kernel
theorem dX1_countIntactIf_60 : decode cX1_countIntactIf 60 = .ok (.iload_n 3, 1) := by decide +kernel
theorem dX1_countIntactIf_61 : decode cX1_countIntactIf 61 = .ok (.ireturn, 1) := by decide +kernel
theorem dX1_latestWithIntact_0 : decode cX1_latestWithIntact 0 = .ok (.aload_n 0, 1) := by decide +kernel
theorem dX1_latestWithIntact_1 : decode cX1_latestWithIntact 1 = .ok (.getfield 29, 3) := by decide +kernel
theorem dX1_latestWithIntact_4 : decode cX1_latestWithIntact 4 = .ok (.iconst 1, 1) := by decide +kernel
theorem dX1_latestWithIntact_5 : decode cX1_latestWithIntact 5 = .ok (.isub, 1) := by decide +kernel
theorem dX1_latestWithIntact_6 : decode cX1_latestWithIntact 6 = .ok (.istore_n 2, 1) := by decide +kernel
theorem dX1_latestWithIntact_7 : decode cX1_latestWithIntact 7 = .ok (.iload_n 2, 1) := by decide +kernel
theorem dX1_latestWithIntact_8 : decode cX1_latestWithIntact 8 = .ok (.ifCond .lt 52, 3) := by decide +kernel
theorem dX1_latestWithIntact_11 : decode cX1_latestWithIntact 11 = .ok (.aload_n 0, 1) := by decide +kernel
theorem dX1_latestWithIntact_12 : decode cX1_latestWithIntact 12 = .ok (.iload_n 2, 1) := by decide +kernel
theorem dX1_latestWithIntact_13 : decode cX1_latestWithIntact 13 = .ok (.invokevirtual 54, 3) := by decide +kernel
theorem dX1_latestWithIntact_16 : decode cX1_latestWithIntact 16 = .ok (.astore_n 3, 1) := by decide +kernel
theorem dX1_latestWithIntact_17 : decode cX1_latestWithIntact 17 = .ok (.aload_n 3, 1) := by decide +kernel
theorem dX1_latestWithIntact_18 : decode cX1_latestWithIntact 18 = .ok (.ifnull 36, 3) := by decide +kernel
theorem dX1_latestWithIntact_21 : decode cX1_latestWithIntact 21 = .ok (.aload_n 0, 1) := by decide +kernel
theorem dX1_latestWithIntact_22 : decode cX1_latestWithIntact 22 = .ok (.aload_n 3, 1) := by decide +kernel
theorem dX1_latestWithIntact_23 : decode cX1_latestWithIntact 23 = .ok (.iconst (-1), 1) := by decide +kernel
theorem dX1_latestWithIntact_24 : decode cX1_latestWithIntact 24 = .ok (.invokevirtual 100, 3) := by decide +kernel
theorem dX1_latestWithIntact_27 : decode cX1_latestWithIntact 27 = .ok (.ifCond .eq 27, 3) := by decide +kernel
theorem dX1_latestWithIntact_30 : decode cX1_latestWithIntact 30 = .ok (.aload_n 3, 1) := by decide +kernel
theorem dX1_latestWithIntact_31 : decode cX1_latestWithIntact 31 = .ok (.iload_n 1, 1) := by decide +kernel
theorem dX1_latestWithIntact_32 : decode cX1_latestWithIntact 32 = .ok (.invokevirtual 93, 3) := by decide +kernel
theorem dX1_latestWithIntact_35 : decode cX1_latestWithIntact 35 = .ok (.astore 4, 2) := by decide +kernel
theorem dX1_latestWithIntact_37 : decode cX1_latestWithIntact 37 = .ok (.aload 4, 2) := by decide +kernel
theorem dX1_latestWithIntact_39 : decode cX1_latestWithIntact 39 = .ok (.ifnull 15, 3) := by decide +kernel
theorem dX1_latestWithIntact_42 : decode cX1_latestWithIntact 42 = .ok (.aload_n 0, 1) := by decide +kernel
theorem dX1_latestWithIntact_43 : decode cX1_latestWithIntact 43 = .ok (.aload 4, 2) := by decide +kernel
theorem dX1_latestWithIntact_45 : decode cX1_latestWithIntact 45 = .ok (.iconst (-1), 1) := by decide +kernel
theorem dX1_latestWithIntact_46 : decode cX1_latestWithIntact 46 = .ok (.invokevirtual 146, 3) := by decide +kernel
theorem dX1_latestWithIntact_49 : decode cX1_latestWithIntact 49 = .ok (.ifCond .eq 5, 3) := by decide +kernel
theorem dX1_latestWithIntact_52 : decode cX1_latestWithIntact 52 = .ok (.iload_n 2, 1) := by decide +kernel
theorem dX1_latestWithIntact_53 : decode cX1_latestWithIntact 53 = .ok (.ireturn, 1) := by decide +kernel
theorem dX1_latestWithIntact_54 : decode cX1_latestWithIntact 54 = .ok (.iinc 2 (-1), 3) := by decide +kernel
theorem dX1_latestWithIntact_57 : decode cX1_latestWithIntact 57 = .ok (.goto (-50), 3) := by decide +kernel
theorem dX1_latestWithIntact_60 : decode cX1_latestWithIntact 60 = .ok (.bipush (-6), 2) := by decide +kernel
theorem dX1_latestWithIntact_62 : decode cX1_latestWithIntact 62 = .ok (.ireturn, 1) := by decide +kernel
theorem dX1_countFoundSectors_0 : decode cX1_countFoundSectors 0 = .ok (.aload_n 0, 1) := by decide +kernel
theorem dX1_countFoundSectors_1 : decode cX1_countFoundSectors 1 = .ok (.aload_n 0, 1) := by decide +kernel
theorem dX1_countFoundSectors_2 : decode cX1_countFoundSectors 2 = .ok (.iconst (-1), 1) := by decide +kernel
theorem dX1_countFoundSectors_3 : decode cX1_countFoundSectors 3 = .ok (.invokevirtual 50, 3) := by decide +kernel
theorem dX1_countFoundSectors_6 : decode cX1_countFoundSectors 6 = .ok (.invokevirtual 54, 3) := by decide +kernel
theorem dX1_countFoundSectors_9 : decode cX1_countFoundSectors 9 = .ok (.astore_n 1, 1) := by decide +kernel
theorem dX1_countFoundSectors_10 : decode cX1_countFoundSectors 10 = .ok (.aload_n 1, 1) := by decide +kernel
theorem dX1_countFoundSectors_11 : decode cX1_countFoundSectors 11 = .ok (.ifnonnull 5, 3) := by decide +kernel
theorem dX1_countFoundSectors_14 : decode cX1_countFoundSectors 14 = .ok (.iconst 0, 1) := by decide +kernel
theorem dX1_countFoundSectors_15 : decode cX1_countFoundSectors 15 = .ok (.ireturn, 1) := by decide +kernel
theorem dX1_countFoundSectors_16 : decode cX1_countFoundSectors 16 = .ok (.iconst 0, 1) := by decide +kernel
theorem dX1_countFoundSectors_17 : decode cX1_countFoundSectors 17 = .ok (.istore_n 2, 1) := by decide +kernel
theorem dX1_countFoundSectors_18 : decode cX1_countFoundSectors 18 = .ok (.iconst 0, 1) := by decide +kernel
theorem dX1_countFoundSectors_19 : decode cX1_countFoundSectors 19 = .ok (.istore_n 3, 1) := by decide +kernel
theorem dX1_countFoundSectors_20 : decode cX1_countFoundSectors 20 = .ok (.iload_n 3, 1) := by decide +kernel
theorem dX1_countFoundSectors_21 : decode cX1_countFoundSectors 21 = .ok (.bipush 20, 2) := by decide +kernel
theorem dX1_countFoundSectors_23 : decode cX1_countFoundSectors 23 = .ok (.if_icmp .ge 33, 3) := by decide +kernel
theorem dX1_countFoundSectors_26 : decode cX1_countFoundSectors 26 = .ok (.aload_n 1, 1) := by decide +kernel
theorem dX1_countFoundSectors_27 : decode cX1_countFoundSectors 27 = .ok (.iload_n 3, 1) := by decide +kernel
theorem dX1_countFoundSectors_28 : decode cX1_countFoundSectors 28 = .ok (.invokevirtual 93, 3) := by decide +kernel
theorem dX1_countFoundSectors_31 : decode cX1_countFoundSectors 31 = .ok (.astore 4, 2) := by decide +kernel
theorem dX1_countFoundSectors_33 : decode cX1_countFoundSectors 33 = .ok (.iload_n 2, 1) := by decide +kernel
theorem dX1_countFoundSectors_34 : decode cX1_countFoundSectors 34 = .ok (.aload 4, 2) := by decide +kernel
theorem dX1_countFoundSectors_36 : decode cX1_countFoundSectors 36 = .ok (.ifnonnull 7, 3) := by decide +kernel
theorem dX1_countFoundSectors_39 : decode cX1_countFoundSectors 39 = .ok (.iconst 0, 1) := by decide +kernel
theorem dX1_countFoundSectors_40 : decode cX1_countFoundSectors 40 = .ok (.goto 8, 3) := by decide +kernel
theorem dX1_countFoundSectors_43 : decode cX1_countFoundSectors 43 = .ok (.aload 4, 2) := by decide +kernel
theorem dX1_countFoundSectors_45 : decode cX1_countFoundSectors 45 = .ok (.getfield 143, 3) := by decide +kernel
theorem dX1_countFoundSectors_48 : decode cX1_countFoundSectors 48 = .ok (.iadd, 1) := by decide +kernel
theorem dX1_countFoundSectors_49 : decode cX1_countFoundSectors 49 = .ok (.istore_n 2, 1) := by decide +kernel
theorem dX1_countFoundSectors_50 : decode cX1_countFoundSectors 50 = .ok (.iinc 3 1, 3) := by decide +kernel
theorem dX1_countFoundSectors_53 : decode cX1_countFoundSectors 53 = .ok (.goto (-33), 3) := by decide +kernel
theorem dX1_countFoundSectors_56 : decode cX1_countFoundSectors 56 = .ok (.iload_n 2, 1) := by decide +kernel
theorem dX1_countFoundSectors_57 : decode cX1_countFoundSectors 57 = .ok (.ireturn, 1) := by decide +kernel
theorem dX1_roomForFiles_0 : decode cX1_roomForFiles 0 = .ok (.aload_n 0, 1) := by decide +kernel
theorem dX1_roomForFiles_1 : decode cX1_roomForFiles 1 = .ok (.invokevirtual 43, 3) := by decide +kernel
theorem dX1_roomForFiles_4 : decode cX1_roomForFiles 4 = .ok (.astore_n 1, 1) := by decide +kernel
theorem dX1_roomForFiles_5 : decode cX1_roomForFiles 5 = .ok (.aload_n 1, 1) := by decide +kernel
theorem dX1_roomForFiles_6 : decode cX1_roomForFiles 6 = .ok (.ifnull 21, 3) := by decide +kernel
theorem dX1_roomForFiles_9 : decode cX1_roomForFiles 9 = .ok (.sipush 240, 3) := by decide +kernel
theorem dX1_roomForFiles_12 : decode cX1_roomForFiles 12 = .ok (.aload_n 0, 1) := by decide +kernel
theorem dX1_roomForFiles_13 : decode cX1_roomForFiles 13 = .ok (.getfield 33, 3) := by decide +kernel
theorem dX1_roomForFiles_16 : decode cX1_roomForFiles 16 = .ok (.isub, 1) := by decide +kernel
theorem dX1_roomForFiles_17 : decode cX1_roomForFiles 17 = .ok (.aload_n 1, 1) := by decide +kernel
theorem dX1_roomForFiles_18 : decode cX1_roomForFiles 18 = .ok (.getfield 125, 3) := by decide +kernel
theorem dX1_roomForFiles_21 : decode cX1_roomForFiles 21 = .ok (.isub, 1) := by decide +kernel
theorem dX1_roomForFiles_22 : decode cX1_roomForFiles 22 = .ok (.iconst 0, 1) := by decide +kernel
theorem dX1_roomForFiles_23 : decode cX1_roomForFiles 23 = .ok (.invokestatic 134, 3) := by decide +kernel
theorem dX1_roomForFiles_26 : decode cX1_roomForFiles 26 = .ok (.ireturn, 1) := by decide +kernel
theorem dX1_roomForFiles_27 : decode cX1_roomForFiles 27 = .ok (.aload_n 0, 1) := by decide +kernel
theorem dX1_roomForFiles_28 : decode cX1_roomForFiles 28 = .ok (.getfield 29, 3) := by decide +kernel
theorem dX1_roomForFiles_31 : decode cX1_roomForFiles 31 = .ok (.bipush 12, 2) := by decide +kernel
theorem dX1_roomForFiles_33 : decode cX1_roomForFiles 33 = .ok (.if_icmp .lt 5, 3) := by decide +kernel
theorem dX1_roomForFiles_36 : decode cX1_roomForFiles 36 = .ok (.iconst 0, 1) := by decide +kernel
theorem dX1_roomForFiles_37 : decode cX1_roomForFiles 37 = .ok (.ireturn, 1) := by decide +kernel
theorem dX1_roomForFiles_38 : decode cX1_roomForFiles 38 = .ok (.sipush 240, 3) := by decide +kernel
theorem dX1_roomForFiles_41 : decode cX1_roomForFiles 41 = .ok (.aload_n 0, 1) := by decide +kernel
theorem dX1_roomForFiles_42 : decode cX1_roomForFiles 42 = .ok (.getfield 33, 3) := by decide +kernel
theorem dX1_roomForFiles_45 : decode cX1_roomForFiles 45 = .ok (.isub, 1) := by decide +kernel
theorem dX1_roomForFiles_46 : decode cX1_roomForFiles 46 = .ok (.aload_n 0, 1) := by decide +kernel
theorem dX1_roomForFiles_47 : decode cX1_roomForFiles 47 = .ok (.getfield 25, 3) := by decide +kernel
theorem dX1_roomForFiles_50 : decode cX1_roomForFiles 50 = .ok (.iconst 0, 1) := by decide +kernel
theorem dX1_roomForFiles_51 : decode cX1_roomForFiles 51 = .ok (.iaload, 1) := by decide +kernel
theorem dX1_roomForFiles_52 : decode cX1_roomForFiles 52 = .ok (.isub, 1) := by decide +kernel
theorem dX1_roomForFiles_53 : decode cX1_roomForFiles 53 = .ok (.aload_n 0, 1) := by decide +kernel
theorem dX1_roomForFiles_54 : decode cX1_roomForFiles 54 = .ok (.getfield 25, 3) := by decide +kernel
theorem dX1_roomForFiles_57 : decode cX1_roomForFiles 57 = .ok (.iconst 1, 1) := by decide +kernel
theorem dX1_roomForFiles_58 : decode cX1_roomForFiles 58 = .ok (.iaload, 1) := by decide +kernel
theorem dX1_roomForFiles_59 : decode cX1_roomForFiles 59 = .ok (.isub, 1) := by decide +kernel
theorem dX1_roomForFiles_60 : decode cX1_roomForFiles 60 = .ok (.iconst 0, 1) := by decide +kernel
theorem dX1_roomForFiles_61 : decode cX1_roomForFiles 61 = .ok (.invokestatic 134, 3) := by decide +kernel
theorem dX1_roomForFiles_64 : decode cX1_roomForFiles 64 = .ok (.ireturn, 1) := by decide +kernel
theorem dX1_sessionsOfOneFile_0 : decode cX1_sessionsOfOneFile 0 = .ok (.iconst 0, 1) := by decide +kernel
theorem dX1_sessionsOfOneFile_1 : decode cX1_sessionsOfOneFile 1 = .ok (.istore_n 2, 1) := by decide +kernel
theorem dX1_sessionsOfOneFile_2 : decode cX1_sessionsOfOneFile 2 = .ok (.aload_n 0, 1) := by decide +kernel
theorem dX1_sessionsOfOneFile_3 : decode cX1_sessionsOfOneFile 3 = .ok (.getfield 33, 3) := by decide +kernel
theorem dX1_sessionsOfOneFile_6 : decode cX1_sessionsOfOneFile 6 = .ok (.istore_n 3, 1) := by decide +kernel
theorem dX1_sessionsOfOneFile_7 : decode cX1_sessionsOfOneFile 7 = .ok (.aload_n 0, 1) := by decide +kernel
theorem dX1_sessionsOfOneFile_8 : decode cX1_sessionsOfOneFile 8 = .ok (.invokevirtual 43, 3) := by decide +kernel
theorem dX1_sessionsOfOneFile_11 : decode cX1_sessionsOfOneFile 11 = .ok (.astore 4, 2) := by decide +kernel
theorem dX1_sessionsOfOneFile_13 : decode cX1_sessionsOfOneFile 13 = .ok (.aload 4, 2) := by decide +kernel
theorem dX1_sessionsOfOneFile_15 : decode cX1_sessionsOfOneFile 15 = .ok (.ifnull 24, 3) := by decide +kernel
theorem dX1_sessionsOfOneFile_18 : decode cX1_sessionsOfOneFile 18 = .ok (.iload_n 3, 1) := by decide +kernel
theorem dX1_sessionsOfOneFile_19 : decode cX1_sessionsOfOneFile 19 = .ok (.iload_n 1, 1) := by decide +kernel
theorem dX1_sessionsOfOneFile_20 : decode cX1_sessionsOfOneFile 20 = .ok (.aload 4, 2) := by decide +kernel
theorem dX1_sessionsOfOneFile_22 : decode cX1_sessionsOfOneFile 22 = .ok (.getfield 125, 3) := by decide +kernel
theorem dX1_sessionsOfOneFile_25 : decode cX1_sessionsOfOneFile 25 = .ok (.iadd, 1) := by decide +kernel
theorem dX1_sessionsOfOneFile_26 : decode cX1_sessionsOfOneFile 26 = .ok (.iadd, 1) := by decide +kernel
theorem dX1_sessionsOfOneFile_27 : decode cX1_sessionsOfOneFile 27 = .ok (.istore_n 3, 1) := by decide +kernel
theorem dX1_sessionsOfOneFile_28 : decode cX1_sessionsOfOneFile 28 = .ok (.iload_n 3, 1) := by decide +kernel
theorem dX1_sessionsOfOneFile_29 : decode cX1_sessionsOfOneFile 29 = .ok (.sipush 240, 3) := by decide +kernel
theorem dX1_sessionsOfOneFile_32 : decode cX1_sessionsOfOneFile 32 = .ok (.if_icmp .le 5, 3) := by decide +kernel
theorem dX1_sessionsOfOneFile_35 : decode cX1_sessionsOfOneFile 35 = .ok (.iconst 0, 1) := by decide +kernel
theorem dX1_sessionsOfOneFile_36 : decode cX1_sessionsOfOneFile 36 = .ok (.ireturn, 1) := by decide +kernel
theorem dX1_sessionsOfOneFile_37 : decode cX1_sessionsOfOneFile 37 = .ok (.iconst 1, 1) := by decide +kernel
theorem dX1_sessionsOfOneFile_38 : decode cX1_sessionsOfOneFile 38 = .ok (.istore_n 2, 1) := by decide +kernel
theorem dX1_sessionsOfOneFile_39 : decode cX1_sessionsOfOneFile 39 = .ok (.aload_n 0, 1) := by decide +kernel
theorem dX1_sessionsOfOneFile_40 : decode cX1_sessionsOfOneFile 40 = .ok (.getfield 25, 3) := by decide +kernel
theorem dX1_sessionsOfOneFile_43 : decode cX1_sessionsOfOneFile 43 = .ok (.iconst 0, 1) := by decide +kernel
theorem dX1_sessionsOfOneFile_44 : decode cX1_sessionsOfOneFile 44 = .ok (.iaload, 1) := by decide +kernel
theorem dX1_sessionsOfOneFile_45 : decode cX1_sessionsOfOneFile 45 = .ok (.iload_n 1, 1) := by decide +kernel
theorem dX1_sessionsOfOneFile_46 : decode cX1_sessionsOfOneFile 46 = .ok (.iadd, 1) := by decide +kernel
theorem dX1_sessionsOfOneFile_47 : decode cX1_sessionsOfOneFile 47 = .ok (.aload_n 0, 1) := by decide +kernel
theorem dX1_sessionsOfOneFile_48 : decode cX1_sessionsOfOneFile 48 = .ok (.getfield 25, 3) := by decide +kernel
theorem dX1_sessionsOfOneFile_51 : decode cX1_sessionsOfOneFile 51 = .ok (.iconst 1, 1) := by decide +kernel
theorem dX1_sessionsOfOneFile_52 : decode cX1_sessionsOfOneFile 52 = .ok (.iaload, 1) := by decide +kernel
theorem dX1_sessionsOfOneFile_53 : decode cX1_sessionsOfOneFile 53 = .ok (.iadd, 1) := by decide +kernel
theorem dX1_sessionsOfOneFile_54 : decode cX1_sessionsOfOneFile 54 = .ok (.istore 5, 2) := by decide +kernel
theorem dX1_sessionsOfOneFile_56 : decode cX1_sessionsOfOneFile 56 = .ok (.aload_n 0, 1) := by decide +kernel
theorem dX1_sessionsOfOneFile_57 : decode cX1_sessionsOfOneFile 57 = .ok (.getfield 29, 3) := by decide +kernel
theorem dX1_sessionsOfOneFile_60 : decode cX1_sessionsOfOneFile 60 = .ok (.istore 6, 2) := by decide +kernel
theorem dX1_sessionsOfOneFile_62 : decode cX1_sessionsOfOneFile 62 = .ok (.iload 6, 2) := by decide +kernel
theorem dX1_sessionsOfOneFile_64 : decode cX1_sessionsOfOneFile 64 = .ok (.bipush 12, 2) := by decide +kernel
theorem dX1_sessionsOfOneFile_66 : decode cX1_sessionsOfOneFile 66 = .ok (.if_icmp .ge 27, 3) := by decide +kernel
theorem dX1_sessionsOfOneFile_69 : decode cX1_sessionsOfOneFile 69 = .ok (.iload_n 3, 1) := by decide +kernel
theorem dX1_sessionsOfOneFile_70 : decode cX1_sessionsOfOneFile 70 = .ok (.iload 5, 2) := by decide +kernel
theorem dX1_sessionsOfOneFile_72 : decode cX1_sessionsOfOneFile 72 = .ok (.iadd, 1) := by decide +kernel
theorem dX1_sessionsOfOneFile_73 : decode cX1_sessionsOfOneFile 73 = .ok (.sipush 240, 3) := by decide +kernel
theorem dX1_sessionsOfOneFile_76 : decode cX1_sessionsOfOneFile 76 = .ok (.if_icmp .gt 17, 3) := by decide +kernel
theorem dX1_sessionsOfOneFile_79 : decode cX1_sessionsOfOneFile 79 = .ok (.iload_n 3, 1) := by decide +kernel
theorem dX1_sessionsOfOneFile_80 : decode cX1_sessionsOfOneFile 80 = .ok (.iload 5, 2) := by decide +kernel
theorem dX1_sessionsOfOneFile_82 : decode cX1_sessionsOfOneFile 82 = .ok (.iadd, 1) := by decide +kernel
theorem dX1_sessionsOfOneFile_83 : decode cX1_sessionsOfOneFile 83 = .ok (.istore_n 3, 1) := by decide +kernel
theorem dX1_sessionsOfOneFile_84 : decode cX1_sessionsOfOneFile 84 = .ok (.iinc 2 1, 3) := by decide +kernel
theorem dX1_sessionsOfOneFile_87 : decode cX1_sessionsOfOneFile 87 = .ok (.iinc 6 1, 3) := by decide +kernel
theorem dX1_sessionsOfOneFile_90 : decode cX1_sessionsOfOneFile 90 = .ok (.goto (-28), 3) := by decide +kernel
theorem dX1_sessionsOfOneFile_93 : decode cX1_sessionsOfOneFile 93 = .ok (.iload_n 2, 1) := by decide +kernel
theorem dX1_sessionsOfOneFile_94 : decode cX1_sessionsOfOneFile 94 = .ok (.ireturn, 1) := by decide +kernel
theorem dX1_mostHarmfulSector_0 : decode cX1_mostHarmfulSector 0 = .ok (.aload_n 0, 1) := by decide +kernel
theorem dX1_mostHarmfulSector_1 : decode cX1_mostHarmfulSector 1 = .ok (.aload_n 0, 1) := by decide +kernel
theorem dX1_mostHarmfulSector_2 : decode cX1_mostHarmfulSector 2 = .ok (.iconst (-1), 1) := by decide +kernel
theorem dX1_mostHarmfulSector_3 : decode cX1_mostHarmfulSector 3 = .ok (.invokevirtual 50, 3) := by decide +kernel
theorem dX1_mostHarmfulSector_6 : decode cX1_mostHarmfulSector 6 = .ok (.invokevirtual 54, 3) := by decide +kernel
theorem dX1_mostHarmfulSector_9 : decode cX1_mostHarmfulSector 9 = .ok (.astore_n 1, 1) := by decide +kernel
theorem dX1_mostHarmfulSector_10 : decode cX1_mostHarmfulSector 10 = .ok (.aload_n 1, 1) := by decide +kernel
theorem dX1_mostHarmfulSector_11 : decode cX1_mostHarmfulSector 11 = .ok (.ifnonnull 5, 3) := by decide +kernel
theorem dX1_mostHarmfulSector_14 : decode cX1_mostHarmfulSector 14 = .ok (.iconst 0, 1) := by decide +kernel
theorem dX1_mostHarmfulSector_15 : decode cX1_mostHarmfulSector 15 = .ok (.ireturn, 1) := by decide +kernel
theorem dX1_mostHarmfulSector_16 : decode cX1_mostHarmfulSector 16 = .ok (.aload_n 0, 1) := by decide +kernel
theorem dX1_mostHarmfulSector_17 : decode cX1_mostHarmfulSector 17 = .ok (.iconst 0, 1) := by decide +kernel
theorem dX1_mostHarmfulSector_18 : decode cX1_mostHarmfulSector 18 = .ok (.aload_n 1, 1) := by decide +kernel
theorem dX1_mostHarmfulSector_19 : decode cX1_mostHarmfulSector 19 = .ok (.getfield 111, 3) := by decide +kernel
theorem dX1_mostHarmfulSector_22 : decode cX1_mostHarmfulSector 22 = .ok (.invokevirtual 150, 3) := by decide +kernel
theorem dX1_mostHarmfulSector_25 : decode cX1_mostHarmfulSector 25 = .ok (.istore_n 2, 1) := by decide +kernel
theorem dX1_mostHarmfulSector_26 : decode cX1_mostHarmfulSector 26 = .ok (.iconst 0, 1) := by decide +kernel
theorem dX1_mostHarmfulSector_27 : decode cX1_mostHarmfulSector 27 = .ok (.istore_n 3, 1) := by decide +kernel
theorem dX1_mostHarmfulSector_28 : decode cX1_mostHarmfulSector 28 = .ok (.iload_n 3, 1) := by decide +kernel
theorem dX1_mostHarmfulSector_29 : decode cX1_mostHarmfulSector 29 = .ok (.bipush 20, 2) := by decide +kernel
theorem dX1_mostHarmfulSector_31 : decode cX1_mostHarmfulSector 31 = .ok (.if_icmp .ge 32, 3) := by decide +kernel
theorem dX1_mostHarmfulSector_34 : decode cX1_mostHarmfulSector 34 = .ok (.aload_n 1, 1) := by decide +kernel
theorem dX1_mostHarmfulSector_35 : decode cX1_mostHarmfulSector 35 = .ok (.iload_n 3, 1) := by decide +kernel
theorem dX1_mostHarmfulSector_36 : decode cX1_mostHarmfulSector 36 = .ok (.invokevirtual 93, 3) := by decide +kernel
theorem dX1_mostHarmfulSector_39 : decode cX1_mostHarmfulSector 39 = .ok (.astore 4, 2) := by decide +kernel
theorem dX1_mostHarmfulSector_41 : decode cX1_mostHarmfulSector 41 = .ok (.aload 4, 2) := by decide +kernel
theorem dX1_mostHarmfulSector_43 : decode cX1_mostHarmfulSector 43 = .ok (.ifnull 14, 3) := by decide +kernel
theorem dX1_mostHarmfulSector_46 : decode cX1_mostHarmfulSector 46 = .ok (.aload_n 0, 1) := by decide +kernel
theorem dX1_mostHarmfulSector_47 : decode cX1_mostHarmfulSector 47 = .ok (.iload_n 2, 1) := by decide +kernel
theorem dX1_mostHarmfulSector_48 : decode cX1_mostHarmfulSector 48 = .ok (.aload 4, 2) := by decide +kernel
theorem dX1_mostHarmfulSector_50 : decode cX1_mostHarmfulSector 50 = .ok (.getfield 90, 3) := by decide +kernel
theorem dX1_mostHarmfulSector_53 : decode cX1_mostHarmfulSector 53 = .ok (.invokevirtual 150, 3) := by decide +kernel
theorem dX1_mostHarmfulSector_56 : decode cX1_mostHarmfulSector 56 = .ok (.istore_n 2, 1) := by decide +kernel
theorem dX1_mostHarmfulSector_57 : decode cX1_mostHarmfulSector 57 = .ok (.iinc 3 1, 3) := by decide +kernel
theorem dX1_mostHarmfulSector_60 : decode cX1_mostHarmfulSector 60 = .ok (.goto (-32), 3) := by decide +kernel
theorem dX1_mostHarmfulSector_63 : decode cX1_mostHarmfulSector 63 = .ok (.iload_n 2, 1) := by decide +kernel
theorem dX1_mostHarmfulSector_64 : decode cX1_mostHarmfulSector 64 = .ok (.ireturn, 1) := by decide +kernel
theorem dX1_moreHarmful_0 : decode cX1_moreHarmful 0 = .ok (.aload_n 0, 1) := by decide +kernel
theorem dX1_moreHarmful_1 : decode cX1_moreHarmful 1 = .ok (.iload_n 1, 1) := by decide +kernel
theorem dX1_moreHarmful_2 : decode cX1_moreHarmful 2 = .ok (.invokevirtual 153, 3) := by decide +kernel
theorem dX1_moreHarmful_5 : decode cX1_moreHarmful 5 = .ok (.istore_n 3, 1) := by decide +kernel
theorem dX1_moreHarmful_6 : decode cX1_moreHarmful 6 = .ok (.aload_n 0, 1) := by decide +kernel
theorem dX1_moreHarmful_7 : decode cX1_moreHarmful 7 = .ok (.iload_n 2, 1) := by decide +kernel
theorem dX1_moreHarmful_8 : decode cX1_moreHarmful 8 = .ok (.invokevirtual 153, 3) := by decide +kernel
theorem dX1_moreHarmful_11 : decode cX1_moreHarmful 11 = .ok (.istore 4, 2) := by decide +kernel
theorem dX1_moreHarmful_13 : decode cX1_moreHarmful 13 = .ok (.iload_n 3, 1) := by decide +kernel
theorem dX1_moreHarmful_14 : decode cX1_moreHarmful 14 = .ok (.iload 4, 2) := by decide +kernel
theorem dX1_moreHarmful_16 : decode cX1_moreHarmful 16 = .ok (.if_icmp .ne 9, 3) := by decide +kernel
theorem dX1_moreHarmful_19 : decode cX1_moreHarmful 19 = .ok (.iload_n 1, 1) := by decide +kernel
theorem dX1_moreHarmful_20 : decode cX1_moreHarmful 20 = .ok (.iload_n 2, 1) := by decide +kernel
theorem dX1_moreHarmful_21 : decode cX1_moreHarmful 21 = .ok (.invokestatic 128, 3) := by decide +kernel
theorem dX1_moreHarmful_24 : decode cX1_moreHarmful 24 = .ok (.ireturn, 1) := by decide +kernel
theorem dX1_moreHarmful_25 : decode cX1_moreHarmful 25 = .ok (.iload_n 3, 1) := by decide +kernel
theorem dX1_moreHarmful_26 : decode cX1_moreHarmful 26 = .ok (.iload 4, 2) := by decide +kernel
theorem dX1_moreHarmful_28 : decode cX1_moreHarmful 28 = .ok (.if_icmp .ge 7, 3) := by decide +kernel
theorem dX1_moreHarmful_31 : decode cX1_moreHarmful 31 = .ok (.iload_n 1, 1) := by decide +kernel
theorem dX1_moreHarmful_32 : decode cX1_moreHarmful 32 = .ok (.goto 4, 3) := by decide +kernel
theorem dX1_moreHarmful_35 : decode cX1_moreHarmful 35 = .ok (.iload_n 2, 1) := by decide +kernel
theorem dX1_moreHarmful_36 : decode cX1_moreHarmful 36 = .ok (.ireturn, 1) := by decide +kernel
theorem dX2_init_0 : decode cX2_init 0 = .ok (.aload_n 0, 1) := by decide +kernel
theorem dX2_init_1 : decode cX2_init 1 = .ok (.invokespecial 3, 3) := by decide +kernel
theorem dX2_init_4 : decode cX2_init 4 = .ok (.aload_n 0, 1) := by decide +kernel
theorem dX2_init_5 : decode cX2_init 5 = .ok (.iconst 5, 1) := by decide +kernel
theorem dX2_init_6 : decode cX2_init 6 = .ok (.anewarray 9, 3) := by decide +kernel
theorem dX2_init_9 : decode cX2_init 9 = .ok (.putfield 11, 3) := by decide +kernel
theorem dX2_init_12 : decode cX2_init 12 = .ok (.iconst 0, 1) := by decide +kernel
theorem dX2_init_13 : decode cX2_init 13 = .ok (.istore_n 1, 1) := by decide +kernel
theorem dX2_init_14 : decode cX2_init 14 = .ok (.iload_n 1, 1) := by decide +kernel
theorem dX2_init_15 : decode cX2_init 15 = .ok (.iconst 5, 1) := by decide +kernel
theorem dX2_init_16 : decode cX2_init 16 = .ok (.if_icmp .ge 22, 3) := by decide +kernel
theorem dX2_init_19 : decode cX2_init 19 = .ok (.aload_n 0, 1) := by decide +kernel
theorem dX2_init_20 : decode cX2_init 20 = .ok (.getfield 11, 3) := by decide +kernel
theorem dX2_init_23 : decode cX2_init 23 = .ok (.iload_n 1, 1) := by decide +kernel
theorem dX2_init_24 : decode cX2_init 24 = .ok (.new 9, 3) := by decide +kernel
theorem dX2_init_27 : decode cX2_init 27 = .ok (.dup, 1) := by decide +kernel
theorem dX2_init_28 : decode cX2_init 28 = .ok (.invokespecial 17, 3) := by decide +kernel
theorem dX2_init_31 : decode cX2_init 31 = .ok (.aastore, 1) := by decide +kernel
theorem dX2_init_32 : decode cX2_init 32 = .ok (.iinc 1 1, 3) := by decide +kernel
theorem dX2_init_35 : decode cX2_init 35 = .ok (.goto (-21), 3) := by decide +kernel
theorem dX2_init_38 : decode cX2_init 38 = .ok (.return_, 1) := by decide +kernel
theorem dX2_slotBehindHeld_0 : decode cX2_slotBehindHeld 0 = .ok (.aload_n 0, 1) := by decide +kernel
theorem dX2_slotBehindHeld_1 : decode cX2_slotBehindHeld 1 = .ok (.getfield 11, 3) := by decide +kernel
theorem dX2_slotBehindHeld_4 : decode cX2_slotBehindHeld 4 = .ok (.aload_n 0, 1) := by decide +kernel
theorem dX2_slotBehindHeld_5 : decode cX2_slotBehindHeld 5 = .ok (.getfield 18, 3) := by decide +kernel
theorem dX2_slotBehindHeld_8 : decode cX2_slotBehindHeld 8 = .ok (.aload_n 0, 1) := by decide +kernel
theorem dX2_slotBehindHeld_9 : decode cX2_slotBehindHeld 9 = .ok (.getfield 22, 3) := by decide +kernel
theorem dX2_slotBehindHeld_12 : decode cX2_slotBehindHeld 12 = .ok (.iadd, 1) := by decide +kernel
theorem dX2_slotBehindHeld_13 : decode cX2_slotBehindHeld 13 = .ok (.iconst 5, 1) := by decide +kernel
theorem dX2_slotBehindHeld_14 : decode cX2_slotBehindHeld 14 = .ok (.invokestatic 25, 3) := by decide +kernel
theorem dX2_slotBehindHeld_17 : decode cX2_slotBehindHeld 17 = .ok (.aaload, 1) := by decide +kernel
theorem dX2_slotBehindHeld_18 : decode cX2_slotBehindHeld 18 = .ok (.areturn, 1) := by decide +kernel
theorem dX2_sketch_0 : decode cX2_sketch 0 = .ok (.aload_n 0, 1) := by decide +kernel
theorem dX2_sketch_1 : decode cX2_sketch 1 = .ok (.invokevirtual 31, 3) := by decide +kernel
theorem dX2_sketch_4 : decode cX2_sketch 4 = .ok (.aload_n 1, 1) := by decide +kernel
theorem dX2_sketch_5 : decode cX2_sketch 5 = .ok (.invokevirtual 35, 3) := by decide +kernel
theorem dX2_sketch_8 : decode cX2_sketch 8 = .ok (.return_, 1) := by decide +kernel
theorem dX2_recordSketch_0 : decode cX2_recordSketch 0 = .ok (.aload_n 0, 1) := by decide +kernel
theorem dX2_recordSketch_1 : decode cX2_recordSketch 1 = .ok (.getfield 22, 3) := by decide +kernel
theorem dX2_recordSketch_4 : decode cX2_recordSketch 4 = .ok (.iconst 4, 1) := by decide +kernel
theorem dX2_recordSketch_5 : decode cX2_recordSketch 5 = .ok (.if_icmp .ge 16, 3) := by decide +kernel
theorem dX2_recordSketch_8 : decode cX2_recordSketch 8 = .ok (.aload_n 0, 1) := by decide +kernel
theorem dX2_recordSketch_9 : decode cX2_recordSketch 9 = .ok (.dup, 1) := by decide +kernel
theorem dX2_recordSketch_10 : decode cX2_recordSketch 10 = .ok (.getfield 22, 3) := by decide +kernel
theorem dX2_recordSketch_13 : decode cX2_recordSketch 13 = .ok (.iconst 1, 1) := by decide +kernel
theorem dX2_recordSketch_14 : decode cX2_recordSketch 14 = .ok (.iadd, 1) := by decide +kernel
theorem dX2_recordSketch_15 : decode cX2_recordSketch 15 = .ok (.putfield 22, 3) := by decide +kernel
theorem dX2_recordSketch_18 : decode cX2_recordSketch 18 = .ok (.goto 15, 3) := by decide +kernel
theorem dX2_recordSketch_21 : decode cX2_recordSketch 21 = .ok (.aload_n 0, 1) := by decide +kernel
theorem dX2_recordSketch_22 : decode cX2_recordSketch 22 = .ok (.aload_n 0, 1) := by decide +kernel
theorem dX2_recordSketch_23 : decode cX2_recordSketch 23 = .ok (.getfield 18, 3) := by decide +kernel
theorem dX2_recordSketch_26 : decode cX2_recordSketch 26 = .ok (.iconst 1, 1) := by decide +kernel
theorem dX2_recordSketch_27 : decode cX2_recordSketch 27 = .ok (.iadd, 1) := by decide +kernel
theorem dX2_recordSketch_28 : decode cX2_recordSketch 28 = .ok (.iconst 5, 1) := by decide +kernel
theorem dX2_recordSketch_29 : decode cX2_recordSketch 29 = .ok (.irem, 1) := by decide +kernel
theorem dX2_recordSketch_30 : decode cX2_recordSketch 30 = .ok (.putfield 18, 3) := by decide +kernel
theorem dX2_recordSketch_33 : decode cX2_recordSketch 33 = .ok (.return_, 1) := by decide +kernel
theorem dX2_takeBack_0 : decode cX2_takeBack 0 = .ok (.aload_n 0, 1) := by decide +kernel
theorem dX2_takeBack_1 : decode cX2_takeBack 1 = .ok (.getfield 22, 3) := by decide +kernel
theorem dX2_takeBack_4 : decode cX2_takeBack 4 = .ok (.ifCond .ne 5, 3) := by decide +kernel
theorem dX2_takeBack_7 : decode cX2_takeBack 7 = .ok (.iconst 0, 1) := by decide +kernel
theorem dX2_takeBack_8 : decode cX2_takeBack 8 = .ok (.ireturn, 1) := by decide +kernel
theorem dX2_takeBack_9 : decode cX2_takeBack 9 = .ok (.aload_n 0, 1) := by decide +kernel
theorem dX2_takeBack_10 : decode cX2_takeBack 10 = .ok (.dup, 1) := by decide +kernel
theorem dX2_takeBack_11 : decode cX2_takeBack 11 = .ok (.getfield 22, 3) := by decide +kernel
theorem dX2_takeBack_14 : decode cX2_takeBack 14 = .ok (.iconst 1, 1) := by decide +kernel
theorem dX2_takeBack_15 : decode cX2_takeBack 15 = .ok (.isub, 1) := by decide +kernel
theorem dX2_takeBack_16 : decode cX2_takeBack 16 = .ok (.putfield 22, 3) := by decide +kernel
theorem dX2_takeBack_19 : decode cX2_takeBack 19 = .ok (.aload_n 1, 1) := by decide +kernel
theorem dX2_takeBack_20 : decode cX2_takeBack 20 = .ok (.aload_n 0, 1) := by decide +kernel
theorem dX2_takeBack_21 : decode cX2_takeBack 21 = .ok (.invokevirtual 31, 3) := by decide +kernel
theorem dX2_takeBack_24 : decode cX2_takeBack 24 = .ok (.invokevirtual 35, 3) := by decide +kernel
theorem dX2_takeBack_27 : decode cX2_takeBack 27 = .ok (.iconst 1, 1) := by decide +kernel
theorem dX2_takeBack_28 : decode cX2_takeBack 28 = .ok (.ireturn, 1) := by decide +kernel
theorem dX3_init_0 : decode cX3_init 0 = .ok (.aload_n 0, 1) := by decide +kernel
theorem dX3_init_1 : decode cX3_init 1 = .ok (.invokespecial 3, 3) := by decide +kernel
theorem dX3_init_4 : decode cX3_init 4 = .ok (.aload_n 0, 1) := by decide +kernel
theorem dX3_init_5 : decode cX3_init 5 = .ok (.bipush 20, 2) := by decide +kernel
theorem dX3_init_7 : decode cX3_init 7 = .ok (.anewarray 9, 3) := by decide +kernel
theorem dX3_init_10 : decode cX3_init 10 = .ok (.putfield 11, 3) := by decide +kernel
theorem dX3_init_13 : decode cX3_init 13 = .ok (.return_, 1) := by decide +kernel
theorem dX3_startAt_0 : decode cX3_startAt 0 = .ok (.aload_n 0, 1) := by decide +kernel
theorem dX3_startAt_1 : decode cX3_startAt 1 = .ok (.iconst 0, 1) := by decide +kernel
theorem dX3_startAt_2 : decode cX3_startAt 2 = .ok (.putfield 17, 3) := by decide +kernel
theorem dX3_startAt_5 : decode cX3_startAt 5 = .ok (.aload_n 0, 1) := by decide +kernel
theorem dX3_startAt_6 : decode cX3_startAt 6 = .ok (.iload_n 1, 1) := by decide +kernel
theorem dX3_startAt_7 : decode cX3_startAt 7 = .ok (.putfield 21, 3) := by decide +kernel
theorem dX3_startAt_10 : decode cX3_startAt 10 = .ok (.aload_n 0, 1) := by decide +kernel
theorem dX3_startAt_11 : decode cX3_startAt 11 = .ok (.iload_n 1, 1) := by decide +kernel
theorem dX3_startAt_12 : decode cX3_startAt 12 = .ok (.iload_n 2, 1) := by decide +kernel
theorem dX3_startAt_13 : decode cX3_startAt 13 = .ok (.iadd, 1) := by decide +kernel
theorem dX3_startAt_14 : decode cX3_startAt 14 = .ok (.putfield 24, 3) := by decide +kernel
theorem dX3_startAt_17 : decode cX3_startAt 17 = .ok (.aload_n 0, 1) := by decide +kernel
theorem dX3_startAt_18 : decode cX3_startAt 18 = .ok (.iload_n 2, 1) := by decide +kernel
theorem dX3_startAt_19 : decode cX3_startAt 19 = .ok (.putfield 27, 3) := by decide +kernel
theorem dX3_startAt_22 : decode cX3_startAt 22 = .ok (.aload_n 0, 1) := by decide +kernel
theorem dX3_startAt_23 : decode cX3_startAt 23 = .ok (.iload_n 3, 1) := by decide +kernel
theorem dX3_startAt_24 : decode cX3_startAt 24 = .ok (.putfield 30, 3) := by decide +kernel
theorem dX3_startAt_27 : decode cX3_startAt 27 = .ok (.aload_n 0, 1) := by decide +kernel
theorem dX3_startAt_28 : decode cX3_startAt 28 = .ok (.iconst 0, 1) := by decide +kernel
theorem dX3_startAt_29 : decode cX3_startAt 29 = .ok (.putfield 33, 3) := by decide +kernel
theorem dX3_startAt_32 : decode cX3_startAt 32 = .ok (.iconst 0, 1) := by decide +kernel
theorem dX3_startAt_33 : decode cX3_startAt 33 = .ok (.istore 4, 2) := by decide +kernel
theorem dX3_startAt_35 : decode cX3_startAt 35 = .ok (.iload 4, 2) := by decide +kernel
theorem dX3_startAt_37 : decode cX3_startAt 37 = .ok (.bipush 20, 2) := by decide +kernel
theorem dX3_startAt_39 : decode cX3_startAt 39 = .ok (.if_icmp .ge 17, 3) := by decide +kernel
theorem dX3_startAt_42 : decode cX3_startAt 42 = .ok (.aload_n 0, 1) := by decide +kernel
theorem dX3_startAt_43 : decode cX3_startAt 43 = .ok (.getfield 11, 3) := by decide +kernel
theorem dX3_startAt_46 : decode cX3_startAt 46 = .ok (.iload 4, 2) := by decide +kernel
theorem dX3_startAt_48 : decode cX3_startAt 48 = .ok (.aconst_null, 1) := by decide +kernel
theorem dX3_startAt_49 : decode cX3_startAt 49 = .ok (.aastore, 1) := by decide +kernel
theorem dX3_startAt_50 : decode cX3_startAt 50 = .ok (.iinc 4 1, 3) := by decide +kernel
theorem dX3_startAt_53 : decode cX3_startAt 53 = .ok (.goto (-18), 3) := by decide +kernel
theorem dX3_startAt_56 : decode cX3_startAt 56 = .ok (.return_, 1) := by decide +kernel
theorem dX3_copyTable_0 : decode cX3_copyTable 0 = .ok (.iconst 0, 1) := by decide +kernel
theorem dX3_copyTable_1 : decode cX3_copyTable 1 = .ok (.istore_n 2, 1) := by decide +kernel
theorem dX3_copyTable_2 : decode cX3_copyTable 2 = .ok (.iload_n 2, 1) := by decide +kernel
theorem dX3_copyTable_3 : decode cX3_copyTable 3 = .ok (.bipush 20, 2) := by decide +kernel
theorem dX3_copyTable_5 : decode cX3_copyTable 5 = .ok (.if_icmp .ge 21, 3) := by decide +kernel
theorem dX3_copyTable_8 : decode cX3_copyTable 8 = .ok (.aload_n 0, 1) := by decide +kernel
theorem dX3_copyTable_9 : decode cX3_copyTable 9 = .ok (.getfield 11, 3) := by decide +kernel
theorem dX3_copyTable_12 : decode cX3_copyTable 12 = .ok (.iload_n 2, 1) := by decide +kernel
theorem dX3_copyTable_13 : decode cX3_copyTable 13 = .ok (.aload_n 1, 1) := by decide +kernel
theorem dX3_copyTable_14 : decode cX3_copyTable 14 = .ok (.getfield 11, 3) := by decide +kernel
theorem dX3_copyTable_17 : decode cX3_copyTable 17 = .ok (.iload_n 2, 1) := by decide +kernel
theorem dX3_copyTable_18 : decode cX3_copyTable 18 = .ok (.aaload, 1) := by decide +kernel
theorem dX3_copyTable_19 : decode cX3_copyTable 19 = .ok (.aastore, 1) := by decide +kernel
theorem dX3_copyTable_20 : decode cX3_copyTable 20 = .ok (.iinc 2 1, 3) := by decide +kernel
theorem dX3_copyTable_23 : decode cX3_copyTable 23 = .ok (.goto (-21), 3) := by decide +kernel
theorem dX3_copyTable_26 : decode cX3_copyTable 26 = .ok (.return_, 1) := by decide +kernel
theorem dX3_copyAll_0 : decode cX3_copyAll 0 = .ok (.aload_n 0, 1) := by decide +kernel
theorem dX3_copyAll_1 : decode cX3_copyAll 1 = .ok (.aload_n 1, 1) := by decide +kernel
theorem dX3_copyAll_2 : decode cX3_copyAll 2 = .ok (.getfield 17, 3) := by decide +kernel
theorem dX3_copyAll_5 : decode cX3_copyAll 5 = .ok (.putfield 17, 3) := by decide +kernel
theorem dX3_copyAll_8 : decode cX3_copyAll 8 = .ok (.aload_n 0, 1) := by decide +kernel
theorem dX3_copyAll_9 : decode cX3_copyAll 9 = .ok (.aload_n 1, 1) := by decide +kernel
theorem dX3_copyAll_10 : decode cX3_copyAll 10 = .ok (.getfield 21, 3) := by decide +kernel
theorem dX3_copyAll_13 : decode cX3_copyAll 13 = .ok (.putfield 21, 3) := by decide +kernel
theorem dX3_copyAll_16 : decode cX3_copyAll 16 = .ok (.aload_n 0, 1) := by decide +kernel
theorem dX3_copyAll_17 : decode cX3_copyAll 17 = .ok (.aload_n 1, 1) := by decide +kernel
theorem dX3_copyAll_18 : decode cX3_copyAll 18 = .ok (.getfield 24, 3) := by decide +kernel
theorem dX3_copyAll_21 : decode cX3_copyAll 21 = .ok (.putfield 24, 3) := by decide +kernel
theorem dX3_copyAll_24 : decode cX3_copyAll 24 = .ok (.aload_n 0, 1) := by decide +kernel
theorem dX3_copyAll_25 : decode cX3_copyAll 25 = .ok (.aload_n 1, 1) := by decide +kernel
theorem dX3_copyAll_26 : decode cX3_copyAll 26 = .ok (.getfield 27, 3) := by decide +kernel
theorem dX3_copyAll_29 : decode cX3_copyAll 29 = .ok (.putfield 27, 3) := by decide +kernel
theorem dX3_copyAll_32 : decode cX3_copyAll 32 = .ok (.aload_n 0, 1) := by decide +kernel
theorem dX3_copyAll_33 : decode cX3_copyAll 33 = .ok (.aload_n 1, 1) := by decide +kernel
theorem dX3_copyAll_34 : decode cX3_copyAll 34 = .ok (.getfield 30, 3) := by decide +kernel
theorem dX3_copyAll_37 : decode cX3_copyAll 37 = .ok (.putfield 30, 3) := by decide +kernel
theorem dX3_copyAll_40 : decode cX3_copyAll 40 = .ok (.aload_n 0, 1) := by decide +kernel
theorem dX3_copyAll_41 : decode cX3_copyAll 41 = .ok (.aload_n 1, 1) := by decide +kernel
theorem dX3_copyAll_42 : decode cX3_copyAll 42 = .ok (.getfield 33, 3) := by decide +kernel
theorem dX3_copyAll_45 : decode cX3_copyAll 45 = .ok (.putfield 33, 3) := by decide +kernel
theorem dX3_copyAll_48 : decode cX3_copyAll 48 = .ok (.aload_n 0, 1) := by decide +kernel
theorem dX3_copyAll_49 : decode cX3_copyAll 49 = .ok (.aload_n 1, 1) := by decide +kernel
theorem dX3_copyAll_50 : decode cX3_copyAll 50 = .ok (.invokevirtual 36, 3) := by decide +kernel
theorem dX3_copyAll_53 : decode cX3_copyAll 53 = .ok (.return_, 1) := by decide +kernel
theorem dX3_fileOf_0 : decode cX3_fileOf 0 = .ok (.iload_n 1, 1) := by decide +kernel
theorem dX3_fileOf_1 : decode cX3_fileOf 1 = .ok (.invokestatic 40, 3) := by decide +kernel
theorem dX3_fileOf_4 : decode cX3_fileOf 4 = .ok (.ifCond .eq 12, 3) := by decide +kernel
theorem dX3_fileOf_7 : decode cX3_fileOf 7 = .ok (.aload_n 0, 1) := by decide +kernel
theorem dX3_fileOf_8 : decode cX3_fileOf 8 = .ok (.getfield 11, 3) := by decide +kernel
theorem dX3_fileOf_11 : decode cX3_fileOf 11 = .ok (.iload_n 1, 1) := by decide +kernel
theorem dX3_fileOf_12 : decode cX3_fileOf 12 = .ok (.aaload, 1) := by decide +kernel
theorem dX3_fileOf_13 : decode cX3_fileOf 13 = .ok (.goto 4, 3) := by decide +kernel
theorem dX3_fileOf_16 : decode cX3_fileOf 16 = .ok (.aconst_null, 1) := by decide +kernel
theorem dX3_fileOf_17 : decode cX3_fileOf 17 = .ok (.areturn, 1) := by decide +kernel
theorem dX3_putFile_0 : decode cX3_putFile 0 = .ok (.iload_n 1, 1) := by decide +kernel
theorem dX3_putFile_1 : decode cX3_putFile 1 = .ok (.invokestatic 40, 3) := by decide +kernel
theorem dX3_putFile_4 : decode cX3_putFile 4 = .ok (.ifCond .eq 10, 3) := by decide +kernel
theorem dX3_putFile_7 : decode cX3_putFile 7 = .ok (.aload_n 0, 1) := by decide +kernel
theorem dX3_putFile_8 : decode cX3_putFile 8 = .ok (.getfield 11, 3) := by decide +kernel
theorem dX3_putFile_11 : decode cX3_putFile 11 = .ok (.iload_n 1, 1) := by decide +kernel
theorem dX3_putFile_12 : decode cX3_putFile 12 = .ok (.aload_n 2, 1) := by decide +kernel
theorem dX3_putFile_13 : decode cX3_putFile 13 = .ok (.aastore, 1) := by decide +kernel
theorem dX3_putFile_14 : decode cX3_putFile 14 = .ok (.return_, 1) := by decide +kernel
theorem dX3_countEntries_0 : decode cX3_countEntries 0 = .ok (.iconst 0, 1) := by decide +kernel
theorem dX3_countEntries_1 : decode cX3_countEntries 1 = .ok (.istore_n 1, 1) := by decide +kernel
theorem dX3_countEntries_2 : decode cX3_countEntries 2 = .ok (.iconst 0, 1) := by decide +kernel
theorem dX3_countEntries_3 : decode cX3_countEntries 3 = .ok (.istore_n 2, 1) := by decide +kernel
theorem dX3_countEntries_4 : decode cX3_countEntries 4 = .ok (.iload_n 2, 1) := by decide +kernel
theorem dX3_countEntries_5 : decode cX3_countEntries 5 = .ok (.bipush 20, 2) := by decide +kernel
theorem dX3_countEntries_7 : decode cX3_countEntries 7 = .ok (.if_icmp .ge 21, 3) := by decide +kernel
theorem dX3_countEntries_10 : decode cX3_countEntries 10 = .ok (.aload_n 0, 1) := by decide +kernel
theorem dX3_countEntries_11 : decode cX3_countEntries 11 = .ok (.getfield 11, 3) := by decide +kernel
theorem dX3_countEntries_14 : decode cX3_countEntries 14 = .ok (.iload_n 2, 1) := by decide +kernel
theorem dX3_countEntries_15 : decode cX3_countEntries 15 = .ok (.aaload, 1) := by decide +kernel
theorem dX3_countEntries_16 : decode cX3_countEntries 16 = .ok (.ifnull 6, 3) := by decide +kernel
theorem dX3_countEntries_19 : decode cX3_countEntries 19 = .ok (.iinc 1 1, 3) := by decide +kernel
theorem dX3_countEntries_22 : decode cX3_countEntries 22 = .ok (.iinc 2 1, 3) := by decide +kernel
theorem dX3_countEntries_25 : decode cX3_countEntries 25 = .ok (.goto (-21), 3) := by decide +kernel
theorem dX3_countEntries_28 : decode cX3_countEntries 28 = .ok (.iload_n 1, 1) := by decide +kernel
theorem dX3_countEntries_29 : decode cX3_countEntries 29 = .ok (.ireturn, 1) := by decide +kernel
theorem dX3_hasTaken_0 : decode cX3_hasTaken 0 = .ok (.iload_n 1, 1) := by decide +kernel
theorem dX3_hasTaken_1 : decode cX3_hasTaken 1 = .ok (.aload_n 0, 1) := by decide +kernel
theorem dX3_hasTaken_2 : decode cX3_hasTaken 2 = .ok (.getfield 21, 3) := by decide +kernel
theorem dX3_hasTaken_5 : decode cX3_hasTaken 5 = .ok (.if_icmp .lt 15, 3) := by decide +kernel
theorem dX3_hasTaken_8 : decode cX3_hasTaken 8 = .ok (.iload_n 1, 1) := by decide +kernel
theorem dX3_hasTaken_9 : decode cX3_hasTaken 9 = .ok (.aload_n 0, 1) := by decide +kernel
theorem dX3_hasTaken_10 : decode cX3_hasTaken 10 = .ok (.getfield 24, 3) := by decide +kernel
theorem dX3_hasTaken_13 : decode cX3_hasTaken 13 = .ok (.if_icmp .ge 7, 3) := by decide +kernel
theorem dX3_hasTaken_16 : decode cX3_hasTaken 16 = .ok (.iconst 1, 1) := by decide +kernel
theorem dX3_hasTaken_17 : decode cX3_hasTaken 17 = .ok (.goto 4, 3) := by decide +kernel
theorem dX3_hasTaken_20 : decode cX3_hasTaken 20 = .ok (.iconst 0, 1) := by decide +kernel
theorem dX3_hasTaken_21 : decode cX3_hasTaken 21 = .ok (.ireturn, 1) := by decide +kernel
theorem dX3_useOf_0 : decode cX3_useOf 0 = .ok (.iload_n 1, 1) := by decide +kernel
theorem dX3_useOf_1 : decode cX3_useOf 1 = .ok (.aload_n 0, 1) := by decide +kernel
theorem dX3_useOf_2 : decode cX3_useOf 2 = .ok (.getfield 21, 3) := by decide +kernel
theorem dX3_useOf_5 : decode cX3_useOf 5 = .ok (.aload_n 0, 1) := by decide +kernel
theorem dX3_useOf_6 : decode cX3_useOf 6 = .ok (.getfield 27, 3) := by decide +kernel
theorem dX3_useOf_9 : decode cX3_useOf 9 = .ok (.iadd, 1) := by decide +kernel
theorem dX3_useOf_10 : decode cX3_useOf 10 = .ok (.if_icmp .ge 5, 3) := by decide +kernel
theorem dX3_useOf_13 : decode cX3_useOf 13 = .ok (.iconst 1, 1) := by decide +kernel
theorem dX3_useOf_14 : decode cX3_useOf 14 = .ok (.ireturn, 1) := by decide +kernel
theorem dX3_useOf_15 : decode cX3_useOf 15 = .ok (.aload_n 0, 1) := by decide +kernel
theorem dX3_useOf_16 : decode cX3_useOf 16 = .ok (.getfield 17, 3) := by decide +kernel
theorem dX3_useOf_19 : decode cX3_useOf 19 = .ok (.iconst 1, 1) := by decide +kernel
theorem dX3_useOf_20 : decode cX3_useOf 20 = .ok (.if_icmp .ne 18, 3) := by decide +kernel
theorem dX3_useOf_23 : decode cX3_useOf 23 = .ok (.iload_n 1, 1) := by decide +kernel
theorem dX3_useOf_24 : decode cX3_useOf 24 = .ok (.aload_n 0, 1) := by decide +kernel
theorem dX3_useOf_25 : decode cX3_useOf 25 = .ok (.getfield 24, 3) := by decide +kernel
theorem dX3_useOf_28 : decode cX3_useOf 28 = .ok (.aload_n 0, 1) := by decide +kernel
theorem dX3_useOf_29 : decode cX3_useOf 29 = .ok (.getfield 30, 3) := by decide +kernel
theorem dX3_useOf_32 : decode cX3_useOf 32 = .ok (.isub, 1) := by decide +kernel
theorem dX3_useOf_33 : decode cX3_useOf 33 = .ok (.if_icmp .lt 5, 3) := by decide +kernel
theorem dX3_useOf_36 : decode cX3_useOf 36 = .ok (.iconst 2, 1) := by decide +kernel
theorem dX3_useOf_37 : decode cX3_useOf 37 = .ok (.ireturn, 1) := by decide +kernel
theorem dX3_useOf_38 : decode cX3_useOf 38 = .ok (.iconst 3, 1) := by decide +kernel
theorem dX3_useOf_39 : decode cX3_useOf 39 = .ok (.ireturn, 1) := by decide +kernel
theorem dX4_init_0 : decode cX4_init 0 = .ok (.aload_n 0, 1) := by decide +kernel
theorem dX4_init_1 : decode cX4_init 1 = .ok (.invokespecial 1, 3) := by decide +kernel
theorem dX4_init_4 : decode cX4_init 4 = .ok (.aload_n 0, 1) := by decide +kernel
theorem dX4_init_5 : decode cX4_init 5 = .ok (.iload_n 1, 1) := by decide +kernel
theorem dX4_init_6 : decode cX4_init 6 = .ok (.putfield 7, 3) := by decide +kernel
theorem dX4_init_9 : decode cX4_init 9 = .ok (.aload_n 0, 1) := by decide +kernel
theorem dX4_init_10 : decode cX4_init 10 = .ok (.iload_n 2, 1) := by decide +kernel
theorem dX4_init_11 : decode cX4_init 11 = .ok (.putfield 13, 3) := by decide +kernel
theorem dX4_init_14 : decode cX4_init 14 = .ok (.aload_n 0, 1) := by decide +kernel
theorem dX4_init_15 : decode cX4_init 15 = .ok (.iload_n 3, 1) := by decide +kernel
theorem dX4_init_16 : decode cX4_init 16 = .ok (.putfield 16, 3) := by decide +kernel
theorem dX4_init_19 : decode cX4_init 19 = .ok (.return_, 1) := by decide +kernel
theorem dX5_init_0 : decode cX5_init 0 = .ok (.aload_n 0, 1) := by decide +kernel
theorem dX5_init_1 : decode cX5_init 1 = .ok (.invokespecial 3, 3) := by decide +kernel
theorem dX5_init_4 : decode cX5_init 4 = .ok (.aload_n 0, 1) := by decide +kernel
theorem dX5_init_5 : decode cX5_init 5 = .ok (.new 9, 3) := by decide +kernel
theorem dX5_init_8 : decode cX5_init 8 = .ok (.dup, 1) := by decide +kernel
theorem dX5_init_9 : decode cX5_init 9 = .ok (.invokespecial 11, 3) := by decide +kernel
theorem dX5_init_12 : decode cX5_init 12 = .ok (.putfield 12, 3) := by decide +kernel
theorem dX5_init_15 : decode cX5_init 15 = .ok (.aload_n 0, 1) := by decide +kernel
theorem dX5_init_16 : decode cX5_init 16 = .ok (.new 16, 3) := by decide +kernel
theorem dX5_init_19 : decode cX5_init 19 = .ok (.dup, 1) := by decide +kernel
theorem dX5_init_20 : decode cX5_init 20 = .ok (.invokespecial 18, 3) := by decide +kernel
theorem dX5_init_23 : decode cX5_init 23 = .ok (.putfield 19, 3) := by decide +kernel
theorem dX5_init_26 : decode cX5_init 26 = .ok (.aload_n 0, 1) := by decide +kernel
theorem dX5_init_27 : decode cX5_init 27 = .ok (.new 23, 3) := by decide +kernel
theorem dX5_init_30 : decode cX5_init 30 = .ok (.dup, 1) := by decide +kernel
theorem dX5_init_31 : decode cX5_init 31 = .ok (.invokespecial 25, 3) := by decide +kernel
theorem dX5_init_34 : decode cX5_init 34 = .ok (.putfield 26, 3) := by decide +kernel
theorem dX5_init_37 : decode cX5_init 37 = .ok (.return_, 1) := by decide +kernel
theorem dX5_begin_0 : decode cX5_begin 0 = .ok (.aload_n 0, 1) := by decide +kernel
theorem dX5_begin_1 : decode cX5_begin 1 = .ok (.getfield 19, 3) := by decide +kernel
theorem dX5_begin_4 : decode cX5_begin 4 = .ok (.aload_n 0, 1) := by decide +kernel
theorem dX5_begin_5 : decode cX5_begin 5 = .ok (.getfield 12, 3) := by decide +kernel
theorem dX5_begin_8 : decode cX5_begin 8 = .ok (.invokevirtual 30, 3) := by decide +kernel
theorem dX5_begin_11 : decode cX5_begin 11 = .ok (.aload_n 0, 1) := by decide +kernel
theorem dX5_begin_12 : decode cX5_begin 12 = .ok (.aload_n 0, 1) := by decide +kernel
theorem dX5_begin_13 : decode cX5_begin 13 = .ok (.getfield 12, 3) := by decide +kernel
theorem dX5_begin_16 : decode cX5_begin 16 = .ok (.iload_n 1, 1) := by decide +kernel
theorem dX5_begin_17 : decode cX5_begin 17 = .ok (.invokevirtual 34, 3) := by decide +kernel
theorem dX5_begin_20 : decode cX5_begin 20 = .ok (.invokevirtual 38, 3) := by decide +kernel
theorem dX5_begin_23 : decode cX5_begin 23 = .ok (.ireturn, 1) := by decide +kernel
theorem dX5_write_0 : decode cX5_write 0 = .ok (.aload_n 0, 1) := by decide +kernel
theorem dX5_write_1 : decode cX5_write 1 = .ok (.getfield 19, 3) := by decide +kernel
theorem dX5_write_4 : decode cX5_write 4 = .ok (.aload_n 0, 1) := by decide +kernel
theorem dX5_write_5 : decode cX5_write 5 = .ok (.getfield 12, 3) := by decide +kernel
theorem dX5_write_8 : decode cX5_write 8 = .ok (.invokevirtual 30, 3) := by decide +kernel
theorem dX5_write_11 : decode cX5_write 11 = .ok (.aload_n 0, 1) := by decide +kernel
theorem dX5_write_12 : decode cX5_write 12 = .ok (.aload_n 0, 1) := by decide +kernel
theorem dX5_write_13 : decode cX5_write 13 = .ok (.getfield 12, 3) := by decide +kernel
theorem dX5_write_16 : decode cX5_write 16 = .ok (.iload_n 1, 1) := by decide +kernel
theorem dX5_write_17 : decode cX5_write 17 = .ok (.iload_n 2, 1) := by decide +kernel
theorem dX5_write_18 : decode cX5_write 18 = .ok (.invokevirtual 41, 3) := by decide +kernel
theorem dX5_write_21 : decode cX5_write 21 = .ok (.invokevirtual 38, 3) := by decide +kernel
theorem dX5_write_24 : decode cX5_write 24 = .ok (.ireturn, 1) := by decide +kernel
theorem dX5_remove_0 : decode cX5_remove 0 = .ok (.aload_n 0, 1) := by decide +kernel
theorem dX5_remove_1 : decode cX5_remove 1 = .ok (.getfield 19, 3) := by decide +kernel
theorem dX5_remove_4 : decode cX5_remove 4 = .ok (.aload_n 0, 1) := by decide +kernel
theorem dX5_remove_5 : decode cX5_remove 5 = .ok (.getfield 12, 3) := by decide +kernel
theorem dX5_remove_8 : decode cX5_remove 8 = .ok (.invokevirtual 30, 3) := by decide +kernel
theorem dX5_remove_11 : decode cX5_remove 11 = .ok (.aload_n 0, 1) := by decide +kernel
theorem dX5_remove_12 : decode cX5_remove 12 = .ok (.aload_n 0, 1) := by decide +kernel
theorem dX5_remove_13 : decode cX5_remove 13 = .ok (.getfield 12, 3) := by decide +kernel
theorem dX5_remove_16 : decode cX5_remove 16 = .ok (.iload_n 1, 1) := by decide +kernel
theorem dX5_remove_17 : decode cX5_remove 17 = .ok (.invokevirtual 45, 3) := by decide +kernel
theorem dX5_remove_20 : decode cX5_remove 20 = .ok (.invokevirtual 38, 3) := by decide +kernel
theorem dX5_remove_23 : decode cX5_remove 23 = .ok (.ireturn, 1) := by decide +kernel
theorem dX5_keep_0 : decode cX5_keep 0 = .ok (.aload_n 0, 1) := by decide +kernel
theorem dX5_keep_1 : decode cX5_keep 1 = .ok (.getfield 19, 3) := by decide +kernel
theorem dX5_keep_4 : decode cX5_keep 4 = .ok (.aload_n 0, 1) := by decide +kernel
theorem dX5_keep_5 : decode cX5_keep 5 = .ok (.getfield 12, 3) := by decide +kernel
theorem dX5_keep_8 : decode cX5_keep 8 = .ok (.invokevirtual 30, 3) := by decide +kernel
theorem dX5_keep_11 : decode cX5_keep 11 = .ok (.aload_n 0, 1) := by decide +kernel
theorem dX5_keep_12 : decode cX5_keep 12 = .ok (.aload_n 0, 1) := by decide +kernel
theorem dX5_keep_13 : decode cX5_keep 13 = .ok (.getfield 12, 3) := by decide +kernel
theorem dX5_keep_16 : decode cX5_keep 16 = .ok (.iload_n 1, 1) := by decide +kernel
theorem dX5_keep_17 : decode cX5_keep 17 = .ok (.iload_n 2, 1) := by decide +kernel
theorem dX5_keep_18 : decode cX5_keep 18 = .ok (.invokevirtual 48, 3) := by decide +kernel
theorem dX5_keep_21 : decode cX5_keep 21 = .ok (.invokevirtual 38, 3) := by decide +kernel
theorem dX5_keep_24 : decode cX5_keep 24 = .ok (.ireturn, 1) := by decide +kernel
theorem dX5_close_0 : decode cX5_close 0 = .ok (.aload_n 0, 1) := by decide +kernel
theorem dX5_close_1 : decode cX5_close 1 = .ok (.getfield 19, 3) := by decide +kernel
theorem dX5_close_4 : decode cX5_close 4 = .ok (.aload_n 0, 1) := by decide +kernel
theorem dX5_close_5 : decode cX5_close 5 = .ok (.getfield 12, 3) := by decide +kernel
theorem dX5_close_8 : decode cX5_close 8 = .ok (.invokevirtual 30, 3) := by decide +kernel
theorem dX5_close_11 : decode cX5_close 11 = .ok (.aload_n 0, 1) := by decide +kernel
theorem dX5_close_12 : decode cX5_close 12 = .ok (.aload_n 0, 1) := by decide +kernel
theorem dX5_close_13 : decode cX5_close 13 = .ok (.getfield 12, 3) := by decide +kernel
theorem dX5_close_16 : decode cX5_close 16 = .ok (.invokevirtual 51, 3) := by decide +kernel
theorem dX5_close_19 : decode cX5_close 19 = .ok (.invokevirtual 38, 3) := by decide +kernel
theorem dX5_close_22 : decode cX5_close 22 = .ok (.ireturn, 1) := by decide +kernel
theorem dX5_eject_0 : decode cX5_eject 0 = .ok (.aload_n 0, 1) := by decide +kernel
theorem dX5_eject_1 : decode cX5_eject 1 = .ok (.getfield 19, 3) := by decide +kernel
theorem dX5_eject_4 : decode cX5_eject 4 = .ok (.aload_n 0, 1) := by decide +kernel
theorem dX5_eject_5 : decode cX5_eject 5 = .ok (.getfield 12, 3) := by decide +kernel
theorem dX5_eject_8 : decode cX5_eject 8 = .ok (.invokevirtual 30, 3) := by decide +kernel
theorem dX5_eject_11 : decode cX5_eject 11 = .ok (.aload_n 0, 1) := by decide +kernel
theorem dX5_eject_12 : decode cX5_eject 12 = .ok (.aload_n 0, 1) := by decide +kernel
theorem dX5_eject_13 : decode cX5_eject 13 = .ok (.getfield 12, 3) := by decide +kernel
theorem dX5_eject_16 : decode cX5_eject 16 = .ok (.invokevirtual 55, 3) := by decide +kernel
theorem dX5_eject_19 : decode cX5_eject 19 = .ok (.invokevirtual 38, 3) := by decide +kernel
theorem dX5_eject_22 : decode cX5_eject 22 = .ok (.ireturn, 1) := by decide +kernel
theorem dX5_repair_0 : decode cX5_repair 0 = .ok (.aload_n 0, 1) := by decide +kernel
theorem dX5_repair_1 : decode cX5_repair 1 = .ok (.getfield 19, 3) := by decide +kernel
theorem dX5_repair_4 : decode cX5_repair 4 = .ok (.aload_n 0, 1) := by decide +kernel
theorem dX5_repair_5 : decode cX5_repair 5 = .ok (.getfield 12, 3) := by decide +kernel
theorem dX5_repair_8 : decode cX5_repair 8 = .ok (.invokevirtual 30, 3) := by decide +kernel
theorem dX5_repair_11 : decode cX5_repair 11 = .ok (.aload_n 0, 1) := by decide +kernel
theorem dX5_repair_12 : decode cX5_repair 12 = .ok (.aload_n 0, 1) := by decide +kernel
theorem dX5_repair_13 : decode cX5_repair 13 = .ok (.getfield 12, 3) := by decide +kernel
theorem dX5_repair_16 : decode cX5_repair 16 = .ok (.iload_n 1, 1) := by decide +kernel
theorem dX5_repair_17 : decode cX5_repair 17 = .ok (.invokevirtual 58, 3) := by decide +kernel
theorem dX5_repair_20 : decode cX5_repair 20 = .ok (.invokevirtual 38, 3) := by decide +kernel
theorem dX5_repair_23 : decode cX5_repair 23 = .ok (.ireturn, 1) := by decide +kernel
theorem dX5_damage_0 : decode cX5_damage 0 = .ok (.aload_n 0, 1) := by decide +kernel
theorem dX5_damage_1 : decode cX5_damage 1 = .ok (.getfield 19, 3) := by decide +kernel
theorem dX5_damage_4 : decode cX5_damage 4 = .ok (.aload_n 0, 1) := by decide +kernel
theorem dX5_damage_5 : decode cX5_damage 5 = .ok (.getfield 12, 3) := by decide +kernel
theorem dX5_damage_8 : decode cX5_damage 8 = .ok (.invokevirtual 30, 3) := by decide +kernel
theorem dX5_damage_11 : decode cX5_damage 11 = .ok (.aload_n 0, 1) := by decide +kernel
theorem dX5_damage_12 : decode cX5_damage 12 = .ok (.aload_n 0, 1) := by decide +kernel
theorem dX5_damage_13 : decode cX5_damage 13 = .ok (.getfield 12, 3) := by decide +kernel
theorem dX5_damage_16 : decode cX5_damage 16 = .ok (.iload_n 1, 1) := by decide +kernel
theorem dX5_damage_17 : decode cX5_damage 17 = .ok (.invokevirtual 61, 3) := by decide +kernel
theorem dX5_damage_20 : decode cX5_damage 20 = .ok (.invokevirtual 38, 3) := by decide +kernel
theorem dX5_damage_23 : decode cX5_damage 23 = .ok (.ireturn, 1) := by decide +kernel
theorem dX5_set_0 : decode cX5_set 0 = .ok (.aload_n 0, 1) := by decide +kernel
theorem dX5_set_1 : decode cX5_set 1 = .ok (.getfield 19, 3) := by decide +kernel
theorem dX5_set_4 : decode cX5_set 4 = .ok (.aload_n 0, 1) := by decide +kernel
theorem dX5_set_5 : decode cX5_set 5 = .ok (.getfield 12, 3) := by decide +kernel
theorem dX5_set_8 : decode cX5_set 8 = .ok (.invokevirtual 30, 3) := by decide +kernel
theorem dX5_set_11 : decode cX5_set 11 = .ok (.aload_n 0, 1) := by decide +kernel
theorem dX5_set_12 : decode cX5_set 12 = .ok (.aload_n 0, 1) := by decide +kernel
theorem dX5_set_13 : decode cX5_set 13 = .ok (.getfield 12, 3) := by decide +kernel
theorem dX5_set_16 : decode cX5_set 16 = .ok (.iload_n 1, 1) := by decide +kernel
theorem dX5_set_17 : decode cX5_set 17 = .ok (.iload_n 2, 1) := by decide +kernel
theorem dX5_set_18 : decode cX5_set 18 = .ok (.invokevirtual 64, 3) := by decide +kernel
theorem dX5_set_21 : decode cX5_set 21 = .ok (.invokevirtual 38, 3) := by decide +kernel
theorem dX5_set_24 : decode cX5_set 24 = .ok (.ireturn, 1) := by decide +kernel
theorem dX5_append_0 : decode cX5_append 0 = .ok (.iload_n 1, 1) := by decide +kernel
theorem dX5_append_1 : decode cX5_append 1 = .ok (.bipush 32, 2) := by decide +kernel
theorem dX5_append_3 : decode cX5_append 3 = .ok (.if_icmp .lt 9, 3) := by decide +kernel
theorem dX5_append_6 : decode cX5_append 6 = .ok (.iload_n 1, 1) := by decide +kernel
theorem dX5_append_7 : decode cX5_append 7 = .ok (.bipush 126, 2) := by decide +kernel
theorem dX5_append_9 : decode cX5_append 9 = .ok (.if_icmp .le 6, 3) := by decide +kernel
theorem dX5_append_12 : decode cX5_append 12 = .ok (.bipush (-2), 2) := by decide +kernel
theorem dX5_append_14 : decode cX5_append 14 = .ok (.ireturn, 1) := by decide +kernel
theorem dX5_append_15 : decode cX5_append 15 = .ok (.aload_n 0, 1) := by decide +kernel
theorem dX5_append_16 : decode cX5_append 16 = .ok (.getfield 26, 3) := by decide +kernel
theorem dX5_append_19 : decode cX5_append 19 = .ok (.iload_n 1, 1) := by decide +kernel
theorem dX5_append_20 : decode cX5_append 20 = .ok (.i2c, 1) := by decide +kernel
theorem dX5_append_21 : decode cX5_append 21 = .ok (.invokevirtual 67, 3) := by decide +kernel
theorem dX5_append_24 : decode cX5_append 24 = .ok (.ifCond .eq 13, 3) := by decide +kernel
theorem dX5_append_27 : decode cX5_append 27 = .ok (.aload_n 0, 1) := by decide +kernel
theorem dX5_append_28 : decode cX5_append 28 = .ok (.getfield 26, 3) := by decide +kernel
theorem dX5_append_31 : decode cX5_append 31 = .ok (.getfield 71, 3) := by decide +kernel
theorem dX5_append_34 : decode cX5_append 34 = .ok (.goto 5, 3) := by decide +kernel
theorem dX5_append_37 : decode cX5_append 37 = .ok (.bipush (-4), 2) := by decide +kernel
theorem dX5_append_39 : decode cX5_append 39 = .ok (.ireturn, 1) := by decide +kernel
theorem dX5_clearText_0 : decode cX5_clearText 0 = .ok (.aload_n 0, 1) := by decide +kernel
theorem dX5_clearText_1 : decode cX5_clearText 1 = .ok (.getfield 26, 3) := by decide +kernel
theorem dX5_clearText_4 : decode cX5_clearText 4 = .ok (.getfield 71, 3) := by decide +kernel
theorem dX5_clearText_7 : decode cX5_clearText 7 = .ok (.istore_n 1, 1) := by decide +kernel
theorem dX5_clearText_8 : decode cX5_clearText 8 = .ok (.aload_n 0, 1) := by decide +kernel
theorem dX5_clearText_9 : decode cX5_clearText 9 = .ok (.getfield 26, 3) := by decide +kernel
theorem dX5_clearText_12 : decode cX5_clearText 12 = .ok (.iconst 0, 1) := by decide +kernel
theorem dX5_clearText_13 : decode cX5_clearText 13 = .ok (.putfield 71, 3) := by decide +kernel
theorem dX5_clearText_16 : decode cX5_clearText 16 = .ok (.iload_n 1, 1) := by decide +kernel
theorem dX5_clearText_17 : decode cX5_clearText 17 = .ok (.ireturn, 1) := by decide +kernel
theorem dX5_fault_0 : decode cX5_fault 0 = .ok (.aload_n 0, 1) := by decide +kernel
theorem dX5_fault_1 : decode cX5_fault 1 = .ok (.getfield 26, 3) := by decide +kernel
theorem dX5_fault_4 : decode cX5_fault 4 = .ok (.invokevirtual 75, 3) := by decide +kernel
theorem dX5_fault_7 : decode cX5_fault 7 = .ok (.ireturn, 1) := by decide +kernel
theorem dX5_run_0 : decode cX5_run 0 = .ok (.aload_n 0, 1) := by decide +kernel
theorem dX5_run_1 : decode cX5_run 1 = .ok (.getfield 26, 3) := by decide +kernel
theorem dX5_run_4 : decode cX5_run 4 = .ok (.invokevirtual 75, 3) := by decide +kernel
theorem dX5_run_7 : decode cX5_run 7 = .ok (.bipush (-6), 2) := by decide +kernel
theorem dX5_run_9 : decode cX5_run 9 = .ok (.if_icmp .eq 6, 3) := by decide +kernel
theorem dX5_run_12 : decode cX5_run 12 = .ok (.bipush (-3), 2) := by decide +kernel
theorem dX5_run_14 : decode cX5_run 14 = .ok (.ireturn, 1) := by decide +kernel
theorem dX5_run_15 : decode cX5_run 15 = .ok (.aload_n 0, 1) := by decide +kernel
theorem dX5_run_16 : decode cX5_run 16 = .ok (.getfield 19, 3) := by decide +kernel
theorem dX5_run_19 : decode cX5_run 19 = .ok (.aload_n 0, 1) := by decide +kernel
theorem dX5_run_20 : decode cX5_run 20 = .ok (.getfield 12, 3) := by decide +kernel
theorem dX5_run_23 : decode cX5_run 23 = .ok (.invokevirtual 30, 3) := by decide +kernel
theorem dX5_run_26 : decode cX5_run 26 = .ok (.iconst 0, 1) := by decide +kernel
theorem dX5_run_27 : decode cX5_run 27 = .ok (.istore_n 1, 1) := by decide +kernel
theorem dX5_run_28 : decode cX5_run 28 = .ok (.aload_n 0, 1) := by decide +kernel
theorem dX5_run_29 : decode cX5_run 29 = .ok (.getfield 26, 3) := by decide +kernel
theorem dX5_run_32 : decode cX5_run 32 = .ok (.iconst 0, 1) := by decide +kernel
theorem dX5_run_33 : decode cX5_run 33 = .ok (.putfield 78, 3) := by decide +kernel
theorem dX5_run_36 : decode cX5_run 36 = .ok (.iconst 0, 1) := by decide +kernel
theorem dX5_run_37 : decode cX5_run 37 = .ok (.istore_n 2, 1) := by decide +kernel
theorem dX5_run_38 : decode cX5_run 38 = .ok (.iload_n 2, 1) := by decide +kernel
theorem dX5_run_39 : decode cX5_run 39 = .ok (.bipush 80, 2) := by decide +kernel
theorem dX5_run_41 : decode cX5_run 41 = .ok (.if_icmp .ge 48, 3) := by decide +kernel
theorem dX5_run_44 : decode cX5_run 44 = .ok (.aload_n 0, 1) := by decide +kernel
theorem dX5_run_45 : decode cX5_run 45 = .ok (.getfield 26, 3) := by decide +kernel
theorem dX5_run_48 : decode cX5_run 48 = .ok (.invokevirtual 81, 3) := by decide +kernel
theorem dX5_run_51 : decode cX5_run 51 = .ok (.ifCond .eq 38, 3) := by decide +kernel
theorem dX5_run_54 : decode cX5_run 54 = .ok (.aload_n 0, 1) := by decide +kernel
theorem dX5_run_55 : decode cX5_run 55 = .ok (.invokevirtual 85, 3) := by decide +kernel
theorem dX5_run_58 : decode cX5_run 58 = .ok (.invokestatic 88, 3) := by decide +kernel
theorem dX5_run_61 : decode cX5_run 61 = .ok (.ifCond .eq 9, 3) := by decide +kernel
theorem dX5_run_64 : decode cX5_run 64 = .ok (.aload_n 0, 1) := by decide +kernel
theorem dX5_run_65 : decode cX5_run 65 = .ok (.iload_n 1, 1) := by decide +kernel
theorem dX5_run_66 : decode cX5_run 66 = .ok (.invokevirtual 38, 3) := by decide +kernel
theorem dX5_run_69 : decode cX5_run 69 = .ok (.ireturn, 1) := by decide +kernel
theorem dX5_run_70 : decode cX5_run 70 = .ok (.iinc 1 1, 3) := by decide +kernel
theorem dX5_run_73 : decode cX5_run 73 = .ok (.aload_n 0, 1) := by decide +kernel
theorem dX5_run_74 : decode cX5_run 74 = .ok (.getfield 26, 3) := by decide +kernel
theorem dX5_run_77 : decode cX5_run 77 = .ok (.bipush 59, 2) := by decide +kernel
theorem dX5_run_79 : decode cX5_run 79 = .ok (.invokevirtual 92, 3) := by decide +kernel
theorem dX5_run_82 : decode cX5_run 82 = .ok (.pop, 1) := by decide +kernel
theorem dX5_run_83 : decode cX5_run 83 = .ok (.iinc 2 1, 3) := by decide +kernel
theorem dX5_run_86 : decode cX5_run 86 = .ok (.goto (-48), 3) := by decide +kernel
theorem dX5_run_89 : decode cX5_run 89 = .ok (.aload_n 0, 1) := by decide +kernel
theorem dX5_run_90 : decode cX5_run 90 = .ok (.iload_n 1, 1) := by decide +kernel
theorem dX5_run_91 : decode cX5_run 91 = .ok (.invokevirtual 38, 3) := by decide +kernel
theorem dX5_run_94 : decode cX5_run 94 = .ok (.ireturn, 1) := by decide +kernel
theorem dX5_undo_0 : decode cX5_undo 0 = .ok (.aload_n 0, 1) := by decide +kernel
theorem dX5_undo_1 : decode cX5_undo 1 = .ok (.getfield 19, 3) := by decide +kernel
theorem dX5_undo_4 : decode cX5_undo 4 = .ok (.aload_n 0, 1) := by decide +kernel
theorem dX5_undo_5 : decode cX5_undo 5 = .ok (.getfield 12, 3) := by decide +kernel
theorem dX5_undo_8 : decode cX5_undo 8 = .ok (.invokevirtual 95, 3) := by decide +kernel
theorem dX5_undo_11 : decode cX5_undo 11 = .ok (.ifCond .eq 13, 3) := by decide +kernel
theorem dX5_undo_14 : decode cX5_undo 14 = .ok (.aload_n 0, 1) := by decide +kernel
theorem dX5_undo_15 : decode cX5_undo 15 = .ok (.getfield 19, 3) := by decide +kernel
theorem dX5_undo_18 : decode cX5_undo 18 = .ok (.getfield 99, 3) := by decide +kernel
theorem dX5_undo_21 : decode cX5_undo 21 = .ok (.goto 5, 3) := by decide +kernel
theorem dX5_undo_24 : decode cX5_undo 24 = .ok (.bipush (-6), 2) := by decide +kernel
theorem dX5_undo_26 : decode cX5_undo 26 = .ok (.ireturn, 1) := by decide +kernel
theorem dX5_sessions_0 : decode cX5_sessions 0 = .ok (.aload_n 0, 1) := by decide +kernel
theorem dX5_sessions_1 : decode cX5_sessions 1 = .ok (.getfield 12, 3) := by decide +kernel
theorem dX5_sessions_4 : decode cX5_sessions 4 = .ok (.getfield 102, 3) := by decide +kernel
theorem dX5_sessions_7 : decode cX5_sessions 7 = .ok (.ireturn, 1) := by decide +kernel
theorem dX5_session_0 : decode cX5_session 0 = .ok (.aload_n 0, 1) := by decide +kernel
theorem dX5_session_1 : decode cX5_session 1 = .ok (.getfield 12, 3) := by decide +kernel
theorem dX5_session_4 : decode cX5_session 4 = .ok (.iload_n 1, 1) := by decide +kernel
theorem dX5_session_5 : decode cX5_session 5 = .ok (.invokevirtual 105, 3) := by decide +kernel
theorem dX5_session_8 : decode cX5_session 8 = .ok (.astore_n 3, 1) := by decide +kernel
theorem dX5_session_9 : decode cX5_session 9 = .ok (.aload_n 3, 1) := by decide +kernel
theorem dX5_session_10 : decode cX5_session 10 = .ok (.ifnonnull 5, 3) := by decide +kernel
theorem dX5_session_13 : decode cX5_session 13 = .ok (.iconst (-1), 1) := by decide +kernel
theorem dX5_session_14 : decode cX5_session 14 = .ok (.ireturn, 1) := by decide +kernel
theorem dX5_session_15 : decode cX5_session 15 = .ok (.iload_n 2, 1) := by decide +kernel
theorem dX5_session_16 : decode cX5_session 16 = .ok (.tableswitch 106 0 7 #[48, 53, 58, 68, 73, 78, 83, 101], 48) := by decide +kernel
theorem dX5_session_64 : decode cX5_session 64 = .ok (.aload_n 3, 1) := by decide +kernel
theorem dX5_session_65 : decode cX5_session 65 = .ok (.getfield 109, 3) := by decide +kernel
theorem dX5_session_68 : decode cX5_session 68 = .ok (.ireturn, 1) := by decide +kernel
theorem dX5_session_69 : decode cX5_session 69 = .ok (.aload_n 3, 1) := by decide +kernel
theorem dX5_session_70 : decode cX5_session 70 = .ok (.getfield 114, 3) := by decide +kernel
theorem dX5_session_73 : decode cX5_session 73 = .ok (.ireturn, 1) := by decide +kernel
theorem dX5_session_74 : decode cX5_session 74 = .ok (.aload_n 3, 1) := by decide +kernel
theorem dX5_session_75 : decode cX5_session 75 = .ok (.getfield 117, 3) := by decide +kernel
theorem dX5_session_78 : decode cX5_session 78 = .ok (.aload_n 3, 1) := by decide +kernel
theorem dX5_session_79 : decode cX5_session 79 = .ok (.getfield 114, 3) := by decide +kernel
theorem dX5_session_82 : decode cX5_session 82 = .ok (.isub, 1) := by decide +kernel
theorem dX5_session_83 : decode cX5_session 83 = .ok (.ireturn, 1) := by decide +kernel
theorem dX5_session_84 : decode cX5_session 84 = .ok (.aload_n 3, 1) := by decide +kernel
theorem dX5_session_85 : decode cX5_session 85 = .ok (.getfield 120, 3) := by decide +kernel
theorem dX5_session_88 : decode cX5_session 88 = .ok (.ireturn, 1) := by decide +kernel
theorem dX5_session_89 : decode cX5_session 89 = .ok (.aload_n 3, 1) := by decide +kernel
theorem dX5_session_90 : decode cX5_session 90 = .ok (.getfield 123, 3) := by decide +kernel
theorem dX5_session_93 : decode cX5_session 93 = .ok (.ireturn, 1) := by decide +kernel
theorem dX5_session_94 : decode cX5_session 94 = .ok (.aload_n 3, 1) := by decide +kernel
theorem dX5_session_95 : decode cX5_session 95 = .ok (.invokevirtual 126, 3) := by decide +kernel
theorem dX5_session_98 : decode cX5_session 98 = .ok (.ireturn, 1) := by decide +kernel
theorem dX5_session_99 : decode cX5_session 99 = .ok (.aload_n 0, 1) := by decide +kernel
theorem dX5_session_100 : decode cX5_session 100 = .ok (.getfield 12, 3) := by decide +kernel
theorem dX5_session_103 : decode cX5_session 103 = .ok (.aload_n 3, 1) := by decide +kernel
theorem dX5_session_104 : decode cX5_session 104 = .ok (.iconst (-1), 1) := by decide +kernel
theorem dX5_session_105 : decode cX5_session 105 = .ok (.invokevirtual 129, 3) := by decide +kernel
theorem dX5_session_108 : decode cX5_session 108 = .ok (.ifCond .eq 7, 3) := by decide +kernel
theorem dX5_session_111 : decode cX5_session 111 = .ok (.iconst 1, 1) := by decide +kernel
theorem dX5_session_112 : decode cX5_session 112 = .ok (.goto 4, 3) := by decide +kernel
theorem dX5_session_115 : decode cX5_session 115 = .ok (.iconst 0, 1) := by decide +kernel
theorem dX5_session_116 : decode cX5_session 116 = .ok (.ireturn, 1) := by decide +kernel
theorem dX5_session_117 : decode cX5_session 117 = .ok (.aload_n 3, 1) := by decide +kernel
theorem dX5_session_118 : decode cX5_session 118 = .ok (.getfield 133, 3) := by decide +kernel
theorem dX5_session_121 : decode cX5_session 121 = .ok (.ireturn, 1) := by decide +kernel
theorem dX5_session_122 : decode cX5_session 122 = .ok (.bipush (-2), 2) := by decide +kernel
theorem dX5_session_124 : decode cX5_session 124 = .ok (.ireturn, 1) := by decide +kernel
theorem dX5_entry_0 : decode cX5_entry 0 = .ok (.aload_n 0, 1) := by decide +kernel
theorem dX5_entry_1 : decode cX5_entry 1 = .ok (.getfield 12, 3) := by decide +kernel
theorem dX5_entry_4 : decode cX5_entry 4 = .ok (.iload_n 1, 1) := by decide +kernel
theorem dX5_entry_5 : decode cX5_entry 5 = .ok (.invokevirtual 105, 3) := by decide +kernel
theorem dX5_entry_8 : decode cX5_entry 8 = .ok (.astore 4, 2) := by decide +kernel
theorem dX5_entry_10 : decode cX5_entry 10 = .ok (.aload 4, 2) := by decide +kernel
theorem dX5_entry_12 : decode cX5_entry 12 = .ok (.ifnull 10, 3) := by decide +kernel
theorem dX5_entry_15 : decode cX5_entry 15 = .ok (.iload_n 2, 1) := by decide +kernel
theorem dX5_entry_16 : decode cX5_entry 16 = .ok (.invokestatic 136, 3) := by decide +kernel
theorem dX5_entry_19 : decode cX5_entry 19 = .ok (.ifCond .ne 5, 3) := by decide +kernel
theorem dX5_entry_22 : decode cX5_entry 22 = .ok (.iconst (-1), 1) := by decide +kernel
theorem dX5_entry_23 : decode cX5_entry 23 = .ok (.ireturn, 1) := by decide +kernel
theorem dX5_entry_24 : decode cX5_entry 24 = .ok (.iload_n 3, 1) := by decide +kernel
theorem dX5_entry_25 : decode cX5_entry 25 = .ok (.ifCond .lt 8, 3) := by decide +kernel
theorem dX5_entry_28 : decode cX5_entry 28 = .ok (.iload_n 3, 1) := by decide +kernel
theorem dX5_entry_29 : decode cX5_entry 29 = .ok (.iconst 2, 1) := by decide +kernel
theorem dX5_entry_30 : decode cX5_entry 30 = .ok (.if_icmp .le 6, 3) := by decide +kernel
theorem dX5_entry_33 : decode cX5_entry 33 = .ok (.bipush (-2), 2) := by decide +kernel
theorem dX5_entry_35 : decode cX5_entry 35 = .ok (.ireturn, 1) := by decide +kernel
theorem dX5_entry_36 : decode cX5_entry 36 = .ok (.aload 4, 2) := by decide +kernel
theorem dX5_entry_38 : decode cX5_entry 38 = .ok (.iload_n 2, 1) := by decide +kernel
theorem dX5_entry_39 : decode cX5_entry 39 = .ok (.invokevirtual 139, 3) := by decide +kernel
theorem dX5_entry_42 : decode cX5_entry 42 = .ok (.astore 5, 2) := by decide +kernel
theorem dX5_entry_44 : decode cX5_entry 44 = .ok (.aload 5, 2) := by decide +kernel
theorem dX5_entry_46 : decode cX5_entry 46 = .ok (.ifnonnull 6, 3) := by decide +kernel
theorem dX5_entry_49 : decode cX5_entry 49 = .ok (.bipush (-6), 2) := by decide +kernel
theorem dX5_entry_51 : decode cX5_entry 51 = .ok (.ireturn, 1) := by decide +kernel
theorem dX5_entry_52 : decode cX5_entry 52 = .ok (.iload_n 3, 1) := by decide +kernel
theorem dX5_entry_53 : decode cX5_entry 53 = .ok (.lookupswitch 39 #[(0, 27), (1, 33)], 27) := by decide +kernel
theorem dX5_entry_80 : decode cX5_entry 80 = .ok (.aload 5, 2) := by decide +kernel
theorem dX5_entry_82 : decode cX5_entry 82 = .ok (.getfield 143, 3) := by decide +kernel
theorem dX5_entry_85 : decode cX5_entry 85 = .ok (.ireturn, 1) := by decide +kernel
theorem dX5_entry_86 : decode cX5_entry 86 = .ok (.aload 5, 2) := by decide +kernel
theorem dX5_entry_88 : decode cX5_entry 88 = .ok (.getfield 146, 3) := by decide +kernel
theorem dX5_entry_91 : decode cX5_entry 91 = .ok (.ireturn, 1) := by decide +kernel
theorem dX5_entry_92 : decode cX5_entry 92 = .ok (.aload 5, 2) := by decide +kernel
theorem dX5_entry_94 : decode cX5_entry 94 = .ok (.getfield 149, 3) := by decide +kernel
theorem dX5_entry_97 : decode cX5_entry 97 = .ok (.ireturn, 1) := by decide +kernel
theorem dX5_valid_0 : decode cX5_valid 0 = .ok (.aload_n 0, 1) := by decide +kernel
theorem dX5_valid_1 : decode cX5_valid 1 = .ok (.getfield 12, 3) := by decide +kernel
theorem dX5_valid_4 : decode cX5_valid 4 = .ok (.iconst (-1), 1) := by decide +kernel
theorem dX5_valid_5 : decode cX5_valid 5 = .ok (.invokevirtual 152, 3) := by decide +kernel
theorem dX5_valid_8 : decode cX5_valid 8 = .ok (.ireturn, 1) := by decide +kernel
theorem dX5_next_0 : decode cX5_next 0 = .ok (.aload_n 0, 1) := by decide +kernel
theorem dX5_next_1 : decode cX5_next 1 = .ok (.getfield 12, 3) := by decide +kernel
theorem dX5_next_4 : decode cX5_next 4 = .ok (.getfield 155, 3) := by decide +kernel
theorem dX5_next_7 : decode cX5_next 7 = .ok (.ireturn, 1) := by decide +kernel
theorem dX5_damaged_0 : decode cX5_damaged 0 = .ok (.iload_n 1, 1) := by decide +kernel
theorem dX5_damaged_1 : decode cX5_damaged 1 = .ok (.invokestatic 158, 3) := by decide +kernel
theorem dX5_damaged_4 : decode cX5_damaged 4 = .ok (.ifCond .ne 5, 3) := by decide +kernel
theorem dX5_damaged_7 : decode cX5_damaged 7 = .ok (.iconst (-1), 1) := by decide +kernel
theorem dX5_damaged_8 : decode cX5_damaged 8 = .ok (.ireturn, 1) := by decide +kernel
theorem dX5_damaged_9 : decode cX5_damaged 9 = .ok (.aload_n 0, 1) := by decide +kernel
theorem dX5_damaged_10 : decode cX5_damaged 10 = .ok (.getfield 12, 3) := by decide +kernel
theorem dX5_damaged_13 : decode cX5_damaged 13 = .ok (.getfield 161, 3) := by decide +kernel
theorem dX5_damaged_16 : decode cX5_damaged 16 = .ok (.iload_n 1, 1) := by decide +kernel
theorem dX5_damaged_17 : decode cX5_damaged 17 = .ok (.baload, 1) := by decide +kernel
theorem dX5_damaged_18 : decode cX5_damaged 18 = .ok (.ifCond .eq 7, 3) := by decide +kernel
theorem dX5_damaged_21 : decode cX5_damaged 21 = .ok (.iconst 1, 1) := by decide +kernel
theorem dX5_damaged_22 : decode cX5_damaged 22 = .ok (.goto 4, 3) := by decide +kernel
theorem dX5_damaged_25 : decode cX5_damaged 25 = .ok (.iconst 0, 1) := by decide +kernel
theorem dX5_damaged_26 : decode cX5_damaged 26 = .ok (.ireturn, 1) := by decide +kernel
theorem dX5_use_0 : decode cX5_use 0 = .ok (.iload_n 1, 1) := by decide +kernel
theorem dX5_use_1 : decode cX5_use 1 = .ok (.invokestatic 158, 3) := by decide +kernel
theorem dX5_use_4 : decode cX5_use 4 = .ok (.ifCond .eq 14, 3) := by decide +kernel
theorem dX5_use_7 : decode cX5_use 7 = .ok (.aload_n 0, 1) := by decide +kernel
theorem dX5_use_8 : decode cX5_use 8 = .ok (.getfield 12, 3) := by decide +kernel
theorem dX5_use_11 : decode cX5_use 11 = .ok (.iload_n 1, 1) := by decide +kernel
theorem dX5_use_12 : decode cX5_use 12 = .ok (.invokevirtual 165, 3) := by decide +kernel
theorem dX5_use_15 : decode cX5_use 15 = .ok (.goto 4, 3) := by decide +kernel
theorem dX5_use_18 : decode cX5_use 18 = .ok (.iconst (-1), 1) := by decide +kernel
theorem dX5_use_19 : decode cX5_use 19 = .ok (.ireturn, 1) := by decide +kernel
theorem dX5_setting_0 : decode cX5_setting 0 = .ok (.iload_n 1, 1) := by decide +kernel
theorem dX5_setting_1 : decode cX5_setting 1 = .ok (.invokestatic 168, 3) := by decide +kernel
theorem dX5_setting_4 : decode cX5_setting 4 = .ok (.ifCond .eq 15, 3) := by decide +kernel
theorem dX5_setting_7 : decode cX5_setting 7 = .ok (.aload_n 0, 1) := by decide +kernel
theorem dX5_setting_8 : decode cX5_setting 8 = .ok (.getfield 12, 3) := by decide +kernel
theorem dX5_setting_11 : decode cX5_setting 11 = .ok (.getfield 171, 3) := by decide +kernel
theorem dX5_setting_14 : decode cX5_setting 14 = .ok (.iload_n 1, 1) := by decide +kernel
theorem dX5_setting_15 : decode cX5_setting 15 = .ok (.iaload, 1) := by decide +kernel
theorem dX5_setting_16 : decode cX5_setting 16 = .ok (.goto 4, 3) := by decide +kernel
theorem dX5_setting_19 : decode cX5_setting 19 = .ok (.iconst (-1), 1) := by decide +kernel
theorem dX5_setting_20 : decode cX5_setting 20 = .ok (.ireturn, 1) := by decide +kernel
theorem dX5_find_0 : decode cX5_find 0 = .ok (.iload_n 1, 1) := by decide +kernel
theorem dX5_find_1 : decode cX5_find 1 = .ok (.invokestatic 136, 3) := by decide +kernel
theorem dX5_find_4 : decode cX5_find 4 = .ok (.ifCond .ne 5, 3) := by decide +kernel
theorem dX5_find_7 : decode cX5_find 7 = .ok (.iconst (-1), 1) := by decide +kernel
theorem dX5_find_8 : decode cX5_find 8 = .ok (.ireturn, 1) := by decide +kernel
theorem dX5_find_9 : decode cX5_find 9 = .ok (.aload_n 0, 1) := by decide +kernel
theorem dX5_find_10 : decode cX5_find 10 = .ok (.getfield 12, 3) := by decide +kernel
theorem dX5_find_13 : decode cX5_find 13 = .ok (.iload_n 1, 1) := by decide +kernel
theorem dX5_find_14 : decode cX5_find 14 = .ok (.invokevirtual 175, 3) := by decide +kernel
theorem dX5_find_17 : decode cX5_find 17 = .ok (.astore_n 2, 1) := by decide +kernel
theorem dX5_find_18 : decode cX5_find 18 = .ok (.aload_n 2, 1) := by decide +kernel
theorem dX5_find_19 : decode cX5_find 19 = .ok (.ifnonnull 8, 3) := by decide +kernel
theorem dX5_find_22 : decode cX5_find 22 = .ok (.bipush (-6), 2) := by decide +kernel
theorem dX5_find_24 : decode cX5_find 24 = .ok (.goto 7, 3) := by decide +kernel
theorem dX5_find_27 : decode cX5_find 27 = .ok (.aload_n 2, 1) := by decide +kernel
theorem dX5_find_28 : decode cX5_find 28 = .ok (.getfield 143, 3) := by decide +kernel
theorem dX5_find_31 : decode cX5_find 31 = .ok (.ireturn, 1) := by decide +kernel
theorem dX5_intact_0 : decode cX5_intact 0 = .ok (.iload_n 1, 1) := by decide +kernel
theorem dX5_intact_1 : decode cX5_intact 1 = .ok (.invokestatic 136, 3) := by decide +kernel
theorem dX5_intact_4 : decode cX5_intact 4 = .ok (.ifCond .ne 5, 3) := by decide +kernel
theorem dX5_intact_7 : decode cX5_intact 7 = .ok (.iconst (-1), 1) := by decide +kernel
theorem dX5_intact_8 : decode cX5_intact 8 = .ok (.ireturn, 1) := by decide +kernel
theorem dX5_intact_9 : decode cX5_intact 9 = .ok (.aload_n 0, 1) := by decide +kernel
theorem dX5_intact_10 : decode cX5_intact 10 = .ok (.getfield 12, 3) := by decide +kernel
theorem dX5_intact_13 : decode cX5_intact 13 = .ok (.iload_n 1, 1) := by decide +kernel
theorem dX5_intact_14 : decode cX5_intact 14 = .ok (.invokevirtual 175, 3) := by decide +kernel
theorem dX5_intact_17 : decode cX5_intact 17 = .ok (.astore_n 2, 1) := by decide +kernel
theorem dX5_intact_18 : decode cX5_intact 18 = .ok (.aload_n 2, 1) := by decide +kernel
theorem dX5_intact_19 : decode cX5_intact 19 = .ok (.ifnonnull 6, 3) := by decide +kernel
theorem dX5_intact_22 : decode cX5_intact 22 = .ok (.bipush (-6), 2) := by decide +kernel
theorem dX5_intact_24 : decode cX5_intact 24 = .ok (.ireturn, 1) := by decide +kernel
theorem dX5_intact_25 : decode cX5_intact 25 = .ok (.aload_n 0, 1) := by decide +kernel
theorem dX5_intact_26 : decode cX5_intact 26 = .ok (.getfield 12, 3) := by decide +kernel
theorem dX5_intact_29 : decode cX5_intact 29 = .ok (.aload_n 2, 1) := by decide +kernel
theorem dX5_intact_30 : decode cX5_intact 30 = .ok (.iconst (-1), 1) := by decide +kernel
theorem dX5_intact_31 : decode cX5_intact 31 = .ok (.invokevirtual 178, 3) := by decide +kernel
theorem dX5_intact_34 : decode cX5_intact 34 = .ok (.ifCond .eq 7, 3) := by decide +kernel
theorem dX5_intact_37 : decode cX5_intact 37 = .ok (.iconst 1, 1) := by decide +kernel
theorem dX5_intact_38 : decode cX5_intact 38 = .ok (.goto 4, 3) := by decide +kernel
theorem dX5_intact_41 : decode cX5_intact 41 = .ok (.iconst 0, 1) := by decide +kernel
theorem dX5_intact_42 : decode cX5_intact 42 = .ok (.ireturn, 1) := by decide +kernel
theorem dX5_intactFiles_0 : decode cX5_intactFiles 0 = .ok (.aload_n 0, 1) := by decide +kernel
theorem dX5_intactFiles_1 : decode cX5_intactFiles 1 = .ok (.getfield 12, 3) := by decide +kernel
theorem dX5_intactFiles_4 : decode cX5_intactFiles 4 = .ok (.iconst (-1), 1) := by decide +kernel
theorem dX5_intactFiles_5 : decode cX5_intactFiles 5 = .ok (.invokevirtual 182, 3) := by decide +kernel
theorem dX5_intactFiles_8 : decode cX5_intactFiles 8 = .ok (.ireturn, 1) := by decide +kernel
theorem dX5_versions_0 : decode cX5_versions 0 = .ok (.iload_n 1, 1) := by decide +kernel
theorem dX5_versions_1 : decode cX5_versions 1 = .ok (.invokestatic 136, 3) := by decide +kernel
theorem dX5_versions_4 : decode cX5_versions 4 = .ok (.ifCond .eq 15, 3) := by decide +kernel
theorem dX5_versions_7 : decode cX5_versions 7 = .ok (.aload_n 0, 1) := by decide +kernel
theorem dX5_versions_8 : decode cX5_versions 8 = .ok (.getfield 12, 3) := by decide +kernel
theorem dX5_versions_11 : decode cX5_versions 11 = .ok (.getfield 185, 3) := by decide +kernel
theorem dX5_versions_14 : decode cX5_versions 14 = .ok (.iload_n 1, 1) := by decide +kernel
theorem dX5_versions_15 : decode cX5_versions 15 = .ok (.iaload, 1) := by decide +kernel
theorem dX5_versions_16 : decode cX5_versions 16 = .ok (.goto 4, 3) := by decide +kernel
theorem dX5_versions_19 : decode cX5_versions 19 = .ok (.iconst (-1), 1) := by decide +kernel
theorem dX5_versions_20 : decode cX5_versions 20 = .ok (.ireturn, 1) := by decide +kernel
theorem dX5_latestIntact_0 : decode cX5_latestIntact 0 = .ok (.iload_n 1, 1) := by decide +kernel
theorem dX5_latestIntact_1 : decode cX5_latestIntact 1 = .ok (.invokestatic 136, 3) := by decide +kernel
theorem dX5_latestIntact_4 : decode cX5_latestIntact 4 = .ok (.ifCond .eq 14, 3) := by decide +kernel
theorem dX5_latestIntact_7 : decode cX5_latestIntact 7 = .ok (.aload_n 0, 1) := by decide +kernel
theorem dX5_latestIntact_8 : decode cX5_latestIntact 8 = .ok (.getfield 12, 3) := by decide +kernel
theorem dX5_latestIntact_11 : decode cX5_latestIntact 11 = .ok (.iload_n 1, 1) := by decide +kernel
theorem dX5_latestIntact_12 : decode cX5_latestIntact 12 = .ok (.invokevirtual 188, 3) := by decide +kernel
theorem dX5_latestIntact_15 : decode cX5_latestIntact 15 = .ok (.goto 4, 3) := by decide +kernel
theorem dX5_latestIntact_18 : decode cX5_latestIntact 18 = .ok (.iconst (-1), 1) := by decide +kernel
theorem dX5_latestIntact_19 : decode cX5_latestIntact 19 = .ok (.ireturn, 1) := by decide +kernel
theorem dX5_lost_0 : decode cX5_lost 0 = .ok (.aload_n 0, 1) := by decide +kernel
theorem dX5_lost_1 : decode cX5_lost 1 = .ok (.getfield 12, 3) := by decide +kernel
theorem dX5_lost_4 : decode cX5_lost 4 = .ok (.getfield 155, 3) := by decide +kernel
theorem dX5_lost_7 : decode cX5_lost 7 = .ok (.aload_n 0, 1) := by decide +kernel
theorem dX5_lost_8 : decode cX5_lost 8 = .ok (.getfield 12, 3) := by decide +kernel
theorem dX5_lost_11 : decode cX5_lost 11 = .ok (.invokevirtual 191, 3) := by decide +kernel
theorem dX5_lost_14 : decode cX5_lost 14 = .ok (.isub, 1) := by decide +kernel
theorem dX5_lost_15 : decode cX5_lost 15 = .ok (.ireturn, 1) := by decide +kernel
theorem dX5_usedWell_0 : decode cX5_usedWell 0 = .ok (.aload_n 0, 1) := by decide +kernel
theorem dX5_usedWell_1 : decode cX5_usedWell 1 = .ok (.getfield 12, 3) := by decide +kernel
theorem dX5_usedWell_4 : decode cX5_usedWell 4 = .ok (.getfield 155, 3) := by decide +kernel
theorem dX5_usedWell_7 : decode cX5_usedWell 7 = .ok (.ifCond .ne 5, 3) := by decide +kernel
theorem dX5_usedWell_10 : decode cX5_usedWell 10 = .ok (.fconst 1, 1) := by decide +kernel
theorem dX5_usedWell_11 : decode cX5_usedWell 11 = .ok (.freturn, 1) := by decide +kernel
theorem dX5_usedWell_12 : decode cX5_usedWell 12 = .ok (.aload_n 0, 1) := by decide +kernel
theorem dX5_usedWell_13 : decode cX5_usedWell 13 = .ok (.getfield 12, 3) := by decide +kernel
theorem dX5_usedWell_16 : decode cX5_usedWell 16 = .ok (.invokevirtual 191, 3) := by decide +kernel
theorem dX5_usedWell_19 : decode cX5_usedWell 19 = .ok (.i2f, 1) := by decide +kernel
theorem dX5_usedWell_20 : decode cX5_usedWell 20 = .ok (.aload_n 0, 1) := by decide +kernel
theorem dX5_usedWell_21 : decode cX5_usedWell 21 = .ok (.getfield 12, 3) := by decide +kernel
theorem dX5_usedWell_24 : decode cX5_usedWell 24 = .ok (.getfield 155, 3) := by decide +kernel
theorem dX5_usedWell_27 : decode cX5_usedWell 27 = .ok (.i2f, 1) := by decide +kernel
theorem dX5_usedWell_28 : decode cX5_usedWell 28 = .ok (.fdiv, 1) := by decide +kernel
theorem dX5_usedWell_29 : decode cX5_usedWell 29 = .ok (.freturn, 1) := by decide +kernel
theorem dX5_largest_0 : decode cX5_largest 0 = .ok (.aload_n 0, 1) := by decide +kernel
theorem dX5_largest_1 : decode cX5_largest 1 = .ok (.getfield 12, 3) := by decide +kernel
theorem dX5_largest_4 : decode cX5_largest 4 = .ok (.invokevirtual 194, 3) := by decide +kernel
theorem dX5_largest_7 : decode cX5_largest 7 = .ok (.bipush 40, 2) := by decide +kernel
theorem dX5_largest_9 : decode cX5_largest 9 = .ok (.invokestatic 197, 3) := by decide +kernel
theorem dX5_largest_12 : decode cX5_largest 12 = .ok (.ireturn, 1) := by decide +kernel
theorem dX5_filesLeft_0 : decode cX5_filesLeft 0 = .ok (.iload_n 1, 1) := by decide +kernel
theorem dX5_filesLeft_1 : decode cX5_filesLeft 1 = .ok (.invokestatic 202, 3) := by decide +kernel
theorem dX5_filesLeft_4 : decode cX5_filesLeft 4 = .ok (.ifCond .eq 15, 3) := by decide +kernel
theorem dX5_filesLeft_7 : decode cX5_filesLeft 7 = .ok (.aload_n 0, 1) := by decide +kernel
theorem dX5_filesLeft_8 : decode cX5_filesLeft 8 = .ok (.getfield 12, 3) := by decide +kernel
theorem dX5_filesLeft_11 : decode cX5_filesLeft 11 = .ok (.invokevirtual 194, 3) := by decide +kernel
theorem dX5_filesLeft_14 : decode cX5_filesLeft 14 = .ok (.iload_n 1, 1) := by decide +kernel
theorem dX5_filesLeft_15 : decode cX5_filesLeft 15 = .ok (.idiv, 1) := by decide +kernel
theorem dX5_filesLeft_16 : decode cX5_filesLeft 16 = .ok (.goto 5, 3) := by decide +kernel
theorem dX5_filesLeft_19 : decode cX5_filesLeft 19 = .ok (.bipush (-2), 2) := by decide +kernel
theorem dX5_filesLeft_21 : decode cX5_filesLeft 21 = .ok (.ireturn, 1) := by decide +kernel
theorem dX5_filesEach_0 : decode cX5_filesEach 0 = .ok (.iload_n 1, 1) := by decide +kernel
theorem dX5_filesEach_1 : decode cX5_filesEach 1 = .ok (.invokestatic 202, 3) := by decide +kernel
theorem dX5_filesEach_4 : decode cX5_filesEach 4 = .ok (.ifCond .eq 14, 3) := by decide +kernel
theorem dX5_filesEach_7 : decode cX5_filesEach 7 = .ok (.aload_n 0, 1) := by decide +kernel
theorem dX5_filesEach_8 : decode cX5_filesEach 8 = .ok (.getfield 12, 3) := by decide +kernel
theorem dX5_filesEach_11 : decode cX5_filesEach 11 = .ok (.iload_n 1, 1) := by decide +kernel
theorem dX5_filesEach_12 : decode cX5_filesEach 12 = .ok (.invokevirtual 205, 3) := by decide +kernel
theorem dX5_filesEach_15 : decode cX5_filesEach 15 = .ok (.goto 5, 3) := by decide +kernel
theorem dX5_filesEach_18 : decode cX5_filesEach 18 = .ok (.bipush (-2), 2) := by decide +kernel
theorem dX5_filesEach_20 : decode cX5_filesEach 20 = .ok (.ireturn, 1) := by decide +kernel
theorem dX5_validIf_0 : decode cX5_validIf 0 = .ok (.iload_n 1, 1) := by decide +kernel
theorem dX5_validIf_1 : decode cX5_validIf 1 = .ok (.invokestatic 158, 3) := by decide +kernel
theorem dX5_validIf_4 : decode cX5_validIf 4 = .ok (.ifCond .eq 14, 3) := by decide +kernel
theorem dX5_validIf_7 : decode cX5_validIf 7 = .ok (.aload_n 0, 1) := by decide +kernel
theorem dX5_validIf_8 : decode cX5_validIf 8 = .ok (.getfield 12, 3) := by decide +kernel
theorem dX5_validIf_11 : decode cX5_validIf 11 = .ok (.iload_n 1, 1) := by decide +kernel
theorem dX5_validIf_12 : decode cX5_validIf 12 = .ok (.invokevirtual 152, 3) := by decide +kernel
theorem dX5_validIf_15 : decode cX5_validIf 15 = .ok (.goto 4, 3) := by decide +kernel
theorem dX5_validIf_18 : decode cX5_validIf 18 = .ok (.iconst (-1), 1) := by decide +kernel
theorem dX5_validIf_19 : decode cX5_validIf 19 = .ok (.ireturn, 1) := by decide +kernel
theorem dX5_worstSector_0 : decode cX5_worstSector 0 = .ok (.aload_n 0, 1) := by decide +kernel
theorem dX5_worstSector_1 : decode cX5_worstSector 1 = .ok (.getfield 12, 3) := by decide +kernel
theorem dX5_worstSector_4 : decode cX5_worstSector 4 = .ok (.invokevirtual 208, 3) := by decide +kernel
theorem dX5_worstSector_7 : decode cX5_worstSector 7 = .ok (.ireturn, 1) := by decide +kernel
theorem dX5_recorded_0 : decode cX5_recorded 0 = .ok (.iload_n 1, 1) := by decide +kernel
theorem dX5_recorded_1 : decode cX5_recorded 1 = .ok (.invokestatic 88, 3) := by decide +kernel
theorem dX5_recorded_4 : decode cX5_recorded 4 = .ok (.ifCond .ne 10, 3) := by decide +kernel
theorem dX5_recorded_7 : decode cX5_recorded 7 = .ok (.aload_n 0, 1) := by decide +kernel
theorem dX5_recorded_8 : decode cX5_recorded 8 = .ok (.getfield 19, 3) := by decide +kernel
theorem dX5_recorded_11 : decode cX5_recorded 11 = .ok (.invokevirtual 211, 3) := by decide +kernel
theorem dX5_recorded_14 : decode cX5_recorded 14 = .ok (.iload_n 1, 1) := by decide +kernel
theorem dX5_recorded_15 : decode cX5_recorded 15 = .ok (.ireturn, 1) := by decide +kernel
theorem dX5_executeCommand_0 : decode cX5_executeCommand 0 = .ok (.aload_n 0, 1) := by decide +kernel
theorem dX5_executeCommand_1 : decode cX5_executeCommand 1 = .ok (.getfield 26, 3) := by decide +kernel
theorem dX5_executeCommand_4 : decode cX5_executeCommand 4 = .ok (.getfield 214, 3) := by decide +kernel
theorem dX5_executeCommand_7 : decode cX5_executeCommand 7 = .ok (.tableswitch 206 98 119 #[101, 175, 191, 183, 206, 206, 206, 206, 206, 153, 206, 206, 206, 206, 206, 206, 138, 206, 206, 206, 206, 116], 101) := by decide +kernel
theorem dX5_executeCommand_108 : decode cX5_executeCommand 108 = .ok (.aload_n 0, 1) := by decide +kernel
theorem dX5_executeCommand_109 : decode cX5_executeCommand 109 = .ok (.getfield 12, 3) := by decide +kernel
theorem dX5_executeCommand_112 : decode cX5_executeCommand 112 = .ok (.aload_n 0, 1) := by decide +kernel
theorem dX5_executeCommand_113 : decode cX5_executeCommand 113 = .ok (.getfield 26, 3) := by decide +kernel
theorem dX5_executeCommand_116 : decode cX5_executeCommand 116 = .ok (.getfield 217, 3) := by decide +kernel
theorem dX5_executeCommand_119 : decode cX5_executeCommand 119 = .ok (.invokevirtual 34, 3) := by decide +kernel
theorem dX5_executeCommand_122 : decode cX5_executeCommand 122 = .ok (.ireturn, 1) := by decide +kernel
theorem dX5_executeCommand_123 : decode cX5_executeCommand 123 = .ok (.aload_n 0, 1) := by decide +kernel
theorem dX5_executeCommand_124 : decode cX5_executeCommand 124 = .ok (.getfield 12, 3) := by decide +kernel
theorem dX5_executeCommand_127 : decode cX5_executeCommand 127 = .ok (.aload_n 0, 1) := by decide +kernel
theorem dX5_executeCommand_128 : decode cX5_executeCommand 128 = .ok (.getfield 26, 3) := by decide +kernel
theorem dX5_executeCommand_131 : decode cX5_executeCommand 131 = .ok (.getfield 217, 3) := by decide +kernel
theorem dX5_executeCommand_134 : decode cX5_executeCommand 134 = .ok (.aload_n 0, 1) := by decide +kernel
theorem dX5_executeCommand_135 : decode cX5_executeCommand 135 = .ok (.getfield 26, 3) := by decide +kernel
theorem dX5_executeCommand_138 : decode cX5_executeCommand 138 = .ok (.getfield 220, 3) := by decide +kernel
theorem dX5_executeCommand_141 : decode cX5_executeCommand 141 = .ok (.invokevirtual 41, 3) := by decide +kernel
theorem dX5_executeCommand_144 : decode cX5_executeCommand 144 = .ok (.ireturn, 1) := by decide +kernel
theorem dX5_executeCommand_145 : decode cX5_executeCommand 145 = .ok (.aload_n 0, 1) := by decide +kernel
theorem dX5_executeCommand_146 : decode cX5_executeCommand 146 = .ok (.getfield 12, 3) := by decide +kernel
theorem dX5_executeCommand_149 : decode cX5_executeCommand 149 = .ok (.aload_n 0, 1) := by decide +kernel
theorem dX5_executeCommand_150 : decode cX5_executeCommand 150 = .ok (.getfield 26, 3) := by decide +kernel
theorem dX5_executeCommand_153 : decode cX5_executeCommand 153 = .ok (.getfield 217, 3) := by decide +kernel
theorem dX5_executeCommand_156 : decode cX5_executeCommand 156 = .ok (.invokevirtual 45, 3) := by decide +kernel
theorem dX5_executeCommand_159 : decode cX5_executeCommand 159 = .ok (.ireturn, 1) := by decide +kernel
theorem dX5_executeCommand_160 : decode cX5_executeCommand 160 = .ok (.aload_n 0, 1) := by decide +kernel
theorem dX5_executeCommand_161 : decode cX5_executeCommand 161 = .ok (.getfield 12, 3) := by decide +kernel
theorem dX5_executeCommand_164 : decode cX5_executeCommand 164 = .ok (.aload_n 0, 1) := by decide +kernel
theorem dX5_executeCommand_165 : decode cX5_executeCommand 165 = .ok (.getfield 26, 3) := by decide +kernel
theorem dX5_executeCommand_168 : decode cX5_executeCommand 168 = .ok (.getfield 217, 3) := by decide +kernel
theorem dX5_executeCommand_171 : decode cX5_executeCommand 171 = .ok (.aload_n 0, 1) := by decide +kernel
theorem dX5_executeCommand_172 : decode cX5_executeCommand 172 = .ok (.getfield 26, 3) := by decide +kernel
theorem dX5_executeCommand_175 : decode cX5_executeCommand 175 = .ok (.getfield 220, 3) := by decide +kernel
theorem dX5_executeCommand_178 : decode cX5_executeCommand 178 = .ok (.invokevirtual 48, 3) := by decide +kernel
theorem dX5_executeCommand_181 : decode cX5_executeCommand 181 = .ok (.ireturn, 1) := by decide +kernel
theorem dX5_executeCommand_182 : decode cX5_executeCommand 182 = .ok (.aload_n 0, 1) := by decide +kernel
theorem dX5_executeCommand_183 : decode cX5_executeCommand 183 = .ok (.getfield 12, 3) := by decide +kernel
theorem dX5_executeCommand_186 : decode cX5_executeCommand 186 = .ok (.invokevirtual 51, 3) := by decide +kernel
theorem dX5_executeCommand_189 : decode cX5_executeCommand 189 = .ok (.ireturn, 1) := by decide +kernel
theorem dX5_executeCommand_190 : decode cX5_executeCommand 190 = .ok (.aload_n 0, 1) := by decide +kernel
theorem dX5_executeCommand_191 : decode cX5_executeCommand 191 = .ok (.getfield 12, 3) := by decide +kernel
theorem dX5_executeCommand_194 : decode cX5_executeCommand 194 = .ok (.invokevirtual 55, 3) := by decide +kernel
theorem dX5_executeCommand_197 : decode cX5_executeCommand 197 = .ok (.ireturn, 1) := by decide +kernel
theorem dX5_executeCommand_198 : decode cX5_executeCommand 198 = .ok (.aload_n 0, 1) := by decide +kernel
theorem dX5_executeCommand_199 : decode cX5_executeCommand 199 = .ok (.getfield 12, 3) := by decide +kernel
theorem dX5_executeCommand_202 : decode cX5_executeCommand 202 = .ok (.aload_n 0, 1) := by decide +kernel
theorem dX5_executeCommand_203 : decode cX5_executeCommand 203 = .ok (.getfield 26, 3) := by decide +kernel
theorem dX5_executeCommand_206 : decode cX5_executeCommand 206 = .ok (.getfield 217, 3) := by decide +kernel
theorem dX5_executeCommand_209 : decode cX5_executeCommand 209 = .ok (.invokevirtual 61, 3) := by decide +kernel
theorem dX5_executeCommand_212 : decode cX5_executeCommand 212 = .ok (.ireturn, 1) := by decide +kernel
theorem dX5_executeCommand_213 : decode cX5_executeCommand 213 = .ok (.bipush (-2), 2) := by decide +kernel
theorem dX5_executeCommand_215 : decode cX5_executeCommand 215 = .ok (.ireturn, 1) := by decide +kernel
theorem dX5_isError_0 : decode cX5_isError 0 = .ok (.iload_n 0, 1) := by decide +kernel
theorem dX5_isError_1 : decode cX5_isError 1 = .ok (.bipush (-5), 2) := by decide +kernel
theorem dX5_isError_3 : decode cX5_isError 3 = .ok (.if_icmp .lt 12, 3) := by decide +kernel
theorem dX5_isError_6 : decode cX5_isError 6 = .ok (.iload_n 0, 1) := by decide +kernel
theorem dX5_isError_7 : decode cX5_isError 7 = .ok (.iconst (-1), 1) := by decide +kernel
theorem dX5_isError_8 : decode cX5_isError 8 = .ok (.if_icmp .gt 7, 3) := by decide +kernel
theorem dX5_isError_11 : decode cX5_isError 11 = .ok (.iconst 1, 1) := by decide +kernel
theorem dX5_isError_12 : decode cX5_isError 12 = .ok (.goto 4, 3) := by decide +kernel
theorem dX5_isError_15 : decode cX5_isError 15 = .ok (.iconst 0, 1) := by decide +kernel
theorem dX5_isError_16 : decode cX5_isError 16 = .ok (.ireturn, 1) := by decide +kernel
theorem dX5_isName_0 : decode cX5_isName 0 = .ok (.iload_n 0, 1) := by decide +kernel
theorem dX5_isName_1 : decode cX5_isName 1 = .ok (.ifCond .lt 13, 3) := by decide +kernel
theorem dX5_isName_4 : decode cX5_isName 4 = .ok (.iload_n 0, 1) := by decide +kernel
theorem dX5_isName_5 : decode cX5_isName 5 = .ok (.bipush 20, 2) := by decide +kernel
theorem dX5_isName_7 : decode cX5_isName 7 = .ok (.if_icmp .ge 7, 3) := by decide +kernel
theorem dX5_isName_10 : decode cX5_isName 10 = .ok (.iconst 1, 1) := by decide +kernel
theorem dX5_isName_11 : decode cX5_isName 11 = .ok (.goto 4, 3) := by decide +kernel
theorem dX5_isName_14 : decode cX5_isName 14 = .ok (.iconst 0, 1) := by decide +kernel
theorem dX5_isName_15 : decode cX5_isName 15 = .ok (.ireturn, 1) := by decide +kernel
theorem dX5_isSector_0 : decode cX5_isSector 0 = .ok (.iload_n 0, 1) := by decide +kernel
theorem dX5_isSector_1 : decode cX5_isSector 1 = .ok (.ifCond .lt 14, 3) := by decide +kernel
theorem dX5_isSector_4 : decode cX5_isSector 4 = .ok (.iload_n 0, 1) := by decide +kernel
theorem dX5_isSector_5 : decode cX5_isSector 5 = .ok (.sipush 240, 3) := by decide +kernel
theorem dX5_isSector_8 : decode cX5_isSector 8 = .ok (.if_icmp .ge 7, 3) := by decide +kernel
theorem dX5_isSector_11 : decode cX5_isSector 11 = .ok (.iconst 1, 1) := by decide +kernel
theorem dX5_isSector_12 : decode cX5_isSector 12 = .ok (.goto 4, 3) := by decide +kernel
theorem dX5_isSector_15 : decode cX5_isSector 15 = .ok (.iconst 0, 1) := by decide +kernel
theorem dX5_isSector_16 : decode cX5_isSector 16 = .ok (.ireturn, 1) := by decide +kernel
theorem dX5_isFileSize_0 : decode cX5_isFileSize 0 = .ok (.iload_n 0, 1) := by decide +kernel
theorem dX5_isFileSize_1 : decode cX5_isFileSize 1 = .ok (.iconst 1, 1) := by decide +kernel
theorem dX5_isFileSize_2 : decode cX5_isFileSize 2 = .ok (.if_icmp .lt 13, 3) := by decide +kernel
theorem dX5_isFileSize_5 : decode cX5_isFileSize 5 = .ok (.iload_n 0, 1) := by decide +kernel
theorem dX5_isFileSize_6 : decode cX5_isFileSize 6 = .ok (.bipush 40, 2) := by decide +kernel
theorem dX5_isFileSize_8 : decode cX5_isFileSize 8 = .ok (.if_icmp .gt 7, 3) := by decide +kernel
theorem dX5_isFileSize_11 : decode cX5_isFileSize 11 = .ok (.iconst 1, 1) := by decide +kernel
theorem dX5_isFileSize_12 : decode cX5_isFileSize 12 = .ok (.goto 4, 3) := by decide +kernel
theorem dX5_isFileSize_15 : decode cX5_isFileSize 15 = .ok (.iconst 0, 1) := by decide +kernel
theorem dX5_isFileSize_16 : decode cX5_isFileSize 16 = .ok (.ireturn, 1) := by decide +kernel
theorem dX5_isSetting_0 : decode cX5_isSetting 0 = .ok (.iload_n 0, 1) := by decide +kernel
theorem dX5_isSetting_1 : decode cX5_isSetting 1 = .ok (.ifCond .eq 8, 3) := by decide +kernel
theorem dX5_isSetting_4 : decode cX5_isSetting 4 = .ok (.iload_n 0, 1) := by decide +kernel
theorem dX5_isSetting_5 : decode cX5_isSetting 5 = .ok (.iconst 1, 1) := by decide +kernel
theorem dX5_isSetting_6 : decode cX5_isSetting 6 = .ok (.if_icmp .ne 7, 3) := by decide +kernel
theorem dX5_isSetting_9 : decode cX5_isSetting 9 = .ok (.iconst 1, 1) := by decide +kernel
theorem dX5_isSetting_10 : decode cX5_isSetting 10 = .ok (.goto 4, 3) := by decide +kernel
theorem dX5_isSetting_13 : decode cX5_isSetting 13 = .ok (.iconst 0, 1) := by decide +kernel
theorem dX5_isSetting_14 : decode cX5_isSetting 14 = .ok (.ireturn, 1) := by decide +kernel
theorem dJ9_floorMod_7cf53_0 : decode cJ9_floorMod_7cf53 0 = .ok (.iload_n 0, 1) := by decide +kernel
theorem dJ9_floorMod_7cf53_1 : decode cJ9_floorMod_7cf53 1 = .ok (.iload_n 1, 1) := by decide +kernel
theorem dJ9_floorMod_7cf53_2 : decode cJ9_floorMod_7cf53 2 = .ok (.irem, 1) := by decide +kernel
theorem dJ9_floorMod_7cf53_3 : decode cJ9_floorMod_7cf53 3 = .ok (.istore_n 2, 1) := by decide +kernel
theorem dJ9_floorMod_7cf53_4 : decode cJ9_floorMod_7cf53 4 = .ok (.iload_n 0, 1) := by decide +kernel
theorem dJ9_floorMod_7cf53_5 : decode cJ9_floorMod_7cf53 5 = .ok (.iload_n 1, 1) := by decide +kernel
theorem dJ9_floorMod_7cf53_6 : decode cJ9_floorMod_7cf53 6 = .ok (.ixor, 1) := by decide +kernel
theorem dJ9_floorMod_7cf53_7 : decode cJ9_floorMod_7cf53 7 = .ok (.ifCond .ge 11, 3) := by decide +kernel
theorem dJ9_floorMod_7cf53_10 : decode cJ9_floorMod_7cf53 10 = .ok (.iload_n 2, 1) := by decide +kernel
theorem dJ9_floorMod_7cf53_11 : decode cJ9_floorMod_7cf53 11 = .ok (.ifCond .eq 7, 3) := by decide +kernel
theorem dJ9_floorMod_7cf53_14 : decode cJ9_floorMod_7cf53 14 = .ok (.iload_n 2, 1) := by decide +kernel
theorem dJ9_floorMod_7cf53_15 : decode cJ9_floorMod_7cf53 15 = .ok (.iload_n 1, 1) := by decide +kernel
theorem dJ9_floorMod_7cf53_16 : decode cJ9_floorMod_7cf53 16 = .ok (.iadd, 1) := by decide +kernel
theorem dJ9_floorMod_7cf53_17 : decode cJ9_floorMod_7cf53 17 = .ok (.ireturn, 1) := by decide +kernel
theorem dJ9_floorMod_7cf53_18 : decode cJ9_floorMod_7cf53 18 = .ok (.iload_n 2, 1) := by decide +kernel
theorem dJ9_floorMod_7cf53_19 : decode cJ9_floorMod_7cf53 19 = .ok (.ireturn, 1) := by decide +kernel
theorem dJ9_max_7cf53_0 : decode cJ9_max_7cf53 0 = .ok (.iload_n 0, 1) := by decide +kernel
theorem dJ9_max_7cf53_1 : decode cJ9_max_7cf53 1 = .ok (.iload_n 1, 1) := by decide +kernel
theorem dJ9_max_7cf53_2 : decode cJ9_max_7cf53 2 = .ok (.if_icmp .lt 7, 3) := by decide +kernel
theorem dJ9_max_7cf53_5 : decode cJ9_max_7cf53 5 = .ok (.iload_n 0, 1) := by decide +kernel
theorem dJ9_max_7cf53_6 : decode cJ9_max_7cf53 6 = .ok (.goto 4, 3) := by decide +kernel
theorem dJ9_max_7cf53_9 : decode cJ9_max_7cf53 9 = .ok (.iload_n 1, 1) := by decide +kernel
theorem dJ9_max_7cf53_10 : decode cJ9_max_7cf53 10 = .ok (.ireturn, 1) := by decide +kernel
theorem dJ9_min_7cf53_0 : decode cJ9_min_7cf53 0 = .ok (.iload_n 0, 1) := by decide +kernel
theorem dJ9_min_7cf53_1 : decode cJ9_min_7cf53 1 = .ok (.iload_n 1, 1) := by decide +kernel
theorem dJ9_min_7cf53_2 : decode cJ9_min_7cf53 2 = .ok (.if_icmp .gt 7, 3) := by decide +kernel
theorem dJ9_min_7cf53_5 : decode cJ9_min_7cf53 5 = .ok (.iload_n 0, 1) := by decide +kernel
theorem dJ9_min_7cf53_6 : decode cJ9_min_7cf53 6 = .ok (.goto 4, 3) := by decide +kernel
theorem dJ9_min_7cf53_9 : decode cJ9_min_7cf53 9 = .ok (.iload_n 1, 1) := by decide +kernel
theorem dJ9_min_7cf53_10 : decode cJ9_min_7cf53 10 = .ok (.ireturn, 1) := by decide +kernel
theorem dL_lot_0 : decode cL_lot 0 = .ok (.iload_n 1, 1) := by decide +kernel
theorem dL_lot_1 : decode cL_lot 1 = .ok (.aload_n 0, 1) := by decide +kernel
theorem dL_lot_2 : decode cL_lot 2 = .ok (.arraylength, 1) := by decide +kernel
theorem dL_lot_3 : decode cL_lot 3 = .ok (.if_icmp .ge 9, 3) := by decide +kernel
theorem dL_lot_6 : decode cL_lot 6 = .ok (.aload_n 0, 1) := by decide +kernel
theorem dL_lot_7 : decode cL_lot 7 = .ok (.iload_n 1, 1) := by decide +kernel
theorem dL_lot_8 : decode cL_lot 8 = .ok (.iaload, 1) := by decide +kernel
theorem dL_lot_9 : decode cL_lot 9 = .ok (.goto 15, 3) := by decide +kernel
theorem dL_lot_12 : decode cL_lot 12 = .ok (.ldc 7, 2) := by decide +kernel
theorem dL_lot_14 : decode cL_lot 14 = .ok (.iload_n 1, 1) := by decide +kernel
theorem dL_lot_15 : decode cL_lot 15 = .ok (.sipush 4591, 3) := by decide +kernel
theorem dL_lot_18 : decode cL_lot 18 = .ok (.iadd, 1) := by decide +kernel
theorem dL_lot_19 : decode cL_lot 19 = .ok (.imul, 1) := by decide +kernel
theorem dL_lot_20 : decode cL_lot 20 = .ok (.sipush 4339, 3) := by decide +kernel
theorem dL_lot_23 : decode cL_lot 23 = .ok (.iadd, 1) := by decide +kernel
theorem dL_lot_24 : decode cL_lot 24 = .ok (.ireturn, 1) := by decide +kernel
theorem dL_low_0 : decode cL_low 0 = .ok (.iload_n 0, 1) := by decide +kernel
theorem dL_low_1 : decode cL_low 1 = .ok (.ldc 8, 2) := by decide +kernel
theorem dL_low_3 : decode cL_low 3 = .ok (.iand, 1) := by decide +kernel
theorem dL_low_4 : decode cL_low 4 = .ok (.iload_n 1, 1) := by decide +kernel
theorem dL_low_5 : decode cL_low 5 = .ok (.irem, 1) := by decide +kernel
theorem dL_low_6 : decode cL_low 6 = .ok (.ireturn, 1) := by decide +kernel
theorem dL_look_0 : decode cL_look 0 = .ok (.ldc2_w 9, 3) := by decide +kernel
theorem dL_look_3 : decode cL_look 3 = .ok (.lstore_n 1, 1) := by decide +kernel
theorem dL_look_4 : decode cL_look 4 = .ok (.ldc2_w 11, 3) := by decide +kernel
theorem dL_look_7 : decode cL_look 7 = .ok (.ldc2_w 11, 3) := by decide +kernel
theorem dL_look_10 : decode cL_look 10 = .ok (.ldc2_w 11, 3) := by decide +kernel
theorem dL_look_13 : decode cL_look 13 = .ok (.lload_n 1, 1) := by decide +kernel
theorem dL_look_14 : decode cL_look 14 = .ok (.lmul, 1) := by decide +kernel
theorem dL_look_15 : decode cL_look 15 = .ok (.aload_n 0, 1) := by decide +kernel
theorem dL_look_16 : decode cL_look 16 = .ok (.invokevirtual 13, 3) := by decide +kernel
theorem dL_look_19 : decode cL_look 19 = .ok (.i2l, 1) := by decide +kernel
theorem dL_look_20 : decode cL_look 20 = .ok (.ladd, 1) := by decide +kernel
theorem dL_look_21 : decode cL_look 21 = .ok (.lmul, 1) := by decide +kernel
theorem dL_look_22 : decode cL_look 22 = .ok (.aload_n 0, 1) := by decide +kernel
theorem dL_look_23 : decode cL_look 23 = .ok (.iconst 0, 1) := by decide +kernel
theorem dL_look_24 : decode cL_look 24 = .ok (.invokevirtual 19, 3) := by decide +kernel
theorem dL_look_27 : decode cL_look 27 = .ok (.i2l, 1) := by decide +kernel
theorem dL_look_28 : decode cL_look 28 = .ok (.ladd, 1) := by decide +kernel
theorem dL_look_29 : decode cL_look 29 = .ok (.lmul, 1) := by decide +kernel
theorem dL_look_30 : decode cL_look 30 = .ok (.aload_n 0, 1) := by decide +kernel
theorem dL_look_31 : decode cL_look 31 = .ok (.iconst 1, 1) := by decide +kernel
theorem dL_look_32 : decode cL_look 32 = .ok (.invokevirtual 19, 3) := by decide +kernel
theorem dL_look_35 : decode cL_look 35 = .ok (.i2l, 1) := by decide +kernel
theorem dL_look_36 : decode cL_look 36 = .ok (.ladd, 1) := by decide +kernel
theorem dL_look_37 : decode cL_look 37 = .ok (.lstore_n 1, 1) := by decide +kernel
theorem dL_look_38 : decode cL_look 38 = .ok (.iconst 0, 1) := by decide +kernel
theorem dL_look_39 : decode cL_look 39 = .ok (.istore_n 3, 1) := by decide +kernel
theorem dL_look_40 : decode cL_look 40 = .ok (.iload_n 3, 1) := by decide +kernel
theorem dL_look_41 : decode cL_look 41 = .ok (.sipush 240, 3) := by decide +kernel
theorem dL_look_44 : decode cL_look 44 = .ok (.if_icmp .ge 22, 3) := by decide +kernel
theorem dL_look_47 : decode cL_look 47 = .ok (.ldc2_w 11, 3) := by decide +kernel
theorem dL_look_50 : decode cL_look 50 = .ok (.lload_n 1, 1) := by decide +kernel
theorem dL_look_51 : decode cL_look 51 = .ok (.lmul, 1) := by decide +kernel
theorem dL_look_52 : decode cL_look 52 = .ok (.aload_n 0, 1) := by decide +kernel
theorem dL_look_53 : decode cL_look 53 = .ok (.iload_n 3, 1) := by decide +kernel
theorem dL_look_54 : decode cL_look 54 = .ok (.invokevirtual 23, 3) := by decide +kernel
theorem dL_look_57 : decode cL_look 57 = .ok (.i2l, 1) := by decide +kernel
theorem dL_look_58 : decode cL_look 58 = .ok (.ladd, 1) := by decide +kernel
theorem dL_look_59 : decode cL_look 59 = .ok (.lstore_n 1, 1) := by decide +kernel
theorem dL_look_60 : decode cL_look 60 = .ok (.iinc 3 1, 3) := by decide +kernel
theorem dL_look_63 : decode cL_look 63 = .ok (.goto (-23), 3) := by decide +kernel
theorem dL_look_66 : decode cL_look 66 = .ok (.iconst 0, 1) := by decide +kernel
theorem dL_look_67 : decode cL_look 67 = .ok (.istore_n 3, 1) := by decide +kernel
theorem dL_look_68 : decode cL_look 68 = .ok (.iload_n 3, 1) := by decide +kernel
theorem dL_look_69 : decode cL_look 69 = .ok (.aload_n 0, 1) := by decide +kernel
theorem dL_look_70 : decode cL_look 70 = .ok (.invokevirtual 26, 3) := by decide +kernel
theorem dL_look_73 : decode cL_look 73 = .ok (.if_icmp .ge 86, 3) := by decide +kernel
theorem dL_look_76 : decode cL_look 76 = .ok (.iconst 0, 1) := by decide +kernel
theorem dL_look_77 : decode cL_look 77 = .ok (.istore 4, 2) := by decide +kernel
theorem dL_look_79 : decode cL_look 79 = .ok (.iload 4, 2) := by decide +kernel
theorem dL_look_81 : decode cL_look 81 = .ok (.bipush 8, 2) := by decide +kernel
theorem dL_look_83 : decode cL_look 83 = .ok (.if_icmp .ge 24, 3) := by decide +kernel
theorem dL_look_86 : decode cL_look 86 = .ok (.ldc2_w 11, 3) := by decide +kernel
theorem dL_look_89 : decode cL_look 89 = .ok (.lload_n 1, 1) := by decide +kernel
theorem dL_look_90 : decode cL_look 90 = .ok (.lmul, 1) := by decide +kernel
theorem dL_look_91 : decode cL_look 91 = .ok (.aload_n 0, 1) := by decide +kernel
theorem dL_look_92 : decode cL_look 92 = .ok (.iload_n 3, 1) := by decide +kernel
theorem dL_look_93 : decode cL_look 93 = .ok (.iload 4, 2) := by decide +kernel
theorem dL_look_95 : decode cL_look 95 = .ok (.invokevirtual 29, 3) := by decide +kernel
theorem dL_look_98 : decode cL_look 98 = .ok (.i2l, 1) := by decide +kernel
theorem dL_look_99 : decode cL_look 99 = .ok (.ladd, 1) := by decide +kernel
theorem dL_look_100 : decode cL_look 100 = .ok (.lstore_n 1, 1) := by decide +kernel
theorem dL_look_101 : decode cL_look 101 = .ok (.iinc 4 1, 3) := by decide +kernel
theorem dL_look_104 : decode cL_look 104 = .ok (.goto (-25), 3) := by decide +kernel
theorem dL_look_107 : decode cL_look 107 = .ok (.iconst 0, 1) := by decide +kernel
theorem dL_look_108 : decode cL_look 108 = .ok (.istore 4, 2) := by decide +kernel
theorem dL_look_110 : decode cL_look 110 = .ok (.iload 4, 2) := by decide +kernel
theorem dL_look_112 : decode cL_look 112 = .ok (.bipush 20, 2) := by decide +kernel
theorem dL_look_114 : decode cL_look 114 = .ok (.if_icmp .ge 39, 3) := by decide +kernel
theorem dL_look_117 : decode cL_look 117 = .ok (.ldc2_w 11, 3) := by decide +kernel
theorem dL_look_120 : decode cL_look 120 = .ok (.ldc2_w 11, 3) := by decide +kernel
theorem dL_look_123 : decode cL_look 123 = .ok (.lload_n 1, 1) := by decide +kernel
theorem dL_look_124 : decode cL_look 124 = .ok (.lmul, 1) := by decide +kernel
theorem dL_look_125 : decode cL_look 125 = .ok (.aload_n 0, 1) := by decide +kernel
theorem dL_look_126 : decode cL_look 126 = .ok (.iload_n 3, 1) := by decide +kernel
theorem dL_look_127 : decode cL_look 127 = .ok (.iload 4, 2) := by decide +kernel
theorem dL_look_129 : decode cL_look 129 = .ok (.iconst 0, 1) := by decide +kernel
theorem dL_look_130 : decode cL_look 130 = .ok (.invokevirtual 33, 3) := by decide +kernel
theorem dL_look_133 : decode cL_look 133 = .ok (.i2l, 1) := by decide +kernel
theorem dL_look_134 : decode cL_look 134 = .ok (.ladd, 1) := by decide +kernel
theorem dL_look_135 : decode cL_look 135 = .ok (.lmul, 1) := by decide +kernel
theorem dL_look_136 : decode cL_look 136 = .ok (.aload_n 0, 1) := by decide +kernel
theorem dL_look_137 : decode cL_look 137 = .ok (.iload_n 3, 1) := by decide +kernel
theorem dL_look_138 : decode cL_look 138 = .ok (.iload 4, 2) := by decide +kernel
theorem dL_look_140 : decode cL_look 140 = .ok (.iconst 1, 1) := by decide +kernel
theorem dL_look_141 : decode cL_look 141 = .ok (.invokevirtual 33, 3) := by decide +kernel
theorem dL_look_144 : decode cL_look 144 = .ok (.i2l, 1) := by decide +kernel
theorem dL_look_145 : decode cL_look 145 = .ok (.ladd, 1) := by decide +kernel
theorem dL_look_146 : decode cL_look 146 = .ok (.lstore_n 1, 1) := by decide +kernel
theorem dL_look_147 : decode cL_look 147 = .ok (.iinc 4 1, 3) := by decide +kernel
theorem dL_look_150 : decode cL_look 150 = .ok (.goto (-40), 3) := by decide +kernel
theorem dL_look_153 : decode cL_look 153 = .ok (.iinc 3 1, 3) := by decide +kernel
theorem dL_look_156 : decode cL_look 156 = .ok (.goto (-88), 3) := by decide +kernel
theorem dL_look_159 : decode cL_look 159 = .ok (.iconst 0, 1) := by decide +kernel
theorem dL_look_160 : decode cL_look 160 = .ok (.istore_n 3, 1) := by decide +kernel
theorem dL_look_161 : decode cL_look 161 = .ok (.iload_n 3, 1) := by decide +kernel
theorem dL_look_162 : decode cL_look 162 = .ok (.bipush 20, 2) := by decide +kernel
theorem dL_look_164 : decode cL_look 164 = .ok (.if_icmp .ge 22, 3) := by decide +kernel
theorem dL_look_167 : decode cL_look 167 = .ok (.ldc2_w 11, 3) := by decide +kernel
theorem dL_look_170 : decode cL_look 170 = .ok (.lload_n 1, 1) := by decide +kernel
theorem dL_look_171 : decode cL_look 171 = .ok (.lmul, 1) := by decide +kernel
theorem dL_look_172 : decode cL_look 172 = .ok (.aload_n 0, 1) := by decide +kernel
theorem dL_look_173 : decode cL_look 173 = .ok (.iload_n 3, 1) := by decide +kernel
theorem dL_look_174 : decode cL_look 174 = .ok (.invokevirtual 37, 3) := by decide +kernel
theorem dL_look_177 : decode cL_look 177 = .ok (.i2l, 1) := by decide +kernel
theorem dL_look_178 : decode cL_look 178 = .ok (.ladd, 1) := by decide +kernel
theorem dL_look_179 : decode cL_look 179 = .ok (.lstore_n 1, 1) := by decide +kernel
theorem dL_look_180 : decode cL_look 180 = .ok (.iinc 3 1, 3) := by decide +kernel
theorem dL_look_183 : decode cL_look 183 = .ok (.goto (-22), 3) := by decide +kernel
theorem dL_look_186 : decode cL_look 186 = .ok (.lload_n 1, 1) := by decide +kernel
theorem dL_look_187 : decode cL_look 187 = .ok (.lreturn, 1) := by decide +kernel
theorem dL_whole_0 : decode cL_whole 0 = .ok (.iconst 1, 1) := by decide +kernel
theorem dL_whole_1 : decode cL_whole 1 = .ok (.istore_n 3, 1) := by decide +kernel
theorem dL_whole_2 : decode cL_whole 2 = .ok (.iload_n 1, 1) := by decide +kernel
theorem dL_whole_3 : decode cL_whole 3 = .ok (.istore 4, 2) := by decide +kernel
theorem dL_whole_5 : decode cL_whole 5 = .ok (.iload 4, 2) := by decide +kernel
theorem dL_whole_7 : decode cL_whole 7 = .ok (.iload_n 1, 1) := by decide +kernel
theorem dL_whole_8 : decode cL_whole 8 = .ok (.iload_n 2, 1) := by decide +kernel
theorem dL_whole_9 : decode cL_whole 9 = .ok (.iadd, 1) := by decide +kernel
theorem dL_whole_10 : decode cL_whole 10 = .ok (.if_icmp .ge 28, 3) := by decide +kernel
theorem dL_whole_13 : decode cL_whole 13 = .ok (.iload_n 3, 1) := by decide +kernel
theorem dL_whole_14 : decode cL_whole 14 = .ok (.ifCond .eq 16, 3) := by decide +kernel
theorem dL_whole_17 : decode cL_whole 17 = .ok (.aload_n 0, 1) := by decide +kernel
theorem dL_whole_18 : decode cL_whole 18 = .ok (.iload 4, 2) := by decide +kernel
theorem dL_whole_20 : decode cL_whole 20 = .ok (.invokevirtual 23, 3) := by decide +kernel
theorem dL_whole_23 : decode cL_whole 23 = .ok (.ifCond .ne 7, 3) := by decide +kernel
theorem dL_whole_26 : decode cL_whole 26 = .ok (.iconst 1, 1) := by decide +kernel
theorem dL_whole_27 : decode cL_whole 27 = .ok (.goto 4, 3) := by decide +kernel
theorem dL_whole_30 : decode cL_whole 30 = .ok (.iconst 0, 1) := by decide +kernel
theorem dL_whole_31 : decode cL_whole 31 = .ok (.istore_n 3, 1) := by decide +kernel
theorem dL_whole_32 : decode cL_whole 32 = .ok (.iinc 4 1, 3) := by decide +kernel
theorem dL_whole_35 : decode cL_whole 35 = .ok (.goto (-30), 3) := by decide +kernel
theorem dL_whole_38 : decode cL_whole 38 = .ok (.iload_n 3, 1) := by decide +kernel
theorem dL_whole_39 : decode cL_whole 39 = .ok (.ireturn, 1) := by decide +kernel
theorem dL_open_0 : decode cL_open 0 = .ok (.aload_n 0, 1) := by decide +kernel
theorem dL_open_1 : decode cL_open 1 = .ok (.invokevirtual 26, 3) := by decide +kernel
theorem dL_open_4 : decode cL_open 4 = .ok (.iconst 1, 1) := by decide +kernel
theorem dL_open_5 : decode cL_open 5 = .ok (.isub, 1) := by decide +kernel
theorem dL_open_6 : decode cL_open 6 = .ok (.istore_n 1, 1) := by decide +kernel
theorem dL_open_7 : decode cL_open 7 = .ok (.iload_n 1, 1) := by decide +kernel
theorem dL_open_8 : decode cL_open 8 = .ok (.ifCond .lt 16, 3) := by decide +kernel
theorem dL_open_11 : decode cL_open 11 = .ok (.aload_n 0, 1) := by decide +kernel
theorem dL_open_12 : decode cL_open 12 = .ok (.iload_n 1, 1) := by decide +kernel
theorem dL_open_13 : decode cL_open 13 = .ok (.iconst 0, 1) := by decide +kernel
theorem dL_open_14 : decode cL_open 14 = .ok (.invokevirtual 29, 3) := by decide +kernel
theorem dL_open_17 : decode cL_open 17 = .ok (.ifCond .ne 7, 3) := by decide +kernel
theorem dL_open_20 : decode cL_open 20 = .ok (.iload_n 1, 1) := by decide +kernel
theorem dL_open_21 : decode cL_open 21 = .ok (.goto 5, 3) := by decide +kernel
theorem dL_open_24 : decode cL_open 24 = .ok (.bipush (-6), 2) := by decide +kernel
theorem dL_open_26 : decode cL_open 26 = .ok (.ireturn, 1) := by decide +kernel
theorem dL_holds_0 : decode cL_holds 0 = .ok (.iconst 0, 1) := by decide +kernel
theorem dL_holds_1 : decode cL_holds 1 = .ok (.istore_n 1, 1) := by decide +kernel
theorem dL_holds_2 : decode cL_holds 2 = .ok (.iconst 0, 1) := by decide +kernel
theorem dL_holds_3 : decode cL_holds 3 = .ok (.istore_n 2, 1) := by decide +kernel
theorem dL_holds_4 : decode cL_holds 4 = .ok (.bipush (-6), 2) := by decide +kernel
theorem dL_holds_6 : decode cL_holds 6 = .ok (.istore_n 3, 1) := by decide +kernel
theorem dL_holds_7 : decode cL_holds 7 = .ok (.aload_n 0, 1) := by decide +kernel
theorem dL_holds_8 : decode cL_holds 8 = .ok (.invokevirtual 13, 3) := by decide +kernel
theorem dL_holds_11 : decode cL_holds 11 = .ok (.ifCond .lt 77, 3) := by decide +kernel
theorem dL_holds_14 : decode cL_holds 14 = .ok (.aload_n 0, 1) := by decide +kernel
theorem dL_holds_15 : decode cL_holds 15 = .ok (.invokevirtual 13, 3) := by decide +kernel
theorem dL_holds_18 : decode cL_holds 18 = .ok (.sipush 240, 3) := by decide +kernel
theorem dL_holds_21 : decode cL_holds 21 = .ok (.if_icmp .gt 67, 3) := by decide +kernel
theorem dL_holds_24 : decode cL_holds 24 = .ok (.aload_n 0, 1) := by decide +kernel
theorem dL_holds_25 : decode cL_holds 25 = .ok (.invokevirtual 26, 3) := by decide +kernel
theorem dL_holds_28 : decode cL_holds 28 = .ok (.bipush 12, 2) := by decide +kernel
theorem dL_holds_30 : decode cL_holds 30 = .ok (.if_icmp .gt 58, 3) := by decide +kernel
theorem dL_holds_33 : decode cL_holds 33 = .ok (.aload_n 0, 1) := by decide +kernel
theorem dL_holds_34 : decode cL_holds 34 = .ok (.iconst 0, 1) := by decide +kernel
theorem dL_holds_35 : decode cL_holds 35 = .ok (.invokevirtual 19, 3) := by decide +kernel
theorem dL_holds_38 : decode cL_holds 38 = .ok (.iconst 2, 1) := by decide +kernel
theorem dL_holds_39 : decode cL_holds 39 = .ok (.if_icmp .lt 49, 3) := by decide +kernel
theorem dL_holds_42 : decode cL_holds 42 = .ok (.aload_n 0, 1) := by decide +kernel
theorem dL_holds_43 : decode cL_holds 43 = .ok (.iconst 0, 1) := by decide +kernel
theorem dL_holds_44 : decode cL_holds 44 = .ok (.invokevirtual 19, 3) := by decide +kernel
theorem dL_holds_47 : decode cL_holds 47 = .ok (.bipush 9, 2) := by decide +kernel
theorem dL_holds_49 : decode cL_holds 49 = .ok (.if_icmp .gt 39, 3) := by decide +kernel
theorem dL_holds_52 : decode cL_holds 52 = .ok (.aload_n 0, 1) := by decide +kernel
theorem dL_holds_53 : decode cL_holds 53 = .ok (.iconst 1, 1) := by decide +kernel
theorem dL_holds_54 : decode cL_holds 54 = .ok (.invokevirtual 19, 3) := by decide +kernel
theorem dL_holds_57 : decode cL_holds 57 = .ok (.iconst 1, 1) := by decide +kernel
theorem dL_holds_58 : decode cL_holds 58 = .ok (.if_icmp .lt 30, 3) := by decide +kernel
theorem dL_holds_61 : decode cL_holds 61 = .ok (.aload_n 0, 1) := by decide +kernel
theorem dL_holds_62 : decode cL_holds 62 = .ok (.iconst 1, 1) := by decide +kernel
theorem dL_holds_63 : decode cL_holds 63 = .ok (.invokevirtual 19, 3) := by decide +kernel
theorem dL_holds_66 : decode cL_holds 66 = .ok (.bipush 9, 2) := by decide +kernel
theorem dL_holds_68 : decode cL_holds 68 = .ok (.if_icmp .gt 20, 3) := by decide +kernel
theorem dL_holds_71 : decode cL_holds 71 = .ok (.aload_n 0, 1) := by decide +kernel
theorem dL_holds_72 : decode cL_holds 72 = .ok (.aload_n 0, 1) := by decide +kernel
theorem dL_holds_73 : decode cL_holds 73 = .ok (.invokevirtual 26, 3) := by decide +kernel
theorem dL_holds_76 : decode cL_holds 76 = .ok (.iconst 0, 1) := by decide +kernel
theorem dL_holds_77 : decode cL_holds 77 = .ok (.invokevirtual 29, 3) := by decide +kernel
theorem dL_holds_80 : decode cL_holds 80 = .ok (.iconst (-1), 1) := by decide +kernel
theorem dL_holds_81 : decode cL_holds 81 = .ok (.if_icmp .ne 7, 3) := by decide +kernel
theorem dL_holds_84 : decode cL_holds 84 = .ok (.iconst 1, 1) := by decide +kernel
theorem dL_holds_85 : decode cL_holds 85 = .ok (.goto 4, 3) := by decide +kernel
theorem dL_holds_88 : decode cL_holds 88 = .ok (.iconst 0, 1) := by decide +kernel
theorem dL_holds_89 : decode cL_holds 89 = .ok (.istore 4, 2) := by decide +kernel
theorem dL_holds_91 : decode cL_holds 91 = .ok (.iconst 0, 1) := by decide +kernel
theorem dL_holds_92 : decode cL_holds 92 = .ok (.istore 5, 2) := by decide +kernel
theorem dL_holds_94 : decode cL_holds 94 = .ok (.iload 5, 2) := by decide +kernel
theorem dL_holds_96 : decode cL_holds 96 = .ok (.aload_n 0, 1) := by decide +kernel
theorem dL_holds_97 : decode cL_holds 97 = .ok (.invokevirtual 26, 3) := by decide +kernel
theorem dL_holds_100 : decode cL_holds 100 = .ok (.if_icmp .ge 467, 3) := by decide +kernel
theorem dL_holds_103 : decode cL_holds 103 = .ok (.iload 4, 2) := by decide +kernel
theorem dL_holds_105 : decode cL_holds 105 = .ok (.ifCond .eq 462, 3) := by decide +kernel
theorem dL_holds_108 : decode cL_holds 108 = .ok (.aload_n 0, 1) := by decide +kernel
theorem dL_holds_109 : decode cL_holds 109 = .ok (.iload 5, 2) := by decide +kernel
theorem dL_holds_111 : decode cL_holds 111 = .ok (.iconst 0, 1) := by decide +kernel
theorem dL_holds_112 : decode cL_holds 112 = .ok (.invokevirtual 29, 3) := by decide +kernel
theorem dL_holds_115 : decode cL_holds 115 = .ok (.istore 6, 2) := by decide +kernel
theorem dL_holds_117 : decode cL_holds 117 = .ok (.aload_n 0, 1) := by decide +kernel
theorem dL_holds_118 : decode cL_holds 118 = .ok (.iload 5, 2) := by decide +kernel
theorem dL_holds_120 : decode cL_holds 120 = .ok (.iconst 2, 1) := by decide +kernel
theorem dL_holds_121 : decode cL_holds 121 = .ok (.invokevirtual 29, 3) := by decide +kernel
theorem dL_holds_124 : decode cL_holds 124 = .ok (.istore 7, 2) := by decide +kernel
theorem dL_holds_126 : decode cL_holds 126 = .ok (.iconst 0, 1) := by decide +kernel
theorem dL_holds_127 : decode cL_holds 127 = .ok (.istore 8, 2) := by decide +kernel
theorem dL_holds_129 : decode cL_holds 129 = .ok (.aload_n 0, 1) := by decide +kernel
theorem dL_holds_130 : decode cL_holds 130 = .ok (.iload 5, 2) := by decide +kernel
theorem dL_holds_132 : decode cL_holds 132 = .ok (.iconst 3, 1) := by decide +kernel
theorem dL_holds_133 : decode cL_holds 133 = .ok (.invokevirtual 29, 3) := by decide +kernel
theorem dL_holds_136 : decode cL_holds 136 = .ok (.iload 6, 2) := by decide +kernel
theorem dL_holds_138 : decode cL_holds 138 = .ok (.iconst 1, 1) := by decide +kernel
theorem dL_holds_139 : decode cL_holds 139 = .ok (.if_icmp .ne 13, 3) := by decide +kernel
theorem dL_holds_142 : decode cL_holds 142 = .ok (.aload_n 0, 1) := by decide +kernel
theorem dL_holds_143 : decode cL_holds 143 = .ok (.iload 5, 2) := by decide +kernel
theorem dL_holds_145 : decode cL_holds 145 = .ok (.iconst 4, 1) := by decide +kernel
theorem dL_holds_146 : decode cL_holds 146 = .ok (.invokevirtual 29, 3) := by decide +kernel
theorem dL_holds_149 : decode cL_holds 149 = .ok (.goto 4, 3) := by decide +kernel
theorem dL_holds_152 : decode cL_holds 152 = .ok (.iconst 0, 1) := by decide +kernel
theorem dL_holds_153 : decode cL_holds 153 = .ok (.iadd, 1) := by decide +kernel
theorem dL_holds_154 : decode cL_holds 154 = .ok (.istore 9, 2) := by decide +kernel
theorem dL_holds_156 : decode cL_holds 156 = .ok (.iload 6, 2) := by decide +kernel
theorem dL_holds_158 : decode cL_holds 158 = .ok (.iconst 1, 1) := by decide +kernel
theorem dL_holds_159 : decode cL_holds 159 = .ok (.if_icmp .ne 22, 3) := by decide +kernel
theorem dL_holds_162 : decode cL_holds 162 = .ok (.aload_n 0, 1) := by decide +kernel
theorem dL_holds_163 : decode cL_holds 163 = .ok (.iload_n 1, 1) := by decide +kernel
theorem dL_holds_164 : decode cL_holds 164 = .ok (.aload_n 0, 1) := by decide +kernel
theorem dL_holds_165 : decode cL_holds 165 = .ok (.iload 5, 2) := by decide +kernel
theorem dL_holds_167 : decode cL_holds 167 = .ok (.iconst 3, 1) := by decide +kernel
theorem dL_holds_168 : decode cL_holds 168 = .ok (.invokevirtual 29, 3) := by decide +kernel
theorem dL_holds_171 : decode cL_holds 171 = .ok (.invokestatic 42, 3) := by decide +kernel
theorem dL_holds_174 : decode cL_holds 174 = .ok (.ifCond .eq 7, 3) := by decide +kernel
theorem dL_holds_177 : decode cL_holds 177 = .ok (.iconst 1, 1) := by decide +kernel
theorem dL_holds_178 : decode cL_holds 178 = .ok (.goto 4, 3) := by decide +kernel
theorem dL_holds_181 : decode cL_holds 181 = .ok (.iconst 0, 1) := by decide +kernel
theorem dL_holds_182 : decode cL_holds 182 = .ok (.istore 10, 2) := by decide +kernel
theorem dL_holds_184 : decode cL_holds 184 = .ok (.iload 10, 2) := by decide +kernel
theorem dL_holds_186 : decode cL_holds 186 = .ok (.ifCond .eq 8, 3) := by decide +kernel
theorem dL_holds_189 : decode cL_holds 189 = .ok (.iload 5, 2) := by decide +kernel
theorem dL_holds_191 : decode cL_holds 191 = .ok (.goto 4, 3) := by decide +kernel
theorem dL_holds_194 : decode cL_holds 194 = .ok (.iload_n 3, 1) := by decide +kernel
theorem dL_holds_195 : decode cL_holds 195 = .ok (.istore_n 3, 1) := by decide +kernel
theorem dL_holds_196 : decode cL_holds 196 = .ok (.iload_n 2, 1) := by decide +kernel
theorem dL_holds_197 : decode cL_holds 197 = .ok (.aload_n 0, 1) := by decide +kernel
theorem dL_holds_198 : decode cL_holds 198 = .ok (.iload 5, 2) := by decide +kernel
theorem dL_holds_200 : decode cL_holds 200 = .ok (.bipush 7, 2) := by decide +kernel
theorem dL_holds_202 : decode cL_holds 202 = .ok (.invokevirtual 29, 3) := by decide +kernel
theorem dL_holds_205 : decode cL_holds 205 = .ok (.iadd, 1) := by decide +kernel
theorem dL_holds_206 : decode cL_holds 206 = .ok (.istore_n 2, 1) := by decide +kernel
theorem dL_holds_207 : decode cL_holds 207 = .ok (.iconst 0, 1) := by decide +kernel
theorem dL_holds_208 : decode cL_holds 208 = .ok (.istore 11, 2) := by decide +kernel
theorem dL_holds_210 : decode cL_holds 210 = .ok (.iload 11, 2) := by decide +kernel
theorem dL_holds_212 : decode cL_holds 212 = .ok (.bipush 20, 2) := by decide +kernel
theorem dL_holds_214 : decode cL_holds 214 = .ok (.if_icmp .ge 202, 3) := by decide +kernel
theorem dL_holds_217 : decode cL_holds 217 = .ok (.iload 4, 2) := by decide +kernel
theorem dL_holds_219 : decode cL_holds 219 = .ok (.ifCond .eq 197, 3) := by decide +kernel
theorem dL_holds_222 : decode cL_holds 222 = .ok (.aload_n 0, 1) := by decide +kernel
theorem dL_holds_223 : decode cL_holds 223 = .ok (.iload 5, 2) := by decide +kernel
theorem dL_holds_225 : decode cL_holds 225 = .ok (.iload 11, 2) := by decide +kernel
theorem dL_holds_227 : decode cL_holds 227 = .ok (.iconst 0, 1) := by decide +kernel
theorem dL_holds_228 : decode cL_holds 228 = .ok (.invokevirtual 33, 3) := by decide +kernel
theorem dL_holds_231 : decode cL_holds 231 = .ok (.istore 12, 2) := by decide +kernel
theorem dL_holds_233 : decode cL_holds 233 = .ok (.aload_n 0, 1) := by decide +kernel
theorem dL_holds_234 : decode cL_holds 234 = .ok (.iload 5, 2) := by decide +kernel
theorem dL_holds_236 : decode cL_holds 236 = .ok (.iload 11, 2) := by decide +kernel
theorem dL_holds_238 : decode cL_holds 238 = .ok (.iconst 1, 1) := by decide +kernel
theorem dL_holds_239 : decode cL_holds 239 = .ok (.invokevirtual 33, 3) := by decide +kernel
theorem dL_holds_242 : decode cL_holds 242 = .ok (.istore 13, 2) := by decide +kernel
theorem dL_holds_244 : decode cL_holds 244 = .ok (.aload_n 0, 1) := by decide +kernel
theorem dL_holds_245 : decode cL_holds 245 = .ok (.iload 5, 2) := by decide +kernel
theorem dL_holds_247 : decode cL_holds 247 = .ok (.iload 11, 2) := by decide +kernel
theorem dL_holds_249 : decode cL_holds 249 = .ok (.iconst 2, 1) := by decide +kernel
theorem dL_holds_250 : decode cL_holds 250 = .ok (.invokevirtual 33, 3) := by decide +kernel
theorem dL_holds_253 : decode cL_holds 253 = .ok (.istore 14, 2) := by decide +kernel
theorem dL_holds_255 : decode cL_holds 255 = .ok (.iload 8, 2) := by decide +kernel
theorem dL_holds_257 : decode cL_holds 257 = .ok (.iload 12, 2) := by decide +kernel
theorem dL_holds_259 : decode cL_holds 259 = .ok (.bipush (-6), 2) := by decide +kernel
theorem dL_holds_261 : decode cL_holds 261 = .ok (.if_icmp .ne 7, 3) := by decide +kernel
theorem dL_holds_264 : decode cL_holds 264 = .ok (.iconst 0, 1) := by decide +kernel
theorem dL_holds_265 : decode cL_holds 265 = .ok (.goto 4, 3) := by decide +kernel
theorem dL_holds_268 : decode cL_holds 268 = .ok (.iconst 1, 1) := by decide +kernel
theorem dL_holds_269 : decode cL_holds 269 = .ok (.iadd, 1) := by decide +kernel
theorem dL_holds_270 : decode cL_holds 270 = .ok (.istore 8, 2) := by decide +kernel
theorem dL_holds_272 : decode cL_holds 272 = .ok (.iload 12, 2) := by decide +kernel
theorem dL_holds_274 : decode cL_holds 274 = .ok (.bipush (-6), 2) := by decide +kernel
theorem dL_holds_276 : decode cL_holds 276 = .ok (.if_icmp .ne 25, 3) := by decide +kernel
theorem dL_holds_279 : decode cL_holds 279 = .ok (.iload 13, 2) := by decide +kernel
theorem dL_holds_281 : decode cL_holds 281 = .ok (.bipush (-6), 2) := by decide +kernel
theorem dL_holds_283 : decode cL_holds 283 = .ok (.if_icmp .ne 14, 3) := by decide +kernel
theorem dL_holds_286 : decode cL_holds 286 = .ok (.iload 14, 2) := by decide +kernel
theorem dL_holds_288 : decode cL_holds 288 = .ok (.bipush (-6), 2) := by decide +kernel
theorem dL_holds_290 : decode cL_holds 290 = .ok (.if_icmp .ne 7, 3) := by decide +kernel
theorem dL_holds_293 : decode cL_holds 293 = .ok (.iconst 1, 1) := by decide +kernel
theorem dL_holds_294 : decode cL_holds 294 = .ok (.goto 114, 3) := by decide +kernel
theorem dL_holds_297 : decode cL_holds 297 = .ok (.iconst 0, 1) := by decide +kernel
theorem dL_holds_298 : decode cL_holds 298 = .ok (.goto 110, 3) := by decide +kernel
theorem dL_holds_301 : decode cL_holds 301 = .ok (.iload 13, 2) := by decide +kernel
theorem dL_holds_303 : decode cL_holds 303 = .ok (.iconst 1, 1) := by decide +kernel
theorem dL_holds_304 : decode cL_holds 304 = .ok (.if_icmp .lt 103, 3) := by decide +kernel
theorem dL_holds_307 : decode cL_holds 307 = .ok (.iload 13, 2) := by decide +kernel
theorem dL_holds_309 : decode cL_holds 309 = .ok (.bipush 40, 2) := by decide +kernel
theorem dL_holds_311 : decode cL_holds 311 = .ok (.if_icmp .gt 96, 3) := by decide +kernel
theorem dL_holds_314 : decode cL_holds 314 = .ok (.iload 14, 2) := by decide +kernel
theorem dL_holds_316 : decode cL_holds 316 = .ok (.ifCond .lt 91, 3) := by decide +kernel
theorem dL_holds_319 : decode cL_holds 319 = .ok (.iload 14, 2) := by decide +kernel
theorem dL_holds_321 : decode cL_holds 321 = .ok (.iload 5, 2) := by decide +kernel
theorem dL_holds_323 : decode cL_holds 323 = .ok (.if_icmp .gt 84, 3) := by decide +kernel
theorem dL_holds_326 : decode cL_holds 326 = .ok (.iload 12, 2) := by decide +kernel
theorem dL_holds_328 : decode cL_holds 328 = .ok (.aload_n 0, 1) := by decide +kernel
theorem dL_holds_329 : decode cL_holds 329 = .ok (.iload 14, 2) := by decide +kernel
theorem dL_holds_331 : decode cL_holds 331 = .ok (.iconst 1, 1) := by decide +kernel
theorem dL_holds_332 : decode cL_holds 332 = .ok (.invokevirtual 29, 3) := by decide +kernel
theorem dL_holds_335 : decode cL_holds 335 = .ok (.aload_n 0, 1) := by decide +kernel
theorem dL_holds_336 : decode cL_holds 336 = .ok (.iload 14, 2) := by decide +kernel
theorem dL_holds_338 : decode cL_holds 338 = .ok (.iconst 3, 1) := by decide +kernel
theorem dL_holds_339 : decode cL_holds 339 = .ok (.invokevirtual 29, 3) := by decide +kernel
theorem dL_holds_342 : decode cL_holds 342 = .ok (.iadd, 1) := by decide +kernel
theorem dL_holds_343 : decode cL_holds 343 = .ok (.if_icmp .lt 64, 3) := by decide +kernel
theorem dL_holds_346 : decode cL_holds 346 = .ok (.iload 12, 2) := by decide +kernel
theorem dL_holds_348 : decode cL_holds 348 = .ok (.iload 13, 2) := by decide +kernel
theorem dL_holds_350 : decode cL_holds 350 = .ok (.iadd, 1) := by decide +kernel
theorem dL_holds_351 : decode cL_holds 351 = .ok (.aload_n 0, 1) := by decide +kernel
theorem dL_holds_352 : decode cL_holds 352 = .ok (.iload 14, 2) := by decide +kernel
theorem dL_holds_354 : decode cL_holds 354 = .ok (.iconst 1, 1) := by decide +kernel
theorem dL_holds_355 : decode cL_holds 355 = .ok (.invokevirtual 29, 3) := by decide +kernel
theorem dL_holds_358 : decode cL_holds 358 = .ok (.aload_n 0, 1) := by decide +kernel
theorem dL_holds_359 : decode cL_holds 359 = .ok (.iload 14, 2) := by decide +kernel
theorem dL_holds_361 : decode cL_holds 361 = .ok (.iconst 2, 1) := by decide +kernel
theorem dL_holds_362 : decode cL_holds 362 = .ok (.invokevirtual 29, 3) := by decide +kernel
theorem dL_holds_365 : decode cL_holds 365 = .ok (.iadd, 1) := by decide +kernel
theorem dL_holds_366 : decode cL_holds 366 = .ok (.if_icmp .gt 41, 3) := by decide +kernel
theorem dL_holds_369 : decode cL_holds 369 = .ok (.aload_n 0, 1) := by decide +kernel
theorem dL_holds_370 : decode cL_holds 370 = .ok (.iload 11, 2) := by decide +kernel
theorem dL_holds_372 : decode cL_holds 372 = .ok (.invokevirtual 37, 3) := by decide +kernel
theorem dL_holds_375 : decode cL_holds 375 = .ok (.ifCond .le 32, 3) := by decide +kernel
theorem dL_holds_378 : decode cL_holds 378 = .ok (.aload_n 0, 1) := by decide +kernel
theorem dL_holds_379 : decode cL_holds 379 = .ok (.iload 12, 2) := by decide +kernel
theorem dL_holds_381 : decode cL_holds 381 = .ok (.invokevirtual 46, 3) := by decide +kernel
theorem dL_holds_384 : decode cL_holds 384 = .ok (.iconst 3, 1) := by decide +kernel
theorem dL_holds_385 : decode cL_holds 385 = .ok (.if_icmp .ne 22, 3) := by decide +kernel
theorem dL_holds_388 : decode cL_holds 388 = .ok (.aload_n 0, 1) := by decide +kernel
theorem dL_holds_389 : decode cL_holds 389 = .ok (.iload 12, 2) := by decide +kernel
theorem dL_holds_391 : decode cL_holds 391 = .ok (.iload 13, 2) := by decide +kernel
theorem dL_holds_393 : decode cL_holds 393 = .ok (.iadd, 1) := by decide +kernel
theorem dL_holds_394 : decode cL_holds 394 = .ok (.iconst 1, 1) := by decide +kernel
theorem dL_holds_395 : decode cL_holds 395 = .ok (.isub, 1) := by decide +kernel
theorem dL_holds_396 : decode cL_holds 396 = .ok (.invokevirtual 46, 3) := by decide +kernel
theorem dL_holds_399 : decode cL_holds 399 = .ok (.iconst 3, 1) := by decide +kernel
theorem dL_holds_400 : decode cL_holds 400 = .ok (.if_icmp .ne 7, 3) := by decide +kernel
theorem dL_holds_403 : decode cL_holds 403 = .ok (.iconst 1, 1) := by decide +kernel
theorem dL_holds_404 : decode cL_holds 404 = .ok (.goto 4, 3) := by decide +kernel
theorem dL_holds_407 : decode cL_holds 407 = .ok (.iconst 0, 1) := by decide +kernel
theorem dL_holds_408 : decode cL_holds 408 = .ok (.istore 4, 2) := by decide +kernel
theorem dL_holds_410 : decode cL_holds 410 = .ok (.iinc 11 1, 3) := by decide +kernel
theorem dL_holds_413 : decode cL_holds 413 = .ok (.goto (-203), 3) := by decide +kernel
theorem dL_holds_416 : decode cL_holds 416 = .ok (.iload 4, 2) := by decide +kernel
theorem dL_holds_418 : decode cL_holds 418 = .ok (.ifCond .eq 135, 3) := by decide +kernel
theorem dL_holds_421 : decode cL_holds 421 = .ok (.iload 6, 2) := by decide +kernel
theorem dL_holds_423 : decode cL_holds 423 = .ok (.ifCond .lt 130, 3) := by decide +kernel
theorem dL_holds_426 : decode cL_holds 426 = .ok (.iload 6, 2) := by decide +kernel
theorem dL_holds_428 : decode cL_holds 428 = .ok (.iconst 2, 1) := by decide +kernel
theorem dL_holds_429 : decode cL_holds 429 = .ok (.if_icmp .gt 124, 3) := by decide +kernel
theorem dL_holds_432 : decode cL_holds 432 = .ok (.iload 6, 2) := by decide +kernel
theorem dL_holds_434 : decode cL_holds 434 = .ok (.ifCond .gt 14, 3) := by decide +kernel
theorem dL_holds_437 : decode cL_holds 437 = .ok (.iload 5, 2) := by decide +kernel
theorem dL_holds_439 : decode cL_holds 439 = .ok (.aload_n 0, 1) := by decide +kernel
theorem dL_holds_440 : decode cL_holds 440 = .ok (.invokevirtual 26, 3) := by decide +kernel
theorem dL_holds_443 : decode cL_holds 443 = .ok (.iconst 1, 1) := by decide +kernel
theorem dL_holds_444 : decode cL_holds 444 = .ok (.isub, 1) := by decide +kernel
theorem dL_holds_445 : decode cL_holds 445 = .ok (.if_icmp .ne 108, 3) := by decide +kernel
theorem dL_holds_448 : decode cL_holds 448 = .ok (.aload_n 0, 1) := by decide +kernel
theorem dL_holds_449 : decode cL_holds 449 = .ok (.iload 5, 2) := by decide +kernel
theorem dL_holds_451 : decode cL_holds 451 = .ok (.iconst 1, 1) := by decide +kernel
theorem dL_holds_452 : decode cL_holds 452 = .ok (.invokevirtual 29, 3) := by decide +kernel
theorem dL_holds_455 : decode cL_holds 455 = .ok (.iload_n 1, 1) := by decide +kernel
theorem dL_holds_456 : decode cL_holds 456 = .ok (.if_icmp .ne 97, 3) := by decide +kernel
theorem dL_holds_459 : decode cL_holds 459 = .ok (.iload 7, 2) := by decide +kernel
theorem dL_holds_461 : decode cL_holds 461 = .ok (.iload 9, 2) := by decide +kernel
theorem dL_holds_463 : decode cL_holds 463 = .ok (.if_icmp .lt 90, 3) := by decide +kernel
theorem dL_holds_466 : decode cL_holds 466 = .ok (.aload_n 0, 1) := by decide +kernel
theorem dL_holds_467 : decode cL_holds 467 = .ok (.iload 5, 2) := by decide +kernel
theorem dL_holds_469 : decode cL_holds 469 = .ok (.bipush 6, 2) := by decide +kernel
theorem dL_holds_471 : decode cL_holds 471 = .ok (.invokevirtual 29, 3) := by decide +kernel
theorem dL_holds_474 : decode cL_holds 474 = .ok (.iload 10, 2) := by decide +kernel
theorem dL_holds_476 : decode cL_holds 476 = .ok (.ifCond .eq 7, 3) := by decide +kernel
theorem dL_holds_479 : decode cL_holds 479 = .ok (.iconst 1, 1) := by decide +kernel
theorem dL_holds_480 : decode cL_holds 480 = .ok (.goto 4, 3) := by decide +kernel
theorem dL_holds_483 : decode cL_holds 483 = .ok (.iconst 0, 1) := by decide +kernel
theorem dL_holds_484 : decode cL_holds 484 = .ok (.if_icmp .ne 69, 3) := by decide +kernel
theorem dL_holds_487 : decode cL_holds 487 = .ok (.aload_n 0, 1) := by decide +kernel
theorem dL_holds_488 : decode cL_holds 488 = .ok (.iload 5, 2) := by decide +kernel
theorem dL_holds_490 : decode cL_holds 490 = .ok (.iconst 5, 1) := by decide +kernel
theorem dL_holds_491 : decode cL_holds 491 = .ok (.invokevirtual 29, 3) := by decide +kernel
theorem dL_holds_494 : decode cL_holds 494 = .ok (.iload 8, 2) := by decide +kernel
theorem dL_holds_496 : decode cL_holds 496 = .ok (.if_icmp .ne 57, 3) := by decide +kernel
theorem dL_holds_499 : decode cL_holds 499 = .ok (.iload 7, 2) := by decide +kernel
theorem dL_holds_501 : decode cL_holds 501 = .ok (.iload 9, 2) := by decide +kernel
theorem dL_holds_503 : decode cL_holds 503 = .ok (.if_icmp .le 7, 3) := by decide +kernel
theorem dL_holds_506 : decode cL_holds 506 = .ok (.iconst 1, 1) := by decide +kernel
theorem dL_holds_507 : decode cL_holds 507 = .ok (.goto 4, 3) := by decide +kernel
theorem dL_holds_510 : decode cL_holds 510 = .ok (.iconst 0, 1) := by decide +kernel
theorem dL_holds_511 : decode cL_holds 511 = .ok (.aload_n 0, 1) := by decide +kernel
theorem dL_holds_512 : decode cL_holds 512 = .ok (.iload 5, 2) := by decide +kernel
theorem dL_holds_514 : decode cL_holds 514 = .ok (.bipush 7, 2) := by decide +kernel
theorem dL_holds_516 : decode cL_holds 516 = .ok (.invokevirtual 29, 3) := by decide +kernel
theorem dL_holds_519 : decode cL_holds 519 = .ok (.ifCond .le 7, 3) := by decide +kernel
theorem dL_holds_522 : decode cL_holds 522 = .ok (.iconst 1, 1) := by decide +kernel
theorem dL_holds_523 : decode cL_holds 523 = .ok (.goto 4, 3) := by decide +kernel
theorem dL_holds_526 : decode cL_holds 526 = .ok (.iconst 0, 1) := by decide +kernel
theorem dL_holds_527 : decode cL_holds 527 = .ok (.if_icmp .ne 26, 3) := by decide +kernel
theorem dL_holds_530 : decode cL_holds 530 = .ok (.iload 7, 2) := by decide +kernel
theorem dL_holds_532 : decode cL_holds 532 = .ok (.iload 9, 2) := by decide +kernel
theorem dL_holds_534 : decode cL_holds 534 = .ok (.isub, 1) := by decide +kernel
theorem dL_holds_535 : decode cL_holds 535 = .ok (.bipush 40, 2) := by decide +kernel
theorem dL_holds_537 : decode cL_holds 537 = .ok (.aload_n 0, 1) := by decide +kernel
theorem dL_holds_538 : decode cL_holds 538 = .ok (.iload 5, 2) := by decide +kernel
theorem dL_holds_540 : decode cL_holds 540 = .ok (.bipush 7, 2) := by decide +kernel
theorem dL_holds_542 : decode cL_holds 542 = .ok (.invokevirtual 29, 3) := by decide +kernel
theorem dL_holds_545 : decode cL_holds 545 = .ok (.imul, 1) := by decide +kernel
theorem dL_holds_546 : decode cL_holds 546 = .ok (.if_icmp .gt 7, 3) := by decide +kernel
theorem dL_holds_549 : decode cL_holds 549 = .ok (.iconst 1, 1) := by decide +kernel
theorem dL_holds_550 : decode cL_holds 550 = .ok (.goto 4, 3) := by decide +kernel
theorem dL_holds_553 : decode cL_holds 553 = .ok (.iconst 0, 1) := by decide +kernel
theorem dL_holds_554 : decode cL_holds 554 = .ok (.istore 4, 2) := by decide +kernel
theorem dL_holds_556 : decode cL_holds 556 = .ok (.iload_n 1, 1) := by decide +kernel
theorem dL_holds_557 : decode cL_holds 557 = .ok (.iload 7, 2) := by decide +kernel
theorem dL_holds_559 : decode cL_holds 559 = .ok (.iadd, 1) := by decide +kernel
theorem dL_holds_560 : decode cL_holds 560 = .ok (.istore_n 1, 1) := by decide +kernel
theorem dL_holds_561 : decode cL_holds 561 = .ok (.iinc 5 1, 3) := by decide +kernel
theorem dL_holds_564 : decode cL_holds 564 = .ok (.goto (-470), 3) := by decide +kernel
theorem dL_holds_567 : decode cL_holds 567 = .ok (.iconst 0, 1) := by decide +kernel
theorem dL_holds_568 : decode cL_holds 568 = .ok (.istore 5, 2) := by decide +kernel
theorem dL_holds_570 : decode cL_holds 570 = .ok (.iconst 0, 1) := by decide +kernel
theorem dL_holds_571 : decode cL_holds 571 = .ok (.istore 6, 2) := by decide +kernel
theorem dL_holds_573 : decode cL_holds 573 = .ok (.iconst 0, 1) := by decide +kernel
theorem dL_holds_574 : decode cL_holds 574 = .ok (.istore 7, 2) := by decide +kernel
theorem dL_holds_576 : decode cL_holds 576 = .ok (.iload 7, 2) := by decide +kernel
theorem dL_holds_578 : decode cL_holds 578 = .ok (.bipush 20, 2) := by decide +kernel
theorem dL_holds_580 : decode cL_holds 580 = .ok (.if_icmp .ge 161, 3) := by decide +kernel
theorem dL_holds_583 : decode cL_holds 583 = .ok (.iload 4, 2) := by decide +kernel
theorem dL_holds_585 : decode cL_holds 585 = .ok (.ifCond .eq 156, 3) := by decide +kernel
theorem dL_holds_588 : decode cL_holds 588 = .ok (.iload_n 3, 1) := by decide +kernel
theorem dL_holds_589 : decode cL_holds 589 = .ok (.bipush (-6), 2) := by decide +kernel
theorem dL_holds_591 : decode cL_holds 591 = .ok (.if_icmp .ne 8, 3) := by decide +kernel
theorem dL_holds_594 : decode cL_holds 594 = .ok (.bipush (-6), 2) := by decide +kernel
theorem dL_holds_596 : decode cL_holds 596 = .ok (.goto 11, 3) := by decide +kernel
theorem dL_holds_599 : decode cL_holds 599 = .ok (.aload_n 0, 1) := by decide +kernel
theorem dL_holds_600 : decode cL_holds 600 = .ok (.iload_n 3, 1) := by decide +kernel
theorem dL_holds_601 : decode cL_holds 601 = .ok (.iload 7, 2) := by decide +kernel
theorem dL_holds_603 : decode cL_holds 603 = .ok (.iconst 0, 1) := by decide +kernel
theorem dL_holds_604 : decode cL_holds 604 = .ok (.invokevirtual 33, 3) := by decide +kernel
theorem dL_holds_607 : decode cL_holds 607 = .ok (.istore 8, 2) := by decide +kernel
theorem dL_holds_609 : decode cL_holds 609 = .ok (.iload 8, 2) := by decide +kernel
theorem dL_holds_611 : decode cL_holds 611 = .ok (.bipush (-6), 2) := by decide +kernel
theorem dL_holds_613 : decode cL_holds 613 = .ok (.if_icmp .ne 7, 3) := by decide +kernel
theorem dL_holds_616 : decode cL_holds 616 = .ok (.iconst 0, 1) := by decide +kernel
theorem dL_holds_617 : decode cL_holds 617 = .ok (.goto 11, 3) := by decide +kernel
theorem dL_holds_620 : decode cL_holds 620 = .ok (.aload_n 0, 1) := by decide +kernel
theorem dL_holds_621 : decode cL_holds 621 = .ok (.iload_n 3, 1) := by decide +kernel
theorem dL_holds_622 : decode cL_holds 622 = .ok (.iload 7, 2) := by decide +kernel
theorem dL_holds_624 : decode cL_holds 624 = .ok (.iconst 1, 1) := by decide +kernel
theorem dL_holds_625 : decode cL_holds 625 = .ok (.invokevirtual 33, 3) := by decide +kernel
theorem dL_holds_628 : decode cL_holds 628 = .ok (.istore 9, 2) := by decide +kernel
theorem dL_holds_630 : decode cL_holds 630 = .ok (.iload 8, 2) := by decide +kernel
theorem dL_holds_632 : decode cL_holds 632 = .ok (.bipush (-6), 2) := by decide +kernel
theorem dL_holds_634 : decode cL_holds 634 = .ok (.if_icmp .eq 18, 3) := by decide +kernel
theorem dL_holds_637 : decode cL_holds 637 = .ok (.aload_n 0, 1) := by decide +kernel
theorem dL_holds_638 : decode cL_holds 638 = .ok (.iload 8, 2) := by decide +kernel
theorem dL_holds_640 : decode cL_holds 640 = .ok (.iload 9, 2) := by decide +kernel
theorem dL_holds_642 : decode cL_holds 642 = .ok (.invokestatic 42, 3) := by decide +kernel
theorem dL_holds_645 : decode cL_holds 645 = .ok (.ifCond .eq 7, 3) := by decide +kernel
theorem dL_holds_648 : decode cL_holds 648 = .ok (.iconst 1, 1) := by decide +kernel
theorem dL_holds_649 : decode cL_holds 649 = .ok (.goto 4, 3) := by decide +kernel
theorem dL_holds_652 : decode cL_holds 652 = .ok (.iconst 0, 1) := by decide +kernel
theorem dL_holds_653 : decode cL_holds 653 = .ok (.istore 10, 2) := by decide +kernel
theorem dL_holds_655 : decode cL_holds 655 = .ok (.iload 5, 2) := by decide +kernel
theorem dL_holds_657 : decode cL_holds 657 = .ok (.iload 9, 2) := by decide +kernel
theorem dL_holds_659 : decode cL_holds 659 = .ok (.iadd, 1) := by decide +kernel
theorem dL_holds_660 : decode cL_holds 660 = .ok (.istore 5, 2) := by decide +kernel
theorem dL_holds_662 : decode cL_holds 662 = .ok (.iload 6, 2) := by decide +kernel
theorem dL_holds_664 : decode cL_holds 664 = .ok (.iload 10, 2) := by decide +kernel
theorem dL_holds_666 : decode cL_holds 666 = .ok (.ifCond .eq 7, 3) := by decide +kernel
theorem dL_holds_669 : decode cL_holds 669 = .ok (.iconst 1, 1) := by decide +kernel
theorem dL_holds_670 : decode cL_holds 670 = .ok (.goto 4, 3) := by decide +kernel
theorem dL_holds_673 : decode cL_holds 673 = .ok (.iconst 0, 1) := by decide +kernel
theorem dL_holds_674 : decode cL_holds 674 = .ok (.iadd, 1) := by decide +kernel
theorem dL_holds_675 : decode cL_holds 675 = .ok (.istore 6, 2) := by decide +kernel
theorem dL_holds_677 : decode cL_holds 677 = .ok (.iload_n 2, 1) := by decide +kernel
theorem dL_holds_678 : decode cL_holds 678 = .ok (.aload_n 0, 1) := by decide +kernel
theorem dL_holds_679 : decode cL_holds 679 = .ok (.iload 7, 2) := by decide +kernel
theorem dL_holds_681 : decode cL_holds 681 = .ok (.invokevirtual 37, 3) := by decide +kernel
theorem dL_holds_684 : decode cL_holds 684 = .ok (.isub, 1) := by decide +kernel
theorem dL_holds_685 : decode cL_holds 685 = .ok (.istore_n 2, 1) := by decide +kernel
theorem dL_holds_686 : decode cL_holds 686 = .ok (.aload_n 0, 1) := by decide +kernel
theorem dL_holds_687 : decode cL_holds 687 = .ok (.iload 7, 2) := by decide +kernel
theorem dL_holds_689 : decode cL_holds 689 = .ok (.invokevirtual 49, 3) := by decide +kernel
theorem dL_holds_692 : decode cL_holds 692 = .ok (.iload 8, 2) := by decide +kernel
theorem dL_holds_694 : decode cL_holds 694 = .ok (.if_icmp .ne 38, 3) := by decide +kernel
theorem dL_holds_697 : decode cL_holds 697 = .ok (.aload_n 0, 1) := by decide +kernel
theorem dL_holds_698 : decode cL_holds 698 = .ok (.iload 7, 2) := by decide +kernel
theorem dL_holds_700 : decode cL_holds 700 = .ok (.invokevirtual 52, 3) := by decide +kernel
theorem dL_holds_703 : decode cL_holds 703 = .ok (.iload 8, 2) := by decide +kernel
theorem dL_holds_705 : decode cL_holds 705 = .ok (.bipush (-6), 2) := by decide +kernel
theorem dL_holds_707 : decode cL_holds 707 = .ok (.if_icmp .ne 8, 3) := by decide +kernel
theorem dL_holds_710 : decode cL_holds 710 = .ok (.bipush (-6), 2) := by decide +kernel
theorem dL_holds_712 : decode cL_holds 712 = .ok (.goto 13, 3) := by decide +kernel
theorem dL_holds_715 : decode cL_holds 715 = .ok (.iload 10, 2) := by decide +kernel
theorem dL_holds_717 : decode cL_holds 717 = .ok (.ifCond .eq 7, 3) := by decide +kernel
theorem dL_holds_720 : decode cL_holds 720 = .ok (.iconst 1, 1) := by decide +kernel
theorem dL_holds_721 : decode cL_holds 721 = .ok (.goto 4, 3) := by decide +kernel
theorem dL_holds_724 : decode cL_holds 724 = .ok (.iconst 0, 1) := by decide +kernel
theorem dL_holds_725 : decode cL_holds 725 = .ok (.if_icmp .ne 7, 3) := by decide +kernel
theorem dL_holds_728 : decode cL_holds 728 = .ok (.iconst 1, 1) := by decide +kernel
theorem dL_holds_729 : decode cL_holds 729 = .ok (.goto 4, 3) := by decide +kernel
theorem dL_holds_732 : decode cL_holds 732 = .ok (.iconst 0, 1) := by decide +kernel
theorem dL_holds_733 : decode cL_holds 733 = .ok (.istore 4, 2) := by decide +kernel
theorem dL_holds_735 : decode cL_holds 735 = .ok (.iinc 7 1, 3) := by decide +kernel
theorem dL_holds_738 : decode cL_holds 738 = .ok (.goto (-162), 3) := by decide +kernel
theorem dL_holds_741 : decode cL_holds 741 = .ok (.iload 4, 2) := by decide +kernel
theorem dL_holds_743 : decode cL_holds 743 = .ok (.ifCond .eq 69, 3) := by decide +kernel
theorem dL_holds_746 : decode cL_holds 746 = .ok (.iload_n 1, 1) := by decide +kernel
theorem dL_holds_747 : decode cL_holds 747 = .ok (.aload_n 0, 1) := by decide +kernel
theorem dL_holds_748 : decode cL_holds 748 = .ok (.invokevirtual 13, 3) := by decide +kernel
theorem dL_holds_751 : decode cL_holds 751 = .ok (.if_icmp .ne 61, 3) := by decide +kernel
theorem dL_holds_754 : decode cL_holds 754 = .ok (.iload_n 3, 1) := by decide +kernel
theorem dL_holds_755 : decode cL_holds 755 = .ok (.aload_n 0, 1) := by decide +kernel
theorem dL_holds_756 : decode cL_holds 756 = .ok (.invokevirtual 55, 3) := by decide +kernel
theorem dL_holds_759 : decode cL_holds 759 = .ok (.if_icmp .ne 53, 3) := by decide +kernel
theorem dL_holds_762 : decode cL_holds 762 = .ok (.iload_n 2, 1) := by decide +kernel
theorem dL_holds_763 : decode cL_holds 763 = .ok (.ifCond .ne 49, 3) := by decide +kernel
theorem dL_holds_766 : decode cL_holds 766 = .ok (.iload 6, 2) := by decide +kernel
theorem dL_holds_768 : decode cL_holds 768 = .ok (.aload_n 0, 1) := by decide +kernel
theorem dL_holds_769 : decode cL_holds 769 = .ok (.invokevirtual 58, 3) := by decide +kernel
theorem dL_holds_772 : decode cL_holds 772 = .ok (.if_icmp .ne 40, 3) := by decide +kernel
theorem dL_holds_775 : decode cL_holds 775 = .ok (.aload_n 0, 1) := by decide +kernel
theorem dL_holds_776 : decode cL_holds 776 = .ok (.invokevirtual 61, 3) := by decide +kernel
theorem dL_holds_779 : decode cL_holds 779 = .ok (.iload_n 1, 1) := by decide +kernel
theorem dL_holds_780 : decode cL_holds 780 = .ok (.iload 5, 2) := by decide +kernel
theorem dL_holds_782 : decode cL_holds 782 = .ok (.isub, 1) := by decide +kernel
theorem dL_holds_783 : decode cL_holds 783 = .ok (.if_icmp .ne 29, 3) := by decide +kernel
theorem dL_holds_786 : decode cL_holds 786 = .ok (.aload_n 0, 1) := by decide +kernel
theorem dL_holds_787 : decode cL_holds 787 = .ok (.invokevirtual 64, 3) := by decide +kernel
theorem dL_holds_790 : decode cL_holds 790 = .ok (.iload_n 1, 1) := by decide +kernel
theorem dL_holds_791 : decode cL_holds 791 = .ok (.ifCond .ne 7, 3) := by decide +kernel
theorem dL_holds_794 : decode cL_holds 794 = .ok (.fconst 1, 1) := by decide +kernel
theorem dL_holds_795 : decode cL_holds 795 = .ok (.goto 9, 3) := by decide +kernel
theorem dL_holds_798 : decode cL_holds 798 = .ok (.iload 5, 2) := by decide +kernel
theorem dL_holds_800 : decode cL_holds 800 = .ok (.i2f, 1) := by decide +kernel
theorem dL_holds_801 : decode cL_holds 801 = .ok (.iload_n 1, 1) := by decide +kernel
theorem dL_holds_802 : decode cL_holds 802 = .ok (.i2f, 1) := by decide +kernel
theorem dL_holds_803 : decode cL_holds 803 = .ok (.fdiv, 1) := by decide +kernel
theorem dL_holds_804 : decode cL_holds 804 = .ok (.fcmp .l, 1) := by decide +kernel
theorem dL_holds_805 : decode cL_holds 805 = .ok (.ifCond .ne 7, 3) := by decide +kernel
theorem dL_holds_808 : decode cL_holds 808 = .ok (.iconst 1, 1) := by decide +kernel
theorem dL_holds_809 : decode cL_holds 809 = .ok (.goto 4, 3) := by decide +kernel
theorem dL_holds_812 : decode cL_holds 812 = .ok (.iconst 0, 1) := by decide +kernel
theorem dL_holds_813 : decode cL_holds 813 = .ok (.ireturn, 1) := by decide +kernel
theorem dL_would_0 : decode cL_would 0 = .ok (.aload_n 0, 1) := by decide +kernel
theorem dL_would_1 : decode cL_would 1 = .ok (.invokestatic 68, 3) := by decide +kernel
theorem dL_would_4 : decode cL_would 4 = .ok (.istore_n 2, 1) := by decide +kernel
theorem dL_would_5 : decode cL_would 5 = .ok (.iload_n 2, 1) := by decide +kernel
theorem dL_would_6 : decode cL_would 6 = .ok (.ifCond .lt 21, 3) := by decide +kernel
theorem dL_would_9 : decode cL_would 9 = .ok (.sipush 240, 3) := by decide +kernel
theorem dL_would_12 : decode cL_would 12 = .ok (.aload_n 0, 1) := by decide +kernel
theorem dL_would_13 : decode cL_would 13 = .ok (.invokevirtual 13, 3) := by decide +kernel
theorem dL_would_16 : decode cL_would 16 = .ok (.isub, 1) := by decide +kernel
theorem dL_would_17 : decode cL_would 17 = .ok (.aload_n 0, 1) := by decide +kernel
theorem dL_would_18 : decode cL_would 18 = .ok (.iload_n 2, 1) := by decide +kernel
theorem dL_would_19 : decode cL_would 19 = .ok (.iconst 4, 1) := by decide +kernel
theorem dL_would_20 : decode cL_would 20 = .ok (.invokevirtual 29, 3) := by decide +kernel
theorem dL_would_23 : decode cL_would 23 = .ok (.isub, 1) := by decide +kernel
theorem dL_would_24 : decode cL_would 24 = .ok (.goto 36, 3) := by decide +kernel
theorem dL_would_27 : decode cL_would 27 = .ok (.aload_n 0, 1) := by decide +kernel
theorem dL_would_28 : decode cL_would 28 = .ok (.invokevirtual 26, 3) := by decide +kernel
theorem dL_would_31 : decode cL_would 31 = .ok (.bipush 12, 2) := by decide +kernel
theorem dL_would_33 : decode cL_would 33 = .ok (.if_icmp .ne 7, 3) := by decide +kernel
theorem dL_would_36 : decode cL_would 36 = .ok (.iconst 0, 1) := by decide +kernel
theorem dL_would_37 : decode cL_would 37 = .ok (.goto 23, 3) := by decide +kernel
theorem dL_would_40 : decode cL_would 40 = .ok (.sipush 240, 3) := by decide +kernel
theorem dL_would_43 : decode cL_would 43 = .ok (.aload_n 0, 1) := by decide +kernel
theorem dL_would_44 : decode cL_would 44 = .ok (.invokevirtual 13, 3) := by decide +kernel
theorem dL_would_47 : decode cL_would 47 = .ok (.isub, 1) := by decide +kernel
theorem dL_would_48 : decode cL_would 48 = .ok (.aload_n 0, 1) := by decide +kernel
theorem dL_would_49 : decode cL_would 49 = .ok (.iconst 0, 1) := by decide +kernel
theorem dL_would_50 : decode cL_would 50 = .ok (.invokevirtual 19, 3) := by decide +kernel
theorem dL_would_53 : decode cL_would 53 = .ok (.isub, 1) := by decide +kernel
theorem dL_would_54 : decode cL_would 54 = .ok (.aload_n 0, 1) := by decide +kernel
theorem dL_would_55 : decode cL_would 55 = .ok (.iconst 1, 1) := by decide +kernel
theorem dL_would_56 : decode cL_would 56 = .ok (.invokevirtual 19, 3) := by decide +kernel
theorem dL_would_59 : decode cL_would 59 = .ok (.isub, 1) := by decide +kernel
theorem dL_would_60 : decode cL_would 60 = .ok (.istore_n 3, 1) := by decide +kernel
theorem dL_would_61 : decode cL_would 61 = .ok (.iload_n 3, 1) := by decide +kernel
theorem dL_would_62 : decode cL_would 62 = .ok (.ifCond .ge 7, 3) := by decide +kernel
theorem dL_would_65 : decode cL_would 65 = .ok (.iconst 0, 1) := by decide +kernel
theorem dL_would_66 : decode cL_would 66 = .ok (.goto 4, 3) := by decide +kernel
theorem dL_would_69 : decode cL_would 69 = .ok (.iload_n 3, 1) := by decide +kernel
theorem dL_would_70 : decode cL_would 70 = .ok (.istore_n 3, 1) := by decide +kernel
theorem dL_would_71 : decode cL_would 71 = .ok (.iload_n 1, 1) := by decide +kernel
theorem dL_would_72 : decode cL_would 72 = .ok (.bipush 42, 2) := by decide +kernel
theorem dL_would_74 : decode cL_would 74 = .ok (.invokestatic 72, 3) := by decide +kernel
theorem dL_would_77 : decode cL_would 77 = .ok (.istore 4, 2) := by decide +kernel
theorem dL_would_79 : decode cL_would 79 = .ok (.iload 4, 2) := by decide +kernel
theorem dL_would_81 : decode cL_would 81 = .ok (.ifCond .eq 10, 3) := by decide +kernel
theorem dL_would_84 : decode cL_would 84 = .ok (.iload 4, 2) := by decide +kernel
theorem dL_would_86 : decode cL_would 86 = .ok (.bipush 41, 2) := by decide +kernel
theorem dL_would_88 : decode cL_would 88 = .ok (.if_icmp .ne 7, 3) := by decide +kernel
theorem dL_would_91 : decode cL_would 91 = .ok (.iconst 1, 1) := by decide +kernel
theorem dL_would_92 : decode cL_would 92 = .ok (.goto 4, 3) := by decide +kernel
theorem dL_would_95 : decode cL_would 95 = .ok (.iconst 0, 1) := by decide +kernel
theorem dL_would_96 : decode cL_would 96 = .ok (.istore 5, 2) := by decide +kernel
theorem dL_would_98 : decode cL_would 98 = .ok (.aload_n 0, 1) := by decide +kernel
theorem dL_would_99 : decode cL_would 99 = .ok (.iload 4, 2) := by decide +kernel
theorem dL_would_101 : decode cL_would 101 = .ok (.invokevirtual 75, 3) := by decide +kernel
theorem dL_would_104 : decode cL_would 104 = .ok (.istore 6, 2) := by decide +kernel
theorem dL_would_106 : decode cL_would 106 = .ok (.aload_n 0, 1) := by decide +kernel
theorem dL_would_107 : decode cL_would 107 = .ok (.iload 4, 2) := by decide +kernel
theorem dL_would_109 : decode cL_would 109 = .ok (.invokevirtual 78, 3) := by decide +kernel
theorem dL_would_112 : decode cL_would 112 = .ok (.istore 7, 2) := by decide +kernel
theorem dL_would_114 : decode cL_would 114 = .ok (.iload_n 1, 1) := by decide +kernel
theorem dL_would_115 : decode cL_would 115 = .ok (.bipush 6, 2) := by decide +kernel
theorem dL_would_117 : decode cL_would 117 = .ok (.ishr, 1) := by decide +kernel
theorem dL_would_118 : decode cL_would 118 = .ok (.sipush 242, 3) := by decide +kernel
theorem dL_would_121 : decode cL_would 121 = .ok (.invokestatic 72, 3) := by decide +kernel
theorem dL_would_124 : decode cL_would 124 = .ok (.iconst 1, 1) := by decide +kernel
theorem dL_would_125 : decode cL_would 125 = .ok (.isub, 1) := by decide +kernel
theorem dL_would_126 : decode cL_would 126 = .ok (.istore 8, 2) := by decide +kernel
theorem dL_would_128 : decode cL_would 128 = .ok (.iload 8, 2) := by decide +kernel
theorem dL_would_130 : decode cL_would 130 = .ok (.ifCond .lt 11, 3) := by decide +kernel
theorem dL_would_133 : decode cL_would 133 = .ok (.iload 8, 2) := by decide +kernel
theorem dL_would_135 : decode cL_would 135 = .ok (.sipush 239, 3) := by decide +kernel
theorem dL_would_138 : decode cL_would 138 = .ok (.if_icmp .le 7, 3) := by decide +kernel
theorem dL_would_141 : decode cL_would 141 = .ok (.iconst 1, 1) := by decide +kernel
theorem dL_would_142 : decode cL_would 142 = .ok (.goto 4, 3) := by decide +kernel
theorem dL_would_145 : decode cL_would 145 = .ok (.iconst 0, 1) := by decide +kernel
theorem dL_would_146 : decode cL_would 146 = .ok (.istore 9, 2) := by decide +kernel
theorem dL_would_148 : decode cL_would 148 = .ok (.aload_n 0, 1) := by decide +kernel
theorem dL_would_149 : decode cL_would 149 = .ok (.iload 8, 2) := by decide +kernel
theorem dL_would_151 : decode cL_would 151 = .ok (.invokevirtual 81, 3) := by decide +kernel
theorem dL_would_154 : decode cL_would 154 = .ok (.istore 10, 2) := by decide +kernel
theorem dL_would_156 : decode cL_would 156 = .ok (.iload_n 1, 1) := by decide +kernel
theorem dL_would_157 : decode cL_would 157 = .ok (.bipush 9, 2) := by decide +kernel
theorem dL_would_159 : decode cL_would 159 = .ok (.ishr, 1) := by decide +kernel
theorem dL_would_160 : decode cL_would 160 = .ok (.bipush 22, 2) := by decide +kernel
theorem dL_would_162 : decode cL_would 162 = .ok (.invokestatic 72, 3) := by decide +kernel
theorem dL_would_165 : decode cL_would 165 = .ok (.iconst 1, 1) := by decide +kernel
theorem dL_would_166 : decode cL_would 166 = .ok (.isub, 1) := by decide +kernel
theorem dL_would_167 : decode cL_would 167 = .ok (.istore 11, 2) := by decide +kernel
theorem dL_would_169 : decode cL_would 169 = .ok (.iload 11, 2) := by decide +kernel
theorem dL_would_171 : decode cL_would 171 = .ok (.ifCond .lt 10, 3) := by decide +kernel
theorem dL_would_174 : decode cL_would 174 = .ok (.iload 11, 2) := by decide +kernel
theorem dL_would_176 : decode cL_would 176 = .ok (.bipush 19, 2) := by decide +kernel
theorem dL_would_178 : decode cL_would 178 = .ok (.if_icmp .le 7, 3) := by decide +kernel
theorem dL_would_181 : decode cL_would 181 = .ok (.iconst 1, 1) := by decide +kernel
theorem dL_would_182 : decode cL_would 182 = .ok (.goto 4, 3) := by decide +kernel
theorem dL_would_185 : decode cL_would 185 = .ok (.iconst 0, 1) := by decide +kernel
theorem dL_would_186 : decode cL_would 186 = .ok (.istore 12, 2) := by decide +kernel
theorem dL_would_188 : decode cL_would 188 = .ok (.aload_n 0, 1) := by decide +kernel
theorem dL_would_189 : decode cL_would 189 = .ok (.iload 11, 2) := by decide +kernel
theorem dL_would_191 : decode cL_would 191 = .ok (.invokevirtual 84, 3) := by decide +kernel
theorem dL_would_194 : decode cL_would 194 = .ok (.istore 13, 2) := by decide +kernel
theorem dL_would_196 : decode cL_would 196 = .ok (.aload_n 0, 1) := by decide +kernel
theorem dL_would_197 : decode cL_would 197 = .ok (.invokevirtual 87, 3) := by decide +kernel
theorem dL_would_200 : decode cL_would 200 = .ok (.istore 14, 2) := by decide +kernel
theorem dL_would_202 : decode cL_would 202 = .ok (.iload 9, 2) := by decide +kernel
theorem dL_would_204 : decode cL_would 204 = .ok (.ifCond .ne 64, 3) := by decide +kernel
theorem dL_would_207 : decode cL_would 207 = .ok (.aload_n 0, 1) := by decide +kernel
theorem dL_would_208 : decode cL_would 208 = .ok (.iload 8, 2) := by decide +kernel
theorem dL_would_210 : decode cL_would 210 = .ok (.invokevirtual 46, 3) := by decide +kernel
theorem dL_would_213 : decode cL_would 213 = .ok (.iconst 1, 1) := by decide +kernel
theorem dL_would_214 : decode cL_would 214 = .ok (.if_icmp .ne 54, 3) := by decide +kernel
theorem dL_would_217 : decode cL_would 217 = .ok (.aload_n 0, 1) := by decide +kernel
theorem dL_would_218 : decode cL_would 218 = .ok (.invokevirtual 55, 3) := by decide +kernel
theorem dL_would_221 : decode cL_would 221 = .ok (.bipush (-6), 2) := by decide +kernel
theorem dL_would_223 : decode cL_would 223 = .ok (.if_icmp .eq 45, 3) := by decide +kernel
theorem dL_would_226 : decode cL_would 226 = .ok (.iload 8, 2) := by decide +kernel
theorem dL_would_228 : decode cL_would 228 = .ok (.aload_n 0, 1) := by decide +kernel
theorem dL_would_229 : decode cL_would 229 = .ok (.aload_n 0, 1) := by decide +kernel
theorem dL_would_230 : decode cL_would 230 = .ok (.invokevirtual 55, 3) := by decide +kernel
theorem dL_would_233 : decode cL_would 233 = .ok (.iconst 1, 1) := by decide +kernel
theorem dL_would_234 : decode cL_would 234 = .ok (.invokevirtual 29, 3) := by decide +kernel
theorem dL_would_237 : decode cL_would 237 = .ok (.if_icmp .lt 31, 3) := by decide +kernel
theorem dL_would_240 : decode cL_would 240 = .ok (.iload 8, 2) := by decide +kernel
theorem dL_would_242 : decode cL_would 242 = .ok (.aload_n 0, 1) := by decide +kernel
theorem dL_would_243 : decode cL_would 243 = .ok (.aload_n 0, 1) := by decide +kernel
theorem dL_would_244 : decode cL_would 244 = .ok (.invokevirtual 55, 3) := by decide +kernel
theorem dL_would_247 : decode cL_would 247 = .ok (.iconst 1, 1) := by decide +kernel
theorem dL_would_248 : decode cL_would 248 = .ok (.invokevirtual 29, 3) := by decide +kernel
theorem dL_would_251 : decode cL_would 251 = .ok (.aload_n 0, 1) := by decide +kernel
theorem dL_would_252 : decode cL_would 252 = .ok (.aload_n 0, 1) := by decide +kernel
theorem dL_would_253 : decode cL_would 253 = .ok (.invokevirtual 55, 3) := by decide +kernel
theorem dL_would_256 : decode cL_would 256 = .ok (.iconst 3, 1) := by decide +kernel
theorem dL_would_257 : decode cL_would 257 = .ok (.invokevirtual 29, 3) := by decide +kernel
theorem dL_would_260 : decode cL_would 260 = .ok (.iadd, 1) := by decide +kernel
theorem dL_would_261 : decode cL_would 261 = .ok (.if_icmp .ge 7, 3) := by decide +kernel
theorem dL_would_264 : decode cL_would 264 = .ok (.iconst 1, 1) := by decide +kernel
theorem dL_would_265 : decode cL_would 265 = .ok (.goto 4, 3) := by decide +kernel
theorem dL_would_268 : decode cL_would 268 = .ok (.iconst 0, 1) := by decide +kernel
theorem dL_would_269 : decode cL_would 269 = .ok (.istore 15, 2) := by decide +kernel
theorem dL_would_271 : decode cL_would 271 = .ok (.aload_n 0, 1) := by decide +kernel
theorem dL_would_272 : decode cL_would 272 = .ok (.invokevirtual 90, 3) := by decide +kernel
theorem dL_would_275 : decode cL_would 275 = .ok (.iload_n 3, 1) := by decide +kernel
theorem dL_would_276 : decode cL_would 276 = .ok (.bipush 40, 2) := by decide +kernel
theorem dL_would_278 : decode cL_would 278 = .ok (.if_icmp .le 8, 3) := by decide +kernel
theorem dL_would_281 : decode cL_would 281 = .ok (.bipush 40, 2) := by decide +kernel
theorem dL_would_283 : decode cL_would 283 = .ok (.goto 4, 3) := by decide +kernel
theorem dL_would_286 : decode cL_would 286 = .ok (.iload_n 3, 1) := by decide +kernel
theorem dL_would_287 : decode cL_would 287 = .ok (.if_icmp .ne 187, 3) := by decide +kernel
theorem dL_would_290 : decode cL_would 290 = .ok (.iload 5, 2) := by decide +kernel
theorem dL_would_292 : decode cL_would 292 = .ok (.ifCond .eq 20, 3) := by decide +kernel
theorem dL_would_295 : decode cL_would 295 = .ok (.iload 6, 2) := by decide +kernel
theorem dL_would_297 : decode cL_would 297 = .ok (.bipush (-2), 2) := by decide +kernel
theorem dL_would_299 : decode cL_would 299 = .ok (.if_icmp .ne 175, 3) := by decide +kernel
theorem dL_would_302 : decode cL_would 302 = .ok (.iload 7, 2) := by decide +kernel
theorem dL_would_304 : decode cL_would 304 = .ok (.bipush (-2), 2) := by decide +kernel
theorem dL_would_306 : decode cL_would 306 = .ok (.if_icmp .ne 168, 3) := by decide +kernel
theorem dL_would_309 : decode cL_would 309 = .ok (.goto 47, 3) := by decide +kernel
theorem dL_would_312 : decode cL_would 312 = .ok (.iload 6, 2) := by decide +kernel
theorem dL_would_314 : decode cL_would 314 = .ok (.iload_n 3, 1) := by decide +kernel
theorem dL_would_315 : decode cL_would 315 = .ok (.iload 4, 2) := by decide +kernel
theorem dL_would_317 : decode cL_would 317 = .ok (.idiv, 1) := by decide +kernel
theorem dL_would_318 : decode cL_would 318 = .ok (.if_icmp .ne 156, 3) := by decide +kernel
theorem dL_would_321 : decode cL_would 321 = .ok (.iload 7, 2) := by decide +kernel
theorem dL_would_323 : decode cL_would 323 = .ok (.ifCond .lt 151, 3) := by decide +kernel
theorem dL_would_326 : decode cL_would 326 = .ok (.iload 7, 2) := by decide +kernel
theorem dL_would_328 : decode cL_would 328 = .ok (.bipush 12, 2) := by decide +kernel
theorem dL_would_330 : decode cL_would 330 = .ok (.if_icmp .gt 144, 3) := by decide +kernel
theorem dL_would_333 : decode cL_would 333 = .ok (.iload 7, 2) := by decide +kernel
theorem dL_would_335 : decode cL_would 335 = .ok (.ifCond .le 7, 3) := by decide +kernel
theorem dL_would_338 : decode cL_would 338 = .ok (.iconst 1, 1) := by decide +kernel
theorem dL_would_339 : decode cL_would 339 = .ok (.goto 4, 3) := by decide +kernel
theorem dL_would_342 : decode cL_would 342 = .ok (.iconst 0, 1) := by decide +kernel
theorem dL_would_343 : decode cL_would 343 = .ok (.iload 6, 2) := by decide +kernel
theorem dL_would_345 : decode cL_would 345 = .ok (.ifCond .le 7, 3) := by decide +kernel
theorem dL_would_348 : decode cL_would 348 = .ok (.iconst 1, 1) := by decide +kernel
theorem dL_would_349 : decode cL_would 349 = .ok (.goto 4, 3) := by decide +kernel
theorem dL_would_352 : decode cL_would 352 = .ok (.iconst 0, 1) := by decide +kernel
theorem dL_would_353 : decode cL_would 353 = .ok (.if_icmp .ne 121, 3) := by decide +kernel
theorem dL_would_356 : decode cL_would 356 = .ok (.iload 9, 2) := by decide +kernel
theorem dL_would_358 : decode cL_would 358 = .ok (.ifCond .eq 12, 3) := by decide +kernel
theorem dL_would_361 : decode cL_would 361 = .ok (.iload 10, 2) := by decide +kernel
theorem dL_would_363 : decode cL_would 363 = .ok (.iconst (-1), 1) := by decide +kernel
theorem dL_would_364 : decode cL_would 364 = .ok (.if_icmp .ne 110, 3) := by decide +kernel
theorem dL_would_367 : decode cL_would 367 = .ok (.goto 29, 3) := by decide +kernel
theorem dL_would_370 : decode cL_would 370 = .ok (.iload 15, 2) := by decide +kernel
theorem dL_would_372 : decode cL_would 372 = .ok (.ifCond .eq 15, 3) := by decide +kernel
theorem dL_would_375 : decode cL_would 375 = .ok (.iload 10, 2) := by decide +kernel
theorem dL_would_377 : decode cL_would 377 = .ok (.aload_n 0, 1) := by decide +kernel
theorem dL_would_378 : decode cL_would 378 = .ok (.invokevirtual 55, 3) := by decide +kernel
theorem dL_would_381 : decode cL_would 381 = .ok (.if_icmp .ge 93, 3) := by decide +kernel
theorem dL_would_384 : decode cL_would 384 = .ok (.goto 12, 3) := by decide +kernel
theorem dL_would_387 : decode cL_would 387 = .ok (.iload 10, 2) := by decide +kernel
theorem dL_would_389 : decode cL_would 389 = .ok (.aload_n 0, 1) := by decide +kernel
theorem dL_would_390 : decode cL_would 390 = .ok (.invokevirtual 55, 3) := by decide +kernel
theorem dL_would_393 : decode cL_would 393 = .ok (.if_icmp .ne 81, 3) := by decide +kernel
theorem dL_would_396 : decode cL_would 396 = .ok (.iload 12, 2) := by decide +kernel
theorem dL_would_398 : decode cL_would 398 = .ok (.ifCond .eq 12, 3) := by decide +kernel
theorem dL_would_401 : decode cL_would 401 = .ok (.iload 13, 2) := by decide +kernel
theorem dL_would_403 : decode cL_would 403 = .ok (.iconst (-1), 1) := by decide +kernel
theorem dL_would_404 : decode cL_would 404 = .ok (.if_icmp .ne 70, 3) := by decide +kernel
theorem dL_would_407 : decode cL_would 407 = .ok (.goto 50, 3) := by decide +kernel
theorem dL_would_410 : decode cL_would 410 = .ok (.iload 13, 2) := by decide +kernel
theorem dL_would_412 : decode cL_would 412 = .ok (.bipush (-6), 2) := by decide +kernel
theorem dL_would_414 : decode cL_would 414 = .ok (.if_icmp .eq 43, 3) := by decide +kernel
theorem dL_would_417 : decode cL_would 417 = .ok (.iload 13, 2) := by decide +kernel
theorem dL_would_419 : decode cL_would 419 = .ok (.ifCond .lt 55, 3) := by decide +kernel
theorem dL_would_422 : decode cL_would 422 = .ok (.iload 13, 2) := by decide +kernel
theorem dL_would_424 : decode cL_would 424 = .ok (.aload_n 0, 1) := by decide +kernel
theorem dL_would_425 : decode cL_would 425 = .ok (.invokevirtual 55, 3) := by decide +kernel
theorem dL_would_428 : decode cL_would 428 = .ok (.if_icmp .gt 46, 3) := by decide +kernel
theorem dL_would_431 : decode cL_would 431 = .ok (.aload_n 0, 1) := by decide +kernel
theorem dL_would_432 : decode cL_would 432 = .ok (.iload 13, 2) := by decide +kernel
theorem dL_would_434 : decode cL_would 434 = .ok (.bipush 6, 2) := by decide +kernel
theorem dL_would_436 : decode cL_would 436 = .ok (.invokevirtual 29, 3) := by decide +kernel
theorem dL_would_439 : decode cL_would 439 = .ok (.iconst 1, 1) := by decide +kernel
theorem dL_would_440 : decode cL_would 440 = .ok (.if_icmp .ne 34, 3) := by decide +kernel
theorem dL_would_443 : decode cL_would 443 = .ok (.aload_n 0, 1) := by decide +kernel
theorem dL_would_444 : decode cL_would 444 = .ok (.iload 13, 2) := by decide +kernel
theorem dL_would_446 : decode cL_would 446 = .ok (.iload 11, 2) := by decide +kernel
theorem dL_would_448 : decode cL_would 448 = .ok (.iconst 0, 1) := by decide +kernel
theorem dL_would_449 : decode cL_would 449 = .ok (.invokevirtual 33, 3) := by decide +kernel
theorem dL_would_452 : decode cL_would 452 = .ok (.bipush (-6), 2) := by decide +kernel
theorem dL_would_454 : decode cL_would 454 = .ok (.if_icmp .eq 20, 3) := by decide +kernel
theorem dL_would_457 : decode cL_would 457 = .ok (.iload 14, 2) := by decide +kernel
theorem dL_would_459 : decode cL_would 459 = .ok (.ifCond .lt 15, 3) := by decide +kernel
theorem dL_would_462 : decode cL_would 462 = .ok (.iload 14, 2) := by decide +kernel
theorem dL_would_464 : decode cL_would 464 = .ok (.sipush 240, 3) := by decide +kernel
theorem dL_would_467 : decode cL_would 467 = .ok (.if_icmp .ge 7, 3) := by decide +kernel
theorem dL_would_470 : decode cL_would 470 = .ok (.iconst 1, 1) := by decide +kernel
theorem dL_would_471 : decode cL_would 471 = .ok (.goto 4, 3) := by decide +kernel
theorem dL_would_474 : decode cL_would 474 = .ok (.iconst 0, 1) := by decide +kernel
theorem dL_would_475 : decode cL_would 475 = .ok (.ireturn, 1) := by decide +kernel
theorem dL_digits_0 : decode cL_digits 0 = .ok (.iload_n 1, 1) := by decide +kernel
theorem dL_digits_1 : decode cL_digits 1 = .ok (.bipush 100, 2) := by decide +kernel
theorem dL_digits_3 : decode cL_digits 3 = .ok (.if_icmp .lt 17, 3) := by decide +kernel
theorem dL_digits_6 : decode cL_digits 6 = .ok (.aload_n 0, 1) := by decide +kernel
theorem dL_digits_7 : decode cL_digits 7 = .ok (.bipush 48, 2) := by decide +kernel
theorem dL_digits_9 : decode cL_digits 9 = .ok (.iload_n 1, 1) := by decide +kernel
theorem dL_digits_10 : decode cL_digits 10 = .ok (.bipush 100, 2) := by decide +kernel
theorem dL_digits_12 : decode cL_digits 12 = .ok (.idiv, 1) := by decide +kernel
theorem dL_digits_13 : decode cL_digits 13 = .ok (.iadd, 1) := by decide +kernel
theorem dL_digits_14 : decode cL_digits 14 = .ok (.invokevirtual 93, 3) := by decide +kernel
theorem dL_digits_17 : decode cL_digits 17 = .ok (.ifCond .le 44, 3) := by decide +kernel
theorem dL_digits_20 : decode cL_digits 20 = .ok (.iload_n 1, 1) := by decide +kernel
theorem dL_digits_21 : decode cL_digits 21 = .ok (.bipush 10, 2) := by decide +kernel
theorem dL_digits_23 : decode cL_digits 23 = .ok (.if_icmp .lt 20, 3) := by decide +kernel
theorem dL_digits_26 : decode cL_digits 26 = .ok (.aload_n 0, 1) := by decide +kernel
theorem dL_digits_27 : decode cL_digits 27 = .ok (.bipush 48, 2) := by decide +kernel
theorem dL_digits_29 : decode cL_digits 29 = .ok (.iload_n 1, 1) := by decide +kernel
theorem dL_digits_30 : decode cL_digits 30 = .ok (.bipush 10, 2) := by decide +kernel
theorem dL_digits_32 : decode cL_digits 32 = .ok (.idiv, 1) := by decide +kernel
theorem dL_digits_33 : decode cL_digits 33 = .ok (.bipush 10, 2) := by decide +kernel
theorem dL_digits_35 : decode cL_digits 35 = .ok (.irem, 1) := by decide +kernel
theorem dL_digits_36 : decode cL_digits 36 = .ok (.iadd, 1) := by decide +kernel
theorem dL_digits_37 : decode cL_digits 37 = .ok (.invokevirtual 93, 3) := by decide +kernel
theorem dL_digits_40 : decode cL_digits 40 = .ok (.ifCond .le 21, 3) := by decide +kernel
theorem dL_digits_43 : decode cL_digits 43 = .ok (.aload_n 0, 1) := by decide +kernel
theorem dL_digits_44 : decode cL_digits 44 = .ok (.bipush 48, 2) := by decide +kernel
theorem dL_digits_46 : decode cL_digits 46 = .ok (.iload_n 1, 1) := by decide +kernel
theorem dL_digits_47 : decode cL_digits 47 = .ok (.bipush 10, 2) := by decide +kernel
theorem dL_digits_49 : decode cL_digits 49 = .ok (.irem, 1) := by decide +kernel
theorem dL_digits_50 : decode cL_digits 50 = .ok (.iadd, 1) := by decide +kernel
theorem dL_digits_51 : decode cL_digits 51 = .ok (.invokevirtual 93, 3) := by decide +kernel
theorem dL_digits_54 : decode cL_digits 54 = .ok (.ifCond .le 7, 3) := by decide +kernel
theorem dL_digits_57 : decode cL_digits 57 = .ok (.iconst 1, 1) := by decide +kernel
theorem dL_digits_58 : decode cL_digits 58 = .ok (.goto 4, 3) := by decide +kernel
theorem dL_digits_61 : decode cL_digits 61 = .ok (.iconst 0, 1) := by decide +kernel
theorem dL_digits_62 : decode cL_digits 62 = .ok (.ireturn, 1) := by decide +kernel
theorem dL_types_0 : decode cL_types 0 = .ok (.iload_n 1, 1) := by decide +kernel
theorem dL_types_1 : decode cL_types 1 = .ok (.bipush 11, 2) := by decide +kernel
theorem dL_types_3 : decode cL_types 3 = .ok (.invokestatic 72, 3) := by decide +kernel
theorem dL_types_6 : decode cL_types 6 = .ok (.istore_n 2, 1) := by decide +kernel
theorem dL_types_7 : decode cL_types 7 = .ok (.aload_n 0, 1) := by decide +kernel
theorem dL_types_8 : decode cL_types 8 = .ok (.invokevirtual 96, 3) := by decide +kernel
theorem dL_types_11 : decode cL_types 11 = .ok (.ifCond .lt 7, 3) := by decide +kernel
theorem dL_types_14 : decode cL_types 14 = .ok (.iconst 1, 1) := by decide +kernel
theorem dL_types_15 : decode cL_types 15 = .ok (.goto 4, 3) := by decide +kernel
theorem dL_types_18 : decode cL_types 18 = .ok (.iconst 0, 1) := by decide +kernel
theorem dL_types_19 : decode cL_types 19 = .ok (.istore_n 3, 1) := by decide +kernel
theorem dL_types_20 : decode cL_types 20 = .ok (.iconst 0, 1) := by decide +kernel
theorem dL_types_21 : decode cL_types 21 = .ok (.istore 4, 2) := by decide +kernel
theorem dL_types_23 : decode cL_types 23 = .ok (.iload 4, 2) := by decide +kernel
theorem dL_types_25 : decode cL_types 25 = .ok (.iload_n 2, 1) := by decide +kernel
theorem dL_types_26 : decode cL_types 26 = .ok (.if_icmp .ge 356, 3) := by decide +kernel
theorem dL_types_29 : decode cL_types 29 = .ok (.iload_n 1, 1) := by decide +kernel
theorem dL_types_30 : decode cL_types 30 = .ok (.iconst 1, 1) := by decide +kernel
theorem dL_types_31 : decode cL_types 31 = .ok (.iconst 2, 1) := by decide +kernel
theorem dL_types_32 : decode cL_types 32 = .ok (.iload 4, 2) := by decide +kernel
theorem dL_types_34 : decode cL_types 34 = .ok (.imul, 1) := by decide +kernel
theorem dL_types_35 : decode cL_types 35 = .ok (.iadd, 1) := by decide +kernel
theorem dL_types_36 : decode cL_types 36 = .ok (.ishr, 1) := by decide +kernel
theorem dL_types_37 : decode cL_types 37 = .ok (.istore 5, 2) := by decide +kernel
theorem dL_types_39 : decode cL_types 39 = .ok (.iload 5, 2) := by decide +kernel
theorem dL_types_41 : decode cL_types 41 = .ok (.bipush 16, 2) := by decide +kernel
theorem dL_types_43 : decode cL_types 43 = .ok (.invokestatic 72, 3) := by decide +kernel
theorem dL_types_46 : decode cL_types 46 = .ok (.istore 6, 2) := by decide +kernel
theorem dL_types_48 : decode cL_types 48 = .ok (.iload_n 1, 1) := by decide +kernel
theorem dL_types_49 : decode cL_types 49 = .ok (.bipush 22, 2) := by decide +kernel
theorem dL_types_51 : decode cL_types 51 = .ok (.ishr, 1) := by decide +kernel
theorem dL_types_52 : decode cL_types 52 = .ok (.bipush 9, 2) := by decide +kernel
theorem dL_types_54 : decode cL_types 54 = .ok (.invokestatic 72, 3) := by decide +kernel
theorem dL_types_57 : decode cL_types 57 = .ok (.ifCond .ne 8, 3) := by decide +kernel
theorem dL_types_60 : decode cL_types 60 = .ok (.bipush 22, 2) := by decide +kernel
theorem dL_types_62 : decode cL_types 62 = .ok (.goto 5, 3) := by decide +kernel
theorem dL_types_65 : decode cL_types 65 = .ok (.bipush 20, 2) := by decide +kernel
theorem dL_types_67 : decode cL_types 67 = .ok (.istore 7, 2) := by decide +kernel
theorem dL_types_69 : decode cL_types 69 = .ok (.iload_n 3, 1) := by decide +kernel
theorem dL_types_70 : decode cL_types 70 = .ok (.ifCond .eq 101, 3) := by decide +kernel
theorem dL_types_73 : decode cL_types 73 = .ok (.iload 4, 2) := by decide +kernel
theorem dL_types_75 : decode cL_types 75 = .ok (.ifCond .eq 12, 3) := by decide +kernel
theorem dL_types_78 : decode cL_types 78 = .ok (.aload_n 0, 1) := by decide +kernel
theorem dL_types_79 : decode cL_types 79 = .ok (.bipush 59, 2) := by decide +kernel
theorem dL_types_81 : decode cL_types 81 = .ok (.invokevirtual 93, 3) := by decide +kernel
theorem dL_types_84 : decode cL_types 84 = .ok (.ifCond .le 87, 3) := by decide +kernel
theorem dL_types_87 : decode cL_types 87 = .ok (.aload_n 0, 1) := by decide +kernel
theorem dL_types_88 : decode cL_types 88 = .ok (.iload 6, 2) := by decide +kernel
theorem dL_types_90 : decode cL_types 90 = .ok (.iconst 3, 1) := by decide +kernel
theorem dL_types_91 : decode cL_types 91 = .ok (.if_icmp .ge 8, 3) := by decide +kernel
theorem dL_types_94 : decode cL_types 94 = .ok (.bipush 98, 2) := by decide +kernel
theorem dL_types_96 : decode cL_types 96 = .ok (.goto 65, 3) := by decide +kernel
theorem dL_types_99 : decode cL_types 99 = .ok (.iload 6, 2) := by decide +kernel
theorem dL_types_101 : decode cL_types 101 = .ok (.bipush 8, 2) := by decide +kernel
theorem dL_types_103 : decode cL_types 103 = .ok (.if_icmp .ge 8, 3) := by decide +kernel
theorem dL_types_106 : decode cL_types 106 = .ok (.bipush 119, 2) := by decide +kernel
theorem dL_types_108 : decode cL_types 108 = .ok (.goto 53, 3) := by decide +kernel
theorem dL_types_111 : decode cL_types 111 = .ok (.iload 6, 2) := by decide +kernel
theorem dL_types_113 : decode cL_types 113 = .ok (.bipush 8, 2) := by decide +kernel
theorem dL_types_115 : decode cL_types 115 = .ok (.if_icmp .ne 8, 3) := by decide +kernel
theorem dL_types_118 : decode cL_types 118 = .ok (.bipush 114, 2) := by decide +kernel
theorem dL_types_120 : decode cL_types 120 = .ok (.goto 41, 3) := by decide +kernel
theorem dL_types_123 : decode cL_types 123 = .ok (.iload 6, 2) := by decide +kernel
theorem dL_types_125 : decode cL_types 125 = .ok (.bipush 11, 2) := by decide +kernel
theorem dL_types_127 : decode cL_types 127 = .ok (.if_icmp .ge 8, 3) := by decide +kernel
theorem dL_types_130 : decode cL_types 130 = .ok (.bipush 107, 2) := by decide +kernel
theorem dL_types_132 : decode cL_types 132 = .ok (.goto 29, 3) := by decide +kernel
theorem dL_types_135 : decode cL_types 135 = .ok (.iload 6, 2) := by decide +kernel
theorem dL_types_137 : decode cL_types 137 = .ok (.bipush 13, 2) := by decide +kernel
theorem dL_types_139 : decode cL_types 139 = .ok (.if_icmp .ge 8, 3) := by decide +kernel
theorem dL_types_142 : decode cL_types 142 = .ok (.bipush 99, 2) := by decide +kernel
theorem dL_types_144 : decode cL_types 144 = .ok (.goto 17, 3) := by decide +kernel
theorem dL_types_147 : decode cL_types 147 = .ok (.iload 6, 2) := by decide +kernel
theorem dL_types_149 : decode cL_types 149 = .ok (.bipush 13, 2) := by decide +kernel
theorem dL_types_151 : decode cL_types 151 = .ok (.if_icmp .ne 8, 3) := by decide +kernel
theorem dL_types_154 : decode cL_types 154 = .ok (.bipush 101, 2) := by decide +kernel
theorem dL_types_156 : decode cL_types 156 = .ok (.goto 5, 3) := by decide +kernel
theorem dL_types_159 : decode cL_types 159 = .ok (.bipush 100, 2) := by decide +kernel
theorem dL_types_161 : decode cL_types 161 = .ok (.invokevirtual 93, 3) := by decide +kernel
theorem dL_types_164 : decode cL_types 164 = .ok (.ifCond .le 7, 3) := by decide +kernel
theorem dL_types_167 : decode cL_types 167 = .ok (.iconst 1, 1) := by decide +kernel
theorem dL_types_168 : decode cL_types 168 = .ok (.goto 4, 3) := by decide +kernel
theorem dL_types_171 : decode cL_types 171 = .ok (.iconst 0, 1) := by decide +kernel
theorem dL_types_172 : decode cL_types 172 = .ok (.istore_n 3, 1) := by decide +kernel
theorem dL_types_173 : decode cL_types 173 = .ok (.iload_n 3, 1) := by decide +kernel
theorem dL_types_174 : decode cL_types 174 = .ok (.ifCond .eq 108, 3) := by decide +kernel
theorem dL_types_177 : decode cL_types 177 = .ok (.iload 6, 2) := by decide +kernel
theorem dL_types_179 : decode cL_types 179 = .ok (.bipush 10, 2) := by decide +kernel
theorem dL_types_181 : decode cL_types 181 = .ok (.if_icmp .le 10, 3) := by decide +kernel
theorem dL_types_184 : decode cL_types 184 = .ok (.iload 6, 2) := by decide +kernel
theorem dL_types_186 : decode cL_types 186 = .ok (.bipush 14, 2) := by decide +kernel
theorem dL_types_188 : decode cL_types 188 = .ok (.if_icmp .lt 90, 3) := by decide +kernel
theorem dL_types_191 : decode cL_types 191 = .ok (.aload_n 0, 1) := by decide +kernel
theorem dL_types_192 : decode cL_types 192 = .ok (.iload 6, 2) := by decide +kernel
theorem dL_types_194 : decode cL_types 194 = .ok (.iconst 3, 1) := by decide +kernel
theorem dL_types_195 : decode cL_types 195 = .ok (.if_icmp .ge 30, 3) := by decide +kernel
theorem dL_types_198 : decode cL_types 198 = .ok (.iload 5, 2) := by decide +kernel
theorem dL_types_200 : decode cL_types 200 = .ok (.iconst 3, 1) := by decide +kernel
theorem dL_types_201 : decode cL_types 201 = .ok (.ishr, 1) := by decide +kernel
theorem dL_types_202 : decode cL_types 202 = .ok (.iload_n 1, 1) := by decide +kernel
theorem dL_types_203 : decode cL_types 203 = .ok (.bipush 23, 2) := by decide +kernel
theorem dL_types_205 : decode cL_types 205 = .ok (.ishr, 1) := by decide +kernel
theorem dL_types_206 : decode cL_types 206 = .ok (.bipush 9, 2) := by decide +kernel
theorem dL_types_208 : decode cL_types 208 = .ok (.invokestatic 72, 3) := by decide +kernel
theorem dL_types_211 : decode cL_types 211 = .ok (.ifCond .ne 7, 3) := by decide +kernel
theorem dL_types_214 : decode cL_types 214 = .ok (.iconst 3, 1) := by decide +kernel
theorem dL_types_215 : decode cL_types 215 = .ok (.goto 4, 3) := by decide +kernel
theorem dL_types_218 : decode cL_types 218 = .ok (.iconst 2, 1) := by decide +kernel
theorem dL_types_219 : decode cL_types 219 = .ok (.invokestatic 72, 3) := by decide +kernel
theorem dL_types_222 : decode cL_types 222 = .ok (.goto 50, 3) := by decide +kernel
theorem dL_types_225 : decode cL_types 225 = .ok (.iload 6, 2) := by decide +kernel
theorem dL_types_227 : decode cL_types 227 = .ok (.bipush 13, 2) := by decide +kernel
theorem dL_types_229 : decode cL_types 229 = .ok (.if_icmp .le 34, 3) := by decide +kernel
theorem dL_types_232 : decode cL_types 232 = .ok (.iload 5, 2) := by decide +kernel
theorem dL_types_234 : decode cL_types 234 = .ok (.iconst 2, 1) := by decide +kernel
theorem dL_types_235 : decode cL_types 235 = .ok (.ishr, 1) := by decide +kernel
theorem dL_types_236 : decode cL_types 236 = .ok (.iload_n 1, 1) := by decide +kernel
theorem dL_types_237 : decode cL_types 237 = .ok (.bipush 24, 2) := by decide +kernel
theorem dL_types_239 : decode cL_types 239 = .ok (.ishr, 1) := by decide +kernel
theorem dL_types_240 : decode cL_types 240 = .ok (.bipush 9, 2) := by decide +kernel
theorem dL_types_242 : decode cL_types 242 = .ok (.invokestatic 72, 3) := by decide +kernel
theorem dL_types_245 : decode cL_types 245 = .ok (.ifCond .ne 9, 3) := by decide +kernel
theorem dL_types_248 : decode cL_types 248 = .ok (.sipush 250, 3) := by decide +kernel
theorem dL_types_251 : decode cL_types 251 = .ok (.goto 6, 3) := by decide +kernel
theorem dL_types_254 : decode cL_types 254 = .ok (.sipush 240, 3) := by decide +kernel
theorem dL_types_257 : decode cL_types 257 = .ok (.invokestatic 72, 3) := by decide +kernel
theorem dL_types_260 : decode cL_types 260 = .ok (.goto 12, 3) := by decide +kernel
theorem dL_types_263 : decode cL_types 263 = .ok (.iload 5, 2) := by decide +kernel
theorem dL_types_265 : decode cL_types 265 = .ok (.iconst 3, 1) := by decide +kernel
theorem dL_types_266 : decode cL_types 266 = .ok (.ishr, 1) := by decide +kernel
theorem dL_types_267 : decode cL_types 267 = .ok (.iload 7, 2) := by decide +kernel
theorem dL_types_269 : decode cL_types 269 = .ok (.invokestatic 72, 3) := by decide +kernel
theorem dL_types_272 : decode cL_types 272 = .ok (.invokestatic 99, 3) := by decide +kernel
theorem dL_types_275 : decode cL_types 275 = .ok (.ifCond .eq 7, 3) := by decide +kernel
theorem dL_types_278 : decode cL_types 278 = .ok (.iconst 1, 1) := by decide +kernel
theorem dL_types_279 : decode cL_types 279 = .ok (.goto 4, 3) := by decide +kernel
theorem dL_types_282 : decode cL_types 282 = .ok (.iconst 0, 1) := by decide +kernel
theorem dL_types_283 : decode cL_types 283 = .ok (.istore_n 3, 1) := by decide +kernel
theorem dL_types_284 : decode cL_types 284 = .ok (.iload_n 3, 1) := by decide +kernel
theorem dL_types_285 : decode cL_types 285 = .ok (.ifCond .eq 89, 3) := by decide +kernel
theorem dL_types_288 : decode cL_types 288 = .ok (.iload 6, 2) := by decide +kernel
theorem dL_types_290 : decode cL_types 290 = .ok (.iconst 3, 1) := by decide +kernel
theorem dL_types_291 : decode cL_types 291 = .ok (.if_icmp .lt 79, 3) := by decide +kernel
theorem dL_types_294 : decode cL_types 294 = .ok (.iload 6, 2) := by decide +kernel
theorem dL_types_296 : decode cL_types 296 = .ok (.bipush 8, 2) := by decide +kernel
theorem dL_types_298 : decode cL_types 298 = .ok (.if_icmp .eq 72, 3) := by decide +kernel
theorem dL_types_301 : decode cL_types 301 = .ok (.iload 6, 2) := by decide +kernel
theorem dL_types_303 : decode cL_types 303 = .ok (.bipush 10, 2) := by decide +kernel
theorem dL_types_305 : decode cL_types 305 = .ok (.if_icmp .gt 65, 3) := by decide +kernel
theorem dL_types_308 : decode cL_types 308 = .ok (.aload_n 0, 1) := by decide +kernel
theorem dL_types_309 : decode cL_types 309 = .ok (.iload 6, 2) := by decide +kernel
theorem dL_types_311 : decode cL_types 311 = .ok (.bipush 8, 2) := by decide +kernel
theorem dL_types_313 : decode cL_types 313 = .ok (.if_icmp .ge 8, 3) := by decide +kernel
theorem dL_types_316 : decode cL_types 316 = .ok (.bipush 61, 2) := by decide +kernel
theorem dL_types_318 : decode cL_types 318 = .ok (.goto 5, 3) := by decide +kernel
theorem dL_types_321 : decode cL_types 321 = .ok (.bipush 46, 2) := by decide +kernel
theorem dL_types_323 : decode cL_types 323 = .ok (.invokevirtual 93, 3) := by decide +kernel
theorem dL_types_326 : decode cL_types 326 = .ok (.ifCond .le 48, 3) := by decide +kernel
theorem dL_types_329 : decode cL_types 329 = .ok (.aload_n 0, 1) := by decide +kernel
theorem dL_types_330 : decode cL_types 330 = .ok (.iload 5, 2) := by decide +kernel
theorem dL_types_332 : decode cL_types 332 = .ok (.iconst 4, 1) := by decide +kernel
theorem dL_types_333 : decode cL_types 333 = .ok (.ishr, 1) := by decide +kernel
theorem dL_types_334 : decode cL_types 334 = .ok (.bipush 12, 2) := by decide +kernel
theorem dL_types_336 : decode cL_types 336 = .ok (.invokestatic 72, 3) := by decide +kernel
theorem dL_types_339 : decode cL_types 339 = .ok (.iload 6, 2) := by decide +kernel
theorem dL_types_341 : decode cL_types 341 = .ok (.bipush 8, 2) := by decide +kernel
theorem dL_types_343 : decode cL_types 343 = .ok (.if_icmp .ge 19, 3) := by decide +kernel
theorem dL_types_346 : decode cL_types 346 = .ok (.iload_n 1, 1) := by decide +kernel
theorem dL_types_347 : decode cL_types 347 = .ok (.bipush 25, 2) := by decide +kernel
theorem dL_types_349 : decode cL_types 349 = .ok (.ishr, 1) := by decide +kernel
theorem dL_types_350 : decode cL_types 350 = .ok (.bipush 9, 2) := by decide +kernel
theorem dL_types_352 : decode cL_types 352 = .ok (.invokestatic 72, 3) := by decide +kernel
theorem dL_types_355 : decode cL_types 355 = .ok (.ifCond .le 7, 3) := by decide +kernel
theorem dL_types_358 : decode cL_types 358 = .ok (.iconst 1, 1) := by decide +kernel
theorem dL_types_359 : decode cL_types 359 = .ok (.goto 4, 3) := by decide +kernel
theorem dL_types_362 : decode cL_types 362 = .ok (.iconst 0, 1) := by decide +kernel
theorem dL_types_363 : decode cL_types 363 = .ok (.iadd, 1) := by decide +kernel
theorem dL_types_364 : decode cL_types 364 = .ok (.invokestatic 99, 3) := by decide +kernel
theorem dL_types_367 : decode cL_types 367 = .ok (.ifCond .eq 7, 3) := by decide +kernel
theorem dL_types_370 : decode cL_types 370 = .ok (.iconst 1, 1) := by decide +kernel
theorem dL_types_371 : decode cL_types 371 = .ok (.goto 4, 3) := by decide +kernel
theorem dL_types_374 : decode cL_types 374 = .ok (.iconst 0, 1) := by decide +kernel
theorem dL_types_375 : decode cL_types 375 = .ok (.istore_n 3, 1) := by decide +kernel
theorem dL_types_376 : decode cL_types 376 = .ok (.iinc 4 1, 3) := by decide +kernel
theorem dL_types_379 : decode cL_types 379 = .ok (.goto (-356), 3) := by decide +kernel
theorem dL_types_382 : decode cL_types 382 = .ok (.iload_n 3, 1) := by decide +kernel
theorem dL_types_383 : decode cL_types 383 = .ok (.ifCond .eq 28, 3) := by decide +kernel
theorem dL_types_386 : decode cL_types 386 = .ok (.iload_n 1, 1) := by decide +kernel
theorem dL_types_387 : decode cL_types 387 = .ok (.bipush 26, 2) := by decide +kernel
theorem dL_types_389 : decode cL_types 389 = .ok (.ishr, 1) := by decide +kernel
theorem dL_types_390 : decode cL_types 390 = .ok (.bipush 6, 2) := by decide +kernel
theorem dL_types_392 : decode cL_types 392 = .ok (.invokestatic 72, 3) := by decide +kernel
theorem dL_types_395 : decode cL_types 395 = .ok (.ifCond .gt 12, 3) := by decide +kernel
theorem dL_types_398 : decode cL_types 398 = .ok (.aload_n 0, 1) := by decide +kernel
theorem dL_types_399 : decode cL_types 399 = .ok (.bipush 59, 2) := by decide +kernel
theorem dL_types_401 : decode cL_types 401 = .ok (.invokevirtual 93, 3) := by decide +kernel
theorem dL_types_404 : decode cL_types 404 = .ok (.ifCond .le 7, 3) := by decide +kernel
theorem dL_types_407 : decode cL_types 407 = .ok (.iconst 1, 1) := by decide +kernel
theorem dL_types_408 : decode cL_types 408 = .ok (.goto 4, 3) := by decide +kernel
theorem dL_types_411 : decode cL_types 411 = .ok (.iconst 0, 1) := by decide +kernel
theorem dL_types_412 : decode cL_types 412 = .ok (.ireturn, 1) := by decide +kernel
theorem dL_runs_0 : decode cL_runs 0 = .ok (.iload_n 1, 1) := by decide +kernel
theorem dL_runs_1 : decode cL_runs 1 = .ok (.bipush 11, 2) := by decide +kernel
theorem dL_runs_3 : decode cL_runs 3 = .ok (.invokestatic 72, 3) := by decide +kernel
theorem dL_runs_6 : decode cL_runs 6 = .ok (.istore_n 2, 1) := by decide +kernel
theorem dL_runs_7 : decode cL_runs 7 = .ok (.aload_n 0, 1) := by decide +kernel
theorem dL_runs_8 : decode cL_runs 8 = .ok (.invokestatic 103, 3) := by decide +kernel
theorem dL_runs_11 : decode cL_runs 11 = .ok (.lstore_n 3, 1) := by decide +kernel
theorem dL_runs_12 : decode cL_runs 12 = .ok (.aload_n 0, 1) := by decide +kernel
theorem dL_runs_13 : decode cL_runs 13 = .ok (.iload_n 1, 1) := by decide +kernel
theorem dL_runs_14 : decode cL_runs 14 = .ok (.invokestatic 107, 3) := by decide +kernel
theorem dL_runs_17 : decode cL_runs 17 = .ok (.istore 5, 2) := by decide +kernel
theorem dL_runs_19 : decode cL_runs 19 = .ok (.aload_n 0, 1) := by decide +kernel
theorem dL_runs_20 : decode cL_runs 20 = .ok (.invokevirtual 110, 3) := by decide +kernel
theorem dL_runs_23 : decode cL_runs 23 = .ok (.istore 6, 2) := by decide +kernel
theorem dL_runs_25 : decode cL_runs 25 = .ok (.aload_n 0, 1) := by decide +kernel
theorem dL_runs_26 : decode cL_runs 26 = .ok (.invokevirtual 113, 3) := by decide +kernel
theorem dL_runs_29 : decode cL_runs 29 = .ok (.istore 7, 2) := by decide +kernel
theorem dL_runs_31 : decode cL_runs 31 = .ok (.aload_n 0, 1) := by decide +kernel
theorem dL_runs_32 : decode cL_runs 32 = .ok (.invokevirtual 96, 3) := by decide +kernel
theorem dL_runs_35 : decode cL_runs 35 = .ok (.istore 8, 2) := by decide +kernel
theorem dL_runs_37 : decode cL_runs 37 = .ok (.iload 5, 2) := by decide +kernel
theorem dL_runs_39 : decode cL_runs 39 = .ok (.ifCond .eq 43, 3) := by decide +kernel
theorem dL_runs_42 : decode cL_runs 42 = .ok (.iload 7, 2) := by decide +kernel
theorem dL_runs_44 : decode cL_runs 44 = .ok (.bipush (-3), 2) := by decide +kernel
theorem dL_runs_46 : decode cL_runs 46 = .ok (.if_icmp .ne 7, 3) := by decide +kernel
theorem dL_runs_49 : decode cL_runs 49 = .ok (.iconst 1, 1) := by decide +kernel
theorem dL_runs_50 : decode cL_runs 50 = .ok (.goto 4, 3) := by decide +kernel
theorem dL_runs_53 : decode cL_runs 53 = .ok (.iconst 0, 1) := by decide +kernel
theorem dL_runs_54 : decode cL_runs 54 = .ok (.iload 6, 2) := by decide +kernel
theorem dL_runs_56 : decode cL_runs 56 = .ok (.bipush (-6), 2) := by decide +kernel
theorem dL_runs_58 : decode cL_runs 58 = .ok (.if_icmp .eq 7, 3) := by decide +kernel
theorem dL_runs_61 : decode cL_runs 61 = .ok (.iconst 1, 1) := by decide +kernel
theorem dL_runs_62 : decode cL_runs 62 = .ok (.goto 4, 3) := by decide +kernel
theorem dL_runs_65 : decode cL_runs 65 = .ok (.iconst 0, 1) := by decide +kernel
theorem dL_runs_66 : decode cL_runs 66 = .ok (.if_icmp .ne 16, 3) := by decide +kernel
theorem dL_runs_69 : decode cL_runs 69 = .ok (.iload 8, 2) := by decide +kernel
theorem dL_runs_71 : decode cL_runs 71 = .ok (.ifCond .gt 7, 3) := by decide +kernel
theorem dL_runs_74 : decode cL_runs 74 = .ok (.iload_n 2, 1) := by decide +kernel
theorem dL_runs_75 : decode cL_runs 75 = .ok (.ifCond .ne 7, 3) := by decide +kernel
theorem dL_runs_78 : decode cL_runs 78 = .ok (.iconst 1, 1) := by decide +kernel
theorem dL_runs_79 : decode cL_runs 79 = .ok (.goto 4, 3) := by decide +kernel
theorem dL_runs_82 : decode cL_runs 82 = .ok (.iconst 0, 1) := by decide +kernel
theorem dL_runs_83 : decode cL_runs 83 = .ok (.istore 9, 2) := by decide +kernel
theorem dL_runs_85 : decode cL_runs 85 = .ok (.iload 9, 2) := by decide +kernel
theorem dL_runs_87 : decode cL_runs 87 = .ok (.ifCond .eq 65, 3) := by decide +kernel
theorem dL_runs_90 : decode cL_runs 90 = .ok (.iload 6, 2) := by decide +kernel
theorem dL_runs_92 : decode cL_runs 92 = .ok (.bipush (-6), 2) := by decide +kernel
theorem dL_runs_94 : decode cL_runs 94 = .ok (.if_icmp .eq 27, 3) := by decide +kernel
theorem dL_runs_97 : decode cL_runs 97 = .ok (.iload 6, 2) := by decide +kernel
theorem dL_runs_99 : decode cL_runs 99 = .ok (.ifCond .lt 53, 3) := by decide +kernel
theorem dL_runs_102 : decode cL_runs 102 = .ok (.iload 6, 2) := by decide +kernel
theorem dL_runs_104 : decode cL_runs 104 = .ok (.iload 8, 2) := by decide +kernel
theorem dL_runs_106 : decode cL_runs 106 = .ok (.if_icmp .gt 46, 3) := by decide +kernel
theorem dL_runs_109 : decode cL_runs 109 = .ok (.aload_n 0, 1) := by decide +kernel
theorem dL_runs_110 : decode cL_runs 110 = .ok (.invokestatic 103, 3) := by decide +kernel
theorem dL_runs_113 : decode cL_runs 113 = .ok (.lload_n 3, 1) := by decide +kernel
theorem dL_runs_114 : decode cL_runs 114 = .ok (.lcmp, 1) := by decide +kernel
theorem dL_runs_115 : decode cL_runs 115 = .ok (.ifCond .ne 37, 3) := by decide +kernel
theorem dL_runs_118 : decode cL_runs 118 = .ok (.goto 30, 3) := by decide +kernel
theorem dL_runs_121 : decode cL_runs 121 = .ok (.iload 7, 2) := by decide +kernel
theorem dL_runs_123 : decode cL_runs 123 = .ok (.ifCond .lt 29, 3) := by decide +kernel
theorem dL_runs_126 : decode cL_runs 126 = .ok (.iload 7, 2) := by decide +kernel
theorem dL_runs_128 : decode cL_runs 128 = .ok (.iload_n 2, 1) := by decide +kernel
theorem dL_runs_129 : decode cL_runs 129 = .ok (.if_icmp .gt 23, 3) := by decide +kernel
theorem dL_runs_132 : decode cL_runs 132 = .ok (.aload_n 0, 1) := by decide +kernel
theorem dL_runs_133 : decode cL_runs 133 = .ok (.invokevirtual 116, 3) := by decide +kernel
theorem dL_runs_136 : decode cL_runs 136 = .ok (.ifCond .lt 16, 3) := by decide +kernel
theorem dL_runs_139 : decode cL_runs 139 = .ok (.aload_n 0, 1) := by decide +kernel
theorem dL_runs_140 : decode cL_runs 140 = .ok (.invokestatic 103, 3) := by decide +kernel
theorem dL_runs_143 : decode cL_runs 143 = .ok (.lload_n 3, 1) := by decide +kernel
theorem dL_runs_144 : decode cL_runs 144 = .ok (.lcmp, 1) := by decide +kernel
theorem dL_runs_145 : decode cL_runs 145 = .ok (.ifCond .ne 7, 3) := by decide +kernel
theorem dL_runs_148 : decode cL_runs 148 = .ok (.iconst 1, 1) := by decide +kernel
theorem dL_runs_149 : decode cL_runs 149 = .ok (.goto 4, 3) := by decide +kernel
theorem dL_runs_152 : decode cL_runs 152 = .ok (.iconst 0, 1) := by decide +kernel
theorem dL_runs_153 : decode cL_runs 153 = .ok (.ireturn, 1) := by decide +kernel
theorem dL_files_0 : decode cL_files 0 = .ok (.aload_n 0, 1) := by decide +kernel
theorem dL_files_1 : decode cL_files 1 = .ok (.invokestatic 68, 3) := by decide +kernel
theorem dL_files_4 : decode cL_files 4 = .ok (.istore_n 3, 1) := by decide +kernel
theorem dL_files_5 : decode cL_files 5 = .ok (.iload_n 2, 1) := by decide +kernel
theorem dL_files_6 : decode cL_files 6 = .ok (.iload_n 2, 1) := by decide +kernel
theorem dL_files_7 : decode cL_files 7 = .ok (.bipush 15, 2) := by decide +kernel
theorem dL_files_9 : decode cL_files 9 = .ok (.ishr, 1) := by decide +kernel
theorem dL_files_10 : decode cL_files 10 = .ok (.iconst 5, 1) := by decide +kernel
theorem dL_files_11 : decode cL_files 11 = .ok (.invokestatic 72, 3) := by decide +kernel
theorem dL_files_14 : decode cL_files 14 = .ok (.ifCond .ne 8, 3) := by decide +kernel
theorem dL_files_17 : decode cL_files 17 = .ok (.bipush 21, 2) := by decide +kernel
theorem dL_files_19 : decode cL_files 19 = .ok (.goto 5, 3) := by decide +kernel
theorem dL_files_22 : decode cL_files 22 = .ok (.bipush 6, 2) := by decide +kernel
theorem dL_files_24 : decode cL_files 24 = .ok (.invokestatic 72, 3) := by decide +kernel
theorem dL_files_27 : decode cL_files 27 = .ok (.istore 4, 2) := by decide +kernel
theorem dL_files_29 : decode cL_files 29 = .ok (.iload 4, 2) := by decide +kernel
theorem dL_files_31 : decode cL_files 31 = .ok (.bipush 20, 2) := by decide +kernel
theorem dL_files_33 : decode cL_files 33 = .ok (.if_icmp .ne 7, 3) := by decide +kernel
theorem dL_files_36 : decode cL_files 36 = .ok (.iconst 1, 1) := by decide +kernel
theorem dL_files_37 : decode cL_files 37 = .ok (.goto 4, 3) := by decide +kernel
theorem dL_files_40 : decode cL_files 40 = .ok (.iconst 0, 1) := by decide +kernel
theorem dL_files_41 : decode cL_files 41 = .ok (.istore 5, 2) := by decide +kernel
theorem dL_files_43 : decode cL_files 43 = .ok (.aload_n 0, 1) := by decide +kernel
theorem dL_files_44 : decode cL_files 44 = .ok (.invokevirtual 13, 3) := by decide +kernel
theorem dL_files_47 : decode cL_files 47 = .ok (.istore 6, 2) := by decide +kernel
theorem dL_files_49 : decode cL_files 49 = .ok (.iload_n 3, 1) := by decide +kernel
theorem dL_files_50 : decode cL_files 50 = .ok (.ifCond .lt 25, 3) := by decide +kernel
theorem dL_files_53 : decode cL_files 53 = .ok (.iload 5, 2) := by decide +kernel
theorem dL_files_55 : decode cL_files 55 = .ok (.ifCond .ne 20, 3) := by decide +kernel
theorem dL_files_58 : decode cL_files 58 = .ok (.aload_n 0, 1) := by decide +kernel
theorem dL_files_59 : decode cL_files 59 = .ok (.iload_n 3, 1) := by decide +kernel
theorem dL_files_60 : decode cL_files 60 = .ok (.iload 4, 2) := by decide +kernel
theorem dL_files_62 : decode cL_files 62 = .ok (.iconst 0, 1) := by decide +kernel
theorem dL_files_63 : decode cL_files 63 = .ok (.invokevirtual 33, 3) := by decide +kernel
theorem dL_files_66 : decode cL_files 66 = .ok (.bipush (-6), 2) := by decide +kernel
theorem dL_files_68 : decode cL_files 68 = .ok (.if_icmp .eq 7, 3) := by decide +kernel
theorem dL_files_71 : decode cL_files 71 = .ok (.iconst 1, 1) := by decide +kernel
theorem dL_files_72 : decode cL_files 72 = .ok (.goto 4, 3) := by decide +kernel
theorem dL_files_75 : decode cL_files 75 = .ok (.iconst 0, 1) := by decide +kernel
theorem dL_files_76 : decode cL_files 76 = .ok (.istore 7, 2) := by decide +kernel
theorem dL_files_78 : decode cL_files 78 = .ok (.iload_n 3, 1) := by decide +kernel
theorem dL_files_79 : decode cL_files 79 = .ok (.ifCond .ge 7, 3) := by decide +kernel
theorem dL_files_82 : decode cL_files 82 = .ok (.iconst 0, 1) := by decide +kernel
theorem dL_files_83 : decode cL_files 83 = .ok (.goto 9, 3) := by decide +kernel
theorem dL_files_86 : decode cL_files 86 = .ok (.aload_n 0, 1) := by decide +kernel
theorem dL_files_87 : decode cL_files 87 = .ok (.iload_n 3, 1) := by decide +kernel
theorem dL_files_88 : decode cL_files 88 = .ok (.iconst 5, 1) := by decide +kernel
theorem dL_files_89 : decode cL_files 89 = .ok (.invokevirtual 29, 3) := by decide +kernel
theorem dL_files_92 : decode cL_files 92 = .ok (.istore 8, 2) := by decide +kernel
theorem dL_files_94 : decode cL_files 94 = .ok (.iload_n 1, 1) := by decide +kernel
theorem dL_files_95 : decode cL_files 95 = .ok (.ifCond .ne 257, 3) := by decide +kernel
theorem dL_files_98 : decode cL_files 98 = .ok (.iload_n 2, 1) := by decide +kernel
theorem dL_files_99 : decode cL_files 99 = .ok (.iconst 4, 1) := by decide +kernel
theorem dL_files_100 : decode cL_files 100 = .ok (.ishr, 1) := by decide +kernel
theorem dL_files_101 : decode cL_files 101 = .ok (.iload_n 2, 1) := by decide +kernel
theorem dL_files_102 : decode cL_files 102 = .ok (.bipush 16, 2) := by decide +kernel
theorem dL_files_104 : decode cL_files 104 = .ok (.ishr, 1) := by decide +kernel
theorem dL_files_105 : decode cL_files 105 = .ok (.iconst 3, 1) := by decide +kernel
theorem dL_files_106 : decode cL_files 106 = .ok (.invokestatic 72, 3) := by decide +kernel
theorem dL_files_109 : decode cL_files 109 = .ok (.ifCond .ne 8, 3) := by decide +kernel
theorem dL_files_112 : decode cL_files 112 = .ok (.bipush 42, 2) := by decide +kernel
theorem dL_files_114 : decode cL_files 114 = .ok (.goto 5, 3) := by decide +kernel
theorem dL_files_117 : decode cL_files 117 = .ok (.bipush 12, 2) := by decide +kernel
theorem dL_files_119 : decode cL_files 119 = .ok (.invokestatic 72, 3) := by decide +kernel
theorem dL_files_122 : decode cL_files 122 = .ok (.istore 9, 2) := by decide +kernel
theorem dL_files_124 : decode cL_files 124 = .ok (.iload 9, 2) := by decide +kernel
theorem dL_files_126 : decode cL_files 126 = .ok (.ifCond .eq 10, 3) := by decide +kernel
theorem dL_files_129 : decode cL_files 129 = .ok (.iload 9, 2) := by decide +kernel
theorem dL_files_131 : decode cL_files 131 = .ok (.bipush 41, 2) := by decide +kernel
theorem dL_files_133 : decode cL_files 133 = .ok (.if_icmp .ne 7, 3) := by decide +kernel
theorem dL_files_136 : decode cL_files 136 = .ok (.iconst 1, 1) := by decide +kernel
theorem dL_files_137 : decode cL_files 137 = .ok (.goto 4, 3) := by decide +kernel
theorem dL_files_140 : decode cL_files 140 = .ok (.iconst 0, 1) := by decide +kernel
theorem dL_files_141 : decode cL_files 141 = .ok (.istore 10, 2) := by decide +kernel
theorem dL_files_143 : decode cL_files 143 = .ok (.iload 5, 2) := by decide +kernel
theorem dL_files_145 : decode cL_files 145 = .ok (.ifCond .eq 7, 3) := by decide +kernel
theorem dL_files_148 : decode cL_files 148 = .ok (.iconst 0, 1) := by decide +kernel
theorem dL_files_149 : decode cL_files 149 = .ok (.goto 9, 3) := by decide +kernel
theorem dL_files_152 : decode cL_files 152 = .ok (.aload_n 0, 1) := by decide +kernel
theorem dL_files_153 : decode cL_files 153 = .ok (.iload 4, 2) := by decide +kernel
theorem dL_files_155 : decode cL_files 155 = .ok (.invokevirtual 37, 3) := by decide +kernel
theorem dL_files_158 : decode cL_files 158 = .ok (.istore 11, 2) := by decide +kernel
theorem dL_files_160 : decode cL_files 160 = .ok (.iload_n 3, 1) := by decide +kernel
theorem dL_files_161 : decode cL_files 161 = .ok (.ifCond .lt 25, 3) := by decide +kernel
theorem dL_files_164 : decode cL_files 164 = .ok (.iload 6, 2) := by decide +kernel
theorem dL_files_166 : decode cL_files 166 = .ok (.iload 9, 2) := by decide +kernel
theorem dL_files_168 : decode cL_files 168 = .ok (.iadd, 1) := by decide +kernel
theorem dL_files_169 : decode cL_files 169 = .ok (.aload_n 0, 1) := by decide +kernel
theorem dL_files_170 : decode cL_files 170 = .ok (.iload_n 3, 1) := by decide +kernel
theorem dL_files_171 : decode cL_files 171 = .ok (.iconst 4, 1) := by decide +kernel
theorem dL_files_172 : decode cL_files 172 = .ok (.invokevirtual 29, 3) := by decide +kernel
theorem dL_files_175 : decode cL_files 175 = .ok (.iadd, 1) := by decide +kernel
theorem dL_files_176 : decode cL_files 176 = .ok (.sipush 240, 3) := by decide +kernel
theorem dL_files_179 : decode cL_files 179 = .ok (.if_icmp .gt 7, 3) := by decide +kernel
theorem dL_files_182 : decode cL_files 182 = .ok (.iconst 1, 1) := by decide +kernel
theorem dL_files_183 : decode cL_files 183 = .ok (.goto 4, 3) := by decide +kernel
theorem dL_files_186 : decode cL_files 186 = .ok (.iconst 0, 1) := by decide +kernel
theorem dL_files_187 : decode cL_files 187 = .ok (.istore 12, 2) := by decide +kernel
theorem dL_files_189 : decode cL_files 189 = .ok (.aload_n 0, 1) := by decide +kernel
theorem dL_files_190 : decode cL_files 190 = .ok (.iload 4, 2) := by decide +kernel
theorem dL_files_192 : decode cL_files 192 = .ok (.iload 9, 2) := by decide +kernel
theorem dL_files_194 : decode cL_files 194 = .ok (.invokevirtual 119, 3) := by decide +kernel
theorem dL_files_197 : decode cL_files 197 = .ok (.istore 13, 2) := by decide +kernel
theorem dL_files_199 : decode cL_files 199 = .ok (.iload 13, 2) := by decide +kernel
theorem dL_files_201 : decode cL_files 201 = .ok (.iload 5, 2) := by decide +kernel
theorem dL_files_203 : decode cL_files 203 = .ok (.ifCond .eq 7, 3) := by decide +kernel
theorem dL_files_206 : decode cL_files 206 = .ok (.iconst (-1), 1) := by decide +kernel
theorem dL_files_207 : decode cL_files 207 = .ok (.goto 34, 3) := by decide +kernel
theorem dL_files_210 : decode cL_files 210 = .ok (.iload 10, 2) := by decide +kernel
theorem dL_files_212 : decode cL_files 212 = .ok (.ifCond .eq 8, 3) := by decide +kernel
theorem dL_files_215 : decode cL_files 215 = .ok (.bipush (-2), 2) := by decide +kernel
theorem dL_files_217 : decode cL_files 217 = .ok (.goto 24, 3) := by decide +kernel
theorem dL_files_220 : decode cL_files 220 = .ok (.iload_n 3, 1) := by decide +kernel
theorem dL_files_221 : decode cL_files 221 = .ok (.ifCond .ge 8, 3) := by decide +kernel
theorem dL_files_224 : decode cL_files 224 = .ok (.bipush (-5), 2) := by decide +kernel
theorem dL_files_226 : decode cL_files 226 = .ok (.goto 15, 3) := by decide +kernel
theorem dL_files_229 : decode cL_files 229 = .ok (.iload 12, 2) := by decide +kernel
theorem dL_files_231 : decode cL_files 231 = .ok (.ifCond .ne 8, 3) := by decide +kernel
theorem dL_files_234 : decode cL_files 234 = .ok (.bipush (-4), 2) := by decide +kernel
theorem dL_files_236 : decode cL_files 236 = .ok (.goto 5, 3) := by decide +kernel
theorem dL_files_239 : decode cL_files 239 = .ok (.iload 6, 2) := by decide +kernel
theorem dL_files_241 : decode cL_files 241 = .ok (.if_icmp .ne 109, 3) := by decide +kernel
theorem dL_files_244 : decode cL_files 244 = .ok (.iload 13, 2) := by decide +kernel
theorem dL_files_246 : decode cL_files 246 = .ok (.ifCond .ge 15, 3) := by decide +kernel
theorem dL_files_249 : decode cL_files 249 = .ok (.aload_n 0, 1) := by decide +kernel
theorem dL_files_250 : decode cL_files 250 = .ok (.invokevirtual 13, 3) := by decide +kernel
theorem dL_files_253 : decode cL_files 253 = .ok (.iload 6, 2) := by decide +kernel
theorem dL_files_255 : decode cL_files 255 = .ok (.if_icmp .ne 95, 3) := by decide +kernel
theorem dL_files_258 : decode cL_files 258 = .ok (.goto 88, 3) := by decide +kernel
theorem dL_files_261 : decode cL_files 261 = .ok (.aload_n 0, 1) := by decide +kernel
theorem dL_files_262 : decode cL_files 262 = .ok (.invokevirtual 13, 3) := by decide +kernel
theorem dL_files_265 : decode cL_files 265 = .ok (.iload 6, 2) := by decide +kernel
theorem dL_files_267 : decode cL_files 267 = .ok (.iload 9, 2) := by decide +kernel
theorem dL_files_269 : decode cL_files 269 = .ok (.iadd, 1) := by decide +kernel
theorem dL_files_270 : decode cL_files 270 = .ok (.if_icmp .ne 80, 3) := by decide +kernel
theorem dL_files_273 : decode cL_files 273 = .ok (.aload_n 0, 1) := by decide +kernel
theorem dL_files_274 : decode cL_files 274 = .ok (.iload 4, 2) := by decide +kernel
theorem dL_files_276 : decode cL_files 276 = .ok (.invokevirtual 37, 3) := by decide +kernel
theorem dL_files_279 : decode cL_files 279 = .ok (.iload 11, 2) := by decide +kernel
theorem dL_files_281 : decode cL_files 281 = .ok (.iconst 1, 1) := by decide +kernel
theorem dL_files_282 : decode cL_files 282 = .ok (.iadd, 1) := by decide +kernel
theorem dL_files_283 : decode cL_files 283 = .ok (.if_icmp .ne 67, 3) := by decide +kernel
theorem dL_files_286 : decode cL_files 286 = .ok (.aload_n 0, 1) := by decide +kernel
theorem dL_files_287 : decode cL_files 287 = .ok (.iload_n 3, 1) := by decide +kernel
theorem dL_files_288 : decode cL_files 288 = .ok (.iload 4, 2) := by decide +kernel
theorem dL_files_290 : decode cL_files 290 = .ok (.iconst 0, 1) := by decide +kernel
theorem dL_files_291 : decode cL_files 291 = .ok (.invokevirtual 33, 3) := by decide +kernel
theorem dL_files_294 : decode cL_files 294 = .ok (.iload 6, 2) := by decide +kernel
theorem dL_files_296 : decode cL_files 296 = .ok (.if_icmp .ne 54, 3) := by decide +kernel
theorem dL_files_299 : decode cL_files 299 = .ok (.aload_n 0, 1) := by decide +kernel
theorem dL_files_300 : decode cL_files 300 = .ok (.iload_n 3, 1) := by decide +kernel
theorem dL_files_301 : decode cL_files 301 = .ok (.iload 4, 2) := by decide +kernel
theorem dL_files_303 : decode cL_files 303 = .ok (.iconst 1, 1) := by decide +kernel
theorem dL_files_304 : decode cL_files 304 = .ok (.invokevirtual 33, 3) := by decide +kernel
theorem dL_files_307 : decode cL_files 307 = .ok (.iload 9, 2) := by decide +kernel
theorem dL_files_309 : decode cL_files 309 = .ok (.if_icmp .ne 41, 3) := by decide +kernel
theorem dL_files_312 : decode cL_files 312 = .ok (.aload_n 0, 1) := by decide +kernel
theorem dL_files_313 : decode cL_files 313 = .ok (.iload_n 3, 1) := by decide +kernel
theorem dL_files_314 : decode cL_files 314 = .ok (.iload 4, 2) := by decide +kernel
theorem dL_files_316 : decode cL_files 316 = .ok (.iconst 2, 1) := by decide +kernel
theorem dL_files_317 : decode cL_files 317 = .ok (.invokevirtual 33, 3) := by decide +kernel
theorem dL_files_320 : decode cL_files 320 = .ok (.iload_n 3, 1) := by decide +kernel
theorem dL_files_321 : decode cL_files 321 = .ok (.if_icmp .ne 29, 3) := by decide +kernel
theorem dL_files_324 : decode cL_files 324 = .ok (.aload_n 0, 1) := by decide +kernel
theorem dL_files_325 : decode cL_files 325 = .ok (.iload_n 3, 1) := by decide +kernel
theorem dL_files_326 : decode cL_files 326 = .ok (.iconst 5, 1) := by decide +kernel
theorem dL_files_327 : decode cL_files 327 = .ok (.invokevirtual 29, 3) := by decide +kernel
theorem dL_files_330 : decode cL_files 330 = .ok (.iload 8, 2) := by decide +kernel
theorem dL_files_332 : decode cL_files 332 = .ok (.iload 7, 2) := by decide +kernel
theorem dL_files_334 : decode cL_files 334 = .ok (.ifCond .eq 7, 3) := by decide +kernel
theorem dL_files_337 : decode cL_files 337 = .ok (.iconst 0, 1) := by decide +kernel
theorem dL_files_338 : decode cL_files 338 = .ok (.goto 4, 3) := by decide +kernel
theorem dL_files_341 : decode cL_files 341 = .ok (.iconst 1, 1) := by decide +kernel
theorem dL_files_342 : decode cL_files 342 = .ok (.iadd, 1) := by decide +kernel
theorem dL_files_343 : decode cL_files 343 = .ok (.if_icmp .ne 7, 3) := by decide +kernel
theorem dL_files_346 : decode cL_files 346 = .ok (.iconst 1, 1) := by decide +kernel
theorem dL_files_347 : decode cL_files 347 = .ok (.goto 4, 3) := by decide +kernel
theorem dL_files_350 : decode cL_files 350 = .ok (.iconst 0, 1) := by decide +kernel
theorem dL_files_351 : decode cL_files 351 = .ok (.ireturn, 1) := by decide +kernel
theorem dL_files_352 : decode cL_files 352 = .ok (.iload_n 1, 1) := by decide +kernel
theorem dL_files_353 : decode cL_files 353 = .ok (.iconst 1, 1) := by decide +kernel
theorem dL_files_354 : decode cL_files 354 = .ok (.if_icmp .ne 72, 3) := by decide +kernel
theorem dL_files_357 : decode cL_files 357 = .ok (.aload_n 0, 1) := by decide +kernel
theorem dL_files_358 : decode cL_files 358 = .ok (.iload 4, 2) := by decide +kernel
theorem dL_files_360 : decode cL_files 360 = .ok (.invokevirtual 122, 3) := by decide +kernel
theorem dL_files_363 : decode cL_files 363 = .ok (.istore 9, 2) := by decide +kernel
theorem dL_files_365 : decode cL_files 365 = .ok (.iload 9, 2) := by decide +kernel
theorem dL_files_367 : decode cL_files 367 = .ok (.iload 5, 2) := by decide +kernel
theorem dL_files_369 : decode cL_files 369 = .ok (.ifCond .eq 7, 3) := by decide +kernel
theorem dL_files_372 : decode cL_files 372 = .ok (.iconst (-1), 1) := by decide +kernel
theorem dL_files_373 : decode cL_files 373 = .ok (.goto 17, 3) := by decide +kernel
theorem dL_files_376 : decode cL_files 376 = .ok (.iload 7, 2) := by decide +kernel
theorem dL_files_378 : decode cL_files 378 = .ok (.ifCond .ne 8, 3) := by decide +kernel
theorem dL_files_381 : decode cL_files 381 = .ok (.bipush (-5), 2) := by decide +kernel
theorem dL_files_383 : decode cL_files 383 = .ok (.goto 7, 3) := by decide +kernel
theorem dL_files_386 : decode cL_files 386 = .ok (.iload 8, 2) := by decide +kernel
theorem dL_files_388 : decode cL_files 388 = .ok (.iconst 1, 1) := by decide +kernel
theorem dL_files_389 : decode cL_files 389 = .ok (.isub, 1) := by decide +kernel
theorem dL_files_390 : decode cL_files 390 = .ok (.if_icmp .ne 34, 3) := by decide +kernel
theorem dL_files_393 : decode cL_files 393 = .ok (.iload 9, 2) := by decide +kernel
theorem dL_files_395 : decode cL_files 395 = .ok (.ifCond .lt 25, 3) := by decide +kernel
theorem dL_files_398 : decode cL_files 398 = .ok (.aload_n 0, 1) := by decide +kernel
theorem dL_files_399 : decode cL_files 399 = .ok (.iload_n 3, 1) := by decide +kernel
theorem dL_files_400 : decode cL_files 400 = .ok (.iload 4, 2) := by decide +kernel
theorem dL_files_402 : decode cL_files 402 = .ok (.iconst 1, 1) := by decide +kernel
theorem dL_files_403 : decode cL_files 403 = .ok (.invokevirtual 33, 3) := by decide +kernel
theorem dL_files_406 : decode cL_files 406 = .ok (.bipush (-6), 2) := by decide +kernel
theorem dL_files_408 : decode cL_files 408 = .ok (.if_icmp .ne 16, 3) := by decide +kernel
theorem dL_files_411 : decode cL_files 411 = .ok (.aload_n 0, 1) := by decide +kernel
theorem dL_files_412 : decode cL_files 412 = .ok (.invokevirtual 13, 3) := by decide +kernel
theorem dL_files_415 : decode cL_files 415 = .ok (.iload 6, 2) := by decide +kernel
theorem dL_files_417 : decode cL_files 417 = .ok (.if_icmp .ne 7, 3) := by decide +kernel
theorem dL_files_420 : decode cL_files 420 = .ok (.iconst 1, 1) := by decide +kernel
theorem dL_files_421 : decode cL_files 421 = .ok (.goto 4, 3) := by decide +kernel
theorem dL_files_424 : decode cL_files 424 = .ok (.iconst 0, 1) := by decide +kernel
theorem dL_files_425 : decode cL_files 425 = .ok (.ireturn, 1) := by decide +kernel
theorem dL_files_426 : decode cL_files 426 = .ok (.iload_n 2, 1) := by decide +kernel
theorem dL_files_427 : decode cL_files 427 = .ok (.iconst 4, 1) := by decide +kernel
theorem dL_files_428 : decode cL_files 428 = .ok (.ishr, 1) := by decide +kernel
theorem dL_files_429 : decode cL_files 429 = .ok (.aload_n 0, 1) := by decide +kernel
theorem dL_files_430 : decode cL_files 430 = .ok (.invokevirtual 26, 3) := by decide +kernel
theorem dL_files_433 : decode cL_files 433 = .ok (.iconst 1, 1) := by decide +kernel
theorem dL_files_434 : decode cL_files 434 = .ok (.iadd, 1) := by decide +kernel
theorem dL_files_435 : decode cL_files 435 = .ok (.invokestatic 72, 3) := by decide +kernel
theorem dL_files_438 : decode cL_files 438 = .ok (.istore 9, 2) := by decide +kernel
theorem dL_files_440 : decode cL_files 440 = .ok (.iload_n 3, 1) := by decide +kernel
theorem dL_files_441 : decode cL_files 441 = .ok (.ifCond .lt 47, 3) := by decide +kernel
theorem dL_files_444 : decode cL_files 444 = .ok (.iload 9, 2) := by decide +kernel
theorem dL_files_446 : decode cL_files 446 = .ok (.aload_n 0, 1) := by decide +kernel
theorem dL_files_447 : decode cL_files 447 = .ok (.invokevirtual 26, 3) := by decide +kernel
theorem dL_files_450 : decode cL_files 450 = .ok (.if_icmp .ge 38, 3) := by decide +kernel
theorem dL_files_453 : decode cL_files 453 = .ok (.iload 5, 2) := by decide +kernel
theorem dL_files_455 : decode cL_files 455 = .ok (.ifCond .ne 33, 3) := by decide +kernel
theorem dL_files_458 : decode cL_files 458 = .ok (.aload_n 0, 1) := by decide +kernel
theorem dL_files_459 : decode cL_files 459 = .ok (.iload 9, 2) := by decide +kernel
theorem dL_files_461 : decode cL_files 461 = .ok (.bipush 6, 2) := by decide +kernel
theorem dL_files_463 : decode cL_files 463 = .ok (.invokevirtual 29, 3) := by decide +kernel
theorem dL_files_466 : decode cL_files 466 = .ok (.iconst 1, 1) := by decide +kernel
theorem dL_files_467 : decode cL_files 467 = .ok (.if_icmp .ne 21, 3) := by decide +kernel
theorem dL_files_470 : decode cL_files 470 = .ok (.aload_n 0, 1) := by decide +kernel
theorem dL_files_471 : decode cL_files 471 = .ok (.iload 9, 2) := by decide +kernel
theorem dL_files_473 : decode cL_files 473 = .ok (.iload 4, 2) := by decide +kernel
theorem dL_files_475 : decode cL_files 475 = .ok (.iconst 0, 1) := by decide +kernel
theorem dL_files_476 : decode cL_files 476 = .ok (.invokevirtual 33, 3) := by decide +kernel
theorem dL_files_479 : decode cL_files 479 = .ok (.bipush (-6), 2) := by decide +kernel
theorem dL_files_481 : decode cL_files 481 = .ok (.if_icmp .eq 7, 3) := by decide +kernel
theorem dL_files_484 : decode cL_files 484 = .ok (.iconst 1, 1) := by decide +kernel
theorem dL_files_485 : decode cL_files 485 = .ok (.goto 4, 3) := by decide +kernel
theorem dL_files_488 : decode cL_files 488 = .ok (.iconst 0, 1) := by decide +kernel
theorem dL_files_489 : decode cL_files 489 = .ok (.istore 10, 2) := by decide +kernel
theorem dL_files_491 : decode cL_files 491 = .ok (.aload_n 0, 1) := by decide +kernel
theorem dL_files_492 : decode cL_files 492 = .ok (.iload 4, 2) := by decide +kernel
theorem dL_files_494 : decode cL_files 494 = .ok (.iload 9, 2) := by decide +kernel
theorem dL_files_496 : decode cL_files 496 = .ok (.invokevirtual 125, 3) := by decide +kernel
theorem dL_files_499 : decode cL_files 499 = .ok (.istore 11, 2) := by decide +kernel
theorem dL_files_501 : decode cL_files 501 = .ok (.iload 11, 2) := by decide +kernel
theorem dL_files_503 : decode cL_files 503 = .ok (.iload 5, 2) := by decide +kernel
theorem dL_files_505 : decode cL_files 505 = .ok (.ifCond .ne 12, 3) := by decide +kernel
theorem dL_files_508 : decode cL_files 508 = .ok (.iload 9, 2) := by decide +kernel
theorem dL_files_510 : decode cL_files 510 = .ok (.aload_n 0, 1) := by decide +kernel
theorem dL_files_511 : decode cL_files 511 = .ok (.invokevirtual 26, 3) := by decide +kernel
theorem dL_files_514 : decode cL_files 514 = .ok (.if_icmp .ne 7, 3) := by decide +kernel
theorem dL_files_517 : decode cL_files 517 = .ok (.iconst (-1), 1) := by decide +kernel
theorem dL_files_518 : decode cL_files 518 = .ok (.goto 22, 3) := by decide +kernel
theorem dL_files_521 : decode cL_files 521 = .ok (.iload 10, 2) := by decide +kernel
theorem dL_files_523 : decode cL_files 523 = .ok (.ifCond .ne 8, 3) := by decide +kernel
theorem dL_files_526 : decode cL_files 526 = .ok (.bipush (-5), 2) := by decide +kernel
theorem dL_files_528 : decode cL_files 528 = .ok (.goto 12, 3) := by decide +kernel
theorem dL_files_531 : decode cL_files 531 = .ok (.aload_n 0, 1) := by decide +kernel
theorem dL_files_532 : decode cL_files 532 = .ok (.iload 9, 2) := by decide +kernel
theorem dL_files_534 : decode cL_files 534 = .ok (.iload 4, 2) := by decide +kernel
theorem dL_files_536 : decode cL_files 536 = .ok (.iconst 0, 1) := by decide +kernel
theorem dL_files_537 : decode cL_files 537 = .ok (.invokevirtual 33, 3) := by decide +kernel
theorem dL_files_540 : decode cL_files 540 = .ok (.if_icmp .ne 67, 3) := by decide +kernel
theorem dL_files_543 : decode cL_files 543 = .ok (.iload 11, 2) := by decide +kernel
theorem dL_files_545 : decode cL_files 545 = .ok (.ifCond .lt 58, 3) := by decide +kernel
theorem dL_files_548 : decode cL_files 548 = .ok (.aload_n 0, 1) := by decide +kernel
theorem dL_files_549 : decode cL_files 549 = .ok (.iload_n 3, 1) := by decide +kernel
theorem dL_files_550 : decode cL_files 550 = .ok (.iload 4, 2) := by decide +kernel
theorem dL_files_552 : decode cL_files 552 = .ok (.iconst 0, 1) := by decide +kernel
theorem dL_files_553 : decode cL_files 553 = .ok (.invokevirtual 33, 3) := by decide +kernel
theorem dL_files_556 : decode cL_files 556 = .ok (.iload 11, 2) := by decide +kernel
theorem dL_files_558 : decode cL_files 558 = .ok (.if_icmp .ne 49, 3) := by decide +kernel
theorem dL_files_561 : decode cL_files 561 = .ok (.aload_n 0, 1) := by decide +kernel
theorem dL_files_562 : decode cL_files 562 = .ok (.iload_n 3, 1) := by decide +kernel
theorem dL_files_563 : decode cL_files 563 = .ok (.iload 4, 2) := by decide +kernel
theorem dL_files_565 : decode cL_files 565 = .ok (.iconst 1, 1) := by decide +kernel
theorem dL_files_566 : decode cL_files 566 = .ok (.invokevirtual 33, 3) := by decide +kernel
theorem dL_files_569 : decode cL_files 569 = .ok (.aload_n 0, 1) := by decide +kernel
theorem dL_files_570 : decode cL_files 570 = .ok (.iload 9, 2) := by decide +kernel
theorem dL_files_572 : decode cL_files 572 = .ok (.iload 4, 2) := by decide +kernel
theorem dL_files_574 : decode cL_files 574 = .ok (.iconst 1, 1) := by decide +kernel
theorem dL_files_575 : decode cL_files 575 = .ok (.invokevirtual 33, 3) := by decide +kernel
theorem dL_files_578 : decode cL_files 578 = .ok (.if_icmp .ne 29, 3) := by decide +kernel
theorem dL_files_581 : decode cL_files 581 = .ok (.aload_n 0, 1) := by decide +kernel
theorem dL_files_582 : decode cL_files 582 = .ok (.iload_n 3, 1) := by decide +kernel
theorem dL_files_583 : decode cL_files 583 = .ok (.iconst 5, 1) := by decide +kernel
theorem dL_files_584 : decode cL_files 584 = .ok (.invokevirtual 29, 3) := by decide +kernel
theorem dL_files_587 : decode cL_files 587 = .ok (.iload 8, 2) := by decide +kernel
theorem dL_files_589 : decode cL_files 589 = .ok (.iload 7, 2) := by decide +kernel
theorem dL_files_591 : decode cL_files 591 = .ok (.ifCond .eq 7, 3) := by decide +kernel
theorem dL_files_594 : decode cL_files 594 = .ok (.iconst 0, 1) := by decide +kernel
theorem dL_files_595 : decode cL_files 595 = .ok (.goto 4, 3) := by decide +kernel
theorem dL_files_598 : decode cL_files 598 = .ok (.iconst 1, 1) := by decide +kernel
theorem dL_files_599 : decode cL_files 599 = .ok (.iadd, 1) := by decide +kernel
theorem dL_files_600 : decode cL_files 600 = .ok (.if_icmp .ne 7, 3) := by decide +kernel
theorem dL_files_603 : decode cL_files 603 = .ok (.iconst 1, 1) := by decide +kernel
theorem dL_files_604 : decode cL_files 604 = .ok (.goto 4, 3) := by decide +kernel
theorem dL_files_607 : decode cL_files 607 = .ok (.iconst 0, 1) := by decide +kernel
theorem dL_files_608 : decode cL_files 608 = .ok (.ireturn, 1) := by decide +kernel
theorem dL_acts_0 : decode cL_acts 0 = .ok (.iload_n 1, 1) := by decide +kernel
theorem dL_acts_1 : decode cL_acts 1 = .ok (.bipush 30, 2) := by decide +kernel
theorem dL_acts_3 : decode cL_acts 3 = .ok (.invokestatic 72, 3) := by decide +kernel
theorem dL_acts_6 : decode cL_acts 6 = .ok (.istore_n 3, 1) := by decide +kernel
theorem dL_acts_7 : decode cL_acts 7 = .ok (.aload_n 0, 1) := by decide +kernel
theorem dL_acts_8 : decode cL_acts 8 = .ok (.invokestatic 68, 3) := by decide +kernel
theorem dL_acts_11 : decode cL_acts 11 = .ok (.istore 4, 2) := by decide +kernel
theorem dL_acts_13 : decode cL_acts 13 = .ok (.aload_n 0, 1) := by decide +kernel
theorem dL_acts_14 : decode cL_acts 14 = .ok (.invokevirtual 26, 3) := by decide +kernel
theorem dL_acts_17 : decode cL_acts 17 = .ok (.istore 5, 2) := by decide +kernel
theorem dL_acts_19 : decode cL_acts 19 = .ok (.aload_n 0, 1) := by decide +kernel
theorem dL_acts_20 : decode cL_acts 20 = .ok (.invokevirtual 13, 3) := by decide +kernel
theorem dL_acts_23 : decode cL_acts 23 = .ok (.istore 6, 2) := by decide +kernel
theorem dL_acts_25 : decode cL_acts 25 = .ok (.aload_n 0, 1) := by decide +kernel
theorem dL_acts_26 : decode cL_acts 26 = .ok (.invokevirtual 55, 3) := by decide +kernel
theorem dL_acts_29 : decode cL_acts 29 = .ok (.istore 7, 2) := by decide +kernel
theorem dL_acts_31 : decode cL_acts 31 = .ok (.iload_n 3, 1) := by decide +kernel
theorem dL_acts_32 : decode cL_acts 32 = .ok (.iconst 5, 1) := by decide +kernel
theorem dL_acts_33 : decode cL_acts 33 = .ok (.if_icmp .ge 242, 3) := by decide +kernel
theorem dL_acts_36 : decode cL_acts 36 = .ok (.iload_n 2, 1) := by decide +kernel
theorem dL_acts_37 : decode cL_acts 37 = .ok (.iload_n 2, 1) := by decide +kernel
theorem dL_acts_38 : decode cL_acts 38 = .ok (.bipush 9, 2) := by decide +kernel
theorem dL_acts_40 : decode cL_acts 40 = .ok (.ishr, 1) := by decide +kernel
theorem dL_acts_41 : decode cL_acts 41 = .ok (.bipush 7, 2) := by decide +kernel
theorem dL_acts_43 : decode cL_acts 43 = .ok (.invokestatic 72, 3) := by decide +kernel
theorem dL_acts_46 : decode cL_acts 46 = .ok (.ifCond .ne 7, 3) := by decide +kernel
theorem dL_acts_49 : decode cL_acts 49 = .ok (.iconst 3, 1) := by decide +kernel
theorem dL_acts_50 : decode cL_acts 50 = .ok (.goto 4, 3) := by decide +kernel
theorem dL_acts_53 : decode cL_acts 53 = .ok (.iconst 2, 1) := by decide +kernel
theorem dL_acts_54 : decode cL_acts 54 = .ok (.invokestatic 72, 3) := by decide +kernel
theorem dL_acts_57 : decode cL_acts 57 = .ok (.istore 8, 2) := by decide +kernel
theorem dL_acts_59 : decode cL_acts 59 = .ok (.iload 5, 2) := by decide +kernel
theorem dL_acts_61 : decode cL_acts 61 = .ok (.bipush 12, 2) := by decide +kernel
theorem dL_acts_63 : decode cL_acts 63 = .ok (.if_icmp .ge 27, 3) := by decide +kernel
theorem dL_acts_66 : decode cL_acts 66 = .ok (.iload 6, 2) := by decide +kernel
theorem dL_acts_68 : decode cL_acts 68 = .ok (.aload_n 0, 1) := by decide +kernel
theorem dL_acts_69 : decode cL_acts 69 = .ok (.iconst 0, 1) := by decide +kernel
theorem dL_acts_70 : decode cL_acts 70 = .ok (.invokevirtual 19, 3) := by decide +kernel
theorem dL_acts_73 : decode cL_acts 73 = .ok (.iadd, 1) := by decide +kernel
theorem dL_acts_74 : decode cL_acts 74 = .ok (.aload_n 0, 1) := by decide +kernel
theorem dL_acts_75 : decode cL_acts 75 = .ok (.iconst 1, 1) := by decide +kernel
theorem dL_acts_76 : decode cL_acts 76 = .ok (.invokevirtual 19, 3) := by decide +kernel
theorem dL_acts_79 : decode cL_acts 79 = .ok (.iadd, 1) := by decide +kernel
theorem dL_acts_80 : decode cL_acts 80 = .ok (.sipush 240, 3) := by decide +kernel
theorem dL_acts_83 : decode cL_acts 83 = .ok (.if_icmp .gt 7, 3) := by decide +kernel
theorem dL_acts_86 : decode cL_acts 86 = .ok (.iconst 1, 1) := by decide +kernel
theorem dL_acts_87 : decode cL_acts 87 = .ok (.goto 4, 3) := by decide +kernel
theorem dL_acts_90 : decode cL_acts 90 = .ok (.iconst 0, 1) := by decide +kernel
theorem dL_acts_91 : decode cL_acts 91 = .ok (.istore 9, 2) := by decide +kernel
theorem dL_acts_93 : decode cL_acts 93 = .ok (.iload 8, 2) := by decide +kernel
theorem dL_acts_95 : decode cL_acts 95 = .ok (.iconst 1, 1) := by decide +kernel
theorem dL_acts_96 : decode cL_acts 96 = .ok (.if_icmp .ne 20, 3) := by decide +kernel
theorem dL_acts_99 : decode cL_acts 99 = .ok (.iload 7, 2) := by decide +kernel
theorem dL_acts_101 : decode cL_acts 101 = .ok (.bipush (-6), 2) := by decide +kernel
theorem dL_acts_103 : decode cL_acts 103 = .ok (.if_icmp .eq 13, 3) := by decide +kernel
theorem dL_acts_106 : decode cL_acts 106 = .ok (.aload_n 0, 1) := by decide +kernel
theorem dL_acts_107 : decode cL_acts 107 = .ok (.iload 7, 2) := by decide +kernel
theorem dL_acts_109 : decode cL_acts 109 = .ok (.iconst 5, 1) := by decide +kernel
theorem dL_acts_110 : decode cL_acts 110 = .ok (.invokevirtual 29, 3) := by decide +kernel
theorem dL_acts_113 : decode cL_acts 113 = .ok (.goto 4, 3) := by decide +kernel
theorem dL_acts_116 : decode cL_acts 116 = .ok (.iconst 0, 1) := by decide +kernel
theorem dL_acts_117 : decode cL_acts 117 = .ok (.istore 10, 2) := by decide +kernel
theorem dL_acts_119 : decode cL_acts 119 = .ok (.aload_n 0, 1) := by decide +kernel
theorem dL_acts_120 : decode cL_acts 120 = .ok (.iload 8, 2) := by decide +kernel
theorem dL_acts_122 : decode cL_acts 122 = .ok (.invokevirtual 128, 3) := by decide +kernel
theorem dL_acts_125 : decode cL_acts 125 = .ok (.istore 11, 2) := by decide +kernel
theorem dL_acts_127 : decode cL_acts 127 = .ok (.iload 11, 2) := by decide +kernel
theorem dL_acts_129 : decode cL_acts 129 = .ok (.iload 8, 2) := by decide +kernel
theorem dL_acts_131 : decode cL_acts 131 = .ok (.iconst 2, 1) := by decide +kernel
theorem dL_acts_132 : decode cL_acts 132 = .ok (.if_icmp .ne 8, 3) := by decide +kernel
theorem dL_acts_135 : decode cL_acts 135 = .ok (.bipush (-2), 2) := by decide +kernel
theorem dL_acts_137 : decode cL_acts 137 = .ok (.goto 25, 3) := by decide +kernel
theorem dL_acts_140 : decode cL_acts 140 = .ok (.iload 4, 2) := by decide +kernel
theorem dL_acts_142 : decode cL_acts 142 = .ok (.ifCond .lt 8, 3) := by decide +kernel
theorem dL_acts_145 : decode cL_acts 145 = .ok (.bipush (-5), 2) := by decide +kernel
theorem dL_acts_147 : decode cL_acts 147 = .ok (.goto 15, 3) := by decide +kernel
theorem dL_acts_150 : decode cL_acts 150 = .ok (.iload 9, 2) := by decide +kernel
theorem dL_acts_152 : decode cL_acts 152 = .ok (.ifCond .ne 8, 3) := by decide +kernel
theorem dL_acts_155 : decode cL_acts 155 = .ok (.bipush (-4), 2) := by decide +kernel
theorem dL_acts_157 : decode cL_acts 157 = .ok (.goto 5, 3) := by decide +kernel
theorem dL_acts_160 : decode cL_acts 160 = .ok (.iload 5, 2) := by decide +kernel
theorem dL_acts_162 : decode cL_acts 162 = .ok (.if_icmp .ne 111, 3) := by decide +kernel
theorem dL_acts_165 : decode cL_acts 165 = .ok (.iload 11, 2) := by decide +kernel
theorem dL_acts_167 : decode cL_acts 167 = .ok (.ifCond .lt 102, 3) := by decide +kernel
theorem dL_acts_170 : decode cL_acts 170 = .ok (.aload_n 0, 1) := by decide +kernel
theorem dL_acts_171 : decode cL_acts 171 = .ok (.iload 11, 2) := by decide +kernel
theorem dL_acts_173 : decode cL_acts 173 = .ok (.iconst 0, 1) := by decide +kernel
theorem dL_acts_174 : decode cL_acts 174 = .ok (.invokevirtual 29, 3) := by decide +kernel
theorem dL_acts_177 : decode cL_acts 177 = .ok (.ifCond .ne 96, 3) := by decide +kernel
theorem dL_acts_180 : decode cL_acts 180 = .ok (.aload_n 0, 1) := by decide +kernel
theorem dL_acts_181 : decode cL_acts 181 = .ok (.iload 11, 2) := by decide +kernel
theorem dL_acts_183 : decode cL_acts 183 = .ok (.iconst 1, 1) := by decide +kernel
theorem dL_acts_184 : decode cL_acts 184 = .ok (.invokevirtual 29, 3) := by decide +kernel
theorem dL_acts_187 : decode cL_acts 187 = .ok (.iload 6, 2) := by decide +kernel
theorem dL_acts_189 : decode cL_acts 189 = .ok (.if_icmp .ne 84, 3) := by decide +kernel
theorem dL_acts_192 : decode cL_acts 192 = .ok (.aload_n 0, 1) := by decide +kernel
theorem dL_acts_193 : decode cL_acts 193 = .ok (.iload 11, 2) := by decide +kernel
theorem dL_acts_195 : decode cL_acts 195 = .ok (.iconst 2, 1) := by decide +kernel
theorem dL_acts_196 : decode cL_acts 196 = .ok (.invokevirtual 29, 3) := by decide +kernel
theorem dL_acts_199 : decode cL_acts 199 = .ok (.aload_n 0, 1) := by decide +kernel
theorem dL_acts_200 : decode cL_acts 200 = .ok (.iconst 0, 1) := by decide +kernel
theorem dL_acts_201 : decode cL_acts 201 = .ok (.invokevirtual 19, 3) := by decide +kernel
theorem dL_acts_204 : decode cL_acts 204 = .ok (.if_icmp .ne 69, 3) := by decide +kernel
theorem dL_acts_207 : decode cL_acts 207 = .ok (.aload_n 0, 1) := by decide +kernel
theorem dL_acts_208 : decode cL_acts 208 = .ok (.iload 11, 2) := by decide +kernel
theorem dL_acts_210 : decode cL_acts 210 = .ok (.iconst 3, 1) := by decide +kernel
theorem dL_acts_211 : decode cL_acts 211 = .ok (.invokevirtual 29, 3) := by decide +kernel
theorem dL_acts_214 : decode cL_acts 214 = .ok (.aload_n 0, 1) := by decide +kernel
theorem dL_acts_215 : decode cL_acts 215 = .ok (.iconst 0, 1) := by decide +kernel
theorem dL_acts_216 : decode cL_acts 216 = .ok (.invokevirtual 19, 3) := by decide +kernel
theorem dL_acts_219 : decode cL_acts 219 = .ok (.if_icmp .ne 54, 3) := by decide +kernel
theorem dL_acts_222 : decode cL_acts 222 = .ok (.aload_n 0, 1) := by decide +kernel
theorem dL_acts_223 : decode cL_acts 223 = .ok (.iload 11, 2) := by decide +kernel
theorem dL_acts_225 : decode cL_acts 225 = .ok (.iconst 4, 1) := by decide +kernel
theorem dL_acts_226 : decode cL_acts 226 = .ok (.invokevirtual 29, 3) := by decide +kernel
theorem dL_acts_229 : decode cL_acts 229 = .ok (.aload_n 0, 1) := by decide +kernel
theorem dL_acts_230 : decode cL_acts 230 = .ok (.iconst 1, 1) := by decide +kernel
theorem dL_acts_231 : decode cL_acts 231 = .ok (.invokevirtual 19, 3) := by decide +kernel
theorem dL_acts_234 : decode cL_acts 234 = .ok (.if_icmp .ne 39, 3) := by decide +kernel
theorem dL_acts_237 : decode cL_acts 237 = .ok (.aload_n 0, 1) := by decide +kernel
theorem dL_acts_238 : decode cL_acts 238 = .ok (.iload 11, 2) := by decide +kernel
theorem dL_acts_240 : decode cL_acts 240 = .ok (.iconst 5, 1) := by decide +kernel
theorem dL_acts_241 : decode cL_acts 241 = .ok (.invokevirtual 29, 3) := by decide +kernel
theorem dL_acts_244 : decode cL_acts 244 = .ok (.iload 10, 2) := by decide +kernel
theorem dL_acts_246 : decode cL_acts 246 = .ok (.if_icmp .ne 27, 3) := by decide +kernel
theorem dL_acts_249 : decode cL_acts 249 = .ok (.aload_n 0, 1) := by decide +kernel
theorem dL_acts_250 : decode cL_acts 250 = .ok (.iload 11, 2) := by decide +kernel
theorem dL_acts_252 : decode cL_acts 252 = .ok (.bipush 7, 2) := by decide +kernel
theorem dL_acts_254 : decode cL_acts 254 = .ok (.invokevirtual 29, 3) := by decide +kernel
theorem dL_acts_257 : decode cL_acts 257 = .ok (.ifCond .ne 16, 3) := by decide +kernel
theorem dL_acts_260 : decode cL_acts 260 = .ok (.aload_n 0, 1) := by decide +kernel
theorem dL_acts_261 : decode cL_acts 261 = .ok (.invokevirtual 55, 3) := by decide +kernel
theorem dL_acts_264 : decode cL_acts 264 = .ok (.iload 7, 2) := by decide +kernel
theorem dL_acts_266 : decode cL_acts 266 = .ok (.if_icmp .ne 7, 3) := by decide +kernel
theorem dL_acts_269 : decode cL_acts 269 = .ok (.iconst 1, 1) := by decide +kernel
theorem dL_acts_270 : decode cL_acts 270 = .ok (.goto 4, 3) := by decide +kernel
theorem dL_acts_273 : decode cL_acts 273 = .ok (.iconst 0, 1) := by decide +kernel
theorem dL_acts_274 : decode cL_acts 274 = .ok (.ireturn, 1) := by decide +kernel
theorem dL_acts_275 : decode cL_acts 275 = .ok (.iload_n 3, 1) := by decide +kernel
theorem dL_acts_276 : decode cL_acts 276 = .ok (.bipush 17, 2) := by decide +kernel
theorem dL_acts_278 : decode cL_acts 278 = .ok (.if_icmp .ge 30, 3) := by decide +kernel
theorem dL_acts_281 : decode cL_acts 281 = .ok (.aload_n 0, 1) := by decide +kernel
theorem dL_acts_282 : decode cL_acts 282 = .ok (.iload_n 3, 1) := by decide +kernel
theorem dL_acts_283 : decode cL_acts 283 = .ok (.bipush 12, 2) := by decide +kernel
theorem dL_acts_285 : decode cL_acts 285 = .ok (.if_icmp .ge 7, 3) := by decide +kernel
theorem dL_acts_288 : decode cL_acts 288 = .ok (.iconst 0, 1) := by decide +kernel
theorem dL_acts_289 : decode cL_acts 289 = .ok (.goto 14, 3) := by decide +kernel
theorem dL_acts_292 : decode cL_acts 292 = .ok (.iload_n 3, 1) := by decide +kernel
theorem dL_acts_293 : decode cL_acts 293 = .ok (.bipush 14, 2) := by decide +kernel
theorem dL_acts_295 : decode cL_acts 295 = .ok (.if_icmp .ge 7, 3) := by decide +kernel
theorem dL_acts_298 : decode cL_acts 298 = .ok (.iconst 1, 1) := by decide +kernel
theorem dL_acts_299 : decode cL_acts 299 = .ok (.goto 4, 3) := by decide +kernel
theorem dL_acts_302 : decode cL_acts 302 = .ok (.iconst 2, 1) := by decide +kernel
theorem dL_acts_303 : decode cL_acts 303 = .ok (.iload_n 2, 1) := by decide +kernel
theorem dL_acts_304 : decode cL_acts 304 = .ok (.invokestatic 131, 3) := by decide +kernel
theorem dL_acts_307 : decode cL_acts 307 = .ok (.ireturn, 1) := by decide +kernel
theorem dL_acts_308 : decode cL_acts 308 = .ok (.iload_n 3, 1) := by decide +kernel
theorem dL_acts_309 : decode cL_acts 309 = .ok (.bipush 20, 2) := by decide +kernel
theorem dL_acts_311 : decode cL_acts 311 = .ok (.if_icmp .ge 103, 3) := by decide +kernel
theorem dL_acts_314 : decode cL_acts 314 = .ok (.iload 4, 2) := by decide +kernel
theorem dL_acts_316 : decode cL_acts 316 = .ok (.ifCond .ge 7, 3) := by decide +kernel
theorem dL_acts_319 : decode cL_acts 319 = .ok (.iconst 0, 1) := by decide +kernel
theorem dL_acts_320 : decode cL_acts 320 = .ok (.goto 10, 3) := by decide +kernel
theorem dL_acts_323 : decode cL_acts 323 = .ok (.aload_n 0, 1) := by decide +kernel
theorem dL_acts_324 : decode cL_acts 324 = .ok (.iload 4, 2) := by decide +kernel
theorem dL_acts_326 : decode cL_acts 326 = .ok (.iconst 4, 1) := by decide +kernel
theorem dL_acts_327 : decode cL_acts 327 = .ok (.invokevirtual 29, 3) := by decide +kernel
theorem dL_acts_330 : decode cL_acts 330 = .ok (.istore 8, 2) := by decide +kernel
theorem dL_acts_332 : decode cL_acts 332 = .ok (.aload_n 0, 1) := by decide +kernel
theorem dL_acts_333 : decode cL_acts 333 = .ok (.invokevirtual 134, 3) := by decide +kernel
theorem dL_acts_336 : decode cL_acts 336 = .ok (.istore 9, 2) := by decide +kernel
theorem dL_acts_338 : decode cL_acts 338 = .ok (.iload 9, 2) := by decide +kernel
theorem dL_acts_340 : decode cL_acts 340 = .ok (.iload 4, 2) := by decide +kernel
theorem dL_acts_342 : decode cL_acts 342 = .ok (.ifCond .ge 8, 3) := by decide +kernel
theorem dL_acts_345 : decode cL_acts 345 = .ok (.bipush (-5), 2) := by decide +kernel
theorem dL_acts_347 : decode cL_acts 347 = .ok (.goto 8, 3) := by decide +kernel
theorem dL_acts_350 : decode cL_acts 350 = .ok (.iload 6, 2) := by decide +kernel
theorem dL_acts_352 : decode cL_acts 352 = .ok (.iload 8, 2) := by decide +kernel
theorem dL_acts_354 : decode cL_acts 354 = .ok (.iadd, 1) := by decide +kernel
theorem dL_acts_355 : decode cL_acts 355 = .ok (.if_icmp .ne 57, 3) := by decide +kernel
theorem dL_acts_358 : decode cL_acts 358 = .ok (.iload 4, 2) := by decide +kernel
theorem dL_acts_360 : decode cL_acts 360 = .ok (.ifCond .lt 48, 3) := by decide +kernel
theorem dL_acts_363 : decode cL_acts 363 = .ok (.aload_n 0, 1) := by decide +kernel
theorem dL_acts_364 : decode cL_acts 364 = .ok (.iload 4, 2) := by decide +kernel
theorem dL_acts_366 : decode cL_acts 366 = .ok (.iconst 0, 1) := by decide +kernel
theorem dL_acts_367 : decode cL_acts 367 = .ok (.invokevirtual 29, 3) := by decide +kernel
theorem dL_acts_370 : decode cL_acts 370 = .ok (.iconst 1, 1) := by decide +kernel
theorem dL_acts_371 : decode cL_acts 371 = .ok (.if_icmp .ne 41, 3) := by decide +kernel
theorem dL_acts_374 : decode cL_acts 374 = .ok (.aload_n 0, 1) := by decide +kernel
theorem dL_acts_375 : decode cL_acts 375 = .ok (.invokevirtual 55, 3) := by decide +kernel
theorem dL_acts_378 : decode cL_acts 378 = .ok (.iload 4, 2) := by decide +kernel
theorem dL_acts_380 : decode cL_acts 380 = .ok (.if_icmp .ne 7, 3) := by decide +kernel
theorem dL_acts_383 : decode cL_acts 383 = .ok (.iconst 1, 1) := by decide +kernel
theorem dL_acts_384 : decode cL_acts 384 = .ok (.goto 4, 3) := by decide +kernel
theorem dL_acts_387 : decode cL_acts 387 = .ok (.iconst 0, 1) := by decide +kernel
theorem dL_acts_388 : decode cL_acts 388 = .ok (.aload_n 0, 1) := by decide +kernel
theorem dL_acts_389 : decode cL_acts 389 = .ok (.iload 4, 2) := by decide +kernel
theorem dL_acts_391 : decode cL_acts 391 = .ok (.bipush 6, 2) := by decide +kernel
theorem dL_acts_393 : decode cL_acts 393 = .ok (.invokevirtual 29, 3) := by decide +kernel
theorem dL_acts_396 : decode cL_acts 396 = .ok (.iconst 1, 1) := by decide +kernel
theorem dL_acts_397 : decode cL_acts 397 = .ok (.if_icmp .ne 7, 3) := by decide +kernel
theorem dL_acts_400 : decode cL_acts 400 = .ok (.iconst 1, 1) := by decide +kernel
theorem dL_acts_401 : decode cL_acts 401 = .ok (.goto 4, 3) := by decide +kernel
theorem dL_acts_404 : decode cL_acts 404 = .ok (.iconst 0, 1) := by decide +kernel
theorem dL_acts_405 : decode cL_acts 405 = .ok (.if_icmp .ne 7, 3) := by decide +kernel
theorem dL_acts_408 : decode cL_acts 408 = .ok (.iconst 1, 1) := by decide +kernel
theorem dL_acts_409 : decode cL_acts 409 = .ok (.goto 4, 3) := by decide +kernel
theorem dL_acts_412 : decode cL_acts 412 = .ok (.iconst 0, 1) := by decide +kernel
theorem dL_acts_413 : decode cL_acts 413 = .ok (.ireturn, 1) := by decide +kernel
theorem dL_acts_414 : decode cL_acts 414 = .ok (.iload_n 3, 1) := by decide +kernel
theorem dL_acts_415 : decode cL_acts 415 = .ok (.bipush 20, 2) := by decide +kernel
theorem dL_acts_417 : decode cL_acts 417 = .ok (.if_icmp .ne 60, 3) := by decide +kernel
theorem dL_acts_420 : decode cL_acts 420 = .ok (.aload_n 0, 1) := by decide +kernel
theorem dL_acts_421 : decode cL_acts 421 = .ok (.invokevirtual 137, 3) := by decide +kernel
theorem dL_acts_424 : decode cL_acts 424 = .ok (.iload 4, 2) := by decide +kernel
theorem dL_acts_426 : decode cL_acts 426 = .ok (.ifCond .ge 7, 3) := by decide +kernel
theorem dL_acts_429 : decode cL_acts 429 = .ok (.iconst 0, 1) := by decide +kernel
theorem dL_acts_430 : decode cL_acts 430 = .ok (.goto 4, 3) := by decide +kernel
theorem dL_acts_433 : decode cL_acts 433 = .ok (.iconst 1, 1) := by decide +kernel
theorem dL_acts_434 : decode cL_acts 434 = .ok (.if_icmp .ne 41, 3) := by decide +kernel
theorem dL_acts_437 : decode cL_acts 437 = .ok (.iload 4, 2) := by decide +kernel
theorem dL_acts_439 : decode cL_acts 439 = .ok (.ifCond .lt 14, 3) := by decide +kernel
theorem dL_acts_442 : decode cL_acts 442 = .ok (.aload_n 0, 1) := by decide +kernel
theorem dL_acts_443 : decode cL_acts 443 = .ok (.iload 4, 2) := by decide +kernel
theorem dL_acts_445 : decode cL_acts 445 = .ok (.iconst 0, 1) := by decide +kernel
theorem dL_acts_446 : decode cL_acts 446 = .ok (.invokevirtual 29, 3) := by decide +kernel
theorem dL_acts_449 : decode cL_acts 449 = .ok (.iconst 2, 1) := by decide +kernel
theorem dL_acts_450 : decode cL_acts 450 = .ok (.if_icmp .ne 25, 3) := by decide +kernel
theorem dL_acts_453 : decode cL_acts 453 = .ok (.aload_n 0, 1) := by decide +kernel
theorem dL_acts_454 : decode cL_acts 454 = .ok (.invokevirtual 13, 3) := by decide +kernel
theorem dL_acts_457 : decode cL_acts 457 = .ok (.iload 6, 2) := by decide +kernel
theorem dL_acts_459 : decode cL_acts 459 = .ok (.if_icmp .ne 16, 3) := by decide +kernel
theorem dL_acts_462 : decode cL_acts 462 = .ok (.aload_n 0, 1) := by decide +kernel
theorem dL_acts_463 : decode cL_acts 463 = .ok (.invokevirtual 55, 3) := by decide +kernel
theorem dL_acts_466 : decode cL_acts 466 = .ok (.iload 7, 2) := by decide +kernel
theorem dL_acts_468 : decode cL_acts 468 = .ok (.if_icmp .ne 7, 3) := by decide +kernel
theorem dL_acts_471 : decode cL_acts 471 = .ok (.iconst 1, 1) := by decide +kernel
theorem dL_acts_472 : decode cL_acts 472 = .ok (.goto 4, 3) := by decide +kernel
theorem dL_acts_475 : decode cL_acts 475 = .ok (.iconst 0, 1) := by decide +kernel
theorem dL_acts_476 : decode cL_acts 476 = .ok (.ireturn, 1) := by decide +kernel
theorem dL_acts_477 : decode cL_acts 477 = .ok (.iload_n 3, 1) := by decide +kernel
theorem dL_acts_478 : decode cL_acts 478 = .ok (.bipush 23, 2) := by decide +kernel
theorem dL_acts_480 : decode cL_acts 480 = .ok (.if_icmp .ge 156, 3) := by decide +kernel
theorem dL_acts_483 : decode cL_acts 483 = .ok (.iload_n 2, 1) := by decide +kernel
theorem dL_acts_484 : decode cL_acts 484 = .ok (.iload 5, 2) := by decide +kernel
theorem dL_acts_486 : decode cL_acts 486 = .ok (.iconst 1, 1) := by decide +kernel
theorem dL_acts_487 : decode cL_acts 487 = .ok (.iadd, 1) := by decide +kernel
theorem dL_acts_488 : decode cL_acts 488 = .ok (.invokestatic 72, 3) := by decide +kernel
theorem dL_acts_491 : decode cL_acts 491 = .ok (.istore 8, 2) := by decide +kernel
theorem dL_acts_493 : decode cL_acts 493 = .ok (.iload 8, 2) := by decide +kernel
theorem dL_acts_495 : decode cL_acts 495 = .ok (.iload 5, 2) := by decide +kernel
theorem dL_acts_497 : decode cL_acts 497 = .ok (.if_icmp .ge 48, 3) := by decide +kernel
theorem dL_acts_500 : decode cL_acts 500 = .ok (.iload 8, 2) := by decide +kernel
theorem dL_acts_502 : decode cL_acts 502 = .ok (.iload 5, 2) := by decide +kernel
theorem dL_acts_504 : decode cL_acts 504 = .ok (.iconst 1, 1) := by decide +kernel
theorem dL_acts_505 : decode cL_acts 505 = .ok (.isub, 1) := by decide +kernel
theorem dL_acts_506 : decode cL_acts 506 = .ok (.if_icmp .ne 39, 3) := by decide +kernel
theorem dL_acts_509 : decode cL_acts 509 = .ok (.aload_n 0, 1) := by decide +kernel
theorem dL_acts_510 : decode cL_acts 510 = .ok (.iload 8, 2) := by decide +kernel
theorem dL_acts_512 : decode cL_acts 512 = .ok (.iconst 0, 1) := by decide +kernel
theorem dL_acts_513 : decode cL_acts 513 = .ok (.invokevirtual 29, 3) := by decide +kernel
theorem dL_acts_516 : decode cL_acts 516 = .ok (.iconst 2, 1) := by decide +kernel
theorem dL_acts_517 : decode cL_acts 517 = .ok (.if_icmp .ne 28, 3) := by decide +kernel
theorem dL_acts_520 : decode cL_acts 520 = .ok (.aload_n 0, 1) := by decide +kernel
theorem dL_acts_521 : decode cL_acts 521 = .ok (.aload_n 0, 1) := by decide +kernel
theorem dL_acts_522 : decode cL_acts 522 = .ok (.iload 8, 2) := by decide +kernel
theorem dL_acts_524 : decode cL_acts 524 = .ok (.iconst 1, 1) := by decide +kernel
theorem dL_acts_525 : decode cL_acts 525 = .ok (.invokevirtual 29, 3) := by decide +kernel
theorem dL_acts_528 : decode cL_acts 528 = .ok (.aload_n 0, 1) := by decide +kernel
theorem dL_acts_529 : decode cL_acts 529 = .ok (.iload 8, 2) := by decide +kernel
theorem dL_acts_531 : decode cL_acts 531 = .ok (.iconst 3, 1) := by decide +kernel
theorem dL_acts_532 : decode cL_acts 532 = .ok (.invokevirtual 29, 3) := by decide +kernel
theorem dL_acts_535 : decode cL_acts 535 = .ok (.invokestatic 42, 3) := by decide +kernel
theorem dL_acts_538 : decode cL_acts 538 = .ok (.ifCond .eq 7, 3) := by decide +kernel
theorem dL_acts_541 : decode cL_acts 541 = .ok (.iconst 1, 1) := by decide +kernel
theorem dL_acts_542 : decode cL_acts 542 = .ok (.goto 4, 3) := by decide +kernel
theorem dL_acts_545 : decode cL_acts 545 = .ok (.iconst 0, 1) := by decide +kernel
theorem dL_acts_546 : decode cL_acts 546 = .ok (.istore 9, 2) := by decide +kernel
theorem dL_acts_548 : decode cL_acts 548 = .ok (.iload 9, 2) := by decide +kernel
theorem dL_acts_550 : decode cL_acts 550 = .ok (.ifCond .eq 13, 3) := by decide +kernel
theorem dL_acts_553 : decode cL_acts 553 = .ok (.aload_n 0, 1) := by decide +kernel
theorem dL_acts_554 : decode cL_acts 554 = .ok (.iload 8, 2) := by decide +kernel
theorem dL_acts_556 : decode cL_acts 556 = .ok (.iconst 4, 1) := by decide +kernel
theorem dL_acts_557 : decode cL_acts 557 = .ok (.invokevirtual 29, 3) := by decide +kernel
theorem dL_acts_560 : decode cL_acts 560 = .ok (.goto 4, 3) := by decide +kernel
theorem dL_acts_563 : decode cL_acts 563 = .ok (.iconst 0, 1) := by decide +kernel
theorem dL_acts_564 : decode cL_acts 564 = .ok (.istore 10, 2) := by decide +kernel
theorem dL_acts_566 : decode cL_acts 566 = .ok (.aload_n 0, 1) := by decide +kernel
theorem dL_acts_567 : decode cL_acts 567 = .ok (.iload 8, 2) := by decide +kernel
theorem dL_acts_569 : decode cL_acts 569 = .ok (.invokevirtual 140, 3) := by decide +kernel
theorem dL_acts_572 : decode cL_acts 572 = .ok (.istore 11, 2) := by decide +kernel
theorem dL_acts_574 : decode cL_acts 574 = .ok (.iload 11, 2) := by decide +kernel
theorem dL_acts_576 : decode cL_acts 576 = .ok (.iload 8, 2) := by decide +kernel
theorem dL_acts_578 : decode cL_acts 578 = .ok (.iload 5, 2) := by decide +kernel
theorem dL_acts_580 : decode cL_acts 580 = .ok (.if_icmp .ne 7, 3) := by decide +kernel
theorem dL_acts_583 : decode cL_acts 583 = .ok (.iconst (-1), 1) := by decide +kernel
theorem dL_acts_584 : decode cL_acts 584 = .ok (.goto 18, 3) := by decide +kernel
theorem dL_acts_587 : decode cL_acts 587 = .ok (.iload 9, 2) := by decide +kernel
theorem dL_acts_589 : decode cL_acts 589 = .ok (.ifCond .eq 11, 3) := by decide +kernel
theorem dL_acts_592 : decode cL_acts 592 = .ok (.iload 6, 2) := by decide +kernel
theorem dL_acts_594 : decode cL_acts 594 = .ok (.iload 10, 2) := by decide +kernel
theorem dL_acts_596 : decode cL_acts 596 = .ok (.iadd, 1) := by decide +kernel
theorem dL_acts_597 : decode cL_acts 597 = .ok (.goto 5, 3) := by decide +kernel
theorem dL_acts_600 : decode cL_acts 600 = .ok (.bipush (-5), 2) := by decide +kernel
theorem dL_acts_602 : decode cL_acts 602 = .ok (.if_icmp .ne 32, 3) := by decide +kernel
theorem dL_acts_605 : decode cL_acts 605 = .ok (.iload 9, 2) := by decide +kernel
theorem dL_acts_607 : decode cL_acts 607 = .ok (.ifCond .eq 23, 3) := by decide +kernel
theorem dL_acts_610 : decode cL_acts 610 = .ok (.aload_n 0, 1) := by decide +kernel
theorem dL_acts_611 : decode cL_acts 611 = .ok (.invokevirtual 55, 3) := by decide +kernel
theorem dL_acts_614 : decode cL_acts 614 = .ok (.iload 8, 2) := by decide +kernel
theorem dL_acts_616 : decode cL_acts 616 = .ok (.if_icmp .ne 18, 3) := by decide +kernel
theorem dL_acts_619 : decode cL_acts 619 = .ok (.aload_n 0, 1) := by decide +kernel
theorem dL_acts_620 : decode cL_acts 620 = .ok (.iload 8, 2) := by decide +kernel
theorem dL_acts_622 : decode cL_acts 622 = .ok (.iconst 0, 1) := by decide +kernel
theorem dL_acts_623 : decode cL_acts 623 = .ok (.invokevirtual 29, 3) := by decide +kernel
theorem dL_acts_626 : decode cL_acts 626 = .ok (.iconst 1, 1) := by decide +kernel
theorem dL_acts_627 : decode cL_acts 627 = .ok (.if_icmp .ne 7, 3) := by decide +kernel
theorem dL_acts_630 : decode cL_acts 630 = .ok (.iconst 1, 1) := by decide +kernel
theorem dL_acts_631 : decode cL_acts 631 = .ok (.goto 4, 3) := by decide +kernel
theorem dL_acts_634 : decode cL_acts 634 = .ok (.iconst 0, 1) := by decide +kernel
theorem dL_acts_635 : decode cL_acts 635 = .ok (.ireturn, 1) := by decide +kernel
theorem dL_acts_636 : decode cL_acts 636 = .ok (.iload_n 3, 1) := by decide +kernel
theorem dL_acts_637 : decode cL_acts 637 = .ok (.bipush 26, 2) := by decide +kernel
theorem dL_acts_639 : decode cL_acts 639 = .ok (.if_icmp .ge 173, 3) := by decide +kernel
theorem dL_acts_642 : decode cL_acts 642 = .ok (.iload_n 2, 1) := by decide +kernel
theorem dL_acts_643 : decode cL_acts 643 = .ok (.iload_n 2, 1) := by decide +kernel
theorem dL_acts_644 : decode cL_acts 644 = .ok (.bipush 12, 2) := by decide +kernel
theorem dL_acts_646 : decode cL_acts 646 = .ok (.ishr, 1) := by decide +kernel
theorem dL_acts_647 : decode cL_acts 647 = .ok (.bipush 6, 2) := by decide +kernel
theorem dL_acts_649 : decode cL_acts 649 = .ok (.invokestatic 72, 3) := by decide +kernel
theorem dL_acts_652 : decode cL_acts 652 = .ok (.ifCond .ne 9, 3) := by decide +kernel
theorem dL_acts_655 : decode cL_acts 655 = .ok (.sipush 241, 3) := by decide +kernel
theorem dL_acts_658 : decode cL_acts 658 = .ok (.goto 27, 3) := by decide +kernel
theorem dL_acts_661 : decode cL_acts 661 = .ok (.iload 6, 2) := by decide +kernel
theorem dL_acts_663 : decode cL_acts 663 = .ok (.ifCond .le 19, 3) := by decide +kernel
theorem dL_acts_666 : decode cL_acts 666 = .ok (.iload_n 2, 1) := by decide +kernel
theorem dL_acts_667 : decode cL_acts 667 = .ok (.bipush 11, 2) := by decide +kernel
theorem dL_acts_669 : decode cL_acts 669 = .ok (.ishr, 1) := by decide +kernel
theorem dL_acts_670 : decode cL_acts 670 = .ok (.iconst 2, 1) := by decide +kernel
theorem dL_acts_671 : decode cL_acts 671 = .ok (.invokestatic 72, 3) := by decide +kernel
theorem dL_acts_674 : decode cL_acts 674 = .ok (.ifCond .ne 8, 3) := by decide +kernel
theorem dL_acts_677 : decode cL_acts 677 = .ok (.iload 6, 2) := by decide +kernel
theorem dL_acts_679 : decode cL_acts 679 = .ok (.goto 6, 3) := by decide +kernel
theorem dL_acts_682 : decode cL_acts 682 = .ok (.sipush 240, 3) := by decide +kernel
theorem dL_acts_685 : decode cL_acts 685 = .ok (.invokestatic 72, 3) := by decide +kernel
theorem dL_acts_688 : decode cL_acts 688 = .ok (.istore 8, 2) := by decide +kernel
theorem dL_acts_690 : decode cL_acts 690 = .ok (.iload 8, 2) := by decide +kernel
theorem dL_acts_692 : decode cL_acts 692 = .ok (.sipush 240, 3) := by decide +kernel
theorem dL_acts_695 : decode cL_acts 695 = .ok (.if_icmp .ne 7, 3) := by decide +kernel
theorem dL_acts_698 : decode cL_acts 698 = .ok (.iconst (-1), 1) := by decide +kernel
theorem dL_acts_699 : decode cL_acts 699 = .ok (.goto 9, 3) := by decide +kernel
theorem dL_acts_702 : decode cL_acts 702 = .ok (.aload_n 0, 1) := by decide +kernel
theorem dL_acts_703 : decode cL_acts 703 = .ok (.iload 8, 2) := by decide +kernel
theorem dL_acts_705 : decode cL_acts 705 = .ok (.invokevirtual 81, 3) := by decide +kernel
theorem dL_acts_708 : decode cL_acts 708 = .ok (.istore 9, 2) := by decide +kernel
theorem dL_acts_710 : decode cL_acts 710 = .ok (.aload_n 0, 1) := by decide +kernel
theorem dL_acts_711 : decode cL_acts 711 = .ok (.invokevirtual 58, 3) := by decide +kernel
theorem dL_acts_714 : decode cL_acts 714 = .ok (.istore 10, 2) := by decide +kernel
theorem dL_acts_716 : decode cL_acts 716 = .ok (.aload_n 0, 1) := by decide +kernel
theorem dL_acts_717 : decode cL_acts 717 = .ok (.iload 8, 2) := by decide +kernel
theorem dL_acts_719 : decode cL_acts 719 = .ok (.invokevirtual 143, 3) := by decide +kernel
theorem dL_acts_722 : decode cL_acts 722 = .ok (.istore 11, 2) := by decide +kernel
theorem dL_acts_724 : decode cL_acts 724 = .ok (.iload 8, 2) := by decide +kernel
theorem dL_acts_726 : decode cL_acts 726 = .ok (.sipush 240, 3) := by decide +kernel
theorem dL_acts_729 : decode cL_acts 729 = .ok (.if_icmp .ne 17, 3) := by decide +kernel
theorem dL_acts_732 : decode cL_acts 732 = .ok (.iload 11, 2) := by decide +kernel
theorem dL_acts_734 : decode cL_acts 734 = .ok (.iconst (-1), 1) := by decide +kernel
theorem dL_acts_735 : decode cL_acts 735 = .ok (.if_icmp .ne 7, 3) := by decide +kernel
theorem dL_acts_738 : decode cL_acts 738 = .ok (.iconst 1, 1) := by decide +kernel
theorem dL_acts_739 : decode cL_acts 739 = .ok (.goto 72, 3) := by decide +kernel
theorem dL_acts_742 : decode cL_acts 742 = .ok (.iconst 0, 1) := by decide +kernel
theorem dL_acts_743 : decode cL_acts 743 = .ok (.goto 68, 3) := by decide +kernel
theorem dL_acts_746 : decode cL_acts 746 = .ok (.iload 11, 2) := by decide +kernel
theorem dL_acts_748 : decode cL_acts 748 = .ok (.iconst 1, 1) := by decide +kernel
theorem dL_acts_749 : decode cL_acts 749 = .ok (.if_icmp .lt 61, 3) := by decide +kernel
theorem dL_acts_752 : decode cL_acts 752 = .ok (.iload 11, 2) := by decide +kernel
theorem dL_acts_754 : decode cL_acts 754 = .ok (.sipush 240, 3) := by decide +kernel
theorem dL_acts_757 : decode cL_acts 757 = .ok (.if_icmp .gt 53, 3) := by decide +kernel
theorem dL_acts_760 : decode cL_acts 760 = .ok (.aload_n 0, 1) := by decide +kernel
theorem dL_acts_761 : decode cL_acts 761 = .ok (.iload 8, 2) := by decide +kernel
theorem dL_acts_763 : decode cL_acts 763 = .ok (.invokevirtual 23, 3) := by decide +kernel
theorem dL_acts_766 : decode cL_acts 766 = .ok (.iconst 1, 1) := by decide +kernel
theorem dL_acts_767 : decode cL_acts 767 = .ok (.if_icmp .ne 43, 3) := by decide +kernel
theorem dL_acts_770 : decode cL_acts 770 = .ok (.aload_n 0, 1) := by decide +kernel
theorem dL_acts_771 : decode cL_acts 771 = .ok (.invokevirtual 55, 3) := by decide +kernel
theorem dL_acts_774 : decode cL_acts 774 = .ok (.iload 9, 2) := by decide +kernel
theorem dL_acts_776 : decode cL_acts 776 = .ok (.if_icmp .ne 34, 3) := by decide +kernel
theorem dL_acts_779 : decode cL_acts 779 = .ok (.iload 9, 2) := by decide +kernel
theorem dL_acts_781 : decode cL_acts 781 = .ok (.iload 7, 2) := by decide +kernel
theorem dL_acts_783 : decode cL_acts 783 = .ok (.if_icmp .ne 23, 3) := by decide +kernel
theorem dL_acts_786 : decode cL_acts 786 = .ok (.aload_n 0, 1) := by decide +kernel
theorem dL_acts_787 : decode cL_acts 787 = .ok (.invokevirtual 58, 3) := by decide +kernel
theorem dL_acts_790 : decode cL_acts 790 = .ok (.iload 10, 2) := by decide +kernel
theorem dL_acts_792 : decode cL_acts 792 = .ok (.if_icmp .gt 18, 3) := by decide +kernel
theorem dL_acts_795 : decode cL_acts 795 = .ok (.aload_n 0, 1) := by decide +kernel
theorem dL_acts_796 : decode cL_acts 796 = .ok (.invokevirtual 58, 3) := by decide +kernel
theorem dL_acts_799 : decode cL_acts 799 = .ok (.iload 10, 2) := by decide +kernel
theorem dL_acts_801 : decode cL_acts 801 = .ok (.iconst 1, 1) := by decide +kernel
theorem dL_acts_802 : decode cL_acts 802 = .ok (.isub, 1) := by decide +kernel
theorem dL_acts_803 : decode cL_acts 803 = .ok (.if_icmp .lt 7, 3) := by decide +kernel
theorem dL_acts_806 : decode cL_acts 806 = .ok (.iconst 1, 1) := by decide +kernel
theorem dL_acts_807 : decode cL_acts 807 = .ok (.goto 4, 3) := by decide +kernel
theorem dL_acts_810 : decode cL_acts 810 = .ok (.iconst 0, 1) := by decide +kernel
theorem dL_acts_811 : decode cL_acts 811 = .ok (.ireturn, 1) := by decide +kernel
theorem dL_acts_812 : decode cL_acts 812 = .ok (.iload_n 3, 1) := by decide +kernel
theorem dL_acts_813 : decode cL_acts 813 = .ok (.bipush 26, 2) := by decide +kernel
theorem dL_acts_815 : decode cL_acts 815 = .ok (.if_icmp .ne 133, 3) := by decide +kernel
theorem dL_acts_818 : decode cL_acts 818 = .ok (.iload_n 2, 1) := by decide +kernel
theorem dL_acts_819 : decode cL_acts 819 = .ok (.iconst 3, 1) := by decide +kernel
theorem dL_acts_820 : decode cL_acts 820 = .ok (.invokestatic 72, 3) := by decide +kernel
theorem dL_acts_823 : decode cL_acts 823 = .ok (.istore 8, 2) := by decide +kernel
theorem dL_acts_825 : decode cL_acts 825 = .ok (.iload_n 2, 1) := by decide +kernel
theorem dL_acts_826 : decode cL_acts 826 = .ok (.iconst 2, 1) := by decide +kernel
theorem dL_acts_827 : decode cL_acts 827 = .ok (.ishr, 1) := by decide +kernel
theorem dL_acts_828 : decode cL_acts 828 = .ok (.bipush 11, 2) := by decide +kernel
theorem dL_acts_830 : decode cL_acts 830 = .ok (.invokestatic 72, 3) := by decide +kernel
theorem dL_acts_833 : decode cL_acts 833 = .ok (.istore 9, 2) := by decide +kernel
theorem dL_acts_835 : decode cL_acts 835 = .ok (.iload 8, 2) := by decide +kernel
theorem dL_acts_837 : decode cL_acts 837 = .ok (.iconst 2, 1) := by decide +kernel
theorem dL_acts_838 : decode cL_acts 838 = .ok (.if_icmp .ne 7, 3) := by decide +kernel
theorem dL_acts_841 : decode cL_acts 841 = .ok (.iconst 0, 1) := by decide +kernel
theorem dL_acts_842 : decode cL_acts 842 = .ok (.goto 9, 3) := by decide +kernel
theorem dL_acts_845 : decode cL_acts 845 = .ok (.aload_n 0, 1) := by decide +kernel
theorem dL_acts_846 : decode cL_acts 846 = .ok (.iload 8, 2) := by decide +kernel
theorem dL_acts_848 : decode cL_acts 848 = .ok (.invokevirtual 19, 3) := by decide +kernel
theorem dL_acts_851 : decode cL_acts 851 = .ok (.istore 10, 2) := by decide +kernel
theorem dL_acts_853 : decode cL_acts 853 = .ok (.iload 9, 2) := by decide +kernel
theorem dL_acts_855 : decode cL_acts 855 = .ok (.iload 8, 2) := by decide +kernel
theorem dL_acts_857 : decode cL_acts 857 = .ok (.ifCond .ne 7, 3) := by decide +kernel
theorem dL_acts_860 : decode cL_acts 860 = .ok (.iconst 2, 1) := by decide +kernel
theorem dL_acts_861 : decode cL_acts 861 = .ok (.goto 4, 3) := by decide +kernel
theorem dL_acts_864 : decode cL_acts 864 = .ok (.iconst 1, 1) := by decide +kernel
theorem dL_acts_865 : decode cL_acts 865 = .ok (.if_icmp .lt 10, 3) := by decide +kernel
theorem dL_acts_868 : decode cL_acts 868 = .ok (.iload 9, 2) := by decide +kernel
theorem dL_acts_870 : decode cL_acts 870 = .ok (.bipush 9, 2) := by decide +kernel
theorem dL_acts_872 : decode cL_acts 872 = .ok (.if_icmp .le 7, 3) := by decide +kernel
theorem dL_acts_875 : decode cL_acts 875 = .ok (.iconst 1, 1) := by decide +kernel
theorem dL_acts_876 : decode cL_acts 876 = .ok (.goto 4, 3) := by decide +kernel
theorem dL_acts_879 : decode cL_acts 879 = .ok (.iconst 0, 1) := by decide +kernel
theorem dL_acts_880 : decode cL_acts 880 = .ok (.istore 11, 2) := by decide +kernel
theorem dL_acts_882 : decode cL_acts 882 = .ok (.aload_n 0, 1) := by decide +kernel
theorem dL_acts_883 : decode cL_acts 883 = .ok (.iload 8, 2) := by decide +kernel
theorem dL_acts_885 : decode cL_acts 885 = .ok (.iload 9, 2) := by decide +kernel
theorem dL_acts_887 : decode cL_acts 887 = .ok (.invokevirtual 146, 3) := by decide +kernel
theorem dL_acts_890 : decode cL_acts 890 = .ok (.iload 8, 2) := by decide +kernel
theorem dL_acts_892 : decode cL_acts 892 = .ok (.iconst 2, 1) := by decide +kernel
theorem dL_acts_893 : decode cL_acts 893 = .ok (.if_icmp .ne 7, 3) := by decide +kernel
theorem dL_acts_896 : decode cL_acts 896 = .ok (.iconst (-1), 1) := by decide +kernel
theorem dL_acts_897 : decode cL_acts 897 = .ok (.goto 15, 3) := by decide +kernel
theorem dL_acts_900 : decode cL_acts 900 = .ok (.iload 11, 2) := by decide +kernel
theorem dL_acts_902 : decode cL_acts 902 = .ok (.ifCond .eq 8, 3) := by decide +kernel
theorem dL_acts_905 : decode cL_acts 905 = .ok (.bipush (-2), 2) := by decide +kernel
theorem dL_acts_907 : decode cL_acts 907 = .ok (.goto 5, 3) := by decide +kernel
theorem dL_acts_910 : decode cL_acts 910 = .ok (.iload 10, 2) := by decide +kernel
theorem dL_acts_912 : decode cL_acts 912 = .ok (.if_icmp .ne 34, 3) := by decide +kernel
theorem dL_acts_915 : decode cL_acts 915 = .ok (.iload 8, 2) := by decide +kernel
theorem dL_acts_917 : decode cL_acts 917 = .ok (.iconst 2, 1) := by decide +kernel
theorem dL_acts_918 : decode cL_acts 918 = .ok (.if_icmp .eq 24, 3) := by decide +kernel
theorem dL_acts_921 : decode cL_acts 921 = .ok (.aload_n 0, 1) := by decide +kernel
theorem dL_acts_922 : decode cL_acts 922 = .ok (.iload 8, 2) := by decide +kernel
theorem dL_acts_924 : decode cL_acts 924 = .ok (.invokevirtual 19, 3) := by decide +kernel
theorem dL_acts_927 : decode cL_acts 927 = .ok (.iload 11, 2) := by decide +kernel
theorem dL_acts_929 : decode cL_acts 929 = .ok (.ifCond .eq 8, 3) := by decide +kernel
theorem dL_acts_932 : decode cL_acts 932 = .ok (.iload 10, 2) := by decide +kernel
theorem dL_acts_934 : decode cL_acts 934 = .ok (.goto 5, 3) := by decide +kernel
theorem dL_acts_937 : decode cL_acts 937 = .ok (.iload 9, 2) := by decide +kernel
theorem dL_acts_939 : decode cL_acts 939 = .ok (.if_icmp .ne 7, 3) := by decide +kernel
theorem dL_acts_942 : decode cL_acts 942 = .ok (.iconst 1, 1) := by decide +kernel
theorem dL_acts_943 : decode cL_acts 943 = .ok (.goto 4, 3) := by decide +kernel
theorem dL_acts_946 : decode cL_acts 946 = .ok (.iconst 0, 1) := by decide +kernel
theorem dL_acts_947 : decode cL_acts 947 = .ok (.ireturn, 1) := by decide +kernel
theorem dL_acts_948 : decode cL_acts 948 = .ok (.aload_n 0, 1) := by decide +kernel
theorem dL_acts_949 : decode cL_acts 949 = .ok (.iload_n 2, 1) := by decide +kernel
theorem dL_acts_950 : decode cL_acts 950 = .ok (.invokestatic 149, 3) := by decide +kernel
theorem dL_acts_953 : decode cL_acts 953 = .ok (.ireturn, 1) := by decide +kernel
theorem dL_law_0 : decode cL_law 0 = .ok (.new 14, 3) := by decide +kernel
theorem dL_law_3 : decode cL_law 3 = .ok (.dup, 1) := by decide +kernel
theorem dL_law_4 : decode cL_law 4 = .ok (.invokespecial 152, 3) := by decide +kernel
theorem dL_law_7 : decode cL_law 7 = .ok (.astore_n 1, 1) := by decide +kernel
theorem dL_law_8 : decode cL_law 8 = .ok (.aload_n 1, 1) := by decide +kernel
theorem dL_law_9 : decode cL_law 9 = .ok (.invokestatic 153, 3) := by decide +kernel
theorem dL_law_12 : decode cL_law 12 = .ok (.ifCond .eq 24, 3) := by decide +kernel
theorem dL_law_15 : decode cL_law 15 = .ok (.aload_n 1, 1) := by decide +kernel
theorem dL_law_16 : decode cL_law 16 = .ok (.iconst 0, 1) := by decide +kernel
theorem dL_law_17 : decode cL_law 17 = .ok (.invokestatic 157, 3) := by decide +kernel
theorem dL_law_20 : decode cL_law 20 = .ok (.ifCond .eq 16, 3) := by decide +kernel
theorem dL_law_23 : decode cL_law 23 = .ok (.aload_n 1, 1) := by decide +kernel
theorem dL_law_24 : decode cL_law 24 = .ok (.invokevirtual 116, 3) := by decide +kernel
theorem dL_law_27 : decode cL_law 27 = .ok (.bipush (-6), 2) := by decide +kernel
theorem dL_law_29 : decode cL_law 29 = .ok (.if_icmp .ne 7, 3) := by decide +kernel
theorem dL_law_32 : decode cL_law 32 = .ok (.iconst 1, 1) := by decide +kernel
theorem dL_law_33 : decode cL_law 33 = .ok (.goto 4, 3) := by decide +kernel
theorem dL_law_36 : decode cL_law 36 = .ok (.iconst 0, 1) := by decide +kernel
theorem dL_law_37 : decode cL_law 37 = .ok (.istore_n 2, 1) := by decide +kernel
theorem dL_law_38 : decode cL_law 38 = .ok (.iconst 0, 1) := by decide +kernel
theorem dL_law_39 : decode cL_law 39 = .ok (.istore_n 3, 1) := by decide +kernel
theorem dL_law_40 : decode cL_law 40 = .ok (.iload_n 3, 1) := by decide +kernel
theorem dL_law_41 : decode cL_law 41 = .ok (.bipush 54, 2) := by decide +kernel
theorem dL_law_43 : decode cL_law 43 = .ok (.if_icmp .ge 201, 3) := by decide +kernel
theorem dL_law_46 : decode cL_law 46 = .ok (.iload_n 2, 1) := by decide +kernel
theorem dL_law_47 : decode cL_law 47 = .ok (.ifCond .eq 197, 3) := by decide +kernel
theorem dL_law_50 : decode cL_law 50 = .ok (.aload_n 0, 1) := by decide +kernel
theorem dL_law_51 : decode cL_law 51 = .ok (.iconst 2, 1) := by decide +kernel
theorem dL_law_52 : decode cL_law 52 = .ok (.iload_n 3, 1) := by decide +kernel
theorem dL_law_53 : decode cL_law 53 = .ok (.imul, 1) := by decide +kernel
theorem dL_law_54 : decode cL_law 54 = .ok (.invokestatic 160, 3) := by decide +kernel
theorem dL_law_57 : decode cL_law 57 = .ok (.istore 4, 2) := by decide +kernel
theorem dL_law_59 : decode cL_law 59 = .ok (.aload_n 0, 1) := by decide +kernel
theorem dL_law_60 : decode cL_law 60 = .ok (.iconst 2, 1) := by decide +kernel
theorem dL_law_61 : decode cL_law 61 = .ok (.iload_n 3, 1) := by decide +kernel
theorem dL_law_62 : decode cL_law 62 = .ok (.imul, 1) := by decide +kernel
theorem dL_law_63 : decode cL_law 63 = .ok (.iconst 1, 1) := by decide +kernel
theorem dL_law_64 : decode cL_law 64 = .ok (.iadd, 1) := by decide +kernel
theorem dL_law_65 : decode cL_law 65 = .ok (.invokestatic 160, 3) := by decide +kernel
theorem dL_law_68 : decode cL_law 68 = .ok (.istore 5, 2) := by decide +kernel
theorem dL_law_70 : decode cL_law 70 = .ok (.aload_n 1, 1) := by decide +kernel
theorem dL_law_71 : decode cL_law 71 = .ok (.invokestatic 103, 3) := by decide +kernel
theorem dL_law_74 : decode cL_law 74 = .ok (.lstore 6, 2) := by decide +kernel
theorem dL_law_76 : decode cL_law 76 = .ok (.iload 4, 2) := by decide +kernel
theorem dL_law_78 : decode cL_law 78 = .ok (.bipush 30, 2) := by decide +kernel
theorem dL_law_80 : decode cL_law 80 = .ok (.invokestatic 72, 3) := by decide +kernel
theorem dL_law_83 : decode cL_law 83 = .ok (.bipush 26, 2) := by decide +kernel
theorem dL_law_85 : decode cL_law 85 = .ok (.if_icmp .le 7, 3) := by decide +kernel
theorem dL_law_88 : decode cL_law 88 = .ok (.iconst 1, 1) := by decide +kernel
theorem dL_law_89 : decode cL_law 89 = .ok (.goto 4, 3) := by decide +kernel
theorem dL_law_92 : decode cL_law 92 = .ok (.iconst 0, 1) := by decide +kernel
theorem dL_law_93 : decode cL_law 93 = .ok (.istore 8, 2) := by decide +kernel
theorem dL_law_95 : decode cL_law 95 = .ok (.aload_n 1, 1) := by decide +kernel
theorem dL_law_96 : decode cL_law 96 = .ok (.iload 4, 2) := by decide +kernel
theorem dL_law_98 : decode cL_law 98 = .ok (.iload 5, 2) := by decide +kernel
theorem dL_law_100 : decode cL_law 100 = .ok (.invokestatic 164, 3) := by decide +kernel
theorem dL_law_103 : decode cL_law 103 = .ok (.ifCond .eq 36, 3) := by decide +kernel
theorem dL_law_106 : decode cL_law 106 = .ok (.iload_n 3, 1) := by decide +kernel
theorem dL_law_107 : decode cL_law 107 = .ok (.iconst 3, 1) := by decide +kernel
theorem dL_law_108 : decode cL_law 108 = .ok (.irem, 1) := by decide +kernel
theorem dL_law_109 : decode cL_law 109 = .ok (.ifCond .gt 10, 3) := by decide +kernel
theorem dL_law_112 : decode cL_law 112 = .ok (.aload_n 1, 1) := by decide +kernel
theorem dL_law_113 : decode cL_law 113 = .ok (.invokestatic 153, 3) := by decide +kernel
theorem dL_law_116 : decode cL_law 116 = .ok (.ifCond .eq 23, 3) := by decide +kernel
theorem dL_law_119 : decode cL_law 119 = .ok (.iload_n 3, 1) := by decide +kernel
theorem dL_law_120 : decode cL_law 120 = .ok (.iconst 5, 1) := by decide +kernel
theorem dL_law_121 : decode cL_law 121 = .ok (.irem, 1) := by decide +kernel
theorem dL_law_122 : decode cL_law 122 = .ok (.iconst 2, 1) := by decide +kernel
theorem dL_law_123 : decode cL_law 123 = .ok (.if_icmp .ne 12, 3) := by decide +kernel
theorem dL_law_126 : decode cL_law 126 = .ok (.aload_n 1, 1) := by decide +kernel
theorem dL_law_127 : decode cL_law 127 = .ok (.iload 5, 2) := by decide +kernel
theorem dL_law_129 : decode cL_law 129 = .ok (.invokestatic 157, 3) := by decide +kernel
theorem dL_law_132 : decode cL_law 132 = .ok (.ifCond .eq 7, 3) := by decide +kernel
theorem dL_law_135 : decode cL_law 135 = .ok (.iconst 1, 1) := by decide +kernel
theorem dL_law_136 : decode cL_law 136 = .ok (.goto 4, 3) := by decide +kernel
theorem dL_law_139 : decode cL_law 139 = .ok (.iconst 0, 1) := by decide +kernel
theorem dL_law_140 : decode cL_law 140 = .ok (.istore_n 2, 1) := by decide +kernel
theorem dL_law_141 : decode cL_law 141 = .ok (.iload_n 2, 1) := by decide +kernel
theorem dL_law_142 : decode cL_law 142 = .ok (.ifCond .eq 53, 3) := by decide +kernel
theorem dL_law_145 : decode cL_law 145 = .ok (.iload 8, 2) := by decide +kernel
theorem dL_law_147 : decode cL_law 147 = .ok (.ifCond .ne 48, 3) := by decide +kernel
theorem dL_law_150 : decode cL_law 150 = .ok (.aload_n 1, 1) := by decide +kernel
theorem dL_law_151 : decode cL_law 151 = .ok (.invokestatic 103, 3) := by decide +kernel
theorem dL_law_154 : decode cL_law 154 = .ok (.lload 6, 2) := by decide +kernel
theorem dL_law_156 : decode cL_law 156 = .ok (.lcmp, 1) := by decide +kernel
theorem dL_law_157 : decode cL_law 157 = .ok (.ifCond .eq 38, 3) := by decide +kernel
theorem dL_law_160 : decode cL_law 160 = .ok (.iload 5, 2) := by decide +kernel
theorem dL_law_162 : decode cL_law 162 = .ok (.bipush 8, 2) := by decide +kernel
theorem dL_law_164 : decode cL_law 164 = .ok (.ishr, 1) := by decide +kernel
theorem dL_law_165 : decode cL_law 165 = .ok (.iconst 3, 1) := by decide +kernel
theorem dL_law_166 : decode cL_law 166 = .ok (.invokestatic 72, 3) := by decide +kernel
theorem dL_law_169 : decode cL_law 169 = .ok (.ifCond .ne 26, 3) := by decide +kernel
theorem dL_law_172 : decode cL_law 172 = .ok (.aload_n 1, 1) := by decide +kernel
theorem dL_law_173 : decode cL_law 173 = .ok (.invokevirtual 116, 3) := by decide +kernel
theorem dL_law_176 : decode cL_law 176 = .ok (.ifCond .lt 17, 3) := by decide +kernel
theorem dL_law_179 : decode cL_law 179 = .ok (.aload_n 1, 1) := by decide +kernel
theorem dL_law_180 : decode cL_law 180 = .ok (.invokestatic 103, 3) := by decide +kernel
theorem dL_law_183 : decode cL_law 183 = .ok (.lload 6, 2) := by decide +kernel
theorem dL_law_185 : decode cL_law 185 = .ok (.lcmp, 1) := by decide +kernel
theorem dL_law_186 : decode cL_law 186 = .ok (.ifCond .ne 7, 3) := by decide +kernel
theorem dL_law_189 : decode cL_law 189 = .ok (.iconst 1, 1) := by decide +kernel
theorem dL_law_190 : decode cL_law 190 = .ok (.goto 4, 3) := by decide +kernel
theorem dL_law_193 : decode cL_law 193 = .ok (.iconst 0, 1) := by decide +kernel
theorem dL_law_194 : decode cL_law 194 = .ok (.istore_n 2, 1) := by decide +kernel
theorem dL_law_195 : decode cL_law 195 = .ok (.iload_n 2, 1) := by decide +kernel
theorem dL_law_196 : decode cL_law 196 = .ok (.ifCond .eq 42, 3) := by decide +kernel
theorem dL_law_199 : decode cL_law 199 = .ok (.iload_n 3, 1) := by decide +kernel
theorem dL_law_200 : decode cL_law 200 = .ok (.bipush 11, 2) := by decide +kernel
theorem dL_law_202 : decode cL_law 202 = .ok (.irem, 1) := by decide +kernel
theorem dL_law_203 : decode cL_law 203 = .ok (.bipush 10, 2) := by decide +kernel
theorem dL_law_205 : decode cL_law 205 = .ok (.if_icmp .ne 33, 3) := by decide +kernel
theorem dL_law_208 : decode cL_law 208 = .ok (.aload_n 1, 1) := by decide +kernel
theorem dL_law_209 : decode cL_law 209 = .ok (.invokevirtual 116, 3) := by decide +kernel
theorem dL_law_212 : decode cL_law 212 = .ok (.istore 9, 2) := by decide +kernel
theorem dL_law_214 : decode cL_law 214 = .ok (.iload 9, 2) := by decide +kernel
theorem dL_law_216 : decode cL_law 216 = .ok (.bipush (-6), 2) := by decide +kernel
theorem dL_law_218 : decode cL_law 218 = .ok (.if_icmp .eq 14, 3) := by decide +kernel
theorem dL_law_221 : decode cL_law 221 = .ok (.iload 9, 2) := by decide +kernel
theorem dL_law_223 : decode cL_law 223 = .ok (.ifCond .lt 13, 3) := by decide +kernel
theorem dL_law_226 : decode cL_law 226 = .ok (.iload 9, 2) := by decide +kernel
theorem dL_law_228 : decode cL_law 228 = .ok (.iconst 4, 1) := by decide +kernel
theorem dL_law_229 : decode cL_law 229 = .ok (.if_icmp .ge 7, 3) := by decide +kernel
theorem dL_law_232 : decode cL_law 232 = .ok (.iconst 1, 1) := by decide +kernel
theorem dL_law_233 : decode cL_law 233 = .ok (.goto 4, 3) := by decide +kernel
theorem dL_law_236 : decode cL_law 236 = .ok (.iconst 0, 1) := by decide +kernel
theorem dL_law_237 : decode cL_law 237 = .ok (.istore_n 2, 1) := by decide +kernel
theorem dL_law_238 : decode cL_law 238 = .ok (.iinc 3 1, 3) := by decide +kernel
theorem dL_law_241 : decode cL_law 241 = .ok (.goto (-201), 3) := by decide +kernel
theorem dL_law_244 : decode cL_law 244 = .ok (.iload_n 2, 1) := by decide +kernel
theorem dL_law_245 : decode cL_law 245 = .ok (.ifCond .eq 14, 3) := by decide +kernel
theorem dL_law_248 : decode cL_law 248 = .ok (.aload_n 1, 1) := by decide +kernel
theorem dL_law_249 : decode cL_law 249 = .ok (.invokestatic 153, 3) := by decide +kernel
theorem dL_law_252 : decode cL_law 252 = .ok (.ifCond .eq 7, 3) := by decide +kernel
theorem dL_law_255 : decode cL_law 255 = .ok (.iconst 1, 1) := by decide +kernel
theorem dL_law_256 : decode cL_law 256 = .ok (.goto 4, 3) := by decide +kernel
theorem dL_law_259 : decode cL_law 259 = .ok (.iconst 0, 1) := by decide +kernel
theorem dL_law_260 : decode cL_law 260 = .ok (.ireturn, 1) := by decide +kernel
