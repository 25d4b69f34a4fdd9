theorem dX0_init_0 : decode cX0_init 0 = .ok (.aload_n 0, 1) := by decide +kernel
theorem dX0_init_1 : decode cX0_init 1 = .ok (.invokespecial 3, 3) := by decide +kernel
theorem dX0_init_4 : decode cX0_init 4 = .ok (.aload_n 0, 1) := by decide +kernel
theorem dX0_init_5 : decode cX0_init 5 = .ok (.bipush 80, 2) := by decide +kernel
theorem dX0_init_7 : decode cX0_init 7 = .ok (.newarray .char, 2) := by decide +kernel
theorem dX0_init_9 : decode cX0_init 9 = .ok (.putfield 9, 3) := by decide +kernel
theorem dX0_init_12 : decode cX0_init 12 = .ok (.return_, 1) := by decide +kernel
theorem dX0_addSign_0 : decode cX0_addSign 0 = .ok (.aload_n 0, 1) := by decide +kernel
theorem dX0_addSign_1 : decode cX0_addSign 1 = .ok (.getfield 15, 3) := by decide +kernel
theorem dX0_addSign_4 : decode cX0_addSign 4 = .ok (.ifCond .lt 12, 3) := by decide +kernel
theorem dX0_addSign_7 : decode cX0_addSign 7 = .ok (.aload_n 0, 1) := by decide +kernel
theorem dX0_addSign_8 : decode cX0_addSign 8 = .ok (.getfield 15, 3) := by decide +kernel
theorem dX0_addSign_11 : decode cX0_addSign 11 = .ok (.bipush 80, 2) := by decide +kernel
theorem dX0_addSign_13 : decode cX0_addSign 13 = .ok (.if_icmp .lt 5, 3) := by decide +kernel
theorem dX0_addSign_16 : decode cX0_addSign 16 = .ok (.iconst 0, 1) := by decide +kernel
theorem dX0_addSign_17 : decode cX0_addSign 17 = .ok (.ireturn, 1) := by decide +kernel
theorem dX0_addSign_18 : decode cX0_addSign 18 = .ok (.aload_n 0, 1) := by decide +kernel
theorem dX0_addSign_19 : decode cX0_addSign 19 = .ok (.getfield 9, 3) := by decide +kernel
theorem dX0_addSign_22 : decode cX0_addSign 22 = .ok (.aload_n 0, 1) := by decide +kernel
theorem dX0_addSign_23 : decode cX0_addSign 23 = .ok (.getfield 15, 3) := by decide +kernel
theorem dX0_addSign_26 : decode cX0_addSign 26 = .ok (.iload_n 1, 1) := by decide +kernel
theorem dX0_addSign_27 : decode cX0_addSign 27 = .ok (.castore, 1) := by decide +kernel
theorem dX0_addSign_28 : decode cX0_addSign 28 = .ok (.aload_n 0, 1) := by decide +kernel
theorem dX0_addSign_29 : decode cX0_addSign 29 = .ok (.dup, 1) := by decide +kernel
theorem dX0_addSign_30 : decode cX0_addSign 30 = .ok (.getfield 15, 3) := by decide +kernel
theorem dX0_addSign_33 : decode cX0_addSign 33 = .ok (.iconst 1, 1) := by decide +kernel
theorem dX0_addSign_34 : decode cX0_addSign 34 = .ok (.iadd, 1) := by decide +kernel
theorem dX0_addSign_35 : decode cX0_addSign 35 = .ok (.putfield 15, 3) := by decide +kernel
theorem dX0_addSign_38 : decode cX0_addSign 38 = .ok (.iconst 1, 1) := by decide +kernel
theorem dX0_addSign_39 : decode cX0_addSign 39 = .ok (.ireturn, 1) := by decide +kernel
theorem dX0_firstFault_0 : decode cX0_firstFault 0 = .ok (.aload_n 0, 1) := by decide +kernel
theorem dX0_firstFault_1 : decode cX0_firstFault 1 = .ok (.iconst 0, 1) := by decide +kernel
theorem dX0_firstFault_2 : decode cX0_firstFault 2 = .ok (.putfield 19, 3) := by decide +kernel
theorem dX0_firstFault_5 : decode cX0_firstFault 5 = .ok (.iconst 0, 1) := by decide +kernel
theorem dX0_firstFault_6 : decode cX0_firstFault 6 = .ok (.istore_n 1, 1) := by decide +kernel
theorem dX0_firstFault_7 : decode cX0_firstFault 7 = .ok (.iload_n 1, 1) := by decide +kernel
theorem dX0_firstFault_8 : decode cX0_firstFault 8 = .ok (.bipush 80, 2) := by decide +kernel
theorem dX0_firstFault_10 : decode cX0_firstFault 10 = .ok (.if_icmp .ge 44, 3) := by decide +kernel
theorem dX0_firstFault_13 : decode cX0_firstFault 13 = .ok (.aload_n 0, 1) := by decide +kernel
theorem dX0_firstFault_14 : decode cX0_firstFault 14 = .ok (.invokevirtual 22, 3) := by decide +kernel
theorem dX0_firstFault_17 : decode cX0_firstFault 17 = .ok (.ifCond .eq 37, 3) := by decide +kernel
theorem dX0_firstFault_20 : decode cX0_firstFault 20 = .ok (.aload_n 0, 1) := by decide +kernel
theorem dX0_firstFault_21 : decode cX0_firstFault 21 = .ok (.getfield 19, 3) := by decide +kernel
theorem dX0_firstFault_24 : decode cX0_firstFault 24 = .ok (.aload_n 0, 1) := by decide +kernel
theorem dX0_firstFault_25 : decode cX0_firstFault 25 = .ok (.getfield 15, 3) := by decide +kernel
theorem dX0_firstFault_28 : decode cX0_firstFault 28 = .ok (.if_icmp .lt 6, 3) := by decide +kernel
theorem dX0_firstFault_31 : decode cX0_firstFault 31 = .ok (.bipush (-6), 2) := by decide +kernel
theorem dX0_firstFault_33 : decode cX0_firstFault 33 = .ok (.ireturn, 1) := by decide +kernel
theorem dX0_firstFault_34 : decode cX0_firstFault 34 = .ok (.aload_n 0, 1) := by decide +kernel
theorem dX0_firstFault_35 : decode cX0_firstFault 35 = .ok (.bipush 59, 2) := by decide +kernel
theorem dX0_firstFault_37 : decode cX0_firstFault 37 = .ok (.invokevirtual 26, 3) := by decide +kernel
theorem dX0_firstFault_40 : decode cX0_firstFault 40 = .ok (.ifCond .ne 8, 3) := by decide +kernel
theorem dX0_firstFault_43 : decode cX0_firstFault 43 = .ok (.aload_n 0, 1) := by decide +kernel
theorem dX0_firstFault_44 : decode cX0_firstFault 44 = .ok (.getfield 19, 3) := by decide +kernel
theorem dX0_firstFault_47 : decode cX0_firstFault 47 = .ok (.ireturn, 1) := by decide +kernel
theorem dX0_firstFault_48 : decode cX0_firstFault 48 = .ok (.iinc 1 1, 3) := by decide +kernel
theorem dX0_firstFault_51 : decode cX0_firstFault 51 = .ok (.goto (-44), 3) := by decide +kernel
theorem dX0_firstFault_54 : decode cX0_firstFault 54 = .ok (.aload_n 0, 1) := by decide +kernel
theorem dX0_firstFault_55 : decode cX0_firstFault 55 = .ok (.getfield 19, 3) := by decide +kernel
theorem dX0_firstFault_58 : decode cX0_firstFault 58 = .ok (.ireturn, 1) := by decide +kernel
theorem dX0_readCommand_0 : decode cX0_readCommand 0 = .ok (.aload_n 0, 1) := by decide +kernel
theorem dX0_readCommand_1 : decode cX0_readCommand 1 = .ok (.aload_n 0, 1) := by decide +kernel
theorem dX0_readCommand_2 : decode cX0_readCommand 2 = .ok (.invokevirtual 30, 3) := by decide +kernel
theorem dX0_readCommand_5 : decode cX0_readCommand 5 = .ok (.putfield 34, 3) := by decide +kernel
theorem dX0_readCommand_8 : decode cX0_readCommand 8 = .ok (.aload_n 0, 1) := by decide +kernel
theorem dX0_readCommand_9 : decode cX0_readCommand 9 = .ok (.getfield 34, 3) := by decide +kernel
theorem dX0_readCommand_12 : decode cX0_readCommand 12 = .ok (.tableswitch 255 98 119 #[104, 243, 225, 243, 255, 255, 255, 255, 255, 181, 255, 255, 255, 255, 255, 255, 164, 255, 255, 255, 255, 120], 104) := by decide +kernel
theorem dX0_readCommand_116 : decode cX0_readCommand 116 = .ok (.aload_n 0, 1) := by decide +kernel
theorem dX0_readCommand_117 : decode cX0_readCommand 117 = .ok (.dup, 1) := by decide +kernel
theorem dX0_readCommand_118 : decode cX0_readCommand 118 = .ok (.getfield 19, 3) := by decide +kernel
theorem dX0_readCommand_121 : decode cX0_readCommand 121 = .ok (.iconst 1, 1) := by decide +kernel
theorem dX0_readCommand_122 : decode cX0_readCommand 122 = .ok (.iadd, 1) := by decide +kernel
theorem dX0_readCommand_123 : decode cX0_readCommand 123 = .ok (.putfield 19, 3) := by decide +kernel
theorem dX0_readCommand_126 : decode cX0_readCommand 126 = .ok (.aload_n 0, 1) := by decide +kernel
theorem dX0_readCommand_127 : decode cX0_readCommand 127 = .ok (.iconst 1, 1) := by decide +kernel
theorem dX0_readCommand_128 : decode cX0_readCommand 128 = .ok (.invokevirtual 37, 3) := by decide +kernel
theorem dX0_readCommand_131 : decode cX0_readCommand 131 = .ok (.ireturn, 1) := by decide +kernel
theorem dX0_readCommand_132 : decode cX0_readCommand 132 = .ok (.aload_n 0, 1) := by decide +kernel
theorem dX0_readCommand_133 : decode cX0_readCommand 133 = .ok (.dup, 1) := by decide +kernel
theorem dX0_readCommand_134 : decode cX0_readCommand 134 = .ok (.getfield 19, 3) := by decide +kernel
theorem dX0_readCommand_137 : decode cX0_readCommand 137 = .ok (.iconst 1, 1) := by decide +kernel
theorem dX0_readCommand_138 : decode cX0_readCommand 138 = .ok (.iadd, 1) := by decide +kernel
theorem dX0_readCommand_139 : decode cX0_readCommand 139 = .ok (.putfield 19, 3) := by decide +kernel
theorem dX0_readCommand_142 : decode cX0_readCommand 142 = .ok (.aload_n 0, 1) := by decide +kernel
theorem dX0_readCommand_143 : decode cX0_readCommand 143 = .ok (.bipush 19, 2) := by decide +kernel
theorem dX0_readCommand_145 : decode cX0_readCommand 145 = .ok (.invokevirtual 37, 3) := by decide +kernel
theorem dX0_readCommand_148 : decode cX0_readCommand 148 = .ok (.ifCond .eq 26, 3) := by decide +kernel
theorem dX0_readCommand_151 : decode cX0_readCommand 151 = .ok (.aload_n 0, 1) := by decide +kernel
theorem dX0_readCommand_152 : decode cX0_readCommand 152 = .ok (.bipush 61, 2) := by decide +kernel
theorem dX0_readCommand_154 : decode cX0_readCommand 154 = .ok (.invokevirtual 26, 3) := by decide +kernel
theorem dX0_readCommand_157 : decode cX0_readCommand 157 = .ok (.ifCond .eq 17, 3) := by decide +kernel
theorem dX0_readCommand_160 : decode cX0_readCommand 160 = .ok (.aload_n 0, 1) := by decide +kernel
theorem dX0_readCommand_161 : decode cX0_readCommand 161 = .ok (.iconst 1, 1) := by decide +kernel
theorem dX0_readCommand_162 : decode cX0_readCommand 162 = .ok (.bipush 40, 2) := by decide +kernel
theorem dX0_readCommand_164 : decode cX0_readCommand 164 = .ok (.invokevirtual 41, 3) := by decide +kernel
theorem dX0_readCommand_167 : decode cX0_readCommand 167 = .ok (.ifCond .eq 7, 3) := by decide +kernel
theorem dX0_readCommand_170 : decode cX0_readCommand 170 = .ok (.iconst 1, 1) := by decide +kernel
theorem dX0_readCommand_171 : decode cX0_readCommand 171 = .ok (.goto 4, 3) := by decide +kernel
theorem dX0_readCommand_174 : decode cX0_readCommand 174 = .ok (.iconst 0, 1) := by decide +kernel
theorem dX0_readCommand_175 : decode cX0_readCommand 175 = .ok (.ireturn, 1) := by decide +kernel
theorem dX0_readCommand_176 : decode cX0_readCommand 176 = .ok (.aload_n 0, 1) := by decide +kernel
theorem dX0_readCommand_177 : decode cX0_readCommand 177 = .ok (.dup, 1) := by decide +kernel
theorem dX0_readCommand_178 : decode cX0_readCommand 178 = .ok (.getfield 19, 3) := by decide +kernel
theorem dX0_readCommand_181 : decode cX0_readCommand 181 = .ok (.iconst 1, 1) := by decide +kernel
theorem dX0_readCommand_182 : decode cX0_readCommand 182 = .ok (.iadd, 1) := by decide +kernel
theorem dX0_readCommand_183 : decode cX0_readCommand 183 = .ok (.putfield 19, 3) := by decide +kernel
theorem dX0_readCommand_186 : decode cX0_readCommand 186 = .ok (.aload_n 0, 1) := by decide +kernel
theorem dX0_readCommand_187 : decode cX0_readCommand 187 = .ok (.bipush 19, 2) := by decide +kernel
theorem dX0_readCommand_189 : decode cX0_readCommand 189 = .ok (.invokevirtual 37, 3) := by decide +kernel
theorem dX0_readCommand_192 : decode cX0_readCommand 192 = .ok (.ireturn, 1) := by decide +kernel
theorem dX0_readCommand_193 : decode cX0_readCommand 193 = .ok (.aload_n 0, 1) := by decide +kernel
theorem dX0_readCommand_194 : decode cX0_readCommand 194 = .ok (.dup, 1) := by decide +kernel
theorem dX0_readCommand_195 : decode cX0_readCommand 195 = .ok (.getfield 19, 3) := by decide +kernel
theorem dX0_readCommand_198 : decode cX0_readCommand 198 = .ok (.iconst 1, 1) := by decide +kernel
theorem dX0_readCommand_199 : decode cX0_readCommand 199 = .ok (.iadd, 1) := by decide +kernel
theorem dX0_readCommand_200 : decode cX0_readCommand 200 = .ok (.putfield 19, 3) := by decide +kernel
theorem dX0_readCommand_203 : decode cX0_readCommand 203 = .ok (.aload_n 0, 1) := by decide +kernel
theorem dX0_readCommand_204 : decode cX0_readCommand 204 = .ok (.bipush 19, 2) := by decide +kernel
theorem dX0_readCommand_206 : decode cX0_readCommand 206 = .ok (.invokevirtual 37, 3) := by decide +kernel
theorem dX0_readCommand_209 : decode cX0_readCommand 209 = .ok (.ifCond .eq 26, 3) := by decide +kernel
theorem dX0_readCommand_212 : decode cX0_readCommand 212 = .ok (.aload_n 0, 1) := by decide +kernel
theorem dX0_readCommand_213 : decode cX0_readCommand 213 = .ok (.bipush 46, 2) := by decide +kernel
theorem dX0_readCommand_215 : decode cX0_readCommand 215 = .ok (.invokevirtual 26, 3) := by decide +kernel
theorem dX0_readCommand_218 : decode cX0_readCommand 218 = .ok (.ifCond .eq 17, 3) := by decide +kernel
theorem dX0_readCommand_221 : decode cX0_readCommand 221 = .ok (.aload_n 0, 1) := by decide +kernel
theorem dX0_readCommand_222 : decode cX0_readCommand 222 = .ok (.iconst 0, 1) := by decide +kernel
theorem dX0_readCommand_223 : decode cX0_readCommand 223 = .ok (.bipush 11, 2) := by decide +kernel
theorem dX0_readCommand_225 : decode cX0_readCommand 225 = .ok (.invokevirtual 41, 3) := by decide +kernel
theorem dX0_readCommand_228 : decode cX0_readCommand 228 = .ok (.ifCond .eq 7, 3) := by decide +kernel
theorem dX0_readCommand_231 : decode cX0_readCommand 231 = .ok (.iconst 1, 1) := by decide +kernel
theorem dX0_readCommand_232 : decode cX0_readCommand 232 = .ok (.goto 4, 3) := by decide +kernel
theorem dX0_readCommand_235 : decode cX0_readCommand 235 = .ok (.iconst 0, 1) := by decide +kernel
theorem dX0_readCommand_236 : decode cX0_readCommand 236 = .ok (.ireturn, 1) := by decide +kernel
theorem dX0_readCommand_237 : decode cX0_readCommand 237 = .ok (.aload_n 0, 1) := by decide +kernel
theorem dX0_readCommand_238 : decode cX0_readCommand 238 = .ok (.dup, 1) := by decide +kernel
theorem dX0_readCommand_239 : decode cX0_readCommand 239 = .ok (.getfield 19, 3) := by decide +kernel
theorem dX0_readCommand_242 : decode cX0_readCommand 242 = .ok (.iconst 1, 1) := by decide +kernel
theorem dX0_readCommand_243 : decode cX0_readCommand 243 = .ok (.iadd, 1) := by decide +kernel
theorem dX0_readCommand_244 : decode cX0_readCommand 244 = .ok (.putfield 19, 3) := by decide +kernel
theorem dX0_readCommand_247 : decode cX0_readCommand 247 = .ok (.aload_n 0, 1) := by decide +kernel
theorem dX0_readCommand_248 : decode cX0_readCommand 248 = .ok (.sipush 239, 3) := by decide +kernel
theorem dX0_readCommand_251 : decode cX0_readCommand 251 = .ok (.invokevirtual 37, 3) := by decide +kernel
theorem dX0_readCommand_254 : decode cX0_readCommand 254 = .ok (.ireturn, 1) := by decide +kernel
theorem dX0_readCommand_255 : decode cX0_readCommand 255 = .ok (.aload_n 0, 1) := by decide +kernel
theorem dX0_readCommand_256 : decode cX0_readCommand 256 = .ok (.dup, 1) := by decide +kernel
theorem dX0_readCommand_257 : decode cX0_readCommand 257 = .ok (.getfield 19, 3) := by decide +kernel
theorem dX0_readCommand_260 : decode cX0_readCommand 260 = .ok (.iconst 1, 1) := by decide +kernel
theorem dX0_readCommand_261 : decode cX0_readCommand 261 = .ok (.iadd, 1) := by decide +kernel
theorem dX0_readCommand_262 : decode cX0_readCommand 262 = .ok (.putfield 19, 3) := by decide +kernel
theorem dX0_readCommand_265 : decode cX0_readCommand 265 = .ok (.iconst 1, 1) := by decide +kernel
theorem dX0_readCommand_266 : decode cX0_readCommand 266 = .ok (.ireturn, 1) := by decide +kernel
theorem dX0_readCommand_267 : decode cX0_readCommand 267 = .ok (.iconst 0, 1) := by decide +kernel
theorem dX0_readCommand_268 : decode cX0_readCommand 268 = .ok (.ireturn, 1) := by decide +kernel
theorem dX0_readSign_0 : decode cX0_readSign 0 = .ok (.aload_n 0, 1) := by decide +kernel
theorem dX0_readSign_1 : decode cX0_readSign 1 = .ok (.invokevirtual 30, 3) := by decide +kernel
theorem dX0_readSign_4 : decode cX0_readSign 4 = .ok (.iload_n 1, 1) := by decide +kernel
theorem dX0_readSign_5 : decode cX0_readSign 5 = .ok (.if_icmp .eq 5, 3) := by decide +kernel
theorem dX0_readSign_8 : decode cX0_readSign 8 = .ok (.iconst 0, 1) := by decide +kernel
theorem dX0_readSign_9 : decode cX0_readSign 9 = .ok (.ireturn, 1) := by decide +kernel
theorem dX0_readSign_10 : decode cX0_readSign 10 = .ok (.aload_n 0, 1) := by decide +kernel
theorem dX0_readSign_11 : decode cX0_readSign 11 = .ok (.dup, 1) := by decide +kernel
theorem dX0_readSign_12 : decode cX0_readSign 12 = .ok (.getfield 19, 3) := by decide +kernel
theorem dX0_readSign_15 : decode cX0_readSign 15 = .ok (.iconst 1, 1) := by decide +kernel
theorem dX0_readSign_16 : decode cX0_readSign 16 = .ok (.iadd, 1) := by decide +kernel
theorem dX0_readSign_17 : decode cX0_readSign 17 = .ok (.putfield 19, 3) := by decide +kernel
theorem dX0_readSign_20 : decode cX0_readSign 20 = .ok (.iconst 1, 1) := by decide +kernel
theorem dX0_readSign_21 : decode cX0_readSign 21 = .ok (.ireturn, 1) := by decide +kernel
theorem dX0_readFirst_0 : decode cX0_readFirst 0 = .ok (.aload_n 0, 1) := by decide +kernel
theorem dX0_readFirst_1 : decode cX0_readFirst 1 = .ok (.aload_n 0, 1) := by decide +kernel
theorem dX0_readFirst_2 : decode cX0_readFirst 2 = .ok (.iconst 0, 1) := by decide +kernel
theorem dX0_readFirst_3 : decode cX0_readFirst 3 = .ok (.iload_n 1, 1) := by decide +kernel
theorem dX0_readFirst_4 : decode cX0_readFirst 4 = .ok (.invokevirtual 45, 3) := by decide +kernel
theorem dX0_readFirst_7 : decode cX0_readFirst 7 = .ok (.putfield 49, 3) := by decide +kernel
theorem dX0_readFirst_10 : decode cX0_readFirst 10 = .ok (.aload_n 0, 1) := by decide +kernel
theorem dX0_readFirst_11 : decode cX0_readFirst 11 = .ok (.getfield 49, 3) := by decide +kernel
theorem dX0_readFirst_14 : decode cX0_readFirst 14 = .ok (.bipush (-6), 2) := by decide +kernel
theorem dX0_readFirst_16 : decode cX0_readFirst 16 = .ok (.if_icmp .eq 7, 3) := by decide +kernel
theorem dX0_readFirst_19 : decode cX0_readFirst 19 = .ok (.iconst 1, 1) := by decide +kernel
theorem dX0_readFirst_20 : decode cX0_readFirst 20 = .ok (.goto 4, 3) := by decide +kernel
theorem dX0_readFirst_23 : decode cX0_readFirst 23 = .ok (.iconst 0, 1) := by decide +kernel
theorem dX0_readFirst_24 : decode cX0_readFirst 24 = .ok (.ireturn, 1) := by decide +kernel
theorem dX0_readSecond_0 : decode cX0_readSecond 0 = .ok (.aload_n 0, 1) := by decide +kernel
theorem dX0_readSecond_1 : decode cX0_readSecond 1 = .ok (.aload_n 0, 1) := by decide +kernel
theorem dX0_readSecond_2 : decode cX0_readSecond 2 = .ok (.iload_n 1, 1) := by decide +kernel
theorem dX0_readSecond_3 : decode cX0_readSecond 3 = .ok (.iload_n 2, 1) := by decide +kernel
theorem dX0_readSecond_4 : decode cX0_readSecond 4 = .ok (.invokevirtual 45, 3) := by decide +kernel
theorem dX0_readSecond_7 : decode cX0_readSecond 7 = .ok (.putfield 52, 3) := by decide +kernel
theorem dX0_readSecond_10 : decode cX0_readSecond 10 = .ok (.aload_n 0, 1) := by decide +kernel
theorem dX0_readSecond_11 : decode cX0_readSecond 11 = .ok (.getfield 52, 3) := by decide +kernel
theorem dX0_readSecond_14 : decode cX0_readSecond 14 = .ok (.bipush (-6), 2) := by decide +kernel
theorem dX0_readSecond_16 : decode cX0_readSecond 16 = .ok (.if_icmp .eq 7, 3) := by decide +kernel
theorem dX0_readSecond_19 : decode cX0_readSecond 19 = .ok (.iconst 1, 1) := by decide +kernel
theorem dX0_readSecond_20 : decode cX0_readSecond 20 = .ok (.goto 4, 3) := by decide +kernel
theorem dX0_readSecond_23 : decode cX0_readSecond 23 = .ok (.iconst 0, 1) := by decide +kernel
theorem dX0_readSecond_24 : decode cX0_readSecond 24 = .ok (.ireturn, 1) := by decide +kernel
theorem dX0_readNumber_0 : decode cX0_readNumber 0 = .ok (.aload_n 0, 1) := by decide +kernel
theorem dX0_readNumber_1 : decode cX0_readNumber 1 = .ok (.invokevirtual 55, 3) := by decide +kernel
theorem dX0_readNumber_4 : decode cX0_readNumber 4 = .ok (.istore_n 3, 1) := by decide +kernel
theorem dX0_readNumber_5 : decode cX0_readNumber 5 = .ok (.iload_n 3, 1) := by decide +kernel
theorem dX0_readNumber_6 : decode cX0_readNumber 6 = .ok (.iload_n 1, 1) := by decide +kernel
theorem dX0_readNumber_7 : decode cX0_readNumber 7 = .ok (.if_icmp .lt 8, 3) := by decide +kernel
theorem dX0_readNumber_10 : decode cX0_readNumber 10 = .ok (.iload_n 3, 1) := by decide +kernel
theorem dX0_readNumber_11 : decode cX0_readNumber 11 = .ok (.iload_n 2, 1) := by decide +kernel
theorem dX0_readNumber_12 : decode cX0_readNumber 12 = .ok (.if_icmp .le 6, 3) := by decide +kernel
theorem dX0_readNumber_15 : decode cX0_readNumber 15 = .ok (.bipush (-6), 2) := by decide +kernel
theorem dX0_readNumber_17 : decode cX0_readNumber 17 = .ok (.ireturn, 1) := by decide +kernel
theorem dX0_readNumber_18 : decode cX0_readNumber 18 = .ok (.aload_n 0, 1) := by decide +kernel
theorem dX0_readNumber_19 : decode cX0_readNumber 19 = .ok (.dup, 1) := by decide +kernel
theorem dX0_readNumber_20 : decode cX0_readNumber 20 = .ok (.getfield 19, 3) := by decide +kernel
theorem dX0_readNumber_23 : decode cX0_readNumber 23 = .ok (.iconst 1, 1) := by decide +kernel
theorem dX0_readNumber_24 : decode cX0_readNumber 24 = .ok (.iadd, 1) := by decide +kernel
theorem dX0_readNumber_25 : decode cX0_readNumber 25 = .ok (.putfield 19, 3) := by decide +kernel
theorem dX0_readNumber_28 : decode cX0_readNumber 28 = .ok (.iconst 0, 1) := by decide +kernel
theorem dX0_readNumber_29 : decode cX0_readNumber 29 = .ok (.istore 4, 2) := by decide +kernel
theorem dX0_readNumber_31 : decode cX0_readNumber 31 = .ok (.iload 4, 2) := by decide +kernel
theorem dX0_readNumber_33 : decode cX0_readNumber 33 = .ok (.bipush 80, 2) := by decide +kernel
theorem dX0_readNumber_35 : decode cX0_readNumber 35 = .ok (.if_icmp .ge 55, 3) := by decide +kernel
theorem dX0_readNumber_38 : decode cX0_readNumber 38 = .ok (.iload_n 3, 1) := by decide +kernel
theorem dX0_readNumber_39 : decode cX0_readNumber 39 = .ok (.ifCond .le 51, 3) := by decide +kernel
theorem dX0_readNumber_42 : decode cX0_readNumber 42 = .ok (.aload_n 0, 1) := by decide +kernel
theorem dX0_readNumber_43 : decode cX0_readNumber 43 = .ok (.invokevirtual 55, 3) := by decide +kernel
theorem dX0_readNumber_46 : decode cX0_readNumber 46 = .ok (.istore 5, 2) := by decide +kernel
theorem dX0_readNumber_48 : decode cX0_readNumber 48 = .ok (.iload 5, 2) := by decide +kernel
theorem dX0_readNumber_50 : decode cX0_readNumber 50 = .ok (.ifCond .lt 14, 3) := by decide +kernel
theorem dX0_readNumber_53 : decode cX0_readNumber 53 = .ok (.iload_n 3, 1) := by decide +kernel
theorem dX0_readNumber_54 : decode cX0_readNumber 54 = .ok (.bipush 10, 2) := by decide +kernel
theorem dX0_readNumber_56 : decode cX0_readNumber 56 = .ok (.imul, 1) := by decide +kernel
theorem dX0_readNumber_57 : decode cX0_readNumber 57 = .ok (.iload 5, 2) := by decide +kernel
theorem dX0_readNumber_59 : decode cX0_readNumber 59 = .ok (.iadd, 1) := by decide +kernel
theorem dX0_readNumber_60 : decode cX0_readNumber 60 = .ok (.iload_n 2, 1) := by decide +kernel
theorem dX0_readNumber_61 : decode cX0_readNumber 61 = .ok (.if_icmp .le 5, 3) := by decide +kernel
theorem dX0_readNumber_64 : decode cX0_readNumber 64 = .ok (.iload_n 3, 1) := by decide +kernel
theorem dX0_readNumber_65 : decode cX0_readNumber 65 = .ok (.ireturn, 1) := by decide +kernel
theorem dX0_readNumber_66 : decode cX0_readNumber 66 = .ok (.iload_n 3, 1) := by decide +kernel
theorem dX0_readNumber_67 : decode cX0_readNumber 67 = .ok (.bipush 10, 2) := by decide +kernel
theorem dX0_readNumber_69 : decode cX0_readNumber 69 = .ok (.imul, 1) := by decide +kernel
theorem dX0_readNumber_70 : decode cX0_readNumber 70 = .ok (.iload 5, 2) := by decide +kernel
theorem dX0_readNumber_72 : decode cX0_readNumber 72 = .ok (.iadd, 1) := by decide +kernel
theorem dX0_readNumber_73 : decode cX0_readNumber 73 = .ok (.istore_n 3, 1) := by decide +kernel
theorem dX0_readNumber_74 : decode cX0_readNumber 74 = .ok (.aload_n 0, 1) := by decide +kernel
theorem dX0_readNumber_75 : decode cX0_readNumber 75 = .ok (.dup, 1) := by decide +kernel
theorem dX0_readNumber_76 : decode cX0_readNumber 76 = .ok (.getfield 19, 3) := by decide +kernel
theorem dX0_readNumber_79 : decode cX0_readNumber 79 = .ok (.iconst 1, 1) := by decide +kernel
theorem dX0_readNumber_80 : decode cX0_readNumber 80 = .ok (.iadd, 1) := by decide +kernel
theorem dX0_readNumber_81 : decode cX0_readNumber 81 = .ok (.putfield 19, 3) := by decide +kernel
theorem dX0_readNumber_84 : decode cX0_readNumber 84 = .ok (.iinc 4 1, 3) := by decide +kernel
theorem dX0_readNumber_87 : decode cX0_readNumber 87 = .ok (.goto (-56), 3) := by decide +kernel
theorem dX0_readNumber_90 : decode cX0_readNumber 90 = .ok (.iload_n 3, 1) := by decide +kernel
theorem dX0_readNumber_91 : decode cX0_readNumber 91 = .ok (.ireturn, 1) := by decide +kernel
theorem dX0_digitAt_0 : decode cX0_digitAt 0 = .ok (.aload_n 0, 1) := by decide +kernel
theorem dX0_digitAt_1 : decode cX0_digitAt 1 = .ok (.invokevirtual 30, 3) := by decide +kernel
theorem dX0_digitAt_4 : decode cX0_digitAt 4 = .ok (.istore_n 1, 1) := by decide +kernel
theorem dX0_digitAt_5 : decode cX0_digitAt 5 = .ok (.iload_n 1, 1) := by decide +kernel
theorem dX0_digitAt_6 : decode cX0_digitAt 6 = .ok (.bipush 48, 2) := by decide +kernel
theorem dX0_digitAt_8 : decode cX0_digitAt 8 = .ok (.if_icmp .lt 16, 3) := by decide +kernel
theorem dX0_digitAt_11 : decode cX0_digitAt 11 = .ok (.iload_n 1, 1) := by decide +kernel
theorem dX0_digitAt_12 : decode cX0_digitAt 12 = .ok (.bipush 57, 2) := by decide +kernel
theorem dX0_digitAt_14 : decode cX0_digitAt 14 = .ok (.if_icmp .gt 10, 3) := by decide +kernel
theorem dX0_digitAt_17 : decode cX0_digitAt 17 = .ok (.iload_n 1, 1) := by decide +kernel
theorem dX0_digitAt_18 : decode cX0_digitAt 18 = .ok (.bipush 48, 2) := by decide +kernel
theorem dX0_digitAt_20 : decode cX0_digitAt 20 = .ok (.isub, 1) := by decide +kernel
theorem dX0_digitAt_21 : decode cX0_digitAt 21 = .ok (.goto 5, 3) := by decide +kernel
theorem dX0_digitAt_24 : decode cX0_digitAt 24 = .ok (.bipush (-6), 2) := by decide +kernel
theorem dX0_digitAt_26 : decode cX0_digitAt 26 = .ok (.ireturn, 1) := by decide +kernel
theorem dX0_signAt_0 : decode cX0_signAt 0 = .ok (.aload_n 0, 1) := by decide +kernel
theorem dX0_signAt_1 : decode cX0_signAt 1 = .ok (.getfield 19, 3) := by decide +kernel
theorem dX0_signAt_4 : decode cX0_signAt 4 = .ok (.ifCond .lt 35, 3) := by decide +kernel
theorem dX0_signAt_7 : decode cX0_signAt 7 = .ok (.aload_n 0, 1) := by decide +kernel
theorem dX0_signAt_8 : decode cX0_signAt 8 = .ok (.getfield 19, 3) := by decide +kernel
theorem dX0_signAt_11 : decode cX0_signAt 11 = .ok (.aload_n 0, 1) := by decide +kernel
theorem dX0_signAt_12 : decode cX0_signAt 12 = .ok (.getfield 15, 3) := by decide +kernel
theorem dX0_signAt_15 : decode cX0_signAt 15 = .ok (.if_icmp .ge 24, 3) := by decide +kernel
theorem dX0_signAt_18 : decode cX0_signAt 18 = .ok (.aload_n 0, 1) := by decide +kernel
theorem dX0_signAt_19 : decode cX0_signAt 19 = .ok (.getfield 19, 3) := by decide +kernel
theorem dX0_signAt_22 : decode cX0_signAt 22 = .ok (.bipush 80, 2) := by decide +kernel
theorem dX0_signAt_24 : decode cX0_signAt 24 = .ok (.if_icmp .ge 15, 3) := by decide +kernel
theorem dX0_signAt_27 : decode cX0_signAt 27 = .ok (.aload_n 0, 1) := by decide +kernel
theorem dX0_signAt_28 : decode cX0_signAt 28 = .ok (.getfield 9, 3) := by decide +kernel
theorem dX0_signAt_31 : decode cX0_signAt 31 = .ok (.aload_n 0, 1) := by decide +kernel
theorem dX0_signAt_32 : decode cX0_signAt 32 = .ok (.getfield 19, 3) := by decide +kernel
theorem dX0_signAt_35 : decode cX0_signAt 35 = .ok (.caload, 1) := by decide +kernel
theorem dX0_signAt_36 : decode cX0_signAt 36 = .ok (.goto 5, 3) := by decide +kernel
theorem dX0_signAt_39 : decode cX0_signAt 39 = .ok (.bipush (-6), 2) := by decide +kernel
theorem dX0_signAt_41 : decode cX0_signAt 41 = .ok (.ireturn, 1) := by decide +kernel
theorem dX1_init_0 : decode cX1_init 0 = .ok (.aload_n 0, 1) := by decide +kernel
theorem dX1_init_1 : decode cX1_init 1 = .ok (.invokespecial 3, 3) := by decide +kernel
theorem dX1_init_4 : decode cX1_init 4 = .ok (.aload_n 0, 1) := by decide +kernel
theorem dX1_init_5 : decode cX1_init 5 = .ok (.bipush 12, 2) := by decide +kernel
theorem dX1_init_7 : decode cX1_init 7 = .ok (.anewarray 9, 3) := by decide +kernel
theorem dX1_init_10 : decode cX1_init 10 = .ok (.putfield 11, 3) := by decide +kernel
theorem dX1_init_13 : decode cX1_init 13 = .ok (.aload_n 0, 1) := by decide +kernel
theorem dX1_init_14 : decode cX1_init 14 = .ok (.sipush 240, 3) := by decide +kernel
theorem dX1_init_17 : decode cX1_init 17 = .ok (.newarray .boolean, 2) := by decide +kernel
theorem dX1_init_19 : decode cX1_init 19 = .ok (.putfield 17, 3) := by decide +kernel
theorem dX1_init_22 : decode cX1_init 22 = .ok (.aload_n 0, 1) := by decide +kernel
theorem dX1_init_23 : decode cX1_init 23 = .ok (.bipush 20, 2) := by decide +kernel
theorem dX1_init_25 : decode cX1_init 25 = .ok (.newarray .int, 2) := by decide +kernel
theorem dX1_init_27 : decode cX1_init 27 = .ok (.putfield 21, 3) := by decide +kernel
theorem dX1_init_30 : decode cX1_init 30 = .ok (.aload_n 0, 1) := by decide +kernel
theorem dX1_init_31 : decode cX1_init 31 = .ok (.iconst 2, 1) := by decide +kernel
theorem dX1_init_32 : decode cX1_init 32 = .ok (.newarray .int, 2) := by decide +kernel
theorem dX1_init_34 : decode cX1_init 34 = .ok (.putfield 25, 3) := by decide +kernel
theorem dX1_init_37 : decode cX1_init 37 = .ok (.aload_n 0, 1) := by decide +kernel
theorem dX1_init_38 : decode cX1_init 38 = .ok (.getfield 25, 3) := by decide +kernel
theorem dX1_init_41 : decode cX1_init 41 = .ok (.iconst 0, 1) := by decide +kernel
theorem dX1_init_42 : decode cX1_init 42 = .ok (.iconst 4, 1) := by decide +kernel
theorem dX1_init_43 : decode cX1_init 43 = .ok (.iastore, 1) := by decide +kernel
theorem dX1_init_44 : decode cX1_init 44 = .ok (.aload_n 0, 1) := by decide +kernel
theorem dX1_init_45 : decode cX1_init 45 = .ok (.getfield 25, 3) := by decide +kernel
theorem dX1_init_48 : decode cX1_init 48 = .ok (.iconst 1, 1) := by decide +kernel
theorem dX1_init_49 : decode cX1_init 49 = .ok (.iconst 3, 1) := by decide +kernel
theorem dX1_init_50 : decode cX1_init 50 = .ok (.iastore, 1) := by decide +kernel
theorem dX1_init_51 : decode cX1_init 51 = .ok (.iconst 0, 1) := by decide +kernel
theorem dX1_init_52 : decode cX1_init 52 = .ok (.istore_n 1, 1) := by decide +kernel
theorem dX1_init_53 : decode cX1_init 53 = .ok (.iload_n 1, 1) := by decide +kernel
theorem dX1_init_54 : decode cX1_init 54 = .ok (.bipush 12, 2) := by decide +kernel
theorem dX1_init_56 : decode cX1_init 56 = .ok (.if_icmp .ge 22, 3) := by decide +kernel
theorem dX1_init_59 : decode cX1_init 59 = .ok (.aload_n 0, 1) := by decide +kernel
theorem dX1_init_60 : decode cX1_init 60 = .ok (.getfield 11, 3) := by decide +kernel
theorem dX1_init_63 : decode cX1_init 63 = .ok (.iload_n 1, 1) := by decide +kernel
theorem dX1_init_64 : decode cX1_init 64 = .ok (.new 9, 3) := by decide +kernel
theorem dX1_init_67 : decode cX1_init 67 = .ok (.dup, 1) := by decide +kernel
theorem dX1_init_68 : decode cX1_init 68 = .ok (.invokespecial 28, 3) := by decide +kernel
theorem dX1_init_71 : decode cX1_init 71 = .ok (.aastore, 1) := by decide +kernel
theorem dX1_init_72 : decode cX1_init 72 = .ok (.iinc 1 1, 3) := by decide +kernel
theorem dX1_init_75 : decode cX1_init 75 = .ok (.goto (-22), 3) := by decide +kernel
theorem dX1_init_78 : decode cX1_init 78 = .ok (.return_, 1) := by decide +kernel
theorem dX1_copyAll_0 : decode cX1_copyAll 0 = .ok (.aload_n 0, 1) := by decide +kernel
theorem dX1_copyAll_1 : decode cX1_copyAll 1 = .ok (.aload_n 1, 1) := by decide +kernel
theorem dX1_copyAll_2 : decode cX1_copyAll 2 = .ok (.getfield 29, 3) := by decide +kernel
theorem dX1_copyAll_5 : decode cX1_copyAll 5 = .ok (.putfield 29, 3) := by decide +kernel
theorem dX1_copyAll_8 : decode cX1_copyAll 8 = .ok (.aload_n 0, 1) := by decide +kernel
theorem dX1_copyAll_9 : decode cX1_copyAll 9 = .ok (.aload_n 1, 1) := by decide +kernel
theorem dX1_copyAll_10 : decode cX1_copyAll 10 = .ok (.getfield 33, 3) := by decide +kernel
theorem dX1_copyAll_13 : decode cX1_copyAll 13 = .ok (.putfield 33, 3) := by decide +kernel
theorem dX1_copyAll_16 : decode cX1_copyAll 16 = .ok (.aload_n 0, 1) := by decide +kernel
theorem dX1_copyAll_17 : decode cX1_copyAll 17 = .ok (.aload_n 1, 1) := by decide +kernel
theorem dX1_copyAll_18 : decode cX1_copyAll 18 = .ok (.getfield 36, 3) := by decide +kernel
theorem dX1_copyAll_21 : decode cX1_copyAll 21 = .ok (.putfield 36, 3) := by decide +kernel
theorem dX1_copyAll_24 : decode cX1_copyAll 24 = .ok (.iconst 0, 1) := by decide +kernel
theorem dX1_copyAll_25 : decode cX1_copyAll 25 = .ok (.istore_n 2, 1) := by decide +kernel
theorem dX1_copyAll_26 : decode cX1_copyAll 26 = .ok (.iload_n 2, 1) := by decide +kernel
theorem dX1_copyAll_27 : decode cX1_copyAll 27 = .ok (.bipush 12, 2) := by decide +kernel
theorem dX1_copyAll_29 : decode cX1_copyAll 29 = .ok (.if_icmp .ge 32, 3) := by decide +kernel
theorem dX1_copyAll_32 : decode cX1_copyAll 32 = .ok (.iload_n 2, 1) := by decide +kernel
theorem dX1_copyAll_33 : decode cX1_copyAll 33 = .ok (.aload_n 0, 1) := by decide +kernel
theorem dX1_copyAll_34 : decode cX1_copyAll 34 = .ok (.getfield 29, 3) := by decide +kernel
theorem dX1_copyAll_37 : decode cX1_copyAll 37 = .ok (.if_icmp .ge 24, 3) := by decide +kernel
theorem dX1_copyAll_40 : decode cX1_copyAll 40 = .ok (.aload_n 0, 1) := by decide +kernel
theorem dX1_copyAll_41 : decode cX1_copyAll 41 = .ok (.getfield 11, 3) := by decide +kernel
theorem dX1_copyAll_44 : decode cX1_copyAll 44 = .ok (.iload_n 2, 1) := by decide +kernel
theorem dX1_copyAll_45 : decode cX1_copyAll 45 = .ok (.aaload, 1) := by decide +kernel
theorem dX1_copyAll_46 : decode cX1_copyAll 46 = .ok (.aload_n 1, 1) := by decide +kernel
theorem dX1_copyAll_47 : decode cX1_copyAll 47 = .ok (.getfield 11, 3) := by decide +kernel
theorem dX1_copyAll_50 : decode cX1_copyAll 50 = .ok (.iload_n 2, 1) := by decide +kernel
theorem dX1_copyAll_51 : decode cX1_copyAll 51 = .ok (.aaload, 1) := by decide +kernel
theorem dX1_copyAll_52 : decode cX1_copyAll 52 = .ok (.invokevirtual 39, 3) := by decide +kernel
theorem dX1_copyAll_55 : decode cX1_copyAll 55 = .ok (.iinc 2 1, 3) := by decide +kernel
theorem dX1_copyAll_58 : decode cX1_copyAll 58 = .ok (.goto (-32), 3) := by decide +kernel
theorem dX1_copyAll_61 : decode cX1_copyAll 61 = .ok (.iconst 0, 1) := by decide +kernel
theorem dX1_copyAll_62 : decode cX1_copyAll 62 = .ok (.istore_n 2, 1) := by decide +kernel
theorem dX1_copyAll_63 : decode cX1_copyAll 63 = .ok (.iload_n 2, 1) := by decide +kernel
theorem dX1_copyAll_64 : decode cX1_copyAll 64 = .ok (.sipush 240, 3) := by decide +kernel
theorem dX1_copyAll_67 : decode cX1_copyAll 67 = .ok (.if_icmp .ge 21, 3) := by decide +kernel
theorem dX1_copyAll_70 : decode cX1_copyAll 70 = .ok (.aload_n 0, 1) := by decide +kernel
theorem dX1_copyAll_71 : decode cX1_copyAll 71 = .ok (.getfield 17, 3) := by decide +kernel
theorem dX1_copyAll_74 : decode cX1_copyAll 74 = .ok (.iload_n 2, 1) := by decide +kernel
theorem dX1_copyAll_75 : decode cX1_copyAll 75 = .ok (.aload_n 1, 1) := by decide +kernel
theorem dX1_copyAll_76 : decode cX1_copyAll 76 = .ok (.getfield 17, 3) := by decide +kernel
theorem dX1_copyAll_79 : decode cX1_copyAll 79 = .ok (.iload_n 2, 1) := by decide +kernel
theorem dX1_copyAll_80 : decode cX1_copyAll 80 = .ok (.baload, 1) := by decide +kernel
theorem dX1_copyAll_81 : decode cX1_copyAll 81 = .ok (.bastore, 1) := by decide +kernel
theorem dX1_copyAll_82 : decode cX1_copyAll 82 = .ok (.iinc 2 1, 3) := by decide +kernel
theorem dX1_copyAll_85 : decode cX1_copyAll 85 = .ok (.goto (-22), 3) := by decide +kernel
theorem dX1_copyAll_88 : decode cX1_copyAll 88 = .ok (.iconst 0, 1) := by decide +kernel
theorem dX1_copyAll_89 : decode cX1_copyAll 89 = .ok (.istore_n 2, 1) := by decide +kernel
theorem dX1_copyAll_90 : decode cX1_copyAll 90 = .ok (.iload_n 2, 1) := by decide +kernel
theorem dX1_copyAll_91 : decode cX1_copyAll 91 = .ok (.bipush 20, 2) := by decide +kernel
theorem dX1_copyAll_93 : decode cX1_copyAll 93 = .ok (.if_icmp .ge 21, 3) := by decide +kernel
theorem dX1_copyAll_96 : decode cX1_copyAll 96 = .ok (.aload_n 0, 1) := by decide +kernel
theorem dX1_copyAll_97 : decode cX1_copyAll 97 = .ok (.getfield 21, 3) := by decide +kernel
theorem dX1_copyAll_100 : decode cX1_copyAll 100 = .ok (.iload_n 2, 1) := by decide +kernel
theorem dX1_copyAll_101 : decode cX1_copyAll 101 = .ok (.aload_n 1, 1) := by decide +kernel
theorem dX1_copyAll_102 : decode cX1_copyAll 102 = .ok (.getfield 21, 3) := by decide +kernel
theorem dX1_copyAll_105 : decode cX1_copyAll 105 = .ok (.iload_n 2, 1) := by decide +kernel
theorem dX1_copyAll_106 : decode cX1_copyAll 106 = .ok (.iaload, 1) := by decide +kernel
theorem dX1_copyAll_107 : decode cX1_copyAll 107 = .ok (.iastore, 1) := by decide +kernel
theorem dX1_copyAll_108 : decode cX1_copyAll 108 = .ok (.iinc 2 1, 3) := by decide +kernel
theorem dX1_copyAll_111 : decode cX1_copyAll 111 = .ok (.goto (-21), 3) := by decide +kernel
theorem dX1_copyAll_114 : decode cX1_copyAll 114 = .ok (.iconst 0, 1) := by decide +kernel
theorem dX1_copyAll_115 : decode cX1_copyAll 115 = .ok (.istore_n 2, 1) := by decide +kernel
theorem dX1_copyAll_116 : decode cX1_copyAll 116 = .ok (.iload_n 2, 1) := by decide +kernel
theorem dX1_copyAll_117 : decode cX1_copyAll 117 = .ok (.iconst 2, 1) := by decide +kernel
theorem dX1_copyAll_118 : decode cX1_copyAll 118 = .ok (.if_icmp .ge 21, 3) := by decide +kernel
theorem dX1_copyAll_121 : decode cX1_copyAll 121 = .ok (.aload_n 0, 1) := by decide +kernel
theorem dX1_copyAll_122 : decode cX1_copyAll 122 = .ok (.getfield 25, 3) := by decide +kernel
theorem dX1_copyAll_125 : decode cX1_copyAll 125 = .ok (.iload_n 2, 1) := by decide +kernel
theorem dX1_copyAll_126 : decode cX1_copyAll 126 = .ok (.aload_n 1, 1) := by decide +kernel
theorem dX1_copyAll_127 : decode cX1_copyAll 127 = .ok (.getfield 25, 3) := by decide +kernel
theorem dX1_copyAll_130 : decode cX1_copyAll 130 = .ok (.iload_n 2, 1) := by decide +kernel
theorem dX1_copyAll_131 : decode cX1_copyAll 131 = .ok (.iaload, 1) := by decide +kernel
theorem dX1_copyAll_132 : decode cX1_copyAll 132 = .ok (.iastore, 1) := by decide +kernel
theorem dX1_copyAll_133 : decode cX1_copyAll 133 = .ok (.iinc 2 1, 3) := by decide +kernel
theorem dX1_copyAll_136 : decode cX1_copyAll 136 = .ok (.goto (-20), 3) := by decide +kernel
theorem dX1_copyAll_139 : decode cX1_copyAll 139 = .ok (.return_, 1) := by decide +kernel
theorem dX1_beginSession_0 : decode cX1_beginSession 0 = .ok (.iload_n 1, 1) := by decide +kernel
theorem dX1_beginSession_1 : decode cX1_beginSession 1 = .ok (.ifCond .eq 11, 3) := by decide +kernel
theorem dX1_beginSession_4 : decode cX1_beginSession 4 = .ok (.iload_n 1, 1) := by decide +kernel
theorem dX1_beginSession_5 : decode cX1_beginSession 5 = .ok (.iconst 1, 1) := by decide +kernel
theorem dX1_beginSession_6 : decode cX1_beginSession 6 = .ok (.if_icmp .eq 6, 3) := by decide +kernel
theorem dX1_beginSession_9 : decode cX1_beginSession 9 = .ok (.bipush (-2), 2) := by decide +kernel
theorem dX1_beginSession_11 : decode cX1_beginSession 11 = .ok (.ireturn, 1) := by decide +kernel
theorem dX1_beginSession_12 : decode cX1_beginSession 12 = .ok (.aload_n 0, 1) := by decide +kernel
theorem dX1_beginSession_13 : decode cX1_beginSession 13 = .ok (.invokevirtual 43, 3) := by decide +kernel
theorem dX1_beginSession_16 : decode cX1_beginSession 16 = .ok (.ifnull 6, 3) := by decide +kernel
theorem dX1_beginSession_19 : decode cX1_beginSession 19 = .ok (.bipush (-5), 2) := by decide +kernel
theorem dX1_beginSession_21 : decode cX1_beginSession 21 = .ok (.ireturn, 1) := by decide +kernel
theorem dX1_beginSession_22 : decode cX1_beginSession 22 = .ok (.aload_n 0, 1) := by decide +kernel
theorem dX1_beginSession_23 : decode cX1_beginSession 23 = .ok (.getfield 25, 3) := by decide +kernel
theorem dX1_beginSession_26 : decode cX1_beginSession 26 = .ok (.iconst 0, 1) := by decide +kernel
theorem dX1_beginSession_27 : decode cX1_beginSession 27 = .ok (.iaload, 1) := by decide +kernel
theorem dX1_beginSession_28 : decode cX1_beginSession 28 = .ok (.aload_n 0, 1) := by decide +kernel
theorem dX1_beginSession_29 : decode cX1_beginSession 29 = .ok (.getfield 25, 3) := by decide +kernel
theorem dX1_beginSession_32 : decode cX1_beginSession 32 = .ok (.iconst 1, 1) := by decide +kernel
theorem dX1_beginSession_33 : decode cX1_beginSession 33 = .ok (.iaload, 1) := by decide +kernel
theorem dX1_beginSession_34 : decode cX1_beginSession 34 = .ok (.iadd, 1) := by decide +kernel
theorem dX1_beginSession_35 : decode cX1_beginSession 35 = .ok (.istore_n 2, 1) := by decide +kernel
theorem dX1_beginSession_36 : decode cX1_beginSession 36 = .ok (.aload_n 0, 1) := by decide +kernel
theorem dX1_beginSession_37 : decode cX1_beginSession 37 = .ok (.invokevirtual 47, 3) := by decide +kernel
theorem dX1_beginSession_40 : decode cX1_beginSession 40 = .ok (.astore_n 3, 1) := by decide +kernel
theorem dX1_beginSession_41 : decode cX1_beginSession 41 = .ok (.aload_n 3, 1) := by decide +kernel
theorem dX1_beginSession_42 : decode cX1_beginSession 42 = .ok (.ifnull 15, 3) := by decide +kernel
theorem dX1_beginSession_45 : decode cX1_beginSession 45 = .ok (.aload_n 0, 1) := by decide +kernel
theorem dX1_beginSession_46 : decode cX1_beginSession 46 = .ok (.getfield 33, 3) := by decide +kernel
theorem dX1_beginSession_49 : decode cX1_beginSession 49 = .ok (.iload_n 2, 1) := by decide +kernel
theorem dX1_beginSession_50 : decode cX1_beginSession 50 = .ok (.iadd, 1) := by decide +kernel
theorem dX1_beginSession_51 : decode cX1_beginSession 51 = .ok (.sipush 240, 3) := by decide +kernel
theorem dX1_beginSession_54 : decode cX1_beginSession 54 = .ok (.if_icmp .le 6, 3) := by decide +kernel
theorem dX1_beginSession_57 : decode cX1_beginSession 57 = .ok (.bipush (-4), 2) := by decide +kernel
theorem dX1_beginSession_59 : decode cX1_beginSession 59 = .ok (.ireturn, 1) := by decide +kernel
theorem dX1_beginSession_60 : decode cX1_beginSession 60 = .ok (.aload_n 0, 1) := by decide +kernel
theorem dX1_beginSession_61 : decode cX1_beginSession 61 = .ok (.aload_n 0, 1) := by decide +kernel
theorem dX1_beginSession_62 : decode cX1_beginSession 62 = .ok (.iconst (-1), 1) := by decide +kernel
theorem dX1_beginSession_63 : decode cX1_beginSession 63 = .ok (.invokevirtual 50, 3) := by decide +kernel
theorem dX1_beginSession_66 : decode cX1_beginSession 66 = .ok (.invokevirtual 54, 3) := by decide +kernel
theorem dX1_beginSession_69 : decode cX1_beginSession 69 = .ok (.astore 4, 2) := by decide +kernel
theorem dX1_beginSession_71 : decode cX1_beginSession 71 = .ok (.aload_n 3, 1) := by decide +kernel
theorem dX1_beginSession_72 : decode cX1_beginSession 72 = .ok (.aload_n 0, 1) := by decide +kernel
theorem dX1_beginSession_73 : decode cX1_beginSession 73 = .ok (.getfield 33, 3) := by decide +kernel
theorem dX1_beginSession_76 : decode cX1_beginSession 76 = .ok (.aload_n 0, 1) := by decide +kernel
theorem dX1_beginSession_77 : decode cX1_beginSession 77 = .ok (.getfield 25, 3) := by decide +kernel
theorem dX1_beginSession_80 : decode cX1_beginSession 80 = .ok (.iconst 0, 1) := by decide +kernel
theorem dX1_beginSession_81 : decode cX1_beginSession 81 = .ok (.iaload, 1) := by decide +kernel
theorem dX1_beginSession_82 : decode cX1_beginSession 82 = .ok (.aload_n 0, 1) := by decide +kernel
theorem dX1_beginSession_83 : decode cX1_beginSession 83 = .ok (.getfield 25, 3) := by decide +kernel
theorem dX1_beginSession_86 : decode cX1_beginSession 86 = .ok (.iconst 1, 1) := by decide +kernel
theorem dX1_beginSession_87 : decode cX1_beginSession 87 = .ok (.iaload, 1) := by decide +kernel
theorem dX1_beginSession_88 : decode cX1_beginSession 88 = .ok (.invokevirtual 58, 3) := by decide +kernel
theorem dX1_beginSession_91 : decode cX1_beginSession 91 = .ok (.iload_n 1, 1) := by decide +kernel
theorem dX1_beginSession_92 : decode cX1_beginSession 92 = .ok (.iconst 1, 1) := by decide +kernel
theorem dX1_beginSession_93 : decode cX1_beginSession 93 = .ok (.if_icmp .ne 14, 3) := by decide +kernel
theorem dX1_beginSession_96 : decode cX1_beginSession 96 = .ok (.aload 4, 2) := by decide +kernel
theorem dX1_beginSession_98 : decode cX1_beginSession 98 = .ok (.ifnull 9, 3) := by decide +kernel
theorem dX1_beginSession_101 : decode cX1_beginSession 101 = .ok (.aload_n 3, 1) := by decide +kernel
theorem dX1_beginSession_102 : decode cX1_beginSession 102 = .ok (.aload 4, 2) := by decide +kernel
theorem dX1_beginSession_104 : decode cX1_beginSession 104 = .ok (.invokevirtual 62, 3) := by decide +kernel
theorem dX1_beginSession_107 : decode cX1_beginSession 107 = .ok (.aload_n 0, 1) := by decide +kernel
theorem dX1_beginSession_108 : decode cX1_beginSession 108 = .ok (.aload_n 3, 1) := by decide +kernel
theorem dX1_beginSession_109 : decode cX1_beginSession 109 = .ok (.getfield 65, 3) := by decide +kernel
theorem dX1_beginSession_112 : decode cX1_beginSession 112 = .ok (.putfield 33, 3) := by decide +kernel
theorem dX1_beginSession_115 : decode cX1_beginSession 115 = .ok (.aload_n 0, 1) := by decide +kernel
theorem dX1_beginSession_116 : decode cX1_beginSession 116 = .ok (.dup, 1) := by decide +kernel
theorem dX1_beginSession_117 : decode cX1_beginSession 117 = .ok (.getfield 29, 3) := by decide +kernel
theorem dX1_beginSession_120 : decode cX1_beginSession 120 = .ok (.iconst 1, 1) := by decide +kernel
theorem dX1_beginSession_121 : decode cX1_beginSession 121 = .ok (.iadd, 1) := by decide +kernel
theorem dX1_beginSession_122 : decode cX1_beginSession 122 = .ok (.putfield 29, 3) := by decide +kernel
theorem dX1_beginSession_125 : decode cX1_beginSession 125 = .ok (.aload_n 0, 1) := by decide +kernel
theorem dX1_beginSession_126 : decode cX1_beginSession 126 = .ok (.getfield 29, 3) := by decide +kernel
theorem dX1_beginSession_129 : decode cX1_beginSession 129 = .ok (.iconst 1, 1) := by decide +kernel
theorem dX1_beginSession_130 : decode cX1_beginSession 130 = .ok (.isub, 1) := by decide +kernel
theorem dX1_beginSession_131 : decode cX1_beginSession 131 = .ok (.ireturn, 1) := by decide +kernel
theorem dX1_writeFile_0 : decode cX1_writeFile 0 = .ok (.iload_n 1, 1) := by decide +kernel
theorem dX1_writeFile_1 : decode cX1_writeFile 1 = .ok (.invokestatic 68, 3) := by decide +kernel
theorem dX1_writeFile_4 : decode cX1_writeFile 4 = .ok (.ifCond .ne 5, 3) := by decide +kernel
theorem dX1_writeFile_7 : decode cX1_writeFile 7 = .ok (.iconst (-1), 1) := by decide +kernel
theorem dX1_writeFile_8 : decode cX1_writeFile 8 = .ok (.ireturn, 1) := by decide +kernel
theorem dX1_writeFile_9 : decode cX1_writeFile 9 = .ok (.iload_n 2, 1) := by decide +kernel
theorem dX1_writeFile_10 : decode cX1_writeFile 10 = .ok (.invokestatic 72, 3) := by decide +kernel
theorem dX1_writeFile_13 : decode cX1_writeFile 13 = .ok (.ifCond .ne 6, 3) := by decide +kernel
theorem dX1_writeFile_16 : decode cX1_writeFile 16 = .ok (.bipush (-2), 2) := by decide +kernel
theorem dX1_writeFile_18 : decode cX1_writeFile 18 = .ok (.ireturn, 1) := by decide +kernel
theorem dX1_writeFile_19 : decode cX1_writeFile 19 = .ok (.aload_n 0, 1) := by decide +kernel
theorem dX1_writeFile_20 : decode cX1_writeFile 20 = .ok (.invokevirtual 43, 3) := by decide +kernel
theorem dX1_writeFile_23 : decode cX1_writeFile 23 = .ok (.astore_n 3, 1) := by decide +kernel
theorem dX1_writeFile_24 : decode cX1_writeFile 24 = .ok (.aload_n 3, 1) := by decide +kernel
theorem dX1_writeFile_25 : decode cX1_writeFile 25 = .ok (.ifnonnull 6, 3) := by decide +kernel
theorem dX1_writeFile_28 : decode cX1_writeFile 28 = .ok (.bipush (-5), 2) := by decide +kernel
theorem dX1_writeFile_30 : decode cX1_writeFile 30 = .ok (.ireturn, 1) := by decide +kernel
theorem dX1_writeFile_31 : decode cX1_writeFile 31 = .ok (.iload_n 2, 1) := by decide +kernel
theorem dX1_writeFile_32 : decode cX1_writeFile 32 = .ok (.aload_n 0, 1) := by decide +kernel
theorem dX1_writeFile_33 : decode cX1_writeFile 33 = .ok (.invokevirtual 75, 3) := by decide +kernel
theorem dX1_writeFile_36 : decode cX1_writeFile 36 = .ok (.if_icmp .le 6, 3) := by decide +kernel
theorem dX1_writeFile_39 : decode cX1_writeFile 39 = .ok (.bipush (-4), 2) := by decide +kernel
theorem dX1_writeFile_41 : decode cX1_writeFile 41 = .ok (.ireturn, 1) := by decide +kernel
theorem dX1_writeFile_42 : decode cX1_writeFile 42 = .ok (.new 79, 3) := by decide +kernel
theorem dX1_writeFile_45 : decode cX1_writeFile 45 = .ok (.dup, 1) := by decide +kernel
theorem dX1_writeFile_46 : decode cX1_writeFile 46 = .ok (.aload_n 0, 1) := by decide +kernel
theorem dX1_writeFile_47 : decode cX1_writeFile 47 = .ok (.getfield 33, 3) := by decide +kernel
theorem dX1_writeFile_50 : decode cX1_writeFile 50 = .ok (.iload_n 2, 1) := by decide +kernel
theorem dX1_writeFile_51 : decode cX1_writeFile 51 = .ok (.aload_n 0, 1) := by decide +kernel
theorem dX1_writeFile_52 : decode cX1_writeFile 52 = .ok (.getfield 29, 3) := by decide +kernel
theorem dX1_writeFile_55 : decode cX1_writeFile 55 = .ok (.iconst 1, 1) := by decide +kernel
theorem dX1_writeFile_56 : decode cX1_writeFile 56 = .ok (.isub, 1) := by decide +kernel
theorem dX1_writeFile_57 : decode cX1_writeFile 57 = .ok (.invokespecial 81, 3) := by decide +kernel
theorem dX1_writeFile_60 : decode cX1_writeFile 60 = .ok (.astore 4, 2) := by decide +kernel
theorem dX1_writeFile_62 : decode cX1_writeFile 62 = .ok (.aload_n 3, 1) := by decide +kernel
theorem dX1_writeFile_63 : decode cX1_writeFile 63 = .ok (.iload_n 1, 1) := by decide +kernel
theorem dX1_writeFile_64 : decode cX1_writeFile 64 = .ok (.aload 4, 2) := by decide +kernel
theorem dX1_writeFile_66 : decode cX1_writeFile 66 = .ok (.invokevirtual 83, 3) := by decide +kernel
theorem dX1_writeFile_69 : decode cX1_writeFile 69 = .ok (.aload_n 3, 1) := by decide +kernel
theorem dX1_writeFile_70 : decode cX1_writeFile 70 = .ok (.dup, 1) := by decide +kernel
theorem dX1_writeFile_71 : decode cX1_writeFile 71 = .ok (.getfield 87, 3) := by decide +kernel
theorem dX1_writeFile_74 : decode cX1_writeFile 74 = .ok (.iconst 1, 1) := by decide +kernel
theorem dX1_writeFile_75 : decode cX1_writeFile 75 = .ok (.iadd, 1) := by decide +kernel
theorem dX1_writeFile_76 : decode cX1_writeFile 76 = .ok (.putfield 87, 3) := by decide +kernel
theorem dX1_writeFile_79 : decode cX1_writeFile 79 = .ok (.aload_n 0, 1) := by decide +kernel
theorem dX1_writeFile_80 : decode cX1_writeFile 80 = .ok (.getfield 21, 3) := by decide +kernel
theorem dX1_writeFile_83 : decode cX1_writeFile 83 = .ok (.iload_n 1, 1) := by decide +kernel
theorem dX1_writeFile_84 : decode cX1_writeFile 84 = .ok (.dup2, 1) := by decide +kernel
theorem dX1_writeFile_85 : decode cX1_writeFile 85 = .ok (.iaload, 1) := by decide +kernel
theorem dX1_writeFile_86 : decode cX1_writeFile 86 = .ok (.iconst 1, 1) := by decide +kernel
theorem dX1_writeFile_87 : decode cX1_writeFile 87 = .ok (.iadd, 1) := by decide +kernel
theorem dX1_writeFile_88 : decode cX1_writeFile 88 = .ok (.iastore, 1) := by decide +kernel
theorem dX1_writeFile_89 : decode cX1_writeFile 89 = .ok (.aload_n 0, 1) := by decide +kernel
theorem dX1_writeFile_90 : decode cX1_writeFile 90 = .ok (.dup, 1) := by decide +kernel
theorem dX1_writeFile_91 : decode cX1_writeFile 91 = .ok (.getfield 33, 3) := by decide +kernel
theorem dX1_writeFile_94 : decode cX1_writeFile 94 = .ok (.iload_n 2, 1) := by decide +kernel
theorem dX1_writeFile_95 : decode cX1_writeFile 95 = .ok (.iadd, 1) := by decide +kernel
theorem dX1_writeFile_96 : decode cX1_writeFile 96 = .ok (.putfield 33, 3) := by decide +kernel
theorem dX1_writeFile_99 : decode cX1_writeFile 99 = .ok (.aload_n 3, 1) := by decide +kernel
theorem dX1_writeFile_100 : decode cX1_writeFile 100 = .ok (.aload_n 0, 1) := by decide +kernel
theorem dX1_writeFile_101 : decode cX1_writeFile 101 = .ok (.getfield 33, 3) := by decide +kernel
theorem dX1_writeFile_104 : decode cX1_writeFile 104 = .ok (.putfield 65, 3) := by decide +kernel
theorem dX1_writeFile_107 : decode cX1_writeFile 107 = .ok (.aload 4, 2) := by decide +kernel
theorem dX1_writeFile_109 : decode cX1_writeFile 109 = .ok (.getfield 90, 3) := by decide +kernel
theorem dX1_writeFile_112 : decode cX1_writeFile 112 = .ok (.ireturn, 1) := by decide +kernel
theorem dX1_removeEntry_0 : decode cX1_removeEntry 0 = .ok (.iload_n 1, 1) := by decide +kernel
theorem dX1_removeEntry_1 : decode cX1_removeEntry 1 = .ok (.invokestatic 68, 3) := by decide +kernel
theorem dX1_removeEntry_4 : decode cX1_removeEntry 4 = .ok (.ifCond .ne 5, 3) := by decide +kernel
theorem dX1_removeEntry_7 : decode cX1_removeEntry 7 = .ok (.iconst (-1), 1) := by decide +kernel
theorem dX1_removeEntry_8 : decode cX1_removeEntry 8 = .ok (.ireturn, 1) := by decide +kernel
theorem dX1_removeEntry_9 : decode cX1_removeEntry 9 = .ok (.aload_n 0, 1) := by decide +kernel
theorem dX1_removeEntry_10 : decode cX1_removeEntry 10 = .ok (.invokevirtual 43, 3) := by decide +kernel
theorem dX1_removeEntry_13 : decode cX1_removeEntry 13 = .ok (.astore_n 2, 1) := by decide +kernel
theorem dX1_removeEntry_14 : decode cX1_removeEntry 14 = .ok (.aload_n 2, 1) := by decide +kernel
theorem dX1_removeEntry_15 : decode cX1_removeEntry 15 = .ok (.ifnull 11, 3) := by decide +kernel
theorem dX1_removeEntry_18 : decode cX1_removeEntry 18 = .ok (.aload_n 2, 1) := by decide +kernel
theorem dX1_removeEntry_19 : decode cX1_removeEntry 19 = .ok (.iload_n 1, 1) := by decide +kernel
theorem dX1_removeEntry_20 : decode cX1_removeEntry 20 = .ok (.invokevirtual 93, 3) := by decide +kernel
theorem dX1_removeEntry_23 : decode cX1_removeEntry 23 = .ok (.ifnonnull 6, 3) := by decide +kernel
theorem dX1_removeEntry_26 : decode cX1_removeEntry 26 = .ok (.bipush (-5), 2) := by decide +kernel
theorem dX1_removeEntry_28 : decode cX1_removeEntry 28 = .ok (.ireturn, 1) := by decide +kernel
theorem dX1_removeEntry_29 : decode cX1_removeEntry 29 = .ok (.aload_n 2, 1) := by decide +kernel
theorem dX1_removeEntry_30 : decode cX1_removeEntry 30 = .ok (.iload_n 1, 1) := by decide +kernel
theorem dX1_removeEntry_31 : decode cX1_removeEntry 31 = .ok (.aconst_null, 1) := by decide +kernel
theorem dX1_removeEntry_32 : decode cX1_removeEntry 32 = .ok (.invokevirtual 83, 3) := by decide +kernel
theorem dX1_removeEntry_35 : decode cX1_removeEntry 35 = .ok (.aload_n 2, 1) := by decide +kernel
theorem dX1_removeEntry_36 : decode cX1_removeEntry 36 = .ok (.invokevirtual 97, 3) := by decide +kernel
theorem dX1_removeEntry_39 : decode cX1_removeEntry 39 = .ok (.ireturn, 1) := by decide +kernel
theorem dX1_keepEntry_0 : decode cX1_keepEntry 0 = .ok (.aload_n 0, 1) := by decide +kernel
theorem dX1_keepEntry_1 : decode cX1_keepEntry 1 = .ok (.iload_n 2, 1) := by decide +kernel
theorem dX1_keepEntry_2 : decode cX1_keepEntry 2 = .ok (.invokevirtual 54, 3) := by decide +kernel
theorem dX1_keepEntry_5 : decode cX1_keepEntry 5 = .ok (.astore_n 3, 1) := by decide +kernel
theorem dX1_keepEntry_6 : decode cX1_keepEntry 6 = .ok (.iload_n 1, 1) := by decide +kernel
theorem dX1_keepEntry_7 : decode cX1_keepEntry 7 = .ok (.invokestatic 68, 3) := by decide +kernel
theorem dX1_keepEntry_10 : decode cX1_keepEntry 10 = .ok (.ifCond .eq 7, 3) := by decide +kernel
theorem dX1_keepEntry_13 : decode cX1_keepEntry 13 = .ok (.aload_n 3, 1) := by decide +kernel
theorem dX1_keepEntry_14 : decode cX1_keepEntry 14 = .ok (.ifnonnull 5, 3) := by decide +kernel
theorem dX1_keepEntry_17 : decode cX1_keepEntry 17 = .ok (.iconst (-1), 1) := by decide +kernel
theorem dX1_keepEntry_18 : decode cX1_keepEntry 18 = .ok (.ireturn, 1) := by decide +kernel
theorem dX1_keepEntry_19 : decode cX1_keepEntry 19 = .ok (.aload_n 0, 1) := by decide +kernel
theorem dX1_keepEntry_20 : decode cX1_keepEntry 20 = .ok (.invokevirtual 43, 3) := by decide +kernel
theorem dX1_keepEntry_23 : decode cX1_keepEntry 23 = .ok (.astore 4, 2) := by decide +kernel
theorem dX1_keepEntry_25 : decode cX1_keepEntry 25 = .ok (.aload 4, 2) := by decide +kernel
theorem dX1_keepEntry_27 : decode cX1_keepEntry 27 = .ok (.ifnull 12, 3) := by decide +kernel
theorem dX1_keepEntry_30 : decode cX1_keepEntry 30 = .ok (.aload_n 0, 1) := by decide +kernel
theorem dX1_keepEntry_31 : decode cX1_keepEntry 31 = .ok (.aload_n 3, 1) := by decide +kernel
theorem dX1_keepEntry_32 : decode cX1_keepEntry 32 = .ok (.iconst (-1), 1) := by decide +kernel
theorem dX1_keepEntry_33 : decode cX1_keepEntry 33 = .ok (.invokevirtual 100, 3) := by decide +kernel
theorem dX1_keepEntry_36 : decode cX1_keepEntry 36 = .ok (.ifCond .ne 6, 3) := by decide +kernel
theorem dX1_keepEntry_39 : decode cX1_keepEntry 39 = .ok (.bipush (-5), 2) := by decide +kernel
theorem dX1_keepEntry_41 : decode cX1_keepEntry 41 = .ok (.ireturn, 1) := by decide +kernel
theorem dX1_keepEntry_42 : decode cX1_keepEntry 42 = .ok (.aload_n 3, 1) := by decide +kernel
theorem dX1_keepEntry_43 : decode cX1_keepEntry 43 = .ok (.iload_n 1, 1) := by decide +kernel
theorem dX1_keepEntry_44 : decode cX1_keepEntry 44 = .ok (.invokevirtual 93, 3) := by decide +kernel
theorem dX1_keepEntry_47 : decode cX1_keepEntry 47 = .ok (.astore 5, 2) := by decide +kernel
theorem dX1_keepEntry_49 : decode cX1_keepEntry 49 = .ok (.aload 5, 2) := by decide +kernel
theorem dX1_keepEntry_51 : decode cX1_keepEntry 51 = .ok (.ifnonnull 6, 3) := by decide +kernel
theorem dX1_keepEntry_54 : decode cX1_keepEntry 54 = .ok (.bipush (-5), 2) := by decide +kernel
theorem dX1_keepEntry_56 : decode cX1_keepEntry 56 = .ok (.ireturn, 1) := by decide +kernel
theorem dX1_keepEntry_57 : decode cX1_keepEntry 57 = .ok (.aload 4, 2) := by decide +kernel
theorem dX1_keepEntry_59 : decode cX1_keepEntry 59 = .ok (.iload_n 1, 1) := by decide +kernel
theorem dX1_keepEntry_60 : decode cX1_keepEntry 60 = .ok (.aload 5, 2) := by decide +kernel
theorem dX1_keepEntry_62 : decode cX1_keepEntry 62 = .ok (.invokevirtual 83, 3) := by decide +kernel
theorem dX1_keepEntry_65 : decode cX1_keepEntry 65 = .ok (.aload 5, 2) := by decide +kernel
theorem dX1_keepEntry_67 : decode cX1_keepEntry 67 = .ok (.getfield 90, 3) := by decide +kernel
theorem dX1_keepEntry_70 : decode cX1_keepEntry 70 = .ok (.ireturn, 1) := by decide +kernel
theorem dX1_closeSession_0 : decode cX1_closeSession 0 = .ok (.aload_n 0, 1) := by decide +kernel
theorem dX1_closeSession_1 : decode cX1_closeSession 1 = .ok (.invokevirtual 43, 3) := by decide +kernel
theorem dX1_closeSession_4 : decode cX1_closeSession 4 = .ok (.astore_n 1, 1) := by decide +kernel
theorem dX1_closeSession_5 : decode cX1_closeSession 5 = .ok (.aload_n 1, 1) := by decide +kernel
theorem dX1_closeSession_6 : decode cX1_closeSession 6 = .ok (.ifnonnull 8, 3) := by decide +kernel
theorem dX1_closeSession_9 : decode cX1_closeSession 9 = .ok (.bipush (-5), 2) := by decide +kernel
theorem dX1_closeSession_11 : decode cX1_closeSession 11 = .ok (.goto 8, 3) := by decide +kernel
theorem dX1_closeSession_14 : decode cX1_closeSession 14 = .ok (.aload_n 0, 1) := by decide +kernel
theorem dX1_closeSession_15 : decode cX1_closeSession 15 = .ok (.aload_n 1, 1) := by decide +kernel
theorem dX1_closeSession_16 : decode cX1_closeSession 16 = .ok (.invokevirtual 104, 3) := by decide +kernel
theorem dX1_closeSession_19 : decode cX1_closeSession 19 = .ok (.ireturn, 1) := by decide +kernel
theorem dX1_breakSession_0 : decode cX1_breakSession 0 = .ok (.aload_n 0, 1) := by decide +kernel
theorem dX1_breakSession_1 : decode cX1_breakSession 1 = .ok (.invokevirtual 43, 3) := by decide +kernel
theorem dX1_breakSession_4 : decode cX1_breakSession 4 = .ok (.astore_n 1, 1) := by decide +kernel
theorem dX1_breakSession_5 : decode cX1_breakSession 5 = .ok (.aload_n 1, 1) := by decide +kernel
theorem dX1_breakSession_6 : decode cX1_breakSession 6 = .ok (.ifnonnull 5, 3) := by decide +kernel
theorem dX1_breakSession_9 : decode cX1_breakSession 9 = .ok (.iconst 0, 1) := by decide +kernel
theorem dX1_breakSession_10 : decode cX1_breakSession 10 = .ok (.ireturn, 1) := by decide +kernel
theorem dX1_breakSession_11 : decode cX1_breakSession 11 = .ok (.aload_n 1, 1) := by decide +kernel
theorem dX1_breakSession_12 : decode cX1_breakSession 12 = .ok (.iconst 2, 1) := by decide +kernel
theorem dX1_breakSession_13 : decode cX1_breakSession 13 = .ok (.putfield 108, 3) := by decide +kernel
theorem dX1_breakSession_16 : decode cX1_breakSession 16 = .ok (.iconst 1, 1) := by decide +kernel
theorem dX1_breakSession_17 : decode cX1_breakSession 17 = .ok (.ireturn, 1) := by decide +kernel
theorem dX1_repairSession_0 : decode cX1_repairSession 0 = .ok (.aload_n 0, 1) := by decide +kernel
theorem dX1_repairSession_1 : decode cX1_repairSession 1 = .ok (.iload_n 1, 1) := by decide +kernel
theorem dX1_repairSession_2 : decode cX1_repairSession 2 = .ok (.invokevirtual 54, 3) := by decide +kernel
theorem dX1_repairSession_5 : decode cX1_repairSession 5 = .ok (.astore_n 2, 1) := by decide +kernel
theorem dX1_repairSession_6 : decode cX1_repairSession 6 = .ok (.aload_n 2, 1) := by decide +kernel
theorem dX1_repairSession_7 : decode cX1_repairSession 7 = .ok (.ifnonnull 5, 3) := by decide +kernel
theorem dX1_repairSession_10 : decode cX1_repairSession 10 = .ok (.iconst (-1), 1) := by decide +kernel
theorem dX1_repairSession_11 : decode cX1_repairSession 11 = .ok (.ireturn, 1) := by decide +kernel
theorem dX1_repairSession_12 : decode cX1_repairSession 12 = .ok (.iload_n 1, 1) := by decide +kernel
theorem dX1_repairSession_13 : decode cX1_repairSession 13 = .ok (.aload_n 0, 1) := by decide +kernel
theorem dX1_repairSession_14 : decode cX1_repairSession 14 = .ok (.getfield 29, 3) := by decide +kernel
theorem dX1_repairSession_17 : decode cX1_repairSession 17 = .ok (.iconst 1, 1) := by decide +kernel
theorem dX1_repairSession_18 : decode cX1_repairSession 18 = .ok (.isub, 1) := by decide +kernel
theorem dX1_repairSession_19 : decode cX1_repairSession 19 = .ok (.if_icmp .ne 7, 3) := by decide +kernel
theorem dX1_repairSession_22 : decode cX1_repairSession 22 = .ok (.iconst 1, 1) := by decide +kernel
theorem dX1_repairSession_23 : decode cX1_repairSession 23 = .ok (.goto 4, 3) := by decide +kernel
theorem dX1_repairSession_26 : decode cX1_repairSession 26 = .ok (.iconst 0, 1) := by decide +kernel
theorem dX1_repairSession_27 : decode cX1_repairSession 27 = .ok (.istore_n 3, 1) := by decide +kernel
theorem dX1_repairSession_28 : decode cX1_repairSession 28 = .ok (.aload_n 2, 1) := by decide +kernel
theorem dX1_repairSession_29 : decode cX1_repairSession 29 = .ok (.getfield 108, 3) := by decide +kernel
theorem dX1_repairSession_32 : decode cX1_repairSession 32 = .ok (.iconst 2, 1) := by decide +kernel
theorem dX1_repairSession_33 : decode cX1_repairSession 33 = .ok (.if_icmp .ne 23, 3) := by decide +kernel
theorem dX1_repairSession_36 : decode cX1_repairSession 36 = .ok (.iload_n 3, 1) := by decide +kernel
theorem dX1_repairSession_37 : decode cX1_repairSession 37 = .ok (.ifCond .eq 19, 3) := by decide +kernel
theorem dX1_repairSession_40 : decode cX1_repairSession 40 = .ok (.aload_n 0, 1) := by decide +kernel
theorem dX1_repairSession_41 : decode cX1_repairSession 41 = .ok (.aload_n 2, 1) := by decide +kernel
theorem dX1_repairSession_42 : decode cX1_repairSession 42 = .ok (.getfield 111, 3) := by decide +kernel
theorem dX1_repairSession_45 : decode cX1_repairSession 45 = .ok (.aload_n 2, 1) := by decide +kernel
theorem dX1_repairSession_46 : decode cX1_repairSession 46 = .ok (.getfield 112, 3) := by decide +kernel
theorem dX1_repairSession_49 : decode cX1_repairSession 49 = .ok (.iconst (-1), 1) := by decide +kernel
theorem dX1_repairSession_50 : decode cX1_repairSession 50 = .ok (.invokevirtual 115, 3) := by decide +kernel
theorem dX1_repairSession_53 : decode cX1_repairSession 53 = .ok (.ifCond .ne 6, 3) := by decide +kernel
theorem dX1_repairSession_56 : decode cX1_repairSession 56 = .ok (.bipush (-5), 2) := by decide +kernel
theorem dX1_repairSession_58 : decode cX1_repairSession 58 = .ok (.ireturn, 1) := by decide +kernel
theorem dX1_repairSession_59 : decode cX1_repairSession 59 = .ok (.aload_n 0, 1) := by decide +kernel
theorem dX1_repairSession_60 : decode cX1_repairSession 60 = .ok (.aload_n 2, 1) := by decide +kernel
theorem dX1_repairSession_61 : decode cX1_repairSession 61 = .ok (.invokevirtual 104, 3) := by decide +kernel
theorem dX1_repairSession_64 : decode cX1_repairSession 64 = .ok (.ireturn, 1) := by decide +kernel
theorem dX1_damageSector_0 : decode cX1_damageSector 0 = .ok (.iload_n 1, 1) := by decide +kernel
theorem dX1_damageSector_1 : decode cX1_damageSector 1 = .ok (.invokestatic 119, 3) := by decide +kernel
theorem dX1_damageSector_4 : decode cX1_damageSector 4 = .ok (.ifCond .ne 5, 3) := by decide +kernel
theorem dX1_damageSector_7 : decode cX1_damageSector 7 = .ok (.iconst (-1), 1) := by decide +kernel
theorem dX1_damageSector_8 : decode cX1_damageSector 8 = .ok (.ireturn, 1) := by decide +kernel
theorem dX1_damageSector_9 : decode cX1_damageSector 9 = .ok (.aload_n 0, 1) := by decide +kernel
theorem dX1_damageSector_10 : decode cX1_damageSector 10 = .ok (.getfield 17, 3) := by decide +kernel
theorem dX1_damageSector_13 : decode cX1_damageSector 13 = .ok (.iload_n 1, 1) := by decide +kernel
theorem dX1_damageSector_14 : decode cX1_damageSector 14 = .ok (.baload, 1) := by decide +kernel
theorem dX1_damageSector_15 : decode cX1_damageSector 15 = .ok (.ifCond .ne 20, 3) := by decide +kernel
theorem dX1_damageSector_18 : decode cX1_damageSector 18 = .ok (.aload_n 0, 1) := by decide +kernel
theorem dX1_damageSector_19 : decode cX1_damageSector 19 = .ok (.getfield 17, 3) := by decide +kernel
theorem dX1_damageSector_22 : decode cX1_damageSector 22 = .ok (.iload_n 1, 1) := by decide +kernel
theorem dX1_damageSector_23 : decode cX1_damageSector 23 = .ok (.iconst 1, 1) := by decide +kernel
theorem dX1_damageSector_24 : decode cX1_damageSector 24 = .ok (.bastore, 1) := by decide +kernel
theorem dX1_damageSector_25 : decode cX1_damageSector 25 = .ok (.aload_n 0, 1) := by decide +kernel
theorem dX1_damageSector_26 : decode cX1_damageSector 26 = .ok (.dup, 1) := by decide +kernel
theorem dX1_damageSector_27 : decode cX1_damageSector 27 = .ok (.getfield 36, 3) := by decide +kernel
theorem dX1_damageSector_30 : decode cX1_damageSector 30 = .ok (.iconst 1, 1) := by decide +kernel
theorem dX1_damageSector_31 : decode cX1_damageSector 31 = .ok (.iadd, 1) := by decide +kernel
theorem dX1_damageSector_32 : decode cX1_damageSector 32 = .ok (.putfield 36, 3) := by decide +kernel
theorem dX1_damageSector_35 : decode cX1_damageSector 35 = .ok (.aload_n 0, 1) := by decide +kernel
theorem dX1_damageSector_36 : decode cX1_damageSector 36 = .ok (.getfield 36, 3) := by decide +kernel
theorem dX1_damageSector_39 : decode cX1_damageSector 39 = .ok (.ireturn, 1) := by decide +kernel
theorem dX1_changeSetting_0 : decode cX1_changeSetting 0 = .ok (.iload_n 1, 1) := by decide +kernel
theorem dX1_changeSetting_1 : decode cX1_changeSetting 1 = .ok (.invokestatic 122, 3) := by decide +kernel
theorem dX1_changeSetting_4 : decode cX1_changeSetting 4 = .ok (.ifCond .ne 5, 3) := by decide +kernel
theorem dX1_changeSetting_7 : decode cX1_changeSetting 7 = .ok (.iconst (-1), 1) := by decide +kernel
theorem dX1_changeSetting_8 : decode cX1_changeSetting 8 = .ok (.ireturn, 1) := by decide +kernel
theorem dX1_changeSetting_9 : decode cX1_changeSetting 9 = .ok (.iload_n 1, 1) := by decide +kernel
theorem dX1_changeSetting_10 : decode cX1_changeSetting 10 = .ok (.ifCond .ne 7, 3) := by decide +kernel
theorem dX1_changeSetting_13 : decode cX1_changeSetting 13 = .ok (.iconst 2, 1) := by decide +kernel
theorem dX1_changeSetting_14 : decode cX1_changeSetting 14 = .ok (.goto 4, 3) := by decide +kernel
theorem dX1_changeSetting_17 : decode cX1_changeSetting 17 = .ok (.iconst 1, 1) := by decide +kernel
theorem dX1_changeSetting_18 : decode cX1_changeSetting 18 = .ok (.istore_n 3, 1) := by decide +kernel
theorem dX1_changeSetting_19 : decode cX1_changeSetting 19 = .ok (.iload_n 2, 1) := by decide +kernel
theorem dX1_changeSetting_20 : decode cX1_changeSetting 20 = .ok (.iload_n 3, 1) := by decide +kernel
theorem dX1_changeSetting_21 : decode cX1_changeSetting 21 = .ok (.if_icmp .lt 9, 3) := by decide +kernel
theorem dX1_changeSetting_24 : decode cX1_changeSetting 24 = .ok (.iload_n 2, 1) := by decide +kernel
theorem dX1_changeSetting_25 : decode cX1_changeSetting 25 = .ok (.bipush 9, 2) := by decide +kernel
theorem dX1_changeSetting_27 : decode cX1_changeSetting 27 = .ok (.if_icmp .le 6, 3) := by decide +kernel
theorem dX1_changeSetting_30 : decode cX1_changeSetting 30 = .ok (.bipush (-2), 2) := by decide +kernel
theorem dX1_changeSetting_32 : decode cX1_changeSetting 32 = .ok (.ireturn, 1) := by decide +kernel
theorem dX1_changeSetting_33 : decode cX1_changeSetting 33 = .ok (.aload_n 0, 1) := by decide +kernel
theorem dX1_changeSetting_34 : decode cX1_changeSetting 34 = .ok (.getfield 25, 3) := by decide +kernel
theorem dX1_changeSetting_37 : decode cX1_changeSetting 37 = .ok (.iload_n 1, 1) := by decide +kernel
theorem dX1_changeSetting_38 : decode cX1_changeSetting 38 = .ok (.iaload, 1) := by decide +kernel
theorem dX1_changeSetting_39 : decode cX1_changeSetting 39 = .ok (.istore 4, 2) := by decide +kernel
theorem dX1_changeSetting_41 : decode cX1_changeSetting 41 = .ok (.aload_n 0, 1) := by decide +kernel
theorem dX1_changeSetting_42 : decode cX1_changeSetting 42 = .ok (.getfield 25, 3) := by decide +kernel
theorem dX1_changeSetting_45 : decode cX1_changeSetting 45 = .ok (.iload_n 1, 1) := by decide +kernel
theorem dX1_changeSetting_46 : decode cX1_changeSetting 46 = .ok (.iload_n 2, 1) := by decide +kernel
theorem dX1_changeSetting_47 : decode cX1_changeSetting 47 = .ok (.iastore, 1) := by decide +kernel
theorem dX1_changeSetting_48 : decode cX1_changeSetting 48 = .ok (.iload 4, 2) := by decide +kernel
theorem dX1_changeSetting_50 : decode cX1_changeSetting 50 = .ok (.ireturn, 1) := by decide +kernel
theorem dX1_leadOutOf_0 : decode cX1_leadOutOf 0 = .ok (.aload_n 0, 1) := by decide +kernel
theorem dX1_leadOutOf_1 : decode cX1_leadOutOf 1 = .ok (.dup, 1) := by decide +kernel
theorem dX1_leadOutOf_2 : decode cX1_leadOutOf 2 = .ok (.getfield 33, 3) := by decide +kernel
theorem dX1_leadOutOf_5 : decode cX1_leadOutOf 5 = .ok (.aload_n 1, 1) := by decide +kernel
theorem dX1_leadOutOf_6 : decode cX1_leadOutOf 6 = .ok (.getfield 125, 3) := by decide +kernel
theorem dX1_leadOutOf_9 : decode cX1_leadOutOf 9 = .ok (.iadd, 1) := by decide +kernel
theorem dX1_leadOutOf_10 : decode cX1_leadOutOf 10 = .ok (.putfield 33, 3) := by decide +kernel
theorem dX1_leadOutOf_13 : decode cX1_leadOutOf 13 = .ok (.aload_n 1, 1) := by decide +kernel
theorem dX1_leadOutOf_14 : decode cX1_leadOutOf 14 = .ok (.aload_n 0, 1) := by decide +kernel
theorem dX1_leadOutOf_15 : decode cX1_leadOutOf 15 = .ok (.getfield 33, 3) := by decide +kernel
theorem dX1_leadOutOf_18 : decode cX1_leadOutOf 18 = .ok (.putfield 65, 3) := by decide +kernel
theorem dX1_leadOutOf_21 : decode cX1_leadOutOf 21 = .ok (.aload_n 1, 1) := by decide +kernel
theorem dX1_leadOutOf_22 : decode cX1_leadOutOf 22 = .ok (.iconst 1, 1) := by decide +kernel
theorem dX1_leadOutOf_23 : decode cX1_leadOutOf 23 = .ok (.putfield 108, 3) := by decide +kernel
theorem dX1_leadOutOf_26 : decode cX1_leadOutOf 26 = .ok (.aload_n 0, 1) := by decide +kernel
theorem dX1_leadOutOf_27 : decode cX1_leadOutOf 27 = .ok (.getfield 33, 3) := by decide +kernel
theorem dX1_leadOutOf_30 : decode cX1_leadOutOf 30 = .ok (.ireturn, 1) := by decide +kernel
theorem dX1_sessionAt_0 : decode cX1_sessionAt 0 = .ok (.iload_n 1, 1) := by decide +kernel
theorem dX1_sessionAt_1 : decode cX1_sessionAt 1 = .ok (.ifCond .lt 26, 3) := by decide +kernel
theorem dX1_sessionAt_4 : decode cX1_sessionAt 4 = .ok (.iload_n 1, 1) := by decide +kernel
theorem dX1_sessionAt_5 : decode cX1_sessionAt 5 = .ok (.aload_n 0, 1) := by decide +kernel
theorem dX1_sessionAt_6 : decode cX1_sessionAt 6 = .ok (.getfield 29, 3) := by decide +kernel
theorem dX1_sessionAt_9 : decode cX1_sessionAt 9 = .ok (.if_icmp .ge 18, 3) := by decide +kernel
theorem dX1_sessionAt_12 : decode cX1_sessionAt 12 = .ok (.iload_n 1, 1) := by decide +kernel
theorem dX1_sessionAt_13 : decode cX1_sessionAt 13 = .ok (.bipush 12, 2) := by decide +kernel
theorem dX1_sessionAt_15 : decode cX1_sessionAt 15 = .ok (.if_icmp .ge 12, 3) := by decide +kernel
theorem dX1_sessionAt_18 : decode cX1_sessionAt 18 = .ok (.aload_n 0, 1) := by decide +kernel
theorem dX1_sessionAt_19 : decode cX1_sessionAt 19 = .ok (.getfield 11, 3) := by decide +kernel
theorem dX1_sessionAt_22 : decode cX1_sessionAt 22 = .ok (.iload_n 1, 1) := by decide +kernel
theorem dX1_sessionAt_23 : decode cX1_sessionAt 23 = .ok (.aaload, 1) := by decide +kernel
theorem dX1_sessionAt_24 : decode cX1_sessionAt 24 = .ok (.goto 4, 3) := by decide +kernel
theorem dX1_sessionAt_27 : decode cX1_sessionAt 27 = .ok (.aconst_null, 1) := by decide +kernel
theorem dX1_sessionAt_28 : decode cX1_sessionAt 28 = .ok (.areturn, 1) := by decide +kernel
theorem dX1_freshSession_0 : decode cX1_freshSession 0 = .ok (.aload_n 0, 1) := by decide +kernel
theorem dX1_freshSession_1 : decode cX1_freshSession 1 = .ok (.getfield 29, 3) := by decide +kernel
theorem dX1_freshSession_4 : decode cX1_freshSession 4 = .ok (.ifCond .lt 24, 3) := by decide +kernel
theorem dX1_freshSession_7 : decode cX1_freshSession 7 = .ok (.aload_n 0, 1) := by decide +kernel
theorem dX1_freshSession_8 : decode cX1_freshSession 8 = .ok (.getfield 29, 3) := by decide +kernel
theorem dX1_freshSession_11 : decode cX1_freshSession 11 = .ok (.bipush 12, 2) := by decide +kernel
theorem dX1_freshSession_13 : decode cX1_freshSession 13 = .ok (.if_icmp .ge 15, 3) := by decide +kernel
theorem dX1_freshSession_16 : decode cX1_freshSession 16 = .ok (.aload_n 0, 1) := by decide +kernel
theorem dX1_freshSession_17 : decode cX1_freshSession 17 = .ok (.getfield 11, 3) := by decide +kernel
theorem dX1_freshSession_20 : decode cX1_freshSession 20 = .ok (.aload_n 0, 1) := by decide +kernel
theorem dX1_freshSession_21 : decode cX1_freshSession 21 = .ok (.getfield 29, 3) := by decide +kernel
theorem dX1_freshSession_24 : decode cX1_freshSession 24 = .ok (.aaload, 1) := by decide +kernel
theorem dX1_freshSession_25 : decode cX1_freshSession 25 = .ok (.goto 4, 3) := by decide +kernel
theorem dX1_freshSession_28 : decode cX1_freshSession 28 = .ok (.aconst_null, 1) := by decide +kernel
theorem dX1_freshSession_29 : decode cX1_freshSession 29 = .ok (.areturn, 1) := by decide +kernel
theorem dX1_openSession_0 : decode cX1_openSession 0 = .ok (.aload_n 0, 1) := by decide +kernel
theorem dX1_openSession_1 : decode cX1_openSession 1 = .ok (.aload_n 0, 1) := by decide +kernel
theorem dX1_openSession_2 : decode cX1_openSession 2 = .ok (.getfield 29, 3) := by decide +kernel
theorem dX1_openSession_5 : decode cX1_openSession 5 = .ok (.iconst 1, 1) := by decide +kernel
theorem dX1_openSession_6 : decode cX1_openSession 6 = .ok (.isub, 1) := by decide +kernel
theorem dX1_openSession_7 : decode cX1_openSession 7 = .ok (.invokevirtual 54, 3) := by decide +kernel
theorem dX1_openSession_10 : decode cX1_openSession 10 = .ok (.astore_n 1, 1) := by decide +kernel
theorem dX1_openSession_11 : decode cX1_openSession 11 = .ok (.aload_n 1, 1) := by decide +kernel
theorem dX1_openSession_12 : decode cX1_openSession 12 = .ok (.ifnull 14, 3) := by decide +kernel
theorem dX1_openSession_15 : decode cX1_openSession 15 = .ok (.aload_n 1, 1) := by decide +kernel
theorem dX1_openSession_16 : decode cX1_openSession 16 = .ok (.getfield 108, 3) := by decide +kernel
theorem dX1_openSession_19 : decode cX1_openSession 19 = .ok (.ifCond .ne 7, 3) := by decide +kernel
theorem dX1_openSession_22 : decode cX1_openSession 22 = .ok (.aload_n 1, 1) := by decide +kernel
theorem dX1_openSession_23 : decode cX1_openSession 23 = .ok (.goto 4, 3) := by decide +kernel
theorem dX1_openSession_26 : decode cX1_openSession 26 = .ok (.aconst_null, 1) := by decide +kernel
theorem dX1_openSession_27 : decode cX1_openSession 27 = .ok (.areturn, 1) := by decide +kernel
theorem dX1_validNumberIf_0 : decode cX1_validNumberIf 0 = .ok (.aload_n 0, 1) := by decide +kernel
theorem dX1_validNumberIf_1 : decode cX1_validNumberIf 1 = .ok (.getfield 29, 3) := by decide +kernel
theorem dX1_validNumberIf_4 : decode cX1_validNumberIf 4 = .ok (.iconst 1, 1) := by decide +kernel
theorem dX1_validNumberIf_5 : decode cX1_validNumberIf 5 = .ok (.isub, 1) := by decide +kernel
theorem dX1_validNumberIf_6 : decode cX1_validNumberIf 6 = .ok (.istore_n 2, 1) := by decide +kernel
theorem dX1_validNumberIf_7 : decode cX1_validNumberIf 7 = .ok (.iload_n 2, 1) := by decide +kernel
theorem dX1_validNumberIf_8 : decode cX1_validNumberIf 8 = .ok (.ifCond .lt 30, 3) := by decide +kernel
theorem dX1_validNumberIf_11 : decode cX1_validNumberIf 11 = .ok (.aload_n 0, 1) := by decide +kernel
theorem dX1_validNumberIf_12 : decode cX1_validNumberIf 12 = .ok (.iload_n 2, 1) := by decide +kernel
theorem dX1_validNumberIf_13 : decode cX1_validNumberIf 13 = .ok (.invokevirtual 54, 3) := by decide +kernel
theorem dX1_validNumberIf_16 : decode cX1_validNumberIf 16 = .ok (.astore_n 3, 1) := by decide +kernel
theorem dX1_validNumberIf_17 : decode cX1_validNumberIf 17 = .ok (.aload_n 3, 1) := by decide +kernel
theorem dX1_validNumberIf_18 : decode cX1_validNumberIf 18 = .ok (.ifnull 14, 3) := by decide +kernel
theorem dX1_validNumberIf_21 : decode cX1_validNumberIf 21 = .ok (.aload_n 0, 1) := by decide +kernel
theorem dX1_validNumberIf_22 : decode cX1_validNumberIf 22 = .ok (.aload_n 3, 1) := by decide +kernel
theorem dX1_validNumberIf_23 : decode cX1_validNumberIf 23 = .ok (.iload_n 1, 1) := by decide +kernel
theorem dX1_validNumberIf_24 : decode cX1_validNumberIf 24 = .ok (.invokevirtual 100, 3) := by decide +kernel
theorem dX1_validNumberIf_27 : decode cX1_validNumberIf 27 = .ok (.ifCond .eq 5, 3) := by decide +kernel
theorem dX1_validNumberIf_30 : decode cX1_validNumberIf 30 = .ok (.iload_n 2, 1) := by decide +kernel
theorem dX1_validNumberIf_31 : decode cX1_validNumberIf 31 = .ok (.ireturn, 1) := by decide +kernel
theorem dX1_validNumberIf_32 : decode cX1_validNumberIf 32 = .ok (.iinc 2 (-1), 3) := by decide +kernel
theorem dX1_validNumberIf_35 : decode cX1_validNumberIf 35 = .ok (.goto (-28), 3) := by decide +kernel
theorem dX1_validNumberIf_38 : decode cX1_validNumberIf 38 = .ok (.bipush (-6), 2) := by decide +kernel
theorem dX1_validNumberIf_40 : decode cX1_validNumberIf 40 = .ok (.ireturn, 1) := by decide +kernel
theorem dX1_isReadableIf_0 : decode cX1_isReadableIf 0 = .ok (.aload_n 1, 1) := by decide +kernel
theorem dX1_isReadableIf_1 : decode cX1_isReadableIf 1 = .ok (.getfield 108, 3) := by decide +kernel
theorem dX1_isReadableIf_4 : decode cX1_isReadableIf 4 = .ok (.iconst 1, 1) := by decide +kernel
theorem dX1_isReadableIf_5 : decode cX1_isReadableIf 5 = .ok (.if_icmp .ne 23, 3) := by decide +kernel
theorem dX1_isReadableIf_8 : decode cX1_isReadableIf 8 = .ok (.aload_n 0, 1) := by decide +kernel
theorem dX1_isReadableIf_9 : decode cX1_isReadableIf 9 = .ok (.aload_n 1, 1) := by decide +kernel
theorem dX1_isReadableIf_10 : decode cX1_isReadableIf 10 = .ok (.getfield 111, 3) := by decide +kernel
theorem dX1_isReadableIf_13 : decode cX1_isReadableIf 13 = .ok (.aload_n 1, 1) := by decide +kernel
theorem dX1_isReadableIf_14 : decode cX1_isReadableIf 14 = .ok (.getfield 112, 3) := by decide +kernel
theorem dX1_isReadableIf_17 : decode cX1_isReadableIf 17 = .ok (.iload_n 2, 1) := by decide +kernel
theorem dX1_isReadableIf_18 : decode cX1_isReadableIf 18 = .ok (.invokevirtual 115, 3) := by decide +kernel
theorem dX1_isReadableIf_21 : decode cX1_isReadableIf 21 = .ok (.ifCond .eq 7, 3) := by decide +kernel
theorem dX1_isReadableIf_24 : decode cX1_isReadableIf 24 = .ok (.iconst 1, 1) := by decide +kernel
theorem dX1_isReadableIf_25 : decode cX1_isReadableIf 25 = .ok (.goto 4, 3) := by decide +kernel
theorem dX1_isReadableIf_28 : decode cX1_isReadableIf 28 = .ok (.iconst 0, 1) := by decide +kernel
theorem dX1_isReadableIf_29 : decode cX1_isReadableIf 29 = .ok (.ireturn, 1) := by decide +kernel
theorem dX1_areWholeIf_0 : decode cX1_areWholeIf 0 = .ok (.iload_n 1, 1) := by decide +kernel
theorem dX1_areWholeIf_1 : decode cX1_areWholeIf 1 = .ok (.iload_n 2, 1) := by decide +kernel
theorem dX1_areWholeIf_2 : decode cX1_areWholeIf 2 = .ok (.iadd, 1) := by decide +kernel
theorem dX1_areWholeIf_3 : decode cX1_areWholeIf 3 = .ok (.sipush 240, 3) := by decide +kernel
theorem dX1_areWholeIf_6 : decode cX1_areWholeIf 6 = .ok (.invokestatic 128, 3) := by decide +kernel
theorem dX1_areWholeIf_9 : decode cX1_areWholeIf 9 = .ok (.istore 4, 2) := by decide +kernel
theorem dX1_areWholeIf_11 : decode cX1_areWholeIf 11 = .ok (.iload_n 1, 1) := by decide +kernel
theorem dX1_areWholeIf_12 : decode cX1_areWholeIf 12 = .ok (.iconst 0, 1) := by decide +kernel
theorem dX1_areWholeIf_13 : decode cX1_areWholeIf 13 = .ok (.invokestatic 134, 3) := by decide +kernel
theorem dX1_areWholeIf_16 : decode cX1_areWholeIf 16 = .ok (.istore 5, 2) := by decide +kernel
theorem dX1_areWholeIf_18 : decode cX1_areWholeIf 18 = .ok (.iload 5, 2) := by decide +kernel
theorem dX1_areWholeIf_20 : decode cX1_areWholeIf 20 = .ok (.iload 4, 2) := by decide +kernel
theorem dX1_areWholeIf_22 : decode cX1_areWholeIf 22 = .ok (.if_icmp .ge 27, 3) := by decide +kernel
theorem dX1_areWholeIf_25 : decode cX1_areWholeIf 25 = .ok (.iload 5, 2) := by decide +kernel
theorem dX1_areWholeIf_27 : decode cX1_areWholeIf 27 = .ok (.iload_n 3, 1) := by decide +kernel
theorem dX1_areWholeIf_28 : decode cX1_areWholeIf 28 = .ok (.if_icmp .eq 13, 3) := by decide +kernel
theorem dX1_areWholeIf_31 : decode cX1_areWholeIf 31 = .ok (.aload_n 0, 1) := by decide +kernel
theorem dX1_areWholeIf_32 : decode cX1_areWholeIf 32 = .ok (.getfield 17, 3) := by decide +kernel
theorem dX1_areWholeIf_35 : decode cX1_areWholeIf 35 = .ok (.iload 5, 2) := by decide +kernel
theorem dX1_areWholeIf_37 : decode cX1_areWholeIf 37 = .ok (.baload, 1) := by decide +kernel
theorem dX1_areWholeIf_38 : decode cX1_areWholeIf 38 = .ok (.ifCond .eq 5, 3) := by decide +kernel
theorem dX1_areWholeIf_41 : decode cX1_areWholeIf 41 = .ok (.iconst 0, 1) := by decide +kernel
theorem dX1_areWholeIf_42 : decode cX1_areWholeIf 42 = .ok (.ireturn, 1) := by decide +kernel
theorem dX1_areWholeIf_43 : decode cX1_areWholeIf 43 = .ok (.iinc 5 1, 3) := by decide +kernel
theorem dX1_areWholeIf_46 : decode cX1_areWholeIf 46 = .ok (.goto (-28), 3) := by decide +kernel
theorem dX1_areWholeIf_49 : decode cX1_areWholeIf 49 = .ok (.iconst 1, 1) := by decide +kernel
theorem dX1_areWholeIf_50 : decode cX1_areWholeIf 50 = .ok (.ireturn, 1) := by decide +kernel
theorem dX1_useOf_0 : decode cX1_useOf 0 = .ok (.iconst 0, 1) := by decide +kernel
theorem dX1_useOf_1 : decode cX1_useOf 1 = .ok (.istore_n 2, 1) := by decide +kernel
theorem dX1_useOf_2 : decode cX1_useOf 2 = .ok (.iload_n 2, 1) := by decide +kernel
theorem dX1_useOf_3 : decode cX1_useOf 3 = .ok (.aload_n 0, 1) := by decide +kernel
theorem dX1_useOf_4 : decode cX1_useOf 4 = .ok (.getfield 29, 3) := by decide +kernel
theorem dX1_useOf_7 : decode cX1_useOf 7 = .ok (.if_icmp .ge 33, 3) := by decide +kernel
theorem dX1_useOf_10 : decode cX1_useOf 10 = .ok (.aload_n 0, 1) := by decide +kernel
theorem dX1_useOf_11 : decode cX1_useOf 11 = .ok (.iload_n 2, 1) := by decide +kernel
theorem dX1_useOf_12 : decode cX1_useOf 12 = .ok (.invokevirtual 54, 3) := by decide +kernel
theorem dX1_useOf_15 : decode cX1_useOf 15 = .ok (.astore_n 3, 1) := by decide +kernel
theorem dX1_useOf_16 : decode cX1_useOf 16 = .ok (.aload_n 3, 1) := by decide +kernel
theorem dX1_useOf_17 : decode cX1_useOf 17 = .ok (.ifnull 17, 3) := by decide +kernel
theorem dX1_useOf_20 : decode cX1_useOf 20 = .ok (.aload_n 3, 1) := by decide +kernel
theorem dX1_useOf_21 : decode cX1_useOf 21 = .ok (.iload_n 1, 1) := by decide +kernel
theorem dX1_useOf_22 : decode cX1_useOf 22 = .ok (.invokevirtual 137, 3) := by decide +kernel
theorem dX1_useOf_25 : decode cX1_useOf 25 = .ok (.ifCond .eq 9, 3) := by decide +kernel
theorem dX1_useOf_28 : decode cX1_useOf 28 = .ok (.aload_n 3, 1) := by decide +kernel
theorem dX1_useOf_29 : decode cX1_useOf 29 = .ok (.iload_n 1, 1) := by decide +kernel
theorem dX1_useOf_30 : decode cX1_useOf 30 = .ok (.invokevirtual 140, 3) := by decide +kernel
theorem dX1_useOf_33 : decode cX1_useOf 33 = .ok (.ireturn, 1) := by decide +kernel
theorem dX1_useOf_34 : decode cX1_useOf 34 = .ok (.iinc 2 1, 3) := by decide +kernel
theorem dX1_useOf_37 : decode cX1_useOf 37 = .ok (.goto (-35), 3) := by decide +kernel
theorem dX1_useOf_40 : decode cX1_useOf 40 = .ok (.iconst 0, 1) := by decide +kernel
theorem dX1_useOf_41 : decode cX1_useOf 41 = .ok (.ireturn, 1) := by decide +kernel
theorem dX1_isIntactIf_0 : decode cX1_isIntactIf 0 = .ok (.aload_n 0, 1) := by decide +kernel
theorem dX1_isIntactIf_1 : decode cX1_isIntactIf 1 = .ok (.aload_n 1, 1) := by decide +kernel
theorem dX1_isIntactIf_2 : decode cX1_isIntactIf 2 = .ok (.getfield 90, 3) := by decide +kernel
theorem dX1_isIntactIf_5 : decode cX1_isIntactIf 5 = .ok (.aload_n 1, 1) := by decide +kernel
theorem dX1_isIntactIf_6 : decode cX1_isIntactIf 6 = .ok (.getfield 143, 3) := by decide +kernel
theorem dX1_isIntactIf_9 : decode cX1_isIntactIf 9 = .ok (.iload_n 2, 1) := by decide +kernel
theorem dX1_isIntactIf_10 : decode cX1_isIntactIf 10 = .ok (.invokevirtual 115, 3) := by decide +kernel
theorem dX1_isIntactIf_13 : decode cX1_isIntactIf 13 = .ok (.ireturn, 1) := by decide +kernel
theorem dX1_foundFile_0 : decode cX1_foundFile 0 = .ok (.aload_n 0, 1) := by decide +kernel
theorem dX1_foundFile_1 : decode cX1_foundFile 1 = .ok (.aload_n 0, 1) := by decide +kernel
theorem dX1_foundFile_2 : decode cX1_foundFile 2 = .ok (.iconst (-1), 1) := by decide +kernel
theorem dX1_foundFile_3 : decode cX1_foundFile 3 = .ok (.invokevirtual 50, 3) := by decide +kernel
theorem dX1_foundFile_6 : decode cX1_foundFile 6 = .ok (.invokevirtual 54, 3) := by decide +kernel
theorem dX1_foundFile_9 : decode cX1_foundFile 9 = .ok (.astore_n 2, 1) := by decide +kernel
theorem dX1_foundFile_10 : decode cX1_foundFile 10 = .ok (.aload_n 2, 1) := by decide +kernel
theorem dX1_foundFile_11 : decode cX1_foundFile 11 = .ok (.ifnonnull 7, 3) := by decide +kernel
theorem dX1_foundFile_14 : decode cX1_foundFile 14 = .ok (.aconst_null, 1) := by decide +kernel
theorem dX1_foundFile_15 : decode cX1_foundFile 15 = .ok (.goto 8, 3) := by decide +kernel
theorem dX1_foundFile_18 : decode cX1_foundFile 18 = .ok (.aload_n 2, 1) := by decide +kernel
theorem dX1_foundFile_19 : decode cX1_foundFile 19 = .ok (.iload_n 1, 1) := by decide +kernel
theorem dX1_foundFile_20 : decode cX1_foundFile 20 = .ok (.invokevirtual 93, 3) := by decide +kernel
theorem dX1_foundFile_23 : decode cX1_foundFile 23 = .ok (.areturn, 1) := by decide +kernel
theorem dX1_countIntactIf_0 : decode cX1_countIntactIf 0 = .ok (.aload_n 0, 1) := by decide +kernel
theorem dX1_countIntactIf_1 : decode cX1_countIntactIf 1 = .ok (.aload_n 0, 1) := by decide +kernel
theorem dX1_countIntactIf_2 : decode cX1_countIntactIf 2 = .ok (.iload_n 1, 1) := by decide +kernel
theorem dX1_countIntactIf_3 : decode cX1_countIntactIf 3 = .ok (.invokevirtual 50, 3) := by decide +kernel
theorem dX1_countIntactIf_6 : decode cX1_countIntactIf 6 = .ok (.invokevirtual 54, 3) := by decide +kernel
theorem dX1_countIntactIf_9 : decode cX1_countIntactIf 9 = .ok (.astore_n 2, 1) := by decide +kernel
theorem dX1_countIntactIf_10 : decode cX1_countIntactIf 10 = .ok (.aload_n 2, 1) := by decide +kernel
theorem dX1_countIntactIf_11 : decode cX1_countIntactIf 11 = .ok (.ifnonnull 5, 3) := by decide +kernel
theorem dX1_countIntactIf_14 : decode cX1_countIntactIf 14 = .ok (.iconst 0, 1) := by decide +kernel
theorem dX1_countIntactIf_15 : decode cX1_countIntactIf 15 = .ok (.ireturn, 1) := by decide +kernel
theorem dX1_countIntactIf_16 : decode cX1_countIntactIf 16 = .ok (.iconst 0, 1) := by decide +kernel
theorem dX1_countIntactIf_17 : decode cX1_countIntactIf 17 = .ok (.istore_n 3, 1) := by decide +kernel
theorem dX1_countIntactIf_18 : decode cX1_countIntactIf 18 = .ok (.iconst 0, 1) := by decide +kernel
theorem dX1_countIntactIf_19 : decode cX1_countIntactIf 19 = .ok (.istore 4, 2) := by decide +kernel
theorem dX1_countIntactIf_21 : decode cX1_countIntactIf 21 = .ok (.iload 4, 2) := by decide +kernel
theorem dX1_countIntactIf_23 : decode cX1_countIntactIf 23 = .ok (.bipush 20, 2) := by decide +kernel
theorem dX1_countIntactIf_25 : decode cX1_countIntactIf 25 = .ok (.if_icmp .ge 35, 3) := by decide +kernel
theorem dX1_countIntactIf_28 : decode cX1_countIntactIf 28 = .ok (.aload_n 2, 1) := by decide +kernel
theorem dX1_countIntactIf_29 : decode cX1_countIntactIf 29 = .ok (.iload 4, 2) := by decide +kernel
theorem dX1_countIntactIf_31 : decode cX1_countIntactIf 31 = .ok (.invokevirtual 93, 3) := by decide +kernel
theorem dX1_countIntactIf_34 : decode cX1_countIntactIf 34 = .ok (.astore 5, 2) := by decide +kernel
theorem dX1_countIntactIf_36 : decode cX1_countIntactIf 36 = .ok (.aload 5, 2) := by decide +kernel
theorem dX1_countIntactIf_38 : decode cX1_countIntactIf 38 = .ok (.ifnull 16, 3) := by decide +kernel
theorem dX1_countIntactIf_41 : decode cX1_countIntactIf 41 = .ok (.aload_n 0, 1) := by decide +kernel
theorem dX1_countIntactIf_42 : decode cX1_countIntactIf 42 = .ok (.aload 5, 2) := by decide +kernel
theorem dX1_countIntactIf_44 : decode cX1_countIntactIf 44 = .ok (.iload_n 1, 1) := by decide +kernel
theorem dX1_countIntactIf_45 : decode cX1_countIntactIf 45 = .ok (.invokevirtual 146, 3) := by decide +kernel
theorem dX1_countIntactIf_48 : decode cX1_countIntactIf 48 = .ok (.ifCond .eq 6, 3) := by decide +kernel
theorem dX1_countIntactIf_51 : decode cX1_countIntactIf 51 = .ok (.iinc 3 1, 3) := by decide +kernel
theorem dX1_countIntactIf_54 : decode cX1_countIntactIf 54 = .ok (.iinc 4 1, 3) := by decide +kernel
theorem dX1_countIntactIf_57 : decode cX1_countIntactIf 57 = .ok (.goto (-36), 3) := by decide +kernel
theorem dX1_countIntactIf_60 : decode cX1_countIntactIf 60 = .ok (.iload_n 3, 1) := by decide +kernel
theorem dX1_countIntactIf_61 : decode cX1_countIntactIf 61 = .ok (.ireturn, 1) := by decide +kernel
theorem dX1_latestWithIntact_0 : decode cX1_latestWithIntact 0 = .ok (.aload_n 0, 1) := by decide +kernel
theorem dX1_latestWithIntact_1 : decode cX1_latestWithIntact 1 = .ok (.getfield 29, 3) := by decide +kernel
theorem dX1_latestWithIntact_4 : decode cX1_latestWithIntact 4 = .ok (.iconst 1, 1) := by decide +kernel
theorem dX1_latestWithIntact_5 : decode cX1_latestWithIntact 5 = .ok (.isub, 1) := by decide +kernel
theorem dX1_latestWithIntact_6 : decode cX1_latestWithIntact 6 = .ok (.istore_n 2, 1) := by decide +kernel
theorem dX1_latestWithIntact_7 : decode cX1_latestWithIntact 7 = .ok (.iload_n 2, 1) := by decide +kernel
theorem dX1_latestWithIntact_8 : decode cX1_latestWithIntact 8 = .ok (.ifCond .lt 52, 3) := by decide +kernel
theorem dX1_latestWithIntact_11 : decode cX1_latestWithIntact 11 = .ok (.aload_n 0, 1) := by decide +kernel
theorem dX1_latestWithIntact_12 : decode cX1_latestWithIntact 12 = .ok (.iload_n 2, 1) := by decide +kernel
theorem dX1_latestWithIntact_13 : decode cX1_latestWithIntact 13 = .ok (.invokevirtual 54, 3) := by decide +kernel
theorem dX1_latestWithIntact_16 : decode cX1_latestWithIntact 16 = .ok (.astore_n 3, 1) := by decide +kernel
theorem dX1_latestWithIntact_17 : decode cX1_latestWithIntact 17 = .ok (.aload_n 3, 1) := by decide +kernel
theorem dX1_latestWithIntact_18 : decode cX1_latestWithIntact 18 = .ok (.ifnull 36, 3) := by decide +kernel
theorem dX1_latestWithIntact_21 : decode cX1_latestWithIntact 21 = .ok (.aload_n 0, 1) := by decide +kernel
theorem dX1_latestWithIntact_22 : decode cX1_latestWithIntact 22 = .ok (.aload_n 3, 1) := by decide +kernel
theorem dX1_latestWithIntact_23 : decode cX1_latestWithIntact 23 = .ok (.iconst (-1), 1) := by decide +kernel
theorem dX1_latestWithIntact_24 : decode cX1_latestWithIntact 24 = .ok (.invokevirtual 100, 3) := by decide +kernel
theorem dX1_latestWithIntact_27 : decode cX1_latestWithIntact 27 = .ok (.ifCond .eq 27, 3) := by decide +kernel
theorem dX1_latestWithIntact_30 : decode cX1_latestWithIntact 30 = .ok (.aload_n 3, 1) := by decide +kernel
theorem dX1_latestWithIntact_31 : decode cX1_latestWithIntact 31 = .ok (.iload_n 1, 1) := by decide +kernel
theorem dX1_latestWithIntact_32 : decode cX1_latestWithIntact 32 = .ok (.invokevirtual 93, 3) := by decide +kernel
theorem dX1_latestWithIntact_35 : decode cX1_latestWithIntact 35 = .ok (.astore 4, 2) := by decide +kernel
theorem dX1_latestWithIntact_37 : decode cX1_latestWithIntact 37 = .ok (.aload 4, 2) := by decide +kernel
theorem dX1_latestWithIntact_39 : decode cX1_latestWithIntact 39 = .ok (.ifnull 15, 3) := by decide +kernel
theorem dX1_latestWithIntact_42 : decode cX1_latestWithIntact 42 = .ok (.aload_n 0, 1) := by decide +kernel
theorem dX1_latestWithIntact_43 : decode cX1_latestWithIntact 43 = .ok (.aload 4, 2) := by decide +kernel
theorem dX1_latestWithIntact_45 : decode cX1_latestWithIntact 45 = .ok (.iconst (-1), 1) := by decide +kernel
theorem dX1_latestWithIntact_46 : decode cX1_latestWithIntact 46 = .ok (.invokevirtual 146, 3) := by decide +kernel
theorem dX1_latestWithIntact_49 : decode cX1_latestWithIntact 49 = .ok (.ifCond .eq 5, 3) := by decide +kernel
theorem dX1_latestWithIntact_52 : decode cX1_latestWithIntact 52 = .ok (.iload_n 2, 1) := by decide +kernel
theorem dX1_latestWithIntact_53 : decode cX1_latestWithIntact 53 = .ok (.ireturn, 1) := by decide +kernel
theorem dX1_latestWithIntact_54 : decode cX1_latestWithIntact 54 = .ok (.iinc 2 (-1), 3) := by decide +kernel
theorem dX1_latestWithIntact_57 : decode cX1_latestWithIntact 57 = .ok (.goto (-50), 3) := by decide +kernel
theorem dX1_latestWithIntact_60 : decode cX1_latestWithIntact 60 = .ok (.bipush (-6), 2) := by decide +kernel
theorem dX1_latestWithIntact_62 : decode cX1_latestWithIntact 62 = .ok (.ireturn, 1) := by decide +kernel
theorem dX1_countFoundSectors_0 : decode cX1_countFoundSectors 0 = .ok (.aload_n 0, 1) := by decide +kernel
theorem dX1_countFoundSectors_1 : decode cX1_countFoundSectors 1 = .ok (.aload_n 0, 1) := by decide +kernel
theorem dX1_countFoundSectors_2 : decode cX1_countFoundSectors 2 = .ok (.iconst (-1), 1) := by decide +kernel
theorem dX1_countFoundSectors_3 : decode cX1_countFoundSectors 3 = .ok (.invokevirtual 50, 3) := by decide +kernel
theorem dX1_countFoundSectors_6 : decode cX1_countFoundSectors 6 = .ok (.invokevirtual 54, 3) := by decide +kernel
theorem dX1_countFoundSectors_9 : decode cX1_countFoundSectors 9 = .ok (.astore_n 1, 1) := by decide +kernel
theorem dX1_countFoundSectors_10 : decode cX1_countFoundSectors 10 = .ok (.aload_n 1, 1) := by decide +kernel
theorem dX1_countFoundSectors_11 : decode cX1_countFoundSectors 11 = .ok (.ifnonnull 5, 3) := by decide +kernel
theorem dX1_countFoundSectors_14 : decode cX1_countFoundSectors 14 = .ok (.iconst 0, 1) := by decide +kernel
theorem dX1_countFoundSectors_15 : decode cX1_countFoundSectors 15 = .ok (.ireturn, 1) := by decide +kernel
theorem dX1_countFoundSectors_16 : decode cX1_countFoundSectors 16 = .ok (.iconst 0, 1) := by decide +kernel
theorem dX1_countFoundSectors_17 : decode cX1_countFoundSectors 17 = .ok (.istore_n 2, 1) := by decide +kernel
theorem dX1_countFoundSectors_18 : decode cX1_countFoundSectors 18 = .ok (.iconst 0, 1) := by decide +kernel
theorem dX1_countFoundSectors_19 : decode cX1_countFoundSectors 19 = .ok (.istore_n 3, 1) := by decide +kernel
theorem dX1_countFoundSectors_20 : decode cX1_countFoundSectors 20 = .ok (.iload_n 3, 1) := by decide +kernel
theorem dX1_countFoundSectors_21 : decode cX1_countFoundSectors 21 = .ok (.bipush 20, 2) := by decide +kernel
theorem dX1_countFoundSectors_23 : decode cX1_countFoundSectors 23 = .ok (.if_icmp .ge 33, 3) := by decide +kernel
theorem dX1_countFoundSectors_26 : decode cX1_countFoundSectors 26 = .ok (.aload_n 1, 1) := by decide +kernel
theorem dX1_countFoundSectors_27 : decode cX1_countFoundSectors 27 = .ok (.iload_n 3, 1) := by decide +kernel
theorem dX1_countFoundSectors_28 : decode cX1_countFoundSectors 28 = .ok (.invokevirtual 93, 3) := by decide +kernel
theorem dX1_countFoundSectors_31 : decode cX1_countFoundSectors 31 = .ok (.astore 4, 2) := by decide +kernel
theorem dX1_countFoundSectors_33 : decode cX1_countFoundSectors 33 = .ok (.iload_n 2, 1) := by decide +kernel
theorem dX1_countFoundSectors_34 : decode cX1_countFoundSectors 34 = .ok (.aload 4, 2) := by decide +kernel
theorem dX1_countFoundSectors_36 : decode cX1_countFoundSectors 36 = .ok (.ifnonnull 7, 3) := by decide +kernel
theorem dX1_countFoundSectors_39 : decode cX1_countFoundSectors 39 = .ok (.iconst 0, 1) := by decide +kernel
theorem dX1_countFoundSectors_40 : decode cX1_countFoundSectors 40 = .ok (.goto 8, 3) := by decide +kernel
theorem dX1_countFoundSectors_43 : decode cX1_countFoundSectors 43 = .ok (.aload 4, 2) := by decide +kernel
theorem dX1_countFoundSectors_45 : decode cX1_countFoundSectors 45 = .ok (.getfield 143, 3) := by decide +kernel
theorem dX1_countFoundSectors_48 : decode cX1_countFoundSectors 48 = .ok (.iadd, 1) := by decide +kernel
theorem dX1_countFoundSectors_49 : decode cX1_countFoundSectors 49 = .ok (.istore_n 2, 1) := by decide +kernel
theorem dX1_countFoundSectors_50 : decode cX1_countFoundSectors 50 = .ok (.iinc 3 1, 3) := by decide +kernel
theorem dX1_countFoundSectors_53 : decode cX1_countFoundSectors 53 = .ok (.goto (-33), 3) := by decide +kernel
theorem dX1_countFoundSectors_56 : decode cX1_countFoundSectors 56 = .ok (.iload_n 2, 1) := by decide +kernel
theorem dX1_countFoundSectors_57 : decode cX1_countFoundSectors 57 = .ok (.ireturn, 1) := by decide +kernel
theorem dX1_roomForFiles_0 : decode cX1_roomForFiles 0 = .ok (.aload_n 0, 1) := by decide +kernel
theorem dX1_roomForFiles_1 : decode cX1_roomForFiles 1 = .ok (.invokevirtual 43, 3) := by decide +kernel
theorem dX1_roomForFiles_4 : decode cX1_roomForFiles 4 = .ok (.astore_n 1, 1) := by decide +kernel
theorem dX1_roomForFiles_5 : decode cX1_roomForFiles 5 = .ok (.aload_n 1, 1) := by decide +kernel
theorem dX1_roomForFiles_6 : decode cX1_roomForFiles 6 = .ok (.ifnull 21, 3) := by decide +kernel
theorem dX1_roomForFiles_9 : decode cX1_roomForFiles 9 = .ok (.sipush 240, 3) := by decide +kernel
theorem dX1_roomForFiles_12 : decode cX1_roomForFiles 12 = .ok (.aload_n 0, 1) := by decide +kernel
theorem dX1_roomForFiles_13 : decode cX1_roomForFiles 13 = .ok (.getfield 33, 3) := by decide +kernel
theorem dX1_roomForFiles_16 : decode cX1_roomForFiles 16 = .ok (.isub, 1) := by decide +kernel
theorem dX1_roomForFiles_17 : decode cX1_roomForFiles 17 = .ok (.aload_n 1, 1) := by decide +kernel
theorem dX1_roomForFiles_18 : decode cX1_roomForFiles 18 = .ok (.getfield 125, 3) := by decide +kernel
theorem dX1_roomForFiles_21 : decode cX1_roomForFiles 21 = .ok (.isub, 1) := by decide +kernel
theorem dX1_roomForFiles_22 : decode cX1_roomForFiles 22 = .ok (.iconst 0, 1) := by decide +kernel
theorem dX1_roomForFiles_23 : decode cX1_roomForFiles 23 = .ok (.invokestatic 134, 3) := by decide +kernel
theorem dX1_roomForFiles_26 : decode cX1_roomForFiles 26 = .ok (.ireturn, 1) := by decide +kernel
theorem dX1_roomForFiles_27 : decode cX1_roomForFiles 27 = .ok (.aload_n 0, 1) := by decide +kernel
theorem dX1_roomForFiles_28 : decode cX1_roomForFiles 28 = .ok (.getfield 29, 3) := by decide +kernel
theorem dX1_roomForFiles_31 : decode cX1_roomForFiles 31 = .ok (.bipush 12, 2) := by decide +kernel
theorem dX1_roomForFiles_33 : decode cX1_roomForFiles 33 = .ok (.if_icmp .lt 5, 3) := by decide +kernel
theorem dX1_roomForFiles_36 : decode cX1_roomForFiles 36 = .ok (.iconst 0, 1) := by decide +kernel
theorem dX1_roomForFiles_37 : decode cX1_roomForFiles 37 = .ok (.ireturn, 1) := by decide +kernel
theorem dX1_roomForFiles_38 : decode cX1_roomForFiles 38 = .ok (.sipush 240, 3) := by decide +kernel
theorem dX1_roomForFiles_41 : decode cX1_roomForFiles 41 = .ok (.aload_n 0, 1) := by decide +kernel
theorem dX1_roomForFiles_42 : decode cX1_roomForFiles 42 = .ok (.getfield 33, 3) := by decide +kernel
theorem dX1_roomForFiles_45 : decode cX1_roomForFiles 45 = .ok (.isub, 1) := by decide +kernel
theorem dX1_roomForFiles_46 : decode cX1_roomForFiles 46 = .ok (.aload_n 0, 1) := by decide +kernel
theorem dX1_roomForFiles_47 : decode cX1_roomForFiles 47 = .ok (.getfield 25, 3) := by decide +kernel
theorem dX1_roomForFiles_50 : decode cX1_roomForFiles 50 = .ok (.iconst 0, 1) := by decide +kernel
theorem dX1_roomForFiles_51 : decode cX1_roomForFiles 51 = .ok (.iaload, 1) := by decide +kernel
theorem dX1_roomForFiles_52 : decode cX1_roomForFiles 52 = .ok (.isub, 1) := by decide +kernel
theorem dX1_roomForFiles_53 : decode cX1_roomForFiles 53 = .ok (.aload_n 0, 1) := by decide +kernel
theorem dX1_roomForFiles_54 : decode cX1_roomForFiles 54 = .ok (.getfield 25, 3) := by decide +kernel
theorem dX1_roomForFiles_57 : decode cX1_roomForFiles 57 = .ok (.iconst 1, 1) := by decide +kernel
theorem dX1_roomForFiles_58 : decode cX1_roomForFiles 58 = .ok (.iaload, 1) := by decide +kernel
theorem dX1_roomForFiles_59 : decode cX1_roomForFiles 59 = .ok (.isub, 1) := by decide +kernel
theorem dX1_roomForFiles_60 : decode cX1_roomForFiles 60 = .ok (.iconst 0, 1) := by decide +kernel
theorem dX1_roomForFiles_61 : decode cX1_roomForFiles 61 = .ok (.invokestatic 134, 3) := by decide +kernel
theorem dX1_roomForFiles_64 : decode cX1_roomForFiles 64 = .ok (.ireturn, 1) := by decide +kernel
theorem dX1_sessionsOfOneFile_0 : decode cX1_sessionsOfOneFile 0 = .ok (.iconst 0, 1) := by decide +kernel
theorem dX1_sessionsOfOneFile_1 : decode cX1_sessionsOfOneFile 1 = .ok (.istore_n 2, 1) := by decide +kernel
theorem dX1_sessionsOfOneFile_2 : decode cX1_sessionsOfOneFile 2 = .ok (.aload_n 0, 1) := by decide +kernel
theorem dX1_sessionsOfOneFile_3 : decode cX1_sessionsOfOneFile 3 = .ok (.getfield 33, 3) := by decide +kernel
theorem dX1_sessionsOfOneFile_6 : decode cX1_sessionsOfOneFile 6 = .ok (.istore_n 3, 1) := by decide +kernel
theorem dX1_sessionsOfOneFile_7 : decode cX1_sessionsOfOneFile 7 = .ok (.aload_n 0, 1) := by decide +kernel
theorem dX1_sessionsOfOneFile_8 : decode cX1_sessionsOfOneFile 8 = .ok (.invokevirtual 43, 3) := by decide +kernel
theorem dX1_sessionsOfOneFile_11 : decode cX1_sessionsOfOneFile 11 = .ok (.astore 4, 2) := by decide +kernel
theorem dX1_sessionsOfOneFile_13 : decode cX1_sessionsOfOneFile 13 = .ok (.aload 4, 2) := by decide +kernel
theorem dX1_sessionsOfOneFile_15 : decode cX1_sessionsOfOneFile 15 = .ok (.ifnull 24, 3) := by decide +kernel
theorem dX1_sessionsOfOneFile_18 : decode cX1_sessionsOfOneFile 18 = .ok (.iload_n 3, 1) := by decide +kernel
theorem dX1_sessionsOfOneFile_19 : decode cX1_sessionsOfOneFile 19 = .ok (.iload_n 1, 1) := by decide +kernel
theorem dX1_sessionsOfOneFile_20 : decode cX1_sessionsOfOneFile 20 = .ok (.aload 4, 2) := by decide +kernel
theorem dX1_sessionsOfOneFile_22 : decode cX1_sessionsOfOneFile 22 = .ok (.getfield 125, 3) := by decide +kernel
theorem dX1_sessionsOfOneFile_25 : decode cX1_sessionsOfOneFile 25 = .ok (.iadd, 1) := by decide +kernel
theorem dX1_sessionsOfOneFile_26 : decode cX1_sessionsOfOneFile 26 = .ok (.iadd, 1) := by decide +kernel
theorem dX1_sessionsOfOneFile_27 : decode cX1_sessionsOfOneFile 27 = .ok (.istore_n 3, 1) := by decide +kernel
theorem dX1_sessionsOfOneFile_28 : decode cX1_sessionsOfOneFile 28 = .ok (.iload_n 3, 1) := by decide +kernel
theorem dX1_sessionsOfOneFile_29 : decode cX1_sessionsOfOneFile 29 = .ok (.sipush 240, 3) := by decide +kernel
theorem dX1_sessionsOfOneFile_32 : decode cX1_sessionsOfOneFile 32 = .ok (.if_icmp .le 5, 3) := by decide +kernel
theorem dX1_sessionsOfOneFile_35 : decode cX1_sessionsOfOneFile 35 = .ok (.iconst 0, 1) := by decide +kernel
theorem dX1_sessionsOfOneFile_36 : decode cX1_sessionsOfOneFile 36 = .ok (.ireturn, 1) := by decide +kernel
theorem dX1_sessionsOfOneFile_37 : decode cX1_sessionsOfOneFile 37 = .ok (.iconst 1, 1) := by decide +kernel
theorem dX1_sessionsOfOneFile_38 : decode cX1_sessionsOfOneFile 38 = .ok (.istore_n 2, 1) := by decide +kernel
theorem dX1_sessionsOfOneFile_39 : decode cX1_sessionsOfOneFile 39 = .ok (.aload_n 0, 1) := by decide +kernel
theorem dX1_sessionsOfOneFile_40 : decode cX1_sessionsOfOneFile 40 = .ok (.getfield 25, 3) := by decide +kernel
theorem dX1_sessionsOfOneFile_43 : decode cX1_sessionsOfOneFile 43 = .ok (.iconst 0, 1) := by decide +kernel
theorem dX1_sessionsOfOneFile_44 : decode cX1_sessionsOfOneFile 44 = .ok (.iaload, 1) := by decide +kernel
theorem dX1_sessionsOfOneFile_45 : decode cX1_sessionsOfOneFile 45 = .ok (.iload_n 1, 1) := by decide +kernel
theorem dX1_sessionsOfOneFile_46 : decode cX1_sessionsOfOneFile 46 = .ok (.iadd, 1) := by decide +kernel
theorem dX1_sessionsOfOneFile_47 : decode cX1_sessionsOfOneFile 47 = .ok (.aload_n 0, 1) := by decide +kernel
theorem dX1_sessionsOfOneFile_48 : decode cX1_sessionsOfOneFile 48 = .ok (.getfield 25, 3) := by decide +kernel
theorem dX1_sessionsOfOneFile_51 : decode cX1_sessionsOfOneFile 51 = .ok (.iconst 1, 1) := by decide +kernel
theorem dX1_sessionsOfOneFile_52 : decode cX1_sessionsOfOneFile 52 = .ok (.iaload, 1) := by decide +kernel
theorem dX1_sessionsOfOneFile_53 : decode cX1_sessionsOfOneFile 53 = .ok (.iadd, 1) := by decide +kernel
theorem dX1_sessionsOfOneFile_54 : decode cX1_sessionsOfOneFile 54 = .ok (.istore 5, 2) := by decide +kernel
theorem dX1_sessionsOfOneFile_56 : decode cX1_sessionsOfOneFile 56 = .ok (.aload_n 0, 1) := by decide +kernel
theorem dX1_sessionsOfOneFile_57 : decode cX1_sessionsOfOneFile 57 = .ok (.getfield 29, 3) := by decide +kernel
theorem dX1_sessionsOfOneFile_60 : decode cX1_sessionsOfOneFile 60 = .ok (.istore 6, 2) := by decide +kernel
theorem dX1_sessionsOfOneFile_62 : decode cX1_sessionsOfOneFile 62 = .ok (.iload 6, 2) := by decide +kernel
theorem dX1_sessionsOfOneFile_64 : decode cX1_sessionsOfOneFile 64 = .ok (.bipush 12, 2) := by decide +kernel
theorem dX1_sessionsOfOneFile_66 : decode cX1_sessionsOfOneFile 66 = .ok (.if_icmp .ge 27, 3) := by decide +kernel
theorem dX1_sessionsOfOneFile_69 : decode cX1_sessionsOfOneFile 69 = .ok (.iload_n 3, 1) := by decide +kernel
theorem dX1_sessionsOfOneFile_70 : decode cX1_sessionsOfOneFile 70 = .ok (.iload 5, 2) := by decide +kernel
theorem dX1_sessionsOfOneFile_72 : decode cX1_sessionsOfOneFile 72 = .ok (.iadd, 1) := by decide +kernel
theorem dX1_sessionsOfOneFile_73 : decode cX1_sessionsOfOneFile 73 = .ok (.sipush 240, 3) := by decide +kernel
theorem dX1_sessionsOfOneFile_76 : decode cX1_sessionsOfOneFile 76 = .ok (.if_icmp .gt 17, 3) := by decide +kernel
theorem dX1_sessionsOfOneFile_79 : decode cX1_sessionsOfOneFile 79 = .ok (.iload_n 3, 1) := by decide +kernel
theorem dX1_sessionsOfOneFile_80 : decode cX1_sessionsOfOneFile 80 = .ok (.iload 5, 2) := by decide +kernel
theorem dX1_sessionsOfOneFile_82 : decode cX1_sessionsOfOneFile 82 = .ok (.iadd, 1) := by decide +kernel
theorem dX1_sessionsOfOneFile_83 : decode cX1_sessionsOfOneFile 83 = .ok (.istore_n 3, 1) := by decide +kernel
theorem dX1_sessionsOfOneFile_84 : decode cX1_sessionsOfOneFile 84 = .ok (.iinc 2 1, 3) := by decide +kernel
theorem dX1_sessionsOfOneFile_87 : decode cX1_sessionsOfOneFile 87 = .ok (.iinc 6 1, 3) := by decide +kernel
theorem dX1_sessionsOfOneFile_90 : decode cX1_sessionsOfOneFile 90 = .ok (.goto (-28), 3) := by decide +kernel
theorem dX1_sessionsOfOneFile_93 : decode cX1_sessionsOfOneFile 93 = .ok (.iload_n 2, 1) := by decide +kernel
theorem dX1_sessionsOfOneFile_94 : decode cX1_sessionsOfOneFile 94 = .ok (.ireturn, 1) := by decide +kernel
theorem dX1_mostHarmfulSector_0 : decode cX1_mostHarmfulSector 0 = .ok (.aload_n 0, 1) := by decide +kernel
theorem dX1_mostHarmfulSector_1 : decode cX1_mostHarmfulSector 1 = .ok (.aload_n 0, 1) := by decide +kernel
theorem dX1_mostHarmfulSector_2 : decode cX1_mostHarmfulSector 2 = .ok (.iconst (-1), 1) := by decide +kernel
theorem dX1_mostHarmfulSector_3 : decode cX1_mostHarmfulSector 3 = .ok (.invokevirtual 50, 3) := by decide +kernel
theorem dX1_mostHarmfulSector_6 : decode cX1_mostHarmfulSector 6 = .ok (.invokevirtual 54, 3) := by decide +kernel
theorem dX1_mostHarmfulSector_9 : decode cX1_mostHarmfulSector 9 = .ok (.astore_n 1, 1) := by decide +kernel
theorem dX1_mostHarmfulSector_10 : decode cX1_mostHarmfulSector 10 = .ok (.aload_n 1, 1) := by decide +kernel
theorem dX1_mostHarmfulSector_11 : decode cX1_mostHarmfulSector 11 = .ok (.ifnonnull 5, 3) := by decide +kernel
theorem dX1_mostHarmfulSector_14 : decode cX1_mostHarmfulSector 14 = .ok (.iconst 0, 1) := by decide +kernel
theorem dX1_mostHarmfulSector_15 : decode cX1_mostHarmfulSector 15 = .ok (.ireturn, 1) := by decide +kernel
theorem dX1_mostHarmfulSector_16 : decode cX1_mostHarmfulSector 16 = .ok (.aload_n 0, 1) := by decide +kernel
theorem dX1_mostHarmfulSector_17 : decode cX1_mostHarmfulSector 17 = .ok (.iconst 0, 1) := by decide +kernel
theorem dX1_mostHarmfulSector_18 : decode cX1_mostHarmfulSector 18 = .ok (.aload_n 1, 1) := by decide +kernel
theorem dX1_mostHarmfulSector_19 : decode cX1_mostHarmfulSector 19 = .ok (.getfield 111, 3) := by decide +kernel
theorem dX1_mostHarmfulSector_22 : decode cX1_mostHarmfulSector 22 = .ok (.invokevirtual 150, 3) := by decide +kernel
theorem dX1_mostHarmfulSector_25 : decode cX1_mostHarmfulSector 25 = .ok (.istore_n 2, 1) := by decide +kernel
theorem dX1_mostHarmfulSector_26 : decode cX1_mostHarmfulSector 26 = .ok (.iconst 0, 1) := by decide +kernel
theorem dX1_mostHarmfulSector_27 : decode cX1_mostHarmfulSector 27 = .ok (.istore_n 3, 1) := by decide +kernel
theorem dX1_mostHarmfulSector_28 : decode cX1_mostHarmfulSector 28 = .ok (.iload_n 3, 1) := by decide +kernel
theorem dX1_mostHarmfulSector_29 : decode cX1_mostHarmfulSector 29 = .ok (.bipush 20, 2) := by decide +kernel
theorem dX1_mostHarmfulSector_31 : decode cX1_mostHarmfulSector 31 = .ok (.if_icmp .ge 32, 3) := by decide +kernel
theorem dX1_mostHarmfulSector_34 : decode cX1_mostHarmfulSector 34 = .ok (.aload_n 1, 1) := by decide +kernel
theorem dX1_mostHarmfulSector_35 : decode cX1_mostHarmfulSector 35 = .ok (.iload_n 3, 1) := by decide +kernel
theorem dX1_mostHarmfulSector_36 : decode cX1_mostHarmfulSector 36 = .ok (.invokevirtual 93, 3) := by decide +kernel
theorem dX1_mostHarmfulSector_39 : decode cX1_mostHarmfulSector 39 = .ok (.astore 4, 2) := by decide +kernel
theorem dX1_mostHarmfulSector_41 : decode cX1_mostHarmfulSector 41 = .ok (.aload 4, 2) := by decide +kernel
theorem dX1_mostHarmfulSector_43 : decode cX1_mostHarmfulSector 43 = .ok (.ifnull 14, 3) := by decide +kernel
theorem dX1_mostHarmfulSector_46 : decode cX1_mostHarmfulSector 46 = .ok (.aload_n 0, 1) := by decide +kernel
theorem dX1_mostHarmfulSector_47 : decode cX1_mostHarmfulSector 47 = .ok (.iload_n 2, 1) := by decide +kernel
theorem dX1_mostHarmfulSector_48 : decode cX1_mostHarmfulSector 48 = .ok (.aload 4, 2) := by decide +kernel
theorem dX1_mostHarmfulSector_50 : decode cX1_mostHarmfulSector 50 = .ok (.getfield 90, 3) := by decide +kernel
theorem dX1_mostHarmfulSector_53 : decode cX1_mostHarmfulSector 53 = .ok (.invokevirtual 150, 3) := by decide +kernel
theorem dX1_mostHarmfulSector_56 : decode cX1_mostHarmfulSector 56 = .ok (.istore_n 2, 1) := by decide +kernel
theorem dX1_mostHarmfulSector_57 : decode cX1_mostHarmfulSector 57 = .ok (.iinc 3 1, 3) := by decide +kernel
theorem dX1_mostHarmfulSector_60 : decode cX1_mostHarmfulSector 60 = .ok (.goto (-32), 3) := by decide +kernel
theorem dX1_mostHarmfulSector_63 : decode cX1_mostHarmfulSector 63 = .ok (.iload_n 2, 1) := by decide +kernel
theorem dX1_mostHarmfulSector_64 : decode cX1_mostHarmfulSector 64 = .ok (.ireturn, 1) := by decide +kernel
theorem dX1_moreHarmful_0 : decode cX1_moreHarmful 0 = .ok (.aload_n 0, 1) := by decide +kernel
theorem dX1_moreHarmful_1 : decode cX1_moreHarmful 1 = .ok (.iload_n 1, 1) := by decide +kernel
theorem dX1_moreHarmful_2 : decode cX1_moreHarmful 2 = .ok (.invokevirtual 153, 3) := by decide +kernel
theorem dX1_moreHarmful_5 : decode cX1_moreHarmful 5 = .ok (.istore_n 3, 1) := by decide +kernel
theorem dX1_moreHarmful_6 : decode cX1_moreHarmful 6 = .ok (.aload_n 0, 1) := by decide +kernel
theorem dX1_moreHarmful_7 : decode cX1_moreHarmful 7 = .ok (.iload_n 2, 1) := by decide +kernel
theorem dX1_moreHarmful_8 : decode cX1_moreHarmful 8 = .ok (.invokevirtual 153, 3) := by decide +kernel
theorem dX1_moreHarmful_11 : decode cX1_moreHarmful 11 = .ok (.istore 4, 2) := by decide +kernel
theorem dX1_moreHarmful_13 : decode cX1_moreHarmful 13 = .ok (.iload_n 3, 1) := by decide +kernel
theorem dX1_moreHarmful_14 : decode cX1_moreHarmful 14 = .ok (.iload 4, 2) := by decide +kernel
theorem dX1_moreHarmful_16 : decode cX1_moreHarmful 16 = .ok (.if_icmp .ne 9, 3) := by decide +kernel
theorem dX1_moreHarmful_19 : decode cX1_moreHarmful 19 = .ok (.iload_n 1, 1) := by decide +kernel
theorem dX1_moreHarmful_20 : decode cX1_moreHarmful 20 = .ok (.iload_n 2, 1) := by decide +kernel
theorem dX1_moreHarmful_21 : decode cX1_moreHarmful 21 = .ok (.invokestatic 128, 3) := by decide +kernel
theorem dX1_moreHarmful_24 : decode cX1_moreHarmful 24 = .ok (.ireturn, 1) := by decide +kernel
theorem dX1_moreHarmful_25 : decode cX1_moreHarmful 25 = .ok (.iload_n 3, 1) := by decide +kernel
theorem dX1_moreHarmful_26 : decode cX1_moreHarmful 26 = .ok (.iload 4, 2) := by decide +kernel
theorem dX1_moreHarmful_28 : decode cX1_moreHarmful 28 = .ok (.if_icmp .ge 7, 3) := by decide +kernel
theorem dX1_moreHarmful_31 : decode cX1_moreHarmful 31 = .ok (.iload_n 1, 1) := by decide +kernel
theorem dX1_moreHarmful_32 : decode cX1_moreHarmful 32 = .ok (.goto 4, 3) := by decide +kernel
theorem dX1_moreHarmful_35 : decode cX1_moreHarmful 35 = .ok (.iload_n 2, 1) := by decide +kernel
theorem dX1_moreHarmful_36 : decode cX1_moreHarmful 36 = .ok (.ireturn, 1) := by decide +kernel
theorem dX2_init_0 : decode cX2_init 0 = .ok (.aload_n 0, 1) := by decide +kernel
theorem dX2_init_1 : decode cX2_init 1 = .ok (.invokespecial 3, 3) := by decide +kernel
theorem dX2_init_4 : decode cX2_init 4 = .ok (.aload_n 0, 1) := by decide +kernel
theorem dX2_init_5 : decode cX2_init 5 = .ok (.iconst 5, 1) := by decide +kernel
theorem dX2_init_6 : decode cX2_init 6 = .ok (.anewarray 9, 3) := by decide +kernel
theorem dX2_init_9 : decode cX2_init 9 = .ok (.putfield 11, 3) := by decide +kernel
theorem dX2_init_12 : decode cX2_init 12 = .ok (.iconst 0, 1) := by decide +kernel
theorem dX2_init_13 : decode cX2_init 13 = .ok (.istore_n 1, 1) := by decide +kernel
theorem dX2_init_14 : decode cX2_init 14 = .ok (.iload_n 1, 1) := by decide +kernel
theorem dX2_init_15 : decode cX2_init 15 = .ok (.iconst 5, 1) := by decide +kernel
theorem dX2_init_16 : decode cX2_init 16 = .ok (.if_icmp .ge 22, 3) := by decide +kernel
theorem dX2_init_19 : decode cX2_init 19 = .ok (.aload_n 0, 1) := by decide +kernel
theorem dX2_init_20 : decode cX2_init 20 = .ok (.getfield 11, 3) := by decide +kernel
theorem dX2_init_23 : decode cX2_init 23 = .ok (.iload_n 1, 1) := by decide +kernel
theorem dX2_init_24 : decode cX2_init 24 = .ok (.new 9, 3) := by decide +kernel
theorem dX2_init_27 : decode cX2_init 27 = .ok (.dup, 1) := by decide +kernel
theorem dX2_init_28 : decode cX2_init 28 = .ok (.invokespecial 17, 3) := by decide +kernel
theorem dX2_init_31 : decode cX2_init 31 = .ok (.aastore, 1) := by decide +kernel
theorem dX2_init_32 : decode cX2_init 32 = .ok (.iinc 1 1, 3) := by decide +kernel
theorem dX2_init_35 : decode cX2_init 35 = .ok (.goto (-21), 3) := by decide +kernel
theorem dX2_init_38 : decode cX2_init 38 = .ok (.return_, 1) := by decide +kernel
theorem dX2_slotBehindHeld_0 : decode cX2_slotBehindHeld 0 = .ok (.aload_n 0, 1) := by decide +kernel
theorem dX2_slotBehindHeld_1 : decode cX2_slotBehindHeld 1 = .ok (.getfield 11, 3) := by decide +kernel
theorem dX2_slotBehindHeld_4 : decode cX2_slotBehindHeld 4 = .ok (.aload_n 0, 1) := by decide +kernel
theorem dX2_slotBehindHeld_5 : decode cX2_slotBehindHeld 5 = .ok (.getfield 18, 3) := by decide +kernel
theorem dX2_slotBehindHeld_8 : decode cX2_slotBehindHeld 8 = .ok (.aload_n 0, 1) := by decide +kernel
theorem dX2_slotBehindHeld_9 : decode cX2_slotBehindHeld 9 = .ok (.getfield 22, 3) := by decide +kernel
theorem dX2_slotBehindHeld_12 : decode cX2_slotBehindHeld 12 = .ok (.iadd, 1) := by decide +kernel
theorem dX2_slotBehindHeld_13 : decode cX2_slotBehindHeld 13 = .ok (.iconst 5, 1) := by decide +kernel
theorem dX2_slotBehindHeld_14 : decode cX2_slotBehindHeld 14 = .ok (.invokestatic 25, 3) := by decide +kernel
theorem dX2_slotBehindHeld_17 : decode cX2_slotBehindHeld 17 = .ok (.aaload, 1) := by decide +kernel
theorem dX2_slotBehindHeld_18 : decode cX2_slotBehindHeld 18 = .ok (.areturn, 1) := by decide +kernel
theorem dX2_sketch_0 : decode cX2_sketch 0 = .ok (.aload_n 0, 1) := by decide +kernel
theorem dX2_sketch_1 : decode cX2_sketch 1 = .ok (.invokevirtual 31, 3) := by decide +kernel
theorem dX2_sketch_4 : decode cX2_sketch 4 = .ok (.aload_n 1, 1) := by decide +kernel
theorem dX2_sketch_5 : decode cX2_sketch 5 = .ok (.invokevirtual 35, 3) := by decide +kernel
theorem dX2_sketch_8 : decode cX2_sketch 8 = .ok (.return_, 1) := by decide +kernel
theorem dX2_recordSketch_0 : decode cX2_recordSketch 0 = .ok (.aload_n 0, 1) := by decide +kernel
theorem dX2_recordSketch_1 : decode cX2_recordSketch 1 = .ok (.getfield 22, 3) := by decide +kernel
theorem dX2_recordSketch_4 : decode cX2_recordSketch 4 = .ok (.iconst 4, 1) := by decide +kernel
theorem dX2_recordSketch_5 : decode cX2_recordSketch 5 = .ok (.if_icmp .ge 16, 3) := by decide +kernel
theorem dX2_recordSketch_8 : decode cX2_recordSketch 8 = .ok (.aload_n 0, 1) := by decide +kernel
theorem dX2_recordSketch_9 : decode cX2_recordSketch 9 = .ok (.dup, 1) := by decide +kernel
theorem dX2_recordSketch_10 : decode cX2_recordSketch 10 = .ok (.getfield 22, 3) := by decide +kernel
theorem dX2_recordSketch_13 : decode cX2_recordSketch 13 = .ok (.iconst 1, 1) := by decide +kernel
theorem dX2_recordSketch_14 : decode cX2_recordSketch 14 = .ok (.iadd, 1) := by decide +kernel
theorem dX2_recordSketch_15 : decode cX2_recordSketch 15 = .ok (.putfield 22, 3) := by decide +kernel
theorem dX2_recordSketch_18 : decode cX2_recordSketch 18 = .ok (.goto 15, 3) := by decide +kernel
theorem dX2_recordSketch_21 : decode cX2_recordSketch 21 = .ok (.aload_n 0, 1) := by decide +kernel
theorem dX2_recordSketch_22 : decode cX2_recordSketch 22 = .ok (.aload_n 0, 1) := by decide +kernel
theorem dX2_recordSketch_23 : decode cX2_recordSketch 23 = .ok (.getfield 18, 3) := by decide +kernel
theorem dX2_recordSketch_26 : decode cX2_recordSketch 26 = .ok (.iconst 1, 1) := by decide +kernel
theorem dX2_recordSketch_27 : decode cX2_recordSketch 27 = .ok (.iadd, 1) := by decide +kernel
theorem dX2_recordSketch_28 : decode cX2_recordSketch 28 = .ok (.iconst 5, 1) := by decide +kernel
theorem dX2_recordSketch_29 : decode cX2_recordSketch 29 = .ok (.irem, 1) := by decide +kernel
theorem dX2_recordSketch_30 : decode cX2_recordSketch 30 = .ok (.putfield 18, 3) := by decide +kernel
theorem dX2_recordSketch_33 : decode cX2_recordSketch 33 = .ok (.return_, 1) := by decide +kernel
theorem dX2_takeBack_0 : decode cX2_takeBack 0 = .ok (.aload_n 0, 1) := by decide +kernel
theorem dX2_takeBack_1 : decode cX2_takeBack 1 = .ok (.getfield 22, 3) := by decide +kernel
theorem dX2_takeBack_4 : decode cX2_takeBack 4 = .ok (.ifCond .ne 5, 3) := by decide +kernel
theorem dX2_takeBack_7 : decode cX2_takeBack 7 = .ok (.iconst 0, 1) := by decide +kernel
theorem dX2_takeBack_8 : decode cX2_takeBack 8 = .ok (.ireturn, 1) := by decide +kernel
theorem dX2_takeBack_9 : decode cX2_takeBack 9 = .ok (.aload_n 0, 1) := by decide +kernel
theorem dX2_takeBack_10 : decode cX2_takeBack 10 = .ok (.dup, 1) := by decide +kernel
theorem dX2_takeBack_11 : decode cX2_takeBack 11 = .ok (.getfield 22, 3) := by decide +kernel
theorem dX2_takeBack_14 : decode cX2_takeBack 14 = .ok (.iconst 1, 1) := by decide +kernel
theorem dX2_takeBack_15 : decode cX2_takeBack 15 = .ok (.isub, 1) := by decide +kernel
theorem dX2_takeBack_16 : decode cX2_takeBack 16 = .ok (.putfield 22, 3) := by decide +kernel
theorem dX2_takeBack_19 : decode cX2_takeBack 19 = .ok (.aload_n 1, 1) := by decide +kernel
theorem dX2_takeBack_20 : decode cX2_takeBack 20 = .ok (.aload_n 0, 1) := by decide +kernel
theorem dX2_takeBack_21 : decode cX2_takeBack 21 = .ok (.invokevirtual 31, 3) := by decide +kernel
theorem dX2_takeBack_24 : decode cX2_takeBack 24 = .ok (.invokevirtual 35, 3) := by decide +kernel
theorem dX2_takeBack_27 : decode cX2_takeBack 27 = .ok (.iconst 1, 1) := by decide +kernel
theorem dX2_takeBack_28 : decode cX2_takeBack 28 = .ok (.ireturn, 1) := by decide +kernel
theorem dX3_init_0 : decode cX3_init 0 = .ok (.aload_n 0, 1) := by decide +kernel
theorem dX3_init_1 : decode cX3_init 1 = .ok (.invokespecial 3, 3) := by decide +kernel
theorem dX3_init_4 : decode cX3_init 4 = .ok (.aload_n 0, 1) := by decide +kernel
theorem dX3_init_5 : decode cX3_init 5 = .ok (.bipush 20, 2) := by decide +kernel
theorem dX3_init_7 : decode cX3_init 7 = .ok (.anewarray 9, 3) := by decide +kernel
theorem dX3_init_10 : decode cX3_init 10 = .ok (.putfield 11, 3) := by decide +kernel
theorem dX3_init_13 : decode cX3_init 13 = .ok (.return_, 1) := by decide +kernel
theorem dX3_startAt_0 : decode cX3_startAt 0 = .ok (.aload_n 0, 1) := by decide +kernel
theorem dX3_startAt_1 : decode cX3_startAt 1 = .ok (.iconst 0, 1) := by decide +kernel
theorem dX3_startAt_2 : decode cX3_startAt 2 = .ok (.putfield 17, 3) := by decide +kernel
theorem dX3_startAt_5 : decode cX3_startAt 5 = .ok (.aload_n 0, 1) := by decide +kernel
theorem dX3_startAt_6 : decode cX3_startAt 6 = .ok (.iload_n 1, 1) := by decide +kernel
theorem dX3_startAt_7 : decode cX3_startAt 7 = .ok (.putfield 21, 3) := by decide +kernel
theorem dX3_startAt_10 : decode cX3_startAt 10 = .ok (.aload_n 0, 1) := by decide +kernel
theorem dX3_startAt_11 : decode cX3_startAt 11 = .ok (.iload_n 1, 1) := by decide +kernel
theorem dX3_startAt_12 : decode cX3_startAt 12 = .ok (.iload_n 2, 1) := by decide +kernel
theorem dX3_startAt_13 : decode cX3_startAt 13 = .ok (.iadd, 1) := by decide +kernel
theorem dX3_startAt_14 : decode cX3_startAt 14 = .ok (.putfield 24, 3) := by decide +kernel
theorem dX3_startAt_17 : decode cX3_startAt 17 = .ok (.aload_n 0, 1) := by decide +kernel
theorem dX3_startAt_18 : decode cX3_startAt 18 = .ok (.iload_n 2, 1) := by decide +kernel
theorem dX3_startAt_19 : decode cX3_startAt 19 = .ok (.putfield 27, 3) := by decide +kernel
theorem dX3_startAt_22 : decode cX3_startAt 22 = .ok (.aload_n 0, 1) := by decide +kernel
theorem dX3_startAt_23 : decode cX3_startAt 23 = .ok (.iload_n 3, 1) := by decide +kernel
theorem dX3_startAt_24 : decode cX3_startAt 24 = .ok (.putfield 30, 3) := by decide +kernel
theorem dX3_startAt_27 : decode cX3_startAt 27 = .ok (.aload_n 0, 1) := by decide +kernel
theorem dX3_startAt_28 : decode cX3_startAt 28 = .ok (.iconst 0, 1) := by decide +kernel
theorem dX3_startAt_29 : decode cX3_startAt 29 = .ok (.putfield 33, 3) := by decide +kernel
theorem dX3_startAt_32 : decode cX3_startAt 32 = .ok (.iconst 0, 1) := by decide +kernel
theorem dX3_startAt_33 : decode cX3_startAt 33 = .ok (.istore 4, 2) := by decide +kernel
theorem dX3_startAt_35 : decode cX3_startAt 35 = .ok (.iload 4, 2) := by decide +kernel
theorem dX3_startAt_37 : decode cX3_startAt 37 = .ok (.bipush 20, 2) := by decide +kernel
theorem dX3_startAt_39 : decode cX3_startAt 39 = .ok (.if_icmp .ge 17, 3) := by decide +kernel
theorem dX3_startAt_42 : decode cX3_startAt 42 = .ok (.aload_n 0, 1) := by decide +kernel
theorem dX3_startAt_43 : decode cX3_startAt 43 = .ok (.getfield 11, 3) := by decide +kernel
theorem dX3_startAt_46 : decode cX3_startAt 46 = .ok (.iload 4, 2) := by decide +kernel
theorem dX3_startAt_48 : decode cX3_startAt 48 = .ok (.aconst_null, 1) := by decide +kernel
theorem dX3_startAt_49 : decode cX3_startAt 49 = .ok (.aastore, 1) := by decide +kernel
theorem dX3_startAt_50 : decode cX3_startAt 50 = .ok (.iinc 4 1, 3) := by decide +kernel
theorem dX3_startAt_53 : decode cX3_startAt 53 = .ok (.goto (-18), 3) := by decide +kernel
theorem dX3_startAt_56 : decode cX3_startAt 56 = .ok (.return_, 1) := by decide +kernel
theorem dX3_copyTable_0 : decode cX3_copyTable 0 = .ok (.iconst 0, 1) := by decide +kernel
theorem dX3_copyTable_1 : decode cX3_copyTable 1 = .ok (.istore_n 2, 1) := by decide +kernel
theorem dX3_copyTable_2 : decode cX3_copyTable 2 = .ok (.iload_n 2, 1) := by decide +kernel
theorem dX3_copyTable_3 : decode cX3_copyTable 3 = .ok (.bipush 20, 2) := by decide +kernel
theorem dX3_copyTable_5 : decode cX3_copyTable 5 = .ok (.if_icmp .ge 21, 3) := by decide +kernel
theorem dX3_copyTable_8 : decode cX3_copyTable 8 = .ok (.aload_n 0, 1) := by decide +kernel
theorem dX3_copyTable_9 : decode cX3_copyTable 9 = .ok (.getfield 11, 3) := by decide +kernel
theorem dX3_copyTable_12 : decode cX3_copyTable 12 = .ok (.iload_n 2, 1) := by decide +kernel
theorem dX3_copyTable_13 : decode cX3_copyTable 13 = .ok (.aload_n 1, 1) := by decide +kernel
theorem dX3_copyTable_14 : decode cX3_copyTable 14 = .ok (.getfield 11, 3) := by decide +kernel
theorem dX3_copyTable_17 : decode cX3_copyTable 17 = .ok (.iload_n 2, 1) := by decide +kernel
theorem dX3_copyTable_18 : decode cX3_copyTable 18 = .ok (.aaload, 1) := by decide +kernel
theorem dX3_copyTable_19 : decode cX3_copyTable 19 = .ok (.aastore, 1) := by decide +kernel
theorem dX3_copyTable_20 : decode cX3_copyTable 20 = .ok (.iinc 2 1, 3) := by decide +kernel
theorem dX3_copyTable_23 : decode cX3_copyTable 23 = .ok (.goto (-21), 3) := by decide +kernel
theorem dX3_copyTable_26 : decode cX3_copyTable 26 = .ok (.return_, 1) := by decide +kernel
theorem dX3_copyAll_0 : decode cX3_copyAll 0 = .ok (.aload_n 0, 1) := by decide +kernel
theorem dX3_copyAll_1 : decode cX3_copyAll 1 = .ok (.aload_n 1, 1) := by decide +kernel
theorem dX3_copyAll_2 : decode cX3_copyAll 2 = .ok (.getfield 17, 3) := by decide +kernel
theorem dX3_copyAll_5 : decode cX3_copyAll 5 = .ok (.putfield 17, 3) := by decide +kernel
theorem dX3_copyAll_8 : decode cX3_copyAll 8 = .ok (.aload_n 0, 1) := by decide +kernel
theorem dX3_copyAll_9 : decode cX3_copyAll 9 = .ok (.aload_n 1, 1) := by decide +kernel
theorem dX3_copyAll_10 : decode cX3_copyAll 10 = .ok (.getfield 21, 3) := by decide +kernel
theorem dX3_copyAll_13 : decode cX3_copyAll 13 = .ok (.putfield 21, 3) := by decide +kernel
theorem dX3_copyAll_16 : decode cX3_copyAll 16 = .ok (.aload_n 0, 1) := by decide +kernel
theorem dX3_copyAll_17 : decode cX3_copyAll 17 = .ok (.aload_n 1, 1) := by decide +kernel
theorem dX3_copyAll_18 : decode cX3_copyAll 18 = .ok (.getfield 24, 3) := by decide +kernel
theorem dX3_copyAll_21 : decode cX3_copyAll 21 = .ok (.putfield 24, 3) := by decide +kernel
theorem dX3_copyAll_24 : decode cX3_copyAll 24 = .ok (.aload_n 0, 1) := by decide +kernel
theorem dX3_copyAll_25 : decode cX3_copyAll 25 = .ok (.aload_n 1, 1) := by decide +kernel
theorem dX3_copyAll_26 : decode cX3_copyAll 26 = .ok (.getfield 27, 3) := by decide +kernel
theorem dX3_copyAll_29 : decode cX3_copyAll 29 = .ok (.putfield 27, 3) := by decide +kernel
theorem dX3_copyAll_32 : decode cX3_copyAll 32 = .ok (.aload_n 0, 1) := by decide +kernel
theorem dX3_copyAll_33 : decode cX3_copyAll 33 = .ok (.aload_n 1, 1) := by decide +kernel
theorem dX3_copyAll_34 : decode cX3_copyAll 34 = .ok (.getfield 30, 3) := by decide +kernel
theorem dX3_copyAll_37 : decode cX3_copyAll 37 = .ok (.putfield 30, 3) := by decide +kernel
theorem dX3_copyAll_40 : decode cX3_copyAll 40 = .ok (.aload_n 0, 1) := by decide +kernel
theorem dX3_copyAll_41 : decode cX3_copyAll 41 = .ok (.aload_n 1, 1) := by decide +kernel
theorem dX3_copyAll_42 : decode cX3_copyAll 42 = .ok (.getfield 33, 3) := by decide +kernel
theorem dX3_copyAll_45 : decode cX3_copyAll 45 = .ok (.putfield 33, 3) := by decide +kernel
theorem dX3_copyAll_48 : decode cX3_copyAll 48 = .ok (.aload_n 0, 1) := by decide +kernel
theorem dX3_copyAll_49 : decode cX3_copyAll 49 = .ok (.aload_n 1, 1) := by decide +kernel
theorem dX3_copyAll_50 : decode cX3_copyAll 50 = .ok (.invokevirtual 36, 3) := by decide +kernel
theorem dX3_copyAll_53 : decode cX3_copyAll 53 = .ok (.return_, 1) := by decide +kernel
theorem dX3_fileOf_0 : decode cX3_fileOf 0 = .ok (.iload_n 1, 1) := by decide +kernel
theorem dX3_fileOf_1 : decode cX3_fileOf 1 = .ok (.invokestatic 40, 3) := by decide +kernel
theorem dX3_fileOf_4 : decode cX3_fileOf 4 = .ok (.ifCond .eq 12, 3) := by decide +kernel
theorem dX3_fileOf_7 : decode cX3_fileOf 7 = .ok (.aload_n 0, 1) := by decide +kernel
theorem dX3_fileOf_8 : decode cX3_fileOf 8 = .ok (.getfield 11, 3) := by decide +kernel
theorem dX3_fileOf_11 : decode cX3_fileOf 11 = .ok (.iload_n 1, 1) := by decide +kernel
theorem dX3_fileOf_12 : decode cX3_fileOf 12 = .ok (.aaload, 1) := by decide +kernel
theorem dX3_fileOf_13 : decode cX3_fileOf 13 = .ok (.goto 4, 3) := by decide +kernel
theorem dX3_fileOf_16 : decode cX3_fileOf 16 = .ok (.aconst_null, 1) := by decide +kernel
theorem dX3_fileOf_17 : decode cX3_fileOf 17 = .ok (.areturn, 1) := by decide +kernel
theorem dX3_putFile_0 : decode cX3_putFile 0 = .ok (.iload_n 1, 1) := by decide +kernel
theorem dX3_putFile_1 : decode cX3_putFile 1 = .ok (.invokestatic 40, 3) := by decide +kernel
theorem dX3_putFile_4 : decode cX3_putFile 4 = .ok (.ifCond .eq 10, 3) := by decide +kernel
theorem dX3_putFile_7 : decode cX3_putFile 7 = .ok (.aload_n 0, 1) := by decide +kernel
theorem dX3_putFile_8 : decode cX3_putFile 8 = .ok (.getfield 11, 3) := by decide +kernel
theorem dX3_putFile_11 : decode cX3_putFile 11 = .ok (.iload_n 1, 1) := by decide +kernel
theorem dX3_putFile_12 : decode cX3_putFile 12 = .ok (.aload_n 2, 1) := by decide +kernel
theorem dX3_putFile_13 : decode cX3_putFile 13 = .ok (.aastore, 1) := by decide +kernel
theorem dX3_putFile_14 : decode cX3_putFile 14 = .ok (.return_, 1) := by decide +kernel
theorem dX3_countEntries_0 : decode cX3_countEntries 0 = .ok (.iconst 0, 1) := by decide +kernel
theorem dX3_countEntries_1 : decode cX3_countEntries 1 = .ok (.istore_n 1, 1) := by decide +kernel
theorem dX3_countEntries_2 : decode cX3_countEntries 2 = .ok (.iconst 0, 1) := by decide +kernel
theorem dX3_countEntries_3 : decode cX3_countEntries 3 = .ok (.istore_n 2, 1) := by decide +kernel
theorem dX3_countEntries_4 : decode cX3_countEntries 4 = .ok (.iload_n 2, 1) := by decide +kernel
theorem dX3_countEntries_5 : decode cX3_countEntries 5 = .ok (.bipush 20, 2) := by decide +kernel
theorem dX3_countEntries_7 : decode cX3_countEntries 7 = .ok (.if_icmp .ge 21, 3) := by decide +kernel
theorem dX3_countEntries_10 : decode cX3_countEntries 10 = .ok (.aload_n 0, 1) := by decide +kernel
theorem dX3_countEntries_11 : decode cX3_countEntries 11 = .ok (.getfield 11, 3) := by decide +kernel
theorem dX3_countEntries_14 : decode cX3_countEntries 14 = .ok (.iload_n 2, 1) := by decide +kernel
theorem dX3_countEntries_15 : decode cX3_countEntries 15 = .ok (.aaload, 1) := by decide +kernel
theorem dX3_countEntries_16 : decode cX3_countEntries 16 = .ok (.ifnull 6, 3) := by decide +kernel
theorem dX3_countEntries_19 : decode cX3_countEntries 19 = .ok (.iinc 1 1, 3) := by decide +kernel
theorem dX3_countEntries_22 : decode cX3_countEntries 22 = .ok (.iinc 2 1, 3) := by decide +kernel
theorem dX3_countEntries_25 : decode cX3_countEntries 25 = .ok (.goto (-21), 3) := by decide +kernel
theorem dX3_countEntries_28 : decode cX3_countEntries 28 = .ok (.iload_n 1, 1) := by decide +kernel
theorem dX3_countEntries_29 : decode cX3_countEntries 29 = .ok (.ireturn, 1) := by decide +kernel
theorem dX3_hasTaken_0 : decode cX3_hasTaken 0 = .ok (.iload_n 1, 1) := by decide +kernel
theorem dX3_hasTaken_1 : decode cX3_hasTaken 1 = .ok (.aload_n 0, 1) := by decide +kernel
theorem dX3_hasTaken_2 : decode cX3_hasTaken 2 = .ok (.getfield 21, 3) := by decide +kernel
theorem dX3_hasTaken_5 : decode cX3_hasTaken 5 = .ok (.if_icmp .lt 15, 3) := by decide +kernel
theorem dX3_hasTaken_8 : decode cX3_hasTaken 8 = .ok (.iload_n 1, 1) := by decide +kernel
theorem dX3_hasTaken_9 : decode cX3_hasTaken 9 = .ok (.aload_n 0, 1) := by decide +kernel
theorem dX3_hasTaken_10 : decode cX3_hasTaken 10 = .ok (.getfield 24, 3) := by decide +kernel
theorem dX3_hasTaken_13 : decode cX3_hasTaken 13 = .ok (.if_icmp .ge 7, 3) := by decide +kernel
theorem dX3_hasTaken_16 : decode cX3_hasTaken 16 = .ok (.iconst 1, 1) := by decide +kernel
theorem dX3_hasTaken_17 : decode cX3_hasTaken 17 = .ok (.goto 4, 3) := by decide +kernel
theorem dX3_hasTaken_20 : decode cX3_hasTaken 20 = .ok (.iconst 0, 1) := by decide +kernel
theorem dX3_hasTaken_21 : decode cX3_hasTaken 21 = .ok (.ireturn, 1) := by decide +kernel
theorem dX3_useOf_0 : decode cX3_useOf 0 = .ok (.iload_n 1, 1) := by decide +kernel
theorem dX3_useOf_1 : decode cX3_useOf 1 = .ok (.aload_n 0, 1) := by decide +kernel
theorem dX3_useOf_2 : decode cX3_useOf 2 = .ok (.getfield 21, 3) := by decide +kernel
theorem dX3_useOf_5 : decode cX3_useOf 5 = .ok (.aload_n 0, 1) := by decide +kernel
theorem dX3_useOf_6 : decode cX3_useOf 6 = .ok (.getfield 27, 3) := by decide +kernel
theorem dX3_useOf_9 : decode cX3_useOf 9 = .ok (.iadd, 1) := by decide +kernel
theorem dX3_useOf_10 : decode cX3_useOf 10 = .ok (.if_icmp .ge 5, 3) := by decide +kernel
theorem dX3_useOf_13 : decode cX3_useOf 13 = .ok (.iconst 1, 1) := by decide +kernel
theorem dX3_useOf_14 : decode cX3_useOf 14 = .ok (.ireturn, 1) := by decide +kernel
theorem dX3_useOf_15 : decode cX3_useOf 15 = .ok (.aload_n 0, 1) := by decide +kernel
theorem dX3_useOf_16 : decode cX3_useOf 16 = .ok (.getfield 17, 3) := by decide +kernel
theorem dX3_useOf_19 : decode cX3_useOf 19 = .ok (.iconst 1, 1) := by decide +kernel
theorem dX3_useOf_20 : decode cX3_useOf 20 = .ok (.if_icmp .ne 18, 3) := by decide +kernel
theorem dX3_useOf_23 : decode cX3_useOf 23 = .ok (.iload_n 1, 1) := by decide +kernel
theorem dX3_useOf_24 : decode cX3_useOf 24 = .ok (.aload_n 0, 1) := by decide +kernel
theorem dX3_useOf_25 : decode cX3_useOf 25 = .ok (.getfield 24, 3) := by decide +kernel
theorem dX3_useOf_28 : decode cX3_useOf 28 = .ok (.aload_n 0, 1) := by decide +kernel
theorem dX3_useOf_29 : decode cX3_useOf 29 = .ok (.getfield 30, 3) := by decide +kernel
theorem dX3_useOf_32 : decode cX3_useOf 32 = .ok (.isub, 1) := by decide +kernel
theorem dX3_useOf_33 : decode cX3_useOf 33 = .ok (.if_icmp .lt 5, 3) := by decide +kernel
theorem dX3_useOf_36 : decode cX3_useOf 36 = .ok (.iconst 2, 1) := by decide +kernel
theorem dX3_useOf_37 : decode cX3_useOf 37 = .ok (.ireturn, 1) := by decide +kernel
theorem dX3_useOf_38 : decode cX3_useOf 38 = .ok (.iconst 3, 1) := by decide +kernel
theorem dX3_useOf_39 : decode cX3_useOf 39 = .ok (.ireturn, 1) := by decide +kernel
theorem dX4_init_0 : decode cX4_init 0 = .ok (.aload_n 0, 1) := by decide +kernel
theorem dX4_init_1 : decode cX4_init 1 = .ok (.invokespecial 1, 3) := by decide +kernel
theorem dX4_init_4 : decode cX4_init 4 = .ok (.aload_n 0, 1) := by decide +kernel
theorem dX4_init_5 : decode cX4_init 5 = .ok (.iload_n 1, 1) := by decide +kernel
theorem dX4_init_6 : decode cX4_init 6 = .ok (.putfield 7, 3) := by decide +kernel
theorem dX4_init_9 : decode cX4_init 9 = .ok (.aload_n 0, 1) := by decide +kernel
theorem dX4_init_10 : decode cX4_init 10 = .ok (.iload_n 2, 1) := by decide +kernel
theorem dX4_init_11 : decode cX4_init 11 = .ok (.putfield 13, 3) := by decide +kernel
theorem dX4_init_14 : decode cX4_init 14 = .ok (.aload_n 0, 1) := by decide +kernel
theorem dX4_init_15 : decode cX4_init 15 = .ok (.iload_n 3, 1) := by decide +kernel
theorem dX4_init_16 : decode cX4_init 16 = .ok (.putfield 16, 3) := by decide +kernel
theorem dX4_init_19 : decode cX4_init 19 = .ok (.return_, 1) := by decide +kernel
theorem dX5_init_0 : decode cX5_init 0 = .ok (.aload_n 0, 1) := by decide +kernel
theorem dX5_init_1 : decode cX5_init 1 = .ok (.invokespecial 3, 3) := by decide +kernel
theorem dX5_init_4 : decode cX5_init 4 = .ok (.aload_n 0, 1) := by decide +kernel
theorem dX5_init_5 : decode cX5_init 5 = .ok (.new 9, 3) := by decide +kernel
theorem dX5_init_8 : decode cX5_init 8 = .ok (.dup, 1) := by decide +kernel
theorem dX5_init_9 : decode cX5_init 9 = .ok (.invokespecial 11, 3) := by decide +kernel
theorem dX5_init_12 : decode cX5_init 12 = .ok (.putfield 12, 3) := by decide +kernel
theorem dX5_init_15 : decode cX5_init 15 = .ok (.aload_n 0, 1) := by decide +kernel
theorem dX5_init_16 : decode cX5_init 16 = .ok (.new 16, 3) := by decide +kernel
theorem dX5_init_19 : decode cX5_init 19 = .ok (.dup, 1) := by decide +kernel
theorem dX5_init_20 : decode cX5_init 20 = .ok (.invokespecial 18, 3) := by decide +kernel
theorem dX5_init_23 : decode cX5_init 23 = .ok (.putfield 19, 3) := by decide +kernel
theorem dX5_init_26 : decode cX5_init 26 = .ok (.aload_n 0, 1) := by decide +kernel
theorem dX5_init_27 : decode cX5_init 27 = .ok (.new 23, 3) := by decide +kernel
theorem dX5_init_30 : decode cX5_init 30 = .ok (.dup, 1) := by decide +kernel
theorem dX5_init_31 : decode cX5_init 31 = .ok (.invokespecial 25, 3) := by decide +kernel
theorem dX5_init_34 : decode cX5_init 34 = .ok (.putfield 26, 3) := by decide +kernel
theorem dX5_init_37 : decode cX5_init 37 = .ok (.return_, 1) := by decide +kernel
theorem dX5_begin_0 : decode cX5_begin 0 = .ok (.aload_n 0, 1) := by decide +kernel
theorem dX5_begin_1 : decode cX5_begin 1 = .ok (.getfield 19, 3) := by decide +kernel
theorem dX5_begin_4 : decode cX5_begin 4 = .ok (.aload_n 0, 1) := by decide +kernel
theorem dX5_begin_5 : decode cX5_begin 5 = .ok (.getfield 12, 3) := by decide +kernel
theorem dX5_begin_8 : decode cX5_begin 8 = .ok (.invokevirtual 30, 3) := by decide +kernel
theorem dX5_begin_11 : decode cX5_begin 11 = .ok (.aload_n 0, 1) := by decide +kernel
theorem dX5_begin_12 : decode cX5_begin 12 = .ok (.aload_n 0, 1) := by decide +kernel
theorem dX5_begin_13 : decode cX5_begin 13 = .ok (.getfield 12, 3) := by decide +kernel
theorem dX5_begin_16 : decode cX5_begin 16 = .ok (.iload_n 1, 1) := by decide +kernel
theorem dX5_begin_17 : decode cX5_begin 17 = .ok (.invokevirtual 34, 3) := by decide +kernel
theorem dX5_begin_20 : decode cX5_begin 20 = .ok (.invokevirtual 38, 3) := by decide +kernel
theorem dX5_begin_23 : decode cX5_begin 23 = .ok (.ireturn, 1) := by decide +kernel
theorem dX5_write_0 : decode cX5_write 0 = .ok (.aload_n 0, 1) := by decide +kernel
theorem dX5_write_1 : decode cX5_write 1 = .ok (.getfield 19, 3) := by decide +kernel
theorem dX5_write_4 : decode cX5_write 4 = .ok (.aload_n 0, 1) := by decide +kernel
theorem dX5_write_5 : decode cX5_write 5 = .ok (.getfield 12, 3) := by decide +kernel
theorem dX5_write_8 : decode cX5_write 8 = .ok (.invokevirtual 30, 3) := by decide +kernel
theorem dX5_write_11 : decode cX5_write 11 = .ok (.aload_n 0, 1) := by decide +kernel
theorem dX5_write_12 : decode cX5_write 12 = .ok (.aload_n 0, 1) := by decide +kernel
theorem dX5_write_13 : decode cX5_write 13 = .ok (.getfield 12, 3) := by decide +kernel
theorem dX5_write_16 : decode cX5_write 16 = .ok (.iload_n 1, 1) := by decide +kernel
theorem dX5_write_17 : decode cX5_write 17 = .ok (.iload_n 2, 1) := by decide +kernel
theorem dX5_write_18 : decode cX5_write 18 = .ok (.invokevirtual 41, 3) := by decide +kernel
theorem dX5_write_21 : decode cX5_write 21 = .ok (.invokevirtual 38, 3) := by decide +kernel
theorem dX5_write_24 : decode cX5_write 24 = .ok (.ireturn, 1) := by decide +kernel
theorem dX5_remove_0 : decode cX5_remove 0 = .ok (.aload_n 0, 1) := by decide +kernel
theorem dX5_remove_1 : decode cX5_remove 1 = .ok (.getfield 19, 3) := by decide +kernel
theorem dX5_remove_4 : decode cX5_remove 4 = .ok (.aload_n 0, 1) := by decide +kernel
theorem dX5_remove_5 : decode cX5_remove 5 = .ok (.getfield 12, 3) := by decide +kernel
theorem dX5_remove_8 : decode cX5_remove 8 = .ok (.invokevirtual 30, 3) := by decide +kernel
theorem dX5_remove_11 : decode cX5_remove 11 = .ok (.aload_n 0, 1) := by decide +kernel
theorem dX5_remove_12 : decode cX5_remove 12 = .ok (.aload_n 0, 1) := by decide +kernel
theorem dX5_remove_13 : decode cX5_remove 13 = .ok (.getfield 12, 3) := by decide +kernel
theorem dX5_remove_16 : decode cX5_remove 16 = .ok (.iload_n 1, 1) := by decide +kernel
theorem dX5_remove_17 : decode cX5_remove 17 = .ok (.invokevirtual 45, 3) := by decide +kernel
theorem dX5_remove_20 : decode cX5_remove 20 = .ok (.invokevirtual 38, 3) := by decide +kernel
theorem dX5_remove_23 : decode cX5_remove 23 = .ok (.ireturn, 1) := by decide +kernel
theorem dX5_keep_0 : decode cX5_keep 0 = .ok (.aload_n 0, 1) := by decide +kernel
theorem dX5_keep_1 : decode cX5_keep 1 = .ok (.getfield 19, 3) := by decide +kernel
theorem dX5_keep_4 : decode cX5_keep 4 = .ok (.aload_n 0, 1) := by decide +kernel
theorem dX5_keep_5 : decode cX5_keep 5 = .ok (.getfield 12, 3) := by decide +kernel
theorem dX5_keep_8 : decode cX5_keep 8 = .ok (.invokevirtual 30, 3) := by decide +kernel
theorem dX5_keep_11 : decode cX5_keep 11 = .ok (.aload_n 0, 1) := by decide +kernel
theorem dX5_keep_12 : decode cX5_keep 12 = .ok (.aload_n 0, 1) := by decide +kernel
theorem dX5_keep_13 : decode cX5_keep 13 = .ok (.getfield 12, 3) := by decide +kernel
theorem dX5_keep_16 : decode cX5_keep 16 = .ok (.iload_n 1, 1) := by decide +kernel
theorem dX5_keep_17 : decode cX5_keep 17 = .ok (.iload_n 2, 1) := by decide +kernel
theorem dX5_keep_18 : decode cX5_keep 18 = .ok (.invokevirtual 48, 3) := by decide +kernel
theorem dX5_keep_21 : decode cX5_keep 21 = .ok (.invokevirtual 38, 3) := by decide +kernel
theorem dX5_keep_24 : decode cX5_keep 24 = .ok (.ireturn, 1) := by decide +kernel
theorem dX5_close_0 : decode cX5_close 0 = .ok (.aload_n 0, 1) := by decide +kernel
theorem dX5_close_1 : decode cX5_close 1 = .ok (.getfield 19, 3) := by decide +kernel
theorem dX5_close_4 : decode cX5_close 4 = .ok (.aload_n 0, 1) := by decide +kernel
theorem dX5_close_5 : decode cX5_close 5 = .ok (.getfield 12, 3) := by decide +kernel
theorem dX5_close_8 : decode cX5_close 8 = .ok (.invokevirtual 30, 3) := by decide +kernel
theorem dX5_close_11 : decode cX5_close 11 = .ok (.aload_n 0, 1) := by decide +kernel
theorem dX5_close_12 : decode cX5_close 12 = .ok (.aload_n 0, 1) := by decide +kernel
theorem dX5_close_13 : decode cX5_close 13 = .ok (.getfield 12, 3) := by decide +kernel
theorem dX5_close_16 : decode cX5_close 16 = .ok (.invokevirtual 51, 3) := by decide +kernel
theorem dX5_close_19 : decode cX5_close 19 = .ok (.invokevirtual 38, 3) := by decide +kernel
theorem dX5_close_22 : decode cX5_close 22 = .ok (.ireturn, 1) := by decide +kernel
theorem dX5_eject_0 : decode cX5_eject 0 = .ok (.aload_n 0, 1) := by decide +kernel
theorem dX5_eject_1 : decode cX5_eject 1 = .ok (.getfield 19, 3) := by decide +kernel
theorem dX5_eject_4 : decode cX5_eject 4 = .ok (.aload_n 0, 1) := by decide +kernel
theorem dX5_eject_5 : decode cX5_eject 5 = .ok (.getfield 12, 3) := by decide +kernel
theorem dX5_eject_8 : decode cX5_eject 8 = .ok (.invokevirtual 30, 3) := by decide +kernel
theorem dX5_eject_11 : decode cX5_eject 11 = .ok (.aload_n 0, 1) := by decide +kernel
theorem dX5_eject_12 : decode cX5_eject 12 = .ok (.aload_n 0, 1) := by decide +kernel
theorem dX5_eject_13 : decode cX5_eject 13 = .ok (.getfield 12, 3) := by decide +kernel
theorem dX5_eject_16 : decode cX5_eject 16 = .ok (.invokevirtual 55, 3) := by decide +kernel
theorem dX5_eject_19 : decode cX5_eject 19 = .ok (.invokevirtual 38, 3) := by decide +kernel
theorem dX5_eject_22 : decode cX5_eject 22 = .ok (.ireturn, 1) := by decide +kernel
theorem dX5_repair_0 : decode cX5_repair 0 = .ok (.aload_n 0, 1) := by decide +kernel
theorem dX5_repair_1 : decode cX5_repair 1 = .ok (.getfield 19, 3) := by decide +kernel
theorem dX5_repair_4 : decode cX5_repair 4 = .ok (.aload_n 0, 1) := by decide +kernel
theorem dX5_repair_5 : decode cX5_repair 5 = .ok (.getfield 12, 3) := by decide +kernel
theorem dX5_repair_8 : decode cX5_repair 8 = .ok (.invokevirtual 30, 3) := by decide +kernel
theorem dX5_repair_11 : decode cX5_repair 11 = .ok (.aload_n 0, 1) := by decide +kernel
theorem dX5_repair_12 : decode cX5_repair 12 = .ok (.aload_n 0, 1) := by decide +kernel
theorem dX5_repair_13 : decode cX5_repair 13 = .ok (.getfield 12, 3) := by decide +kernel
theorem dX5_repair_16 : decode cX5_repair 16 = .ok (.iload_n 1, 1) := by decide +kernel
theorem dX5_repair_17 : decode cX5_repair 17 = .ok (.invokevirtual 58, 3) := by decide +kernel
theorem dX5_repair_20 : decode cX5_repair 20 = .ok (.invokevirtual 38, 3) := by decide +kernel
theorem dX5_repair_23 : decode cX5_repair 23 = .ok (.ireturn, 1) := by decide +kernel
theorem dX5_damage_0 : decode cX5_damage 0 = .ok (.aload_n 0, 1) := by decide +kernel
theorem dX5_damage_1 : decode cX5_damage 1 = .ok (.getfield 19, 3) := by decide +kernel
theorem dX5_damage_4 : decode cX5_damage 4 = .ok (.aload_n 0, 1) := by decide +kernel
theorem dX5_damage_5 : decode cX5_damage 5 = .ok (.getfield 12, 3) := by decide +kernel
theorem dX5_damage_8 : decode cX5_damage 8 = .ok (.invokevirtual 30, 3) := by decide +kernel
theorem dX5_damage_11 : decode cX5_damage 11 = .ok (.aload_n 0, 1) := by decide +kernel
theorem dX5_damage_12 : decode cX5_damage 12 = .ok (.aload_n 0, 1) := by decide +kernel
theorem dX5_damage_13 : decode cX5_damage 13 = .ok (.getfield 12, 3) := by decide +kernel
theorem dX5_damage_16 : decode cX5_damage 16 = .ok (.iload_n 1, 1) := by decide +kernel
theorem dX5_damage_17 : decode cX5_damage 17 = .ok (.invokevirtual 61, 3) := by decide +kernel
theorem dX5_damage_20 : decode cX5_damage 20 = .ok (.invokevirtual 38, 3) := by decide +kernel
theorem dX5_damage_23 : decode cX5_damage 23 = .ok (.ireturn, 1) := by decide +kernel
theorem dX5_set_0 : decode cX5_set 0 = .ok (.aload_n 0, 1) := by decide +kernel
theorem dX5_set_1 : decode cX5_set 1 = .ok (.getfield 19, 3) := by decide +kernel
theorem dX5_set_4 : decode cX5_set 4 = .ok (.aload_n 0, 1) := by decide +kernel
theorem dX5_set_5 : decode cX5_set 5 = .ok (.getfield 12, 3) := by decide +kernel
theorem dX5_set_8 : decode cX5_set 8 = .ok (.invokevirtual 30, 3) := by decide +kernel
theorem dX5_set_11 : decode cX5_set 11 = .ok (.aload_n 0, 1) := by decide +kernel
theorem dX5_set_12 : decode cX5_set 12 = .ok (.aload_n 0, 1) := by decide +kernel
theorem dX5_set_13 : decode cX5_set 13 = .ok (.getfield 12, 3) := by decide +kernel
theorem dX5_set_16 : decode cX5_set 16 = .ok (.iload_n 1, 1) := by decide +kernel
theorem dX5_set_17 : decode cX5_set 17 = .ok (.iload_n 2, 1) := by decide +kernel
theorem dX5_set_18 : decode cX5_set 18 = .ok (.invokevirtual 64, 3) := by decide +kernel
theorem dX5_set_21 : decode cX5_set 21 = .ok (.invokevirtual 38, 3) := by decide +kernel
theorem dX5_set_24 : decode cX5_set 24 = .ok (.ireturn, 1) := by decide +kernel
theorem dX5_append_0 : decode cX5_append 0 = .ok (.iload_n 1, 1) := by decide +kernel
theorem dX5_append_1 : decode cX5_append 1 = .ok (.bipush 32, 2) := by decide +kernel
theorem dX5_append_3 : decode cX5_append 3 = .ok (.if_icmp .lt 9, 3) := by decide +kernel
theorem dX5_append_6 : decode cX5_append 6 = .ok (.iload_n 1, 1) := by decide +kernel
theorem dX5_append_7 : decode cX5_append 7 = .ok (.bipush 126, 2) := by decide +kernel
theorem dX5_append_9 : decode cX5_append 9 = .ok (.if_icmp .le 6, 3) := by decide +kernel
theorem dX5_append_12 : decode cX5_append 12 = .ok (.bipush (-2), 2) := by decide +kernel
theorem dX5_append_14 : decode cX5_append 14 = .ok (.ireturn, 1) := by decide +kernel
theorem dX5_append_15 : decode cX5_append 15 = .ok (.aload_n 0, 1) := by decide +kernel
theorem dX5_append_16 : decode cX5_append 16 = .ok (.getfield 26, 3) := by decide +kernel
theorem dX5_append_19 : decode cX5_append 19 = .ok (.iload_n 1, 1) := by decide +kernel
theorem dX5_append_20 : decode cX5_append 20 = .ok (.i2c, 1) := by decide +kernel
theorem dX5_append_21 : decode cX5_append 21 = .ok (.invokevirtual 67, 3) := by decide +kernel
theorem dX5_append_24 : decode cX5_append 24 = .ok (.ifCond .eq 13, 3) := by decide +kernel
theorem dX5_append_27 : decode cX5_append 27 = .ok (.aload_n 0, 1) := by decide +kernel
theorem dX5_append_28 : decode cX5_append 28 = .ok (.getfield 26, 3) := by decide +kernel
theorem dX5_append_31 : decode cX5_append 31 = .ok (.getfield 71, 3) := by decide +kernel
theorem dX5_append_34 : decode cX5_append 34 = .ok (.goto 5, 3) := by decide +kernel
theorem dX5_append_37 : decode cX5_append 37 = .ok (.bipush (-4), 2) := by decide +kernel
theorem dX5_append_39 : decode cX5_append 39 = .ok (.ireturn, 1) := by decide +kernel
theorem dX5_clearText_0 : decode cX5_clearText 0 = .ok (.aload_n 0, 1) := by decide +kernel
theorem dX5_clearText_1 : decode cX5_clearText 1 = .ok (.getfield 26, 3) := by decide +kernel
theorem dX5_clearText_4 : decode cX5_clearText 4 = .ok (.getfield 71, 3) := by decide +kernel
theorem dX5_clearText_7 : decode cX5_clearText 7 = .ok (.istore_n 1, 1) := by decide +kernel
theorem dX5_clearText_8 : decode cX5_clearText 8 = .ok (.aload_n 0, 1) := by decide +kernel
theorem dX5_clearText_9 : decode cX5_clearText 9 = .ok (.getfield 26, 3) := by decide +kernel
theorem dX5_clearText_12 : decode cX5_clearText 12 = .ok (.iconst 0, 1) := by decide +kernel
theorem dX5_clearText_13 : decode cX5_clearText 13 = .ok (.putfield 71, 3) := by decide +kernel
theorem dX5_clearText_16 : decode cX5_clearText 16 = .ok (.iload_n 1, 1) := by decide +kernel
theorem dX5_clearText_17 : decode cX5_clearText 17 = .ok (.ireturn, 1) := by decide +kernel
theorem dX5_fault_0 : decode cX5_fault 0 = .ok (.aload_n 0, 1) := by decide +kernel
theorem dX5_fault_1 : decode cX5_fault 1 = .ok (.getfield 26, 3) := by decide +kernel
theorem dX5_fault_4 : decode cX5_fault 4 = .ok (.invokevirtual 75, 3) := by decide +kernel
theorem dX5_fault_7 : decode cX5_fault 7 = .ok (.ireturn, 1) := by decide +kernel
theorem dX5_run_0 : decode cX5_run 0 = .ok (.aload_n 0, 1) := by decide +kernel
theorem dX5_run_1 : decode cX5_run 1 = .ok (.getfield 26, 3) := by decide +kernel
theorem dX5_run_4 : decode cX5_run 4 = .ok (.invokevirtual 75, 3) := by decide +kernel
theorem dX5_run_7 : decode cX5_run 7 = .ok (.bipush (-6), 2) := by decide +kernel
theorem dX5_run_9 : decode cX5_run 9 = .ok (.if_icmp .eq 6, 3) := by decide +kernel
theorem dX5_run_12 : decode cX5_run 12 = .ok (.bipush (-3), 2) := by decide +kernel
theorem dX5_run_14 : decode cX5_run 14 = .ok (.ireturn, 1) := by decide +kernel
theorem dX5_run_15 : decode cX5_run 15 = .ok (.aload_n 0, 1) := by decide +kernel
theorem dX5_run_16 : decode cX5_run 16 = .ok (.getfield 19, 3) := by decide +kernel
theorem dX5_run_19 : decode cX5_run 19 = .ok (.aload_n 0, 1) := by decide +kernel
theorem dX5_run_20 : decode cX5_run 20 = .ok (.getfield 12, 3) := by decide +kernel
theorem dX5_run_23 : decode cX5_run 23 = .ok (.invokevirtual 30, 3) := by decide +kernel
theorem dX5_run_26 : decode cX5_run 26 = .ok (.iconst 0, 1) := by decide +kernel
theorem dX5_run_27 : decode cX5_run 27 = .ok (.istore_n 1, 1) := by decide +kernel
theorem dX5_run_28 : decode cX5_run 28 = .ok (.aload_n 0, 1) := by decide +kernel
theorem dX5_run_29 : decode cX5_run 29 = .ok (.getfield 26, 3) := by decide +kernel
theorem dX5_run_32 : decode cX5_run 32 = .ok (.iconst 0, 1) := by decide +kernel
theorem dX5_run_33 : decode cX5_run 33 = .ok (.putfield 78, 3) := by decide +kernel
theorem dX5_run_36 : decode cX5_run 36 = .ok (.iconst 0, 1) := by decide +kernel
theorem dX5_run_37 : decode cX5_run 37 = .ok (.istore_n 2, 1) := by decide +kernel
theorem dX5_run_38 : decode cX5_run 38 = .ok (.iload_n 2, 1) := by decide +kernel
theorem dX5_run_39 : decode cX5_run 39 = .ok (.bipush 80, 2) := by decide +kernel
theorem dX5_run_41 : decode cX5_run 41 = .ok (.if_icmp .ge 48, 3) := by decide +kernel
theorem dX5_run_44 : decode cX5_run 44 = .ok (.aload_n 0, 1) := by decide +kernel
theorem dX5_run_45 : decode cX5_run 45 = .ok (.getfield 26, 3) := by decide +kernel
theorem dX5_run_48 : decode cX5_run 48 = .ok (.invokevirtual 81, 3) := by decide +kernel
theorem dX5_run_51 : decode cX5_run 51 = .ok (.ifCond .eq 38, 3) := by decide +kernel
theorem dX5_run_54 : decode cX5_run 54 = .ok (.aload_n 0, 1) := by decide +kernel
theorem dX5_run_55 : decode cX5_run 55 = .ok (.invokevirtual 85, 3) := by decide +kernel
theorem dX5_run_58 : decode cX5_run 58 = .ok (.invokestatic 88, 3) := by decide +kernel
theorem dX5_run_61 : decode cX5_run 61 = .ok (.ifCond .eq 9, 3) := by decide +kernel
theorem dX5_run_64 : decode cX5_run 64 = .ok (.aload_n 0, 1) := by decide +kernel
theorem dX5_run_65 : decode cX5_run 65 = .ok (.iload_n 1, 1) := by decide +kernel
theorem dX5_run_66 : decode cX5_run 66 = .ok (.invokevirtual 38, 3) := by decide +kernel
theorem dX5_run_69 : decode cX5_run 69 = .ok (.ireturn, 1) := by decide +kernel
theorem dX5_run_70 : decode cX5_run 70 = .ok (.iinc 1 1, 3) := by decide +kernel
theorem dX5_run_73 : decode cX5_run 73 = .ok (.aload_n 0, 1) := by decide +kernel
theorem dX5_run_74 : decode cX5_run 74 = .ok (.getfield 26, 3) := by decide +kernel
theorem dX5_run_77 : decode cX5_run 77 = .ok (.bipush 59, 2) := by decide +kernel
theorem dX5_run_79 : decode cX5_run 79 = .ok (.invokevirtual 92, 3) := by decide +kernel
theorem dX5_run_82 : decode cX5_run 82 = .ok (.pop, 1) := by decide +kernel
theorem dX5_run_83 : decode cX5_run 83 = .ok (.iinc 2 1, 3) := by decide +kernel
theorem dX5_run_86 : decode cX5_run 86 = .ok (.goto (-48), 3) := by decide +kernel
theorem dX5_run_89 : decode cX5_run 89 = .ok (.aload_n 0, 1) := by decide +kernel
theorem dX5_run_90 : decode cX5_run 90 = .ok (.iload_n 1, 1) := by decide +kernel
theorem dX5_run_91 : decode cX5_run 91 = .ok (.invokevirtual 38, 3) := by decide +kernel
theorem dX5_run_94 : decode cX5_run 94 = .ok (.ireturn, 1) := by decide +kernel
theorem dX5_undo_0 : decode cX5_undo 0 = .ok (.aload_n 0, 1) := by decide +kernel
theorem dX5_undo_1 : decode cX5_undo 1 = .ok (.getfield 19, 3) := by decide +kernel
theorem dX5_undo_4 : decode cX5_undo 4 = .ok (.aload_n 0, 1) := by decide +kernel
theorem dX5_undo_5 : decode cX5_undo 5 = .ok (.getfield 12, 3) := by decide +kernel
theorem dX5_undo_8 : decode cX5_undo 8 = .ok (.invokevirtual 95, 3) := by decide +kernel
theorem dX5_undo_11 : decode cX5_undo 11 = .ok (.ifCond .eq 13, 3) := by decide +kernel
theorem dX5_undo_14 : decode cX5_undo 14 = .ok (.aload_n 0, 1) := by decide +kernel
theorem dX5_undo_15 : decode cX5_undo 15 = .ok (.getfield 19, 3) := by decide +kernel
theorem dX5_undo_18 : decode cX5_undo 18 = .ok (.getfield 99, 3) := by decide +kernel
theorem dX5_undo_21 : decode cX5_undo 21 = .ok (.goto 5, 3) := by decide +kernel
theorem dX5_undo_24 : decode cX5_undo 24 = .ok (.bipush (-6), 2) := by decide +kernel
theorem dX5_undo_26 : decode cX5_undo 26 = .ok (.ireturn, 1) := by decide +kernel
theorem dX5_sessions_0 : decode cX5_sessions 0 = .ok (.aload_n 0, 1) := by decide +kernel
theorem dX5_sessions_1 : decode cX5_sessions 1 = .ok (.getfield 12, 3) := by decide +kernel
theorem dX5_sessions_4 : decode cX5_sessions 4 = .ok (.getfield 102, 3) := by decide +kernel
theorem dX5_sessions_7 : decode cX5_sessions 7 = .ok (.ireturn, 1) := by decide +kernel
theorem dX5_session_0 : decode cX5_session 0 = .ok (.aload_n 0, 1) := by decide +kernel
theorem dX5_session_1 : decode cX5_session 1 = .ok (.getfield 12, 3) := by decide +kernel
theorem dX5_session_4 : decode cX5_session 4 = .ok (.iload_n 1, 1) := by decide +kernel
theorem dX5_session_5 : decode cX5_session 5 = .ok (.invokevirtual 105, 3) := by decide +kernel
theorem dX5_session_8 : decode cX5_session 8 = .ok (.astore_n 3, 1) := by decide +kernel
theorem dX5_session_9 : decode cX5_session 9 = .ok (.aload_n 3, 1) := by decide +kernel
theorem dX5_session_10 : decode cX5_session 10 = .ok (.ifnonnull 5, 3) := by decide +kernel
theorem dX5_session_13 : decode cX5_session 13 = .ok (.iconst (-1), 1) := by decide +kernel
theorem dX5_session_14 : decode cX5_session 14 = .ok (.ireturn, 1) := by decide +kernel
theorem dX5_session_15 : decode cX5_session 15 = .ok (.iload_n 2, 1) := by decide +kernel
theorem dX5_session_16 : decode cX5_session 16 = .ok (.tableswitch 106 0 7 #[48, 53, 58, 68, 73, 78, 83, 101], 48) := by decide +kernel
theorem dX5_session_64 : decode cX5_session 64 = .ok (.aload_n 3, 1) := by decide +kernel
theorem dX5_session_65 : decode cX5_session 65 = .ok (.getfield 109, 3) := by decide +kernel
theorem dX5_session_68 : decode cX5_session 68 = .ok (.ireturn, 1) := by decide +kernel
theorem dX5_session_69 : decode cX5_session 69 = .ok (.aload_n 3, 1) := by decide +kernel
theorem dX5_session_70 : decode cX5_session 70 = .ok (.getfield 114, 3) := by decide +kernel
theorem dX5_session_73 : decode cX5_session 73 = .ok (.ireturn, 1) := by decide +kernel
theorem dX5_session_74 : decode cX5_session 74 = .ok (.aload_n 3, 1) := by decide +kernel
theorem dX5_session_75 : decode cX5_session 75 = .ok (.getfield 117, 3) := by decide +kernel
theorem dX5_session_78 : decode cX5_session 78 = .ok (.aload_n 3, 1) := by decide +kernel
theorem dX5_session_79 : decode cX5_session 79 = .ok (.getfield 114, 3) := by decide +kernel
theorem dX5_session_82 : decode cX5_session 82 = .ok (.isub, 1) := by decide +kernel
theorem dX5_session_83 : decode cX5_session 83 = .ok (.ireturn, 1) := by decide +kernel
theorem dX5_session_84 : decode cX5_session 84 = .ok (.aload_n 3, 1) := by decide +kernel
theorem dX5_session_85 : decode cX5_session 85 = .ok (.getfield 120, 3) := by decide +kernel
theorem dX5_session_88 : decode cX5_session 88 = .ok (.ireturn, 1) := by decide +kernel
theorem dX5_session_89 : decode cX5_session 89 = .ok (.aload_n 3, 1) := by decide +kernel
theorem dX5_session_90 : decode cX5_session 90 = .ok (.getfield 123, 3) := by decide +kernel
theorem dX5_session_93 : decode cX5_session 93 = .ok (.ireturn, 1) := by decide +kernel
theorem dX5_session_94 : decode cX5_session 94 = .ok (.aload_n 3, 1) := by decide +kernel
theorem dX5_session_95 : decode cX5_session 95 = .ok (.invokevirtual 126, 3) := by decide +kernel
theorem dX5_session_98 : decode cX5_session 98 = .ok (.ireturn, 1) := by decide +kernel
theorem dX5_session_99 : decode cX5_session 99 = .ok (.aload_n 0, 1) := by decide +kernel
theorem dX5_session_100 : decode cX5_session 100 = .ok (.getfield 12, 3) := by decide +kernel
theorem dX5_session_103 : decode cX5_session 103 = .ok (.aload_n 3, 1) := by decide +kernel
theorem dX5_session_104 : decode cX5_session 104 = .ok (.iconst (-1), 1) := by decide +kernel
theorem dX5_session_105 : decode cX5_session 105 = .ok (.invokevirtual 129, 3) := by decide +kernel
theorem dX5_session_108 : decode cX5_session 108 = .ok (.ifCond .eq 7, 3) := by decide +kernel
theorem dX5_session_111 : decode cX5_session 111 = .ok (.iconst 1, 1) := by decide +kernel
theorem dX5_session_112 : decode cX5_session 112 = .ok (.goto 4, 3) := by decide +kernel
theorem dX5_session_115 : decode cX5_session 115 = .ok (.iconst 0, 1) := by decide +kernel
theorem dX5_session_116 : decode cX5_session 116 = .ok (.ireturn, 1) := by decide +kernel
theorem dX5_session_117 : decode cX5_session 117 = .ok (.aload_n 3, 1) := by decide +kernel
theorem dX5_session_118 : decode cX5_session 118 = .ok (.getfield 133, 3) := by decide +kernel
theorem dX5_session_121 : decode cX5_session 121 = .ok (.ireturn, 1) := by decide +kernel
theorem dX5_session_122 : decode cX5_session 122 = .ok (.bipush (-2), 2) := by decide +kernel
theorem dX5_session_124 : decode cX5_session 124 = .ok (.ireturn, 1) := by decide +kernel
theorem dX5_entry_0 : decode cX5_entry 0 = .ok (.aload_n 0, 1) := by decide +kernel
theorem dX5_entry_1 : decode cX5_entry 1 = .ok (.getfield 12, 3) := by decide +kernel
theorem dX5_entry_4 : decode cX5_entry 4 = .ok (.iload_n 1, 1) := by decide +kernel
theorem dX5_entry_5 : decode cX5_entry 5 = .ok (.invokevirtual 105, 3) := by decide +kernel
theorem dX5_entry_8 : decode cX5_entry 8 = .ok (.astore 4, 2) := by decide +kernel
theorem dX5_entry_10 : decode cX5_entry 10 = .ok (.aload 4, 2) := by decide +kernel
theorem dX5_entry_12 : decode cX5_entry 12 = .ok (.ifnull 10, 3) := by decide +kernel
theorem dX5_entry_15 : decode cX5_entry 15 = .ok (.iload_n 2, 1) := by decide +kernel
theorem dX5_entry_16 : decode cX5_entry 16 = .ok (.invokestatic 136, 3) := by decide +kernel
theorem dX5_entry_19 : decode cX5_entry 19 = .ok (.ifCond .ne 5, 3) := by decide +kernel
theorem dX5_entry_22 : decode cX5_entry 22 = .ok (.iconst (-1), 1) := by decide +kernel
theorem dX5_entry_23 : decode cX5_entry 23 = .ok (.ireturn, 1) := by decide +kernel
theorem dX5_entry_24 : decode cX5_entry 24 = .ok (.iload_n 3, 1) := by decide +kernel
theorem dX5_entry_25 : decode cX5_entry 25 = .ok (.ifCond .lt 8, 3) := by decide +kernel
theorem dX5_entry_28 : decode cX5_entry 28 = .ok (.iload_n 3, 1) := by decide +kernel
theorem dX5_entry_29 : decode cX5_entry 29 = .ok (.iconst 2, 1) := by decide +kernel
theorem dX5_entry_30 : decode cX5_entry 30 = .ok (.if_icmp .le 6, 3) := by decide +kernel
theorem dX5_entry_33 : decode cX5_entry 33 = .ok (.bipush (-2), 2) := by decide +kernel
theorem dX5_entry_35 : decode cX5_entry 35 = .ok (.ireturn, 1) := by decide +kernel
theorem dX5_entry_36 : decode cX5_entry 36 = .ok (.aload 4, 2) := by decide +kernel
theorem dX5_entry_38 : decode cX5_entry 38 = .ok (.iload_n 2, 1) := by decide +kernel
theorem dX5_entry_39 : decode cX5_entry 39 = .ok (.invokevirtual 139, 3) := by decide +kernel
theorem dX5_entry_42 : decode cX5_entry 42 = .ok (.astore 5, 2) := by decide +kernel
theorem dX5_entry_44 : decode cX5_entry 44 = .ok (.aload 5, 2) := by decide +kernel
theorem dX5_entry_46 : decode cX5_entry 46 = .ok (.ifnonnull 6, 3) := by decide +kernel
theorem dX5_entry_49 : decode cX5_entry 49 = .ok (.bipush (-6), 2) := by decide +kernel
theorem dX5_entry_51 : decode cX5_entry 51 = .ok (.ireturn, 1) := by decide +kernel
theorem dX5_entry_52 : decode cX5_entry 52 = .ok (.iload_n 3, 1) := by decide +kernel
theorem dX5_entry_53 : decode cX5_entry 53 = .ok (.lookupswitch 39 #[(0, 27), (1, 33)], 27) := by decide +kernel
theorem dX5_entry_80 : decode cX5_entry 80 = .ok (.aload 5, 2) := by decide +kernel
theorem dX5_entry_82 : decode cX5_entry 82 = .ok (.getfield 143, 3) := by decide +kernel
theorem dX5_entry_85 : decode cX5_entry 85 = .ok (.ireturn, 1) := by decide +kernel
theorem dX5_entry_86 : decode cX5_entry 86 = .ok (.aload 5, 2) := by decide +kernel
theorem dX5_entry_88 : decode cX5_entry 88 = .ok (.getfield 146, 3) := by decide +kernel
theorem dX5_entry_91 : decode cX5_entry 91 = .ok (.ireturn, 1) := by decide +kernel
theorem dX5_entry_92 : decode cX5_entry 92 = .ok (.aload 5, 2) := by decide +kernel
theorem dX5_entry_94 : decode cX5_entry 94 = .ok (.getfield 149, 3) := by decide +kernel
theorem dX5_entry_97 : decode cX5_entry 97 = .ok (.ireturn, 1) := by decide +kernel
theorem dX5_valid_0 : decode cX5_valid 0 = .ok (.aload_n 0, 1) := by decide +kernel
theorem dX5_valid_1 : decode cX5_valid 1 = .ok (.getfield 12, 3) := by decide +kernel
theorem dX5_valid_4 : decode cX5_valid 4 = .ok (.iconst (-1), 1) := by decide +kernel
theorem dX5_valid_5 : decode cX5_valid 5 = .ok (.invokevirtual 152, 3) := by decide +kernel
theorem dX5_valid_8 : decode cX5_valid 8 = .ok (.ireturn, 1) := by decide +kernel
theorem dX5_next_0 : decode cX5_next 0 = .ok (.aload_n 0, 1) := by decide +kernel
theorem dX5_next_1 : decode cX5_next 1 = .ok (.getfield 12, 3) := by decide +kernel
theorem dX5_next_4 : decode cX5_next 4 = .ok (.getfield 155, 3) := by decide +kernel
theorem dX5_next_7 : decode cX5_next 7 = .ok (.ireturn, 1) := by decide +kernel
theorem dX5_damaged_0 : decode cX5_damaged 0 = .ok (.iload_n 1, 1) := by decide +kernel
theorem dX5_damaged_1 : decode cX5_damaged 1 = .ok (.invokestatic 158, 3) := by decide +kernel
theorem dX5_damaged_4 : decode cX5_damaged 4 = .ok (.ifCond .ne 5, 3) := by decide +kernel
theorem dX5_damaged_7 : decode cX5_damaged 7 = .ok (.iconst (-1), 1) := by decide +kernel
theorem dX5_damaged_8 : decode cX5_damaged 8 = .ok (.ireturn, 1) := by decide +kernel
theorem dX5_damaged_9 : decode cX5_damaged 9 = .ok (.aload_n 0, 1) := by decide +kernel
theorem dX5_damaged_10 : decode cX5_damaged 10 = .ok (.getfield 12, 3) := by decide +kernel
theorem dX5_damaged_13 : decode cX5_damaged 13 = .ok (.getfield 161, 3) := by decide +kernel
theorem dX5_damaged_16 : decode cX5_damaged 16 = .ok (.iload_n 1, 1) := by decide +kernel
theorem dX5_damaged_17 : decode cX5_damaged 17 = .ok (.baload, 1) := by decide +kernel
theorem dX5_damaged_18 : decode cX5_damaged 18 = .ok (.ifCond .eq 7, 3) := by decide +kernel
theorem dX5_damaged_21 : decode cX5_damaged 21 = .ok (.iconst 1, 1) := by decide +kernel
theorem dX5_damaged_22 : decode cX5_damaged 22 = .ok (.goto 4, 3) := by decide +kernel
theorem dX5_damaged_25 : decode cX5_damaged 25 = .ok (.iconst 0, 1) := by decide +kernel
theorem dX5_damaged_26 : decode cX5_damaged 26 = .ok (.ireturn, 1) := by decide +kernel
theorem dX5_use_0 : decode cX5_use 0 = .ok (.iload_n 1, 1) := by decide +kernel
theorem dX5_use_1 : decode cX5_use 1 = .ok (.invokestatic 158, 3) := by decide +kernel
theorem dX5_use_4 : decode cX5_use 4 = .ok (.ifCond .eq 14, 3) := by decide +kernel
theorem dX5_use_7 : decode cX5_use 7 = .ok (.aload_n 0, 1) := by decide +kernel
theorem dX5_use_8 : decode cX5_use 8 = .ok (.getfield 12, 3) := by decide +kernel
theorem dX5_use_11 : decode cX5_use 11 = .ok (.iload_n 1, 1) := by decide +kernel
theorem dX5_use_12 : decode cX5_use 12 = .ok (.invokevirtual 165, 3) := by decide +kernel
theorem dX5_use_15 : decode cX5_use 15 = .ok (.goto 4, 3) := by decide +kernel
theorem dX5_use_18 : decode cX5_use 18 = .ok (.iconst (-1), 1) := by decide +kernel
theorem dX5_use_19 : decode cX5_use 19 = .ok (.ireturn, 1) := by decide +kernel
theorem dX5_setting_0 : decode cX5_setting 0 = .ok (.iload_n 1, 1) := by decide +kernel
theorem dX5_setting_1 : decode cX5_setting 1 = .ok (.invokestatic 168, 3) := by decide +kernel
theorem dX5_setting_4 : decode cX5_setting 4 = .ok (.ifCond .eq 15, 3) := by decide +kernel
theorem dX5_setting_7 : decode cX5_setting 7 = .ok (.aload_n 0, 1) := by decide +kernel
theorem dX5_setting_8 : decode cX5_setting 8 = .ok (.getfield 12, 3) := by decide +kernel
theorem dX5_setting_11 : decode cX5_setting 11 = .ok (.getfield 171, 3) := by decide +kernel
theorem dX5_setting_14 : decode cX5_setting 14 = .ok (.iload_n 1, 1) := by decide +kernel
theorem dX5_setting_15 : decode cX5_setting 15 = .ok (.iaload, 1) := by decide +kernel
theorem dX5_setting_16 : decode cX5_setting 16 = .ok (.goto 4, 3) := by decide +kernel
theorem dX5_setting_19 : decode cX5_setting 19 = .ok (.iconst (-1), 1) := by decide +kernel
theorem dX5_setting_20 : decode cX5_setting 20 = .ok (.ireturn, 1) := by decide +kernel
theorem dX5_find_0 : decode cX5_find 0 = .ok (.iload_n 1, 1) := by decide +kernel
theorem dX5_find_1 : decode cX5_find 1 = .ok (.invokestatic 136, 3) := by decide +kernel
theorem dX5_find_4 : decode cX5_find 4 = .ok (.ifCond .ne 5, 3) := by decide +kernel
theorem dX5_find_7 : decode cX5_find 7 = .ok (.iconst (-1), 1) := by decide +kernel
theorem dX5_find_8 : decode cX5_find 8 = .ok (.ireturn, 1) := by decide +kernel
theorem dX5_find_9 : decode cX5_find 9 = .ok (.aload_n 0, 1) := by decide +kernel
theorem dX5_find_10 : decode cX5_find 10 = .ok (.getfield 12, 3) := by decide +kernel
theorem dX5_find_13 : decode cX5_find 13 = .ok (.iload_n 1, 1) := by decide +kernel
theorem dX5_find_14 : decode cX5_find 14 = .ok (.invokevirtual 175, 3) := by decide +kernel
theorem dX5_find_17 : decode cX5_find 17 = .ok (.astore_n 2, 1) := by decide +kernel
theorem dX5_find_18 : decode cX5_find 18 = .ok (.aload_n 2, 1) := by decide +kernel
theorem dX5_find_19 : decode cX5_find 19 = .ok (.ifnonnull 8, 3) := by decide +kernel
theorem dX5_find_22 : decode cX5_find 22 = .ok (.bipush (-6), 2) := by decide +kernel
theorem dX5_find_24 : decode cX5_find 24 = .ok (.goto 7, 3) := by decide +kernel
theorem dX5_find_27 : decode cX5_find 27 = .ok (.aload_n 2, 1) := by decide +kernel
theorem dX5_find_28 : decode cX5_find 28 = .ok (.getfield 143, 3) := by decide +kernel
theorem dX5_find_31 : decode cX5_find 31 = .ok (.ireturn, 1) := by decide +kernel
theorem dX5_intact_0 : decode cX5_intact 0 = .ok (.iload_n 1, 1) := by decide +kernel
theorem dX5_intact_1 : decode cX5_intact 1 = .ok (.invokestatic 136, 3) := by decide +kernel
theorem dX5_intact_4 : decode cX5_intact 4 = .ok (.ifCond .ne 5, 3) := by decide +kernel
theorem dX5_intact_7 : decode cX5_intact 7 = .ok (.iconst (-1), 1) := by decide +kernel
theorem dX5_intact_8 : decode cX5_intact 8 = .ok (.ireturn, 1) := by decide +kernel
theorem dX5_intact_9 : decode cX5_intact 9 = .ok (.aload_n 0, 1) := by decide +kernel
theorem dX5_intact_10 : decode cX5_intact 10 = .ok (.getfield 12, 3) := by decide +kernel
theorem dX5_intact_13 : decode cX5_intact 13 = .ok (.iload_n 1, 1) := by decide +kernel
theorem dX5_intact_14 : decode cX5_intact 14 = .ok (.invokevirtual 175, 3) := by decide +kernel
theorem dX5_intact_17 : decode cX5_intact 17 = .ok (.astore_n 2, 1) := by decide +kernel
theorem dX5_intact_18 : decode cX5_intact 18 = .ok (.aload_n 2, 1) := by decide +kernel
theorem dX5_intact_19 : decode cX5_intact 19 = .ok (.ifnonnull 6, 3) := by decide +kernel
theorem dX5_intact_22 : decode cX5_intact 22 = .ok (.bipush (-6), 2) := by decide +kernel
theorem dX5_intact_24 : decode cX5_intact 24 = .ok (.ireturn, 1) := by decide +kernel
theorem dX5_intact_25 : decode cX5_intact 25 = .ok (.aload_n 0, 1) := by decide +kernel
theorem dX5_intact_26 : decode cX5_intact 26 = .ok (.getfield 12, 3) := by decide +kernel
theorem dX5_intact_29 : decode cX5_intact 29 = .ok (.aload_n 2, 1) := by decide +kernel
theorem dX5_intact_30 : decode cX5_intact 30 = .ok (.iconst (-1), 1) := by decide +kernel
theorem dX5_intact_31 : decode cX5_intact 31 = .ok (.invokevirtual 178, 3) := by decide +kernel
theorem dX5_intact_34 : decode cX5_intact 34 = .ok (.ifCond .eq 7, 3) := by decide +kernel
theorem dX5_intact_37 : decode cX5_intact 37 = .ok (.iconst 1, 1) := by decide +kernel
theorem dX5_intact_38 : decode cX5_intact 38 = .ok (.goto 4, 3) := by decide +kernel
theorem dX5_intact_41 : decode cX5_intact 41 = .ok (.iconst 0, 1) := by decide +kernel
theorem dX5_intact_42 : decode cX5_intact 42 = .ok (.ireturn, 1) := by decide +kernel
theorem dX5_intactFiles_0 : decode cX5_intactFiles 0 = .ok (.aload_n 0, 1) := by decide +kernel
theorem dX5_intactFiles_1 : decode cX5_intactFiles 1 = .ok (.getfield 12, 3) := by decide +kernel
theorem dX5_intactFiles_4 : decode cX5_intactFiles 4 = .ok (.iconst (-1), 1) := by decide +kernel
theorem dX5_intactFiles_5 : decode cX5_intactFiles 5 = .ok (.invokevirtual 182, 3) := by decide +kernel
theorem dX5_intactFiles_8 : decode cX5_intactFiles 8 = .ok (.ireturn, 1) := by decide +kernel
theorem dX5_versions_0 : decode cX5_versions 0 = .ok (.iload_n 1, 1) := by decide +kernel
theorem dX5_versions_1 : decode cX5_versions 1 = .ok (.invokestatic 136, 3) := by decide +kernel
theorem dX5_versions_4 : decode cX5_versions 4 = .ok (.ifCond .eq 15, 3) := by decide +kernel
theorem dX5_versions_7 : decode cX5_versions 7 = .ok (.aload_n 0, 1) := by decide +kernel
theorem dX5_versions_8 : decode cX5_versions 8 = .ok (.getfield 12, 3) := by decide +kernel
theorem dX5_versions_11 : decode cX5_versions 11 = .ok (.getfield 185, 3) := by decide +kernel
theorem dX5_versions_14 : decode cX5_versions 14 = .ok (.iload_n 1, 1) := by decide +kernel
theorem dX5_versions_15 : decode cX5_versions 15 = .ok (.iaload, 1) := by decide +kernel
theorem dX5_versions_16 : decode cX5_versions 16 = .ok (.goto 4, 3) := by decide +kernel
theorem dX5_versions_19 : decode cX5_versions 19 = .ok (.iconst (-1), 1) := by decide +kernel
theorem dX5_versions_20 : decode cX5_versions 20 = .ok (.ireturn, 1) := by decide +kernel
theorem dX5_latestIntact_0 : decode cX5_latestIntact 0 = .ok (.iload_n 1, 1) := by decide +kernel
theorem dX5_latestIntact_1 : decode cX5_latestIntact 1 = .ok (.invokestatic 136, 3) := by decide +kernel
theorem dX5_latestIntact_4 : decode cX5_latestIntact 4 = .ok (.ifCond .eq 14, 3) := by decide +kernel
theorem dX5_latestIntact_7 : decode cX5_latestIntact 7 = .ok (.aload_n 0, 1) := by decide +kernel
theorem dX5_latestIntact_8 : decode cX5_latestIntact 8 = .ok (.getfield 12, 3) := by decide +kernel
theorem dX5_latestIntact_11 : decode cX5_latestIntact 11 = .ok (.iload_n 1, 1) := by decide +kernel
theorem dX5_latestIntact_12 : decode cX5_latestIntact 12 = .ok (.invokevirtual 188, 3) := by decide +kernel
theorem dX5_latestIntact_15 : decode cX5_latestIntact 15 = .ok (.goto 4, 3) := by decide +kernel
theorem dX5_latestIntact_18 : decode cX5_latestIntact 18 = .ok (.iconst (-1), 1) := by decide +kernel
theorem dX5_latestIntact_19 : decode cX5_latestIntact 19 = .ok (.ireturn, 1) := by decide +kernel
theorem dX5_lost_0 : decode cX5_lost 0 = .ok (.aload_n 0, 1) := by decide +kernel
theorem dX5_lost_1 : decode cX5_lost 1 = .ok (.getfield 12, 3) := by decide +kernel
theorem dX5_lost_4 : decode cX5_lost 4 = .ok (.getfield 155, 3) := by decide +kernel
theorem dX5_lost_7 : decode cX5_lost 7 = .ok (.aload_n 0, 1) := by decide +kernel
theorem dX5_lost_8 : decode cX5_lost 8 = .ok (.getfield 12, 3) := by decide +kernel
theorem dX5_lost_11 : decode cX5_lost 11 = .ok (.invokevirtual 191, 3) := by decide +kernel
theorem dX5_lost_14 : decode cX5_lost 14 = .ok (.isub, 1) := by decide +kernel
theorem dX5_lost_15 : decode cX5_lost 15 = .ok (.ireturn, 1) := by decide +kernel
theorem dX5_usedWell_0 : decode cX5_usedWell 0 = .ok (.aload_n 0, 1) := by decide +kernel
theorem dX5_usedWell_1 : decode cX5_usedWell 1 = .ok (.getfield 12, 3) := by decide +kernel
theorem dX5_usedWell_4 : decode cX5_usedWell 4 = .ok (.getfield 155, 3) := by decide +kernel
theorem dX5_usedWell_7 : decode cX5_usedWell 7 = .ok (.ifCond .ne 5, 3) := by decide +kernel
theorem dX5_usedWell_10 : decode cX5_usedWell 10 = .ok (.fconst 1, 1) := by decide +kernel
theorem dX5_usedWell_11 : decode cX5_usedWell 11 = .ok (.freturn, 1) := by decide +kernel
theorem dX5_usedWell_12 : decode cX5_usedWell 12 = .ok (.aload_n 0, 1) := by decide +kernel
theorem dX5_usedWell_13 : decode cX5_usedWell 13 = .ok (.getfield 12, 3) := by decide +kernel
theorem dX5_usedWell_16 : decode cX5_usedWell 16 = .ok (.invokevirtual 191, 3) := by decide +kernel
theorem dX5_usedWell_19 : decode cX5_usedWell 19 = .ok (.i2f, 1) := by decide +kernel
theorem dX5_usedWell_20 : decode cX5_usedWell 20 = .ok (.aload_n 0, 1) := by decide +kernel
theorem dX5_usedWell_21 : decode cX5_usedWell 21 = .ok (.getfield 12, 3) := by decide +kernel
theorem dX5_usedWell_24 : decode cX5_usedWell 24 = .ok (.getfield 155, 3) := by decide +kernel
theorem dX5_usedWell_27 : decode cX5_usedWell 27 = .ok (.i2f, 1) := by decide +kernel
theorem dX5_usedWell_28 : decode cX5_usedWell 28 = .ok (.fdiv, 1) := by decide +kernel
theorem dX5_usedWell_29 : decode cX5_usedWell 29 = .ok (.freturn, 1) := by decide +kernel
theorem dX5_largest_0 : decode cX5_largest 0 = .ok (.aload_n 0, 1) := by decide +kernel
theorem dX5_largest_1 : decode cX5_largest 1 = .ok (.getfield 12, 3) := by decide +kernel
theorem dX5_largest_4 : decode cX5_largest 4 = .ok (.invokevirtual 194, 3) := by decide +kernel
theorem dX5_largest_7 : decode cX5_largest 7 = .ok (.bipush 40, 2) := by decide +kernel
theorem dX5_largest_9 : decode cX5_largest 9 = .ok (.invokestatic 197, 3) := by decide +kernel
theorem dX5_largest_12 : decode cX5_largest 12 = .ok (.ireturn, 1) := by decide +kernel
theorem dX5_filesLeft_0 : decode cX5_filesLeft 0 = .ok (.iload_n 1, 1) := by decide +kernel
theorem dX5_filesLeft_1 : decode cX5_filesLeft 1 = .ok (.invokestatic 202, 3) := by decide +kernel
theorem dX5_filesLeft_4 : decode cX5_filesLeft 4 = .ok (.ifCond .eq 15, 3) := by decide +kernel
theorem dX5_filesLeft_7 : decode cX5_filesLeft 7 = .ok (.aload_n 0, 1) := by decide +kernel
theorem dX5_filesLeft_8 : decode cX5_filesLeft 8 = .ok (.getfield 12, 3) := by decide +kernel
theorem dX5_filesLeft_11 : decode cX5_filesLeft 11 = .ok (.invokevirtual 194, 3) := by decide +kernel
theorem dX5_filesLeft_14 : decode cX5_filesLeft 14 = .ok (.iload_n 1, 1) := by decide +kernel
theorem dX5_filesLeft_15 : decode cX5_filesLeft 15 = .ok (.idiv, 1) := by decide +kernel
theorem dX5_filesLeft_16 : decode cX5_filesLeft 16 = .ok (.goto 5, 3) := by decide +kernel
theorem dX5_filesLeft_19 : decode cX5_filesLeft 19 = .ok (.bipush (-2), 2) := by decide +kernel
theorem dX5_filesLeft_21 : decode cX5_filesLeft 21 = .ok (.ireturn, 1) := by decide +kernel
theorem dX5_filesEach_0 : decode cX5_filesEach 0 = .ok (.iload_n 1, 1) := by decide +kernel
theorem dX5_filesEach_1 : decode cX5_filesEach 1 = .ok (.invokestatic 202, 3) := by decide +kernel
theorem dX5_filesEach_4 : decode cX5_filesEach 4 = .ok (.ifCond .eq 14, 3) := by decide +kernel
theorem dX5_filesEach_7 : decode cX5_filesEach 7 = .ok (.aload_n 0, 1) := by decide +kernel
theorem dX5_filesEach_8 : decode cX5_filesEach 8 = .ok (.getfield 12, 3) := by decide +kernel
theorem dX5_filesEach_11 : decode cX5_filesEach 11 = .ok (.iload_n 1, 1) := by decide +kernel
theorem dX5_filesEach_12 : decode cX5_filesEach 12 = .ok (.invokevirtual 205, 3) := by decide +kernel
theorem dX5_filesEach_15 : decode cX5_filesEach 15 = .ok (.goto 5, 3) := by decide +kernel
theorem dX5_filesEach_18 : decode cX5_filesEach 18 = .ok (.bipush (-2), 2) := by decide +kernel
theorem dX5_filesEach_20 : decode cX5_filesEach 20 = .ok (.ireturn, 1) := by decide +kernel
theorem dX5_validIf_0 : decode cX5_validIf 0 = .ok (.iload_n 1, 1) := by decide +kernel
theorem dX5_validIf_1 : decode cX5_validIf 1 = .ok (.invokestatic 158, 3) := by decide +kernel
theorem dX5_validIf_4 : decode cX5_validIf 4 = .ok (.ifCond .eq 14, 3) := by decide +kernel
theorem dX5_validIf_7 : decode cX5_validIf 7 = .ok (.aload_n 0, 1) := by decide +kernel
theorem dX5_validIf_8 : decode cX5_validIf 8 = .ok (.getfield 12, 3) := by decide +kernel
theorem dX5_validIf_11 : decode cX5_validIf 11 = .ok (.iload_n 1, 1) := by decide +kernel
theorem dX5_validIf_12 : decode cX5_validIf 12 = .ok (.invokevirtual 152, 3) := by decide +kernel
theorem dX5_validIf_15 : decode cX5_validIf 15 = .ok (.goto 4, 3) := by decide +kernel
theorem dX5_validIf_18 : decode cX5_validIf 18 = .ok (.iconst (-1), 1) := by decide +kernel
theorem dX5_validIf_19 : decode cX5_validIf 19 = .ok (.ireturn, 1) := by decide +kernel
theorem dX5_worstSector_0 : decode cX5_worstSector 0 = .ok (.aload_n 0, 1) := by decide +kernel
theorem dX5_worstSector_1 : decode cX5_worstSector 1 = .ok (.getfield 12, 3) := by decide +kernel
theorem dX5_worstSector_4 : decode cX5_worstSector 4 = .ok (.invokevirtual 208, 3) := by decide +kernel
theorem dX5_worstSector_7 : decode cX5_worstSector 7 = .ok (.ireturn, 1) := by decide +kernel
theorem dX5_recorded_0 : decode cX5_recorded 0 = .ok (.iload_n 1, 1) := by decide +kernel
theorem dX5_recorded_1 : decode cX5_recorded 1 = .ok (.invokestatic 88, 3) := by decide +kernel
theorem dX5_recorded_4 : decode cX5_recorded 4 = .ok (.ifCond .ne 10, 3) := by decide +kernel
theorem dX5_recorded_7 : decode cX5_recorded 7 = .ok (.aload_n 0, 1) := by decide +kernel
theorem dX5_recorded_8 : decode cX5_recorded 8 = .ok (.getfield 19, 3) := by decide +kernel
theorem dX5_recorded_11 : decode cX5_recorded 11 = .ok (.invokevirtual 211, 3) := by decide +kernel
theorem dX5_recorded_14 : decode cX5_recorded 14 = .ok (.iload_n 1, 1) := by decide +kernel
theorem dX5_recorded_15 : decode cX5_recorded 15 = .ok (.ireturn, 1) := by decide +kernel
theorem dX5_executeCommand_0 : decode cX5_executeCommand 0 = .ok (.aload_n 0, 1) := by decide +kernel
theorem dX5_executeCommand_1 : decode cX5_executeCommand 1 = .ok (.getfield 26, 3) := by decide +kernel
theorem dX5_executeCommand_4 : decode cX5_executeCommand 4 = .ok (.getfield 214, 3) := by decide +kernel
theorem dX5_executeCommand_7 : decode cX5_executeCommand 7 = .ok (.tableswitch 206 98 119 #[101, 175, 191, 183, 206, 206, 206, 206, 206, 153, 206, 206, 206, 206, 206, 206, 138, 206, 206, 206, 206, 116], 101) := by decide +kernel
theorem dX5_executeCommand_108 : decode cX5_executeCommand 108 = .ok (.aload_n 0, 1) := by decide +kernel
theorem dX5_executeCommand_109 : decode cX5_executeCommand 109 = .ok (.getfield 12, 3) := by decide +kernel
theorem dX5_executeCommand_112 : decode cX5_executeCommand 112 = .ok (.aload_n 0, 1) := by decide +kernel
theorem dX5_executeCommand_113 : decode cX5_executeCommand 113 = .ok (.getfield 26, 3) := by decide +kernel
theorem dX5_executeCommand_116 : decode cX5_executeCommand 116 = .ok (.getfield 217, 3) := by decide +kernel
theorem dX5_executeCommand_119 : decode cX5_executeCommand 119 = .ok (.invokevirtual 34, 3) := by decide +kernel
theorem dX5_executeCommand_122 : decode cX5_executeCommand 122 = .ok (.ireturn, 1) := by decide +kernel
theorem dX5_executeCommand_123 : decode cX5_executeCommand 123 = .ok (.aload_n 0, 1) := by decide +kernel
theorem dX5_executeCommand_124 : decode cX5_executeCommand 124 = .ok (.getfield 12, 3) := by decide +kernel
theorem dX5_executeCommand_127 : decode cX5_executeCommand 127 = .ok (.aload_n 0, 1) := by decide +kernel
theorem dX5_executeCommand_128 : decode cX5_executeCommand 128 = .ok (.getfield 26, 3) := by decide +kernel
theorem dX5_executeCommand_131 : decode cX5_executeCommand 131 = .ok (.getfield 217, 3) := by decide +kernel
theorem dX5_executeCommand_134 : decode cX5_executeCommand 134 = .ok (.aload_n 0, 1) := by decide +kernel
theorem dX5_executeCommand_135 : decode cX5_executeCommand 135 = .ok (.getfield 26, 3) := by decide +kernel
theorem dX5_executeCommand_138 : decode cX5_executeCommand 138 = .ok (.getfield 220, 3) := by decide +kernel
theorem dX5_executeCommand_141 : decode cX5_executeCommand 141 = .ok (.invokevirtual 41, 3) := by decide +kernel
theorem dX5_executeCommand_144 : decode cX5_executeCommand 144 = .ok (.ireturn, 1) := by decide +kernel
theorem dX5_executeCommand_145 : decode cX5_executeCommand 145 = .ok (.aload_n 0, 1) := by decide +kernel
theorem dX5_executeCommand_146 : decode cX5_executeCommand 146 = .ok (.getfield 12, 3) := by decide +kernel
theorem dX5_executeCommand_149 : decode cX5_executeCommand 149 = .ok (.aload_n 0, 1) := by decide +kernel
theorem dX5_executeCommand_150 : decode cX5_executeCommand 150 = .ok (.getfield 26, 3) := by decide +kernel
theorem dX5_executeCommand_153 : decode cX5_executeCommand 153 = .ok (.getfield 217, 3) := by decide +kernel
theorem dX5_executeCommand_156 : decode cX5_executeCommand 156 = .ok (.invokevirtual 45, 3) := by decide +kernel
theorem dX5_executeCommand_159 : decode cX5_executeCommand 159 = .ok (.ireturn, 1) := by decide +kernel
theorem dX5_executeCommand_160 : decode cX5_executeCommand 160 = .ok (.aload_n 0, 1) := by decide +kernel
theorem dX5_executeCommand_161 : decode cX5_executeCommand 161 = .ok (.getfield 12, 3) := by decide +kernel
theorem dX5_executeCommand_164 : decode cX5_executeCommand 164 = .ok (.aload_n 0, 1) := by decide +kernel
theorem dX5_executeCommand_165 : decode cX5_executeCommand 165 = .ok (.getfield 26, 3) := by decide +kernel
theorem dX5_executeCommand_168 : decode cX5_executeCommand 168 = .ok (.getfield 217, 3) := by decide +kernel
theorem dX5_executeCommand_171 : decode cX5_executeCommand 171 = .ok (.aload_n 0, 1) := by decide +kernel
theorem dX5_executeCommand_172 : decode cX5_executeCommand 172 = .ok (.getfield 26, 3) := by decide +kernel
theorem dX5_executeCommand_175 : decode cX5_executeCommand 175 = .ok (.getfield 220, 3) := by decide +kernel
theorem dX5_executeCommand_178 : decode cX5_executeCommand 178 = .ok (.invokevirtual 48, 3) := by decide +kernel
theorem dX5_executeCommand_181 : decode cX5_executeCommand 181 = .ok (.ireturn, 1) := by decide +kernel
theorem dX5_executeCommand_182 : decode cX5_executeCommand 182 = .ok (.aload_n 0, 1) := by decide +kernel
theorem dX5_executeCommand_183 : decode cX5_executeCommand 183 = .ok (.getfield 12, 3) := by decide +kernel
theorem dX5_executeCommand_186 : decode cX5_executeCommand 186 = .ok (.invokevirtual 51, 3) := by decide +kernel
theorem dX5_executeCommand_189 : decode cX5_executeCommand 189 = .ok (.ireturn, 1) := by decide +kernel
theorem dX5_executeCommand_190 : decode cX5_executeCommand 190 = .ok (.aload_n 0, 1) := by decide +kernel
theorem dX5_executeCommand_191 : decode cX5_executeCommand 191 = .ok (.getfield 12, 3) := by decide +kernel
theorem dX5_executeCommand_194 : decode cX5_executeCommand 194 = .ok (.invokevirtual 55, 3) := by decide +kernel
theorem dX5_executeCommand_197 : decode cX5_executeCommand 197 = .ok (.ireturn, 1) := by decide +kernel
theorem dX5_executeCommand_198 : decode cX5_executeCommand 198 = .ok (.aload_n 0, 1) := by decide +kernel
theorem dX5_executeCommand_199 : decode cX5_executeCommand 199 = .ok (.getfield 12, 3) := by decide +kernel
theorem dX5_executeCommand_202 : decode cX5_executeCommand 202 = .ok (.aload_n 0, 1) := by decide +kernel
theorem dX5_executeCommand_203 : decode cX5_executeCommand 203 = .ok (.getfield 26, 3) := by decide +kernel
theorem dX5_executeCommand_206 : decode cX5_executeCommand 206 = .ok (.getfield 217, 3) := by decide +kernel
theorem dX5_executeCommand_209 : decode cX5_executeCommand 209 = .ok (.invokevirtual 61, 3) := by decide +kernel
theorem dX5_executeCommand_212 : decode cX5_executeCommand 212 = .ok (.ireturn, 1) := by decide +kernel
theorem dX5_executeCommand_213 : decode cX5_executeCommand 213 = .ok (.bipush (-2), 2) := by decide +kernel
theorem dX5_executeCommand_215 : decode cX5_executeCommand 215 = .ok (.ireturn, 1) := by decide +kernel
theorem dX5_isError_0 : decode cX5_isError 0 = .ok (.iload_n 0, 1) := by decide +kernel
theorem dX5_isError_1 : decode cX5_isError 1 = .ok (.bipush (-5), 2) := by decide +kernel
theorem dX5_isError_3 : decode cX5_isError 3 = .ok (.if_icmp .lt 12, 3) := by decide +kernel
theorem dX5_isError_6 : decode cX5_isError 6 = .ok (.iload_n 0, 1) := by decide +kernel
theorem dX5_isError_7 : decode cX5_isError 7 = .ok (.iconst (-1), 1) := by decide +kernel
theorem dX5_isError_8 : decode cX5_isError 8 = .ok (.if_icmp .gt 7, 3) := by decide +kernel
theorem dX5_isError_11 : decode cX5_isError 11 = .ok (.iconst 1, 1) := by decide +kernel
theorem dX5_isError_12 : decode cX5_isError 12 = .ok (.goto 4, 3) := by decide +kernel
theorem dX5_isError_15 : decode cX5_isError 15 = .ok (.iconst 0, 1) := by decide +kernel
theorem dX5_isError_16 : decode cX5_isError 16 = .ok (.ireturn, 1) := by decide +kernel
theorem dX5_isName_0 : decode cX5_isName 0 = .ok (.iload_n 0, 1) := by decide +kernel
theorem dX5_isName_1 : decode cX5_isName 1 = .ok (.ifCond .lt 13, 3) := by decide +kernel
theorem dX5_isName_4 : decode cX5_isName 4 = .ok (.iload_n 0, 1) := by decide +kernel
theorem dX5_isName_5 : decode cX5_isName 5 = .ok (.bipush 20, 2) := by decide +kernel
theorem dX5_isName_7 : decode cX5_isName 7 = .ok (.if_icmp .ge 7, 3) := by decide +kernel
theorem dX5_isName_10 : decode cX5_isName 10 = .ok (.iconst 1, 1) := by decide +kernel
theorem dX5_isName_11 : decode cX5_isName 11 = .ok (.goto 4, 3) := by decide +kernel
theorem dX5_isName_14 : decode cX5_isName 14 = .ok (.iconst 0, 1) := by decide +kernel
theorem dX5_isName_15 : decode cX5_isName 15 = .ok (.ireturn, 1) := by decide +kernel
theorem dX5_isSector_0 : decode cX5_isSector 0 = .ok (.iload_n 0, 1) := by decide +kernel
theorem dX5_isSector_1 : decode cX5_isSector 1 = .ok (.ifCond .lt 14, 3) := by decide +kernel
theorem dX5_isSector_4 : decode cX5_isSector 4 = .ok (.iload_n 0, 1) := by decide +kernel
theorem dX5_isSector_5 : decode cX5_isSector 5 = .ok (.sipush 240, 3) := by decide +kernel
theorem dX5_isSector_8 : decode cX5_isSector 8 = .ok (.if_icmp .ge 7, 3) := by decide +kernel
theorem dX5_isSector_11 : decode cX5_isSector 11 = .ok (.iconst 1, 1) := by decide +kernel
theorem dX5_isSector_12 : decode cX5_isSector 12 = .ok (.goto 4, 3) := by decide +kernel
theorem dX5_isSector_15 : decode cX5_isSector 15 = .ok (.iconst 0, 1) := by decide +kernel
theorem dX5_isSector_16 : decode cX5_isSector 16 = .ok (.ireturn, 1) := by decide +kernel
theorem dX5_isFileSize_0 : decode cX5_isFileSize 0 = .ok (.iload_n 0, 1) := by decide +kernel
theorem dX5_isFileSize_1 : decode cX5_isFileSize 1 = .ok (.iconst 1, 1) := by decide +kernel
theorem dX5_isFileSize_2 : decode cX5_isFileSize 2 = .ok (.if_icmp .lt 13, 3) := by decide +kernel
theorem dX5_isFileSize_5 : decode cX5_isFileSize 5 = .ok (.iload_n 0, 1) := by decide +kernel
theorem dX5_isFileSize_6 : decode cX5_isFileSize 6 = .ok (.bipush 40, 2) := by decide +kernel
theorem dX5_isFileSize_8 : decode cX5_isFileSize 8 = .ok (.if_icmp .gt 7, 3) := by decide +kernel
theorem dX5_isFileSize_11 : decode cX5_isFileSize 11 = .ok (.iconst 1, 1) := by decide +kernel
theorem dX5_isFileSize_12 : decode cX5_isFileSize 12 = .ok (.goto 4, 3) := by decide +kernel
theorem dX5_isFileSize_15 : decode cX5_isFileSize 15 = .ok (.iconst 0, 1) := by decide +kernel
theorem dX5_isFileSize_16 : decode cX5_isFileSize 16 = .ok (.ireturn, 1) := by decide +kernel
theorem dX5_isSetting_0 : decode cX5_isSetting 0 = .ok (.iload_n 0, 1) := by decide +kernel
theorem dX5_isSetting_1 : decode cX5_isSetting 1 = .ok (.ifCond .eq 8, 3) := by decide +kernel
theorem dX5_isSetting_4 : decode cX5_isSetting 4 = .ok (.iload_n 0, 1) := by decide +kernel
theorem dX5_isSetting_5 : decode cX5_isSetting 5 = .ok (.iconst 1, 1) := by decide +kernel
theorem dX5_isSetting_6 : decode cX5_isSetting 6 = .ok (.if_icmp .ne 7, 3) := by decide +kernel
theorem dX5_isSetting_9 : decode cX5_isSetting 9 = .ok (.iconst 1, 1) := by decide +kernel
theorem dX5_isSetting_10 : decode cX5_isSetting 10 = .ok (.goto 4, 3) := by decide +kernel
theorem dX5_isSetting_13 : decode cX5_isSetting 13 = .ok (.iconst 0, 1) := by decide +kernel
theorem dX5_isSetting_14 : decode cX5_isSetting 14 = .ok (.ireturn, 1) := by decide +kernel
theorem dX6_init_0 : decode cX6_init 0 = .ok (.aload_n 0, 1) := by decide +kernel
theorem dX6_init_1 : decode cX6_init 1 = .ok (.invokespecial 1, 3) := by decide +kernel
theorem dX6_init_4 : decode cX6_init 4 = .ok (.aload_n 0, 1) := by decide +kernel
theorem dX6_init_5 : decode cX6_init 5 = .ok (.sipush 344, 3) := by decide +kernel
theorem dX6_init_8 : decode cX6_init 8 = .ok (.newarray .int, 2) := by decide +kernel
theorem dX6_init_10 : decode cX6_init 10 = .ok (.putfield 7, 3) := by decide +kernel
theorem dX6_init_13 : decode cX6_init 13 = .ok (.aload_n 0, 1) := by decide +kernel
theorem dX6_init_14 : decode cX6_init 14 = .ok (.sipush 344, 3) := by decide +kernel
theorem dX6_init_17 : decode cX6_init 17 = .ok (.newarray .int, 2) := by decide +kernel
theorem dX6_init_19 : decode cX6_init 19 = .ok (.putfield 13, 3) := by decide +kernel
theorem dX6_init_22 : decode cX6_init 22 = .ok (.aload_n 0, 1) := by decide +kernel
theorem dX6_init_23 : decode cX6_init 23 = .ok (.sipush 1376, 3) := by decide +kernel
theorem dX6_init_26 : decode cX6_init 26 = .ok (.newarray .int, 2) := by decide +kernel
theorem dX6_init_28 : decode cX6_init 28 = .ok (.putfield 16, 3) := by decide +kernel
theorem dX6_init_31 : decode cX6_init 31 = .ok (.aload_n 0, 1) := by decide +kernel
theorem dX6_init_32 : decode cX6_init 32 = .ok (.bipush 80, 2) := by decide +kernel
theorem dX6_init_34 : decode cX6_init 34 = .ok (.newarray .int, 2) := by decide +kernel
theorem dX6_init_36 : decode cX6_init 36 = .ok (.putfield 19, 3) := by decide +kernel
theorem dX6_init_39 : decode cX6_init 39 = .ok (.aload_n 0, 1) := by decide +kernel
theorem dX6_init_40 : decode cX6_init 40 = .ok (.getfield 7, 3) := by decide +kernel
theorem dX6_init_43 : decode cX6_init 43 = .ok (.iconst 2, 1) := by decide +kernel
theorem dX6_init_44 : decode cX6_init 44 = .ok (.iconst 4, 1) := by decide +kernel
theorem dX6_init_45 : decode cX6_init 45 = .ok (.iastore, 1) := by decide +kernel
theorem dX6_init_46 : decode cX6_init 46 = .ok (.aload_n 0, 1) := by decide +kernel
theorem dX6_init_47 : decode cX6_init 47 = .ok (.getfield 7, 3) := by decide +kernel
theorem dX6_init_50 : decode cX6_init 50 = .ok (.iconst 3, 1) := by decide +kernel
theorem dX6_init_51 : decode cX6_init 51 = .ok (.iconst 3, 1) := by decide +kernel
theorem dX6_init_52 : decode cX6_init 52 = .ok (.iastore, 1) := by decide +kernel
theorem dX6_init_53 : decode cX6_init 53 = .ok (.return_, 1) := by decide +kernel
theorem dX6_in_0 : decode cX6_in 0 = .ok (.iload_n 0, 1) := by decide +kernel
theorem dX6_in_1 : decode cX6_in 1 = .ok (.iload_n 1, 1) := by decide +kernel
theorem dX6_in_2 : decode cX6_in 2 = .ok (.if_icmp .lt 12, 3) := by decide +kernel
theorem dX6_in_5 : decode cX6_in 5 = .ok (.iload_n 0, 1) := by decide +kernel
theorem dX6_in_6 : decode cX6_in 6 = .ok (.iload_n 2, 1) := by decide +kernel
theorem dX6_in_7 : decode cX6_in 7 = .ok (.if_icmp .gt 7, 3) := by decide +kernel
theorem dX6_in_10 : decode cX6_in 10 = .ok (.iconst 1, 1) := by decide +kernel
theorem dX6_in_11 : decode cX6_in 11 = .ok (.goto 4, 3) := by decide +kernel
theorem dX6_in_14 : decode cX6_in 14 = .ok (.iconst 0, 1) := by decide +kernel
theorem dX6_in_15 : decode cX6_in 15 = .ok (.ireturn, 1) := by decide +kernel
theorem dX6_copies_0 : decode cX6_copies 0 = .ok (.iconst 0, 1) := by decide +kernel
theorem dX6_copies_1 : decode cX6_copies 1 = .ok (.istore 4, 2) := by decide +kernel
theorem dX6_copies_3 : decode cX6_copies 3 = .ok (.iload 4, 2) := by decide +kernel
theorem dX6_copies_5 : decode cX6_copies 5 = .ok (.sipush 344, 3) := by decide +kernel
theorem dX6_copies_8 : decode cX6_copies 8 = .ok (.if_icmp .ge 21, 3) := by decide +kernel
theorem dX6_copies_11 : decode cX6_copies 11 = .ok (.aload_n 2, 1) := by decide +kernel
theorem dX6_copies_12 : decode cX6_copies 12 = .ok (.iload_n 3, 1) := by decide +kernel
theorem dX6_copies_13 : decode cX6_copies 13 = .ok (.iload 4, 2) := by decide +kernel
theorem dX6_copies_15 : decode cX6_copies 15 = .ok (.iadd, 1) := by decide +kernel
theorem dX6_copies_16 : decode cX6_copies 16 = .ok (.aload_n 0, 1) := by decide +kernel
theorem dX6_copies_17 : decode cX6_copies 17 = .ok (.iload_n 1, 1) := by decide +kernel
theorem dX6_copies_18 : decode cX6_copies 18 = .ok (.iload 4, 2) := by decide +kernel
theorem dX6_copies_20 : decode cX6_copies 20 = .ok (.iadd, 1) := by decide +kernel
theorem dX6_copies_21 : decode cX6_copies 21 = .ok (.iaload, 1) := by decide +kernel
theorem dX6_copies_22 : decode cX6_copies 22 = .ok (.iastore, 1) := by decide +kernel
theorem dX6_copies_23 : decode cX6_copies 23 = .ok (.iinc 4 1, 3) := by decide +kernel
theorem dX6_copies_26 : decode cX6_copies 26 = .ok (.goto (-23), 3) := by decide +kernel
theorem dX6_copies_29 : decode cX6_copies 29 = .ok (.return_, 1) := by decide +kernel
theorem dX6_begins_0 : decode cX6_begins 0 = .ok (.aload_n 0, 1) := by decide +kernel
theorem dX6_begins_1 : decode cX6_begins 1 = .ok (.getfield 7, 3) := by decide +kernel
theorem dX6_begins_4 : decode cX6_begins 4 = .ok (.iconst 0, 1) := by decide +kernel
theorem dX6_begins_5 : decode cX6_begins 5 = .ok (.aload_n 0, 1) := by decide +kernel
theorem dX6_begins_6 : decode cX6_begins 6 = .ok (.getfield 13, 3) := by decide +kernel
theorem dX6_begins_9 : decode cX6_begins 9 = .ok (.iconst 0, 1) := by decide +kernel
theorem dX6_begins_10 : decode cX6_begins 10 = .ok (.invokestatic 22, 3) := by decide +kernel
theorem dX6_begins_13 : decode cX6_begins 13 = .ok (.return_, 1) := by decide +kernel
theorem dX6_records_0 : decode cX6_records 0 = .ok (.iload_n 1, 1) := by decide +kernel
theorem dX6_records_1 : decode cX6_records 1 = .ok (.ifCond .ge 5, 3) := by decide +kernel
theorem dX6_records_4 : decode cX6_records 4 = .ok (.iload_n 1, 1) := by decide +kernel
theorem dX6_records_5 : decode cX6_records 5 = .ok (.ireturn, 1) := by decide +kernel
theorem dX6_records_6 : decode cX6_records 6 = .ok (.aload_n 0, 1) := by decide +kernel
theorem dX6_records_7 : decode cX6_records 7 = .ok (.getfield 26, 3) := by decide +kernel
theorem dX6_records_10 : decode cX6_records 10 = .ok (.iconst 4, 1) := by decide +kernel
theorem dX6_records_11 : decode cX6_records 11 = .ok (.if_icmp .ne 44, 3) := by decide +kernel
theorem dX6_records_14 : decode cX6_records 14 = .ok (.iconst 0, 1) := by decide +kernel
theorem dX6_records_15 : decode cX6_records 15 = .ok (.istore_n 2, 1) := by decide +kernel
theorem dX6_records_16 : decode cX6_records 16 = .ok (.iload_n 2, 1) := by decide +kernel
theorem dX6_records_17 : decode cX6_records 17 = .ok (.sipush 1032, 3) := by decide +kernel
theorem dX6_records_20 : decode cX6_records 20 = .ok (.if_icmp .ge 25, 3) := by decide +kernel
theorem dX6_records_23 : decode cX6_records 23 = .ok (.aload_n 0, 1) := by decide +kernel
theorem dX6_records_24 : decode cX6_records 24 = .ok (.getfield 16, 3) := by decide +kernel
theorem dX6_records_27 : decode cX6_records 27 = .ok (.iload_n 2, 1) := by decide +kernel
theorem dX6_records_28 : decode cX6_records 28 = .ok (.aload_n 0, 1) := by decide +kernel
theorem dX6_records_29 : decode cX6_records 29 = .ok (.getfield 16, 3) := by decide +kernel
theorem dX6_records_32 : decode cX6_records 32 = .ok (.iload_n 2, 1) := by decide +kernel
theorem dX6_records_33 : decode cX6_records 33 = .ok (.sipush 344, 3) := by decide +kernel
theorem dX6_records_36 : decode cX6_records 36 = .ok (.iadd, 1) := by decide +kernel
theorem dX6_records_37 : decode cX6_records 37 = .ok (.iaload, 1) := by decide +kernel
theorem dX6_records_38 : decode cX6_records 38 = .ok (.iastore, 1) := by decide +kernel
theorem dX6_records_39 : decode cX6_records 39 = .ok (.iinc 2 1, 3) := by decide +kernel
theorem dX6_records_42 : decode cX6_records 42 = .ok (.goto (-26), 3) := by decide +kernel
theorem dX6_records_45 : decode cX6_records 45 = .ok (.aload_n 0, 1) := by decide +kernel
theorem dX6_records_46 : decode cX6_records 46 = .ok (.dup, 1) := by decide +kernel
theorem dX6_records_47 : decode cX6_records 47 = .ok (.getfield 26, 3) := by decide +kernel
theorem dX6_records_50 : decode cX6_records 50 = .ok (.iconst 1, 1) := by decide +kernel
theorem dX6_records_51 : decode cX6_records 51 = .ok (.isub, 1) := by decide +kernel
theorem dX6_records_52 : decode cX6_records 52 = .ok (.putfield 26, 3) := by decide +kernel
theorem dX6_records_55 : decode cX6_records 55 = .ok (.aload_n 0, 1) := by decide +kernel
theorem dX6_records_56 : decode cX6_records 56 = .ok (.getfield 13, 3) := by decide +kernel
theorem dX6_records_59 : decode cX6_records 59 = .ok (.iconst 0, 1) := by decide +kernel
theorem dX6_records_60 : decode cX6_records 60 = .ok (.aload_n 0, 1) := by decide +kernel
theorem dX6_records_61 : decode cX6_records 61 = .ok (.getfield 16, 3) := by decide +kernel
theorem dX6_records_64 : decode cX6_records 64 = .ok (.sipush 344, 3) := by decide +kernel
theorem dX6_records_67 : decode cX6_records 67 = .ok (.aload_n 0, 1) := by decide +kernel
theorem dX6_records_68 : decode cX6_records 68 = .ok (.getfield 26, 3) := by decide +kernel
theorem dX6_records_71 : decode cX6_records 71 = .ok (.imul, 1) := by decide +kernel
theorem dX6_records_72 : decode cX6_records 72 = .ok (.invokestatic 22, 3) := by decide +kernel
theorem dX6_records_75 : decode cX6_records 75 = .ok (.aload_n 0, 1) := by decide +kernel
theorem dX6_records_76 : decode cX6_records 76 = .ok (.dup, 1) := by decide +kernel
theorem dX6_records_77 : decode cX6_records 77 = .ok (.getfield 26, 3) := by decide +kernel
theorem dX6_records_80 : decode cX6_records 80 = .ok (.iconst 1, 1) := by decide +kernel
theorem dX6_records_81 : decode cX6_records 81 = .ok (.iadd, 1) := by decide +kernel
theorem dX6_records_82 : decode cX6_records 82 = .ok (.putfield 26, 3) := by decide +kernel
theorem dX6_records_85 : decode cX6_records 85 = .ok (.iload_n 1, 1) := by decide +kernel
theorem dX6_records_86 : decode cX6_records 86 = .ok (.ireturn, 1) := by decide +kernel
theorem dX6_isName_0 : decode cX6_isName 0 = .ok (.iload_n 0, 1) := by decide +kernel
theorem dX6_isName_1 : decode cX6_isName 1 = .ok (.iconst 0, 1) := by decide +kernel
theorem dX6_isName_2 : decode cX6_isName 2 = .ok (.bipush 19, 2) := by decide +kernel
theorem dX6_isName_4 : decode cX6_isName 4 = .ok (.invokestatic 30, 3) := by decide +kernel
theorem dX6_isName_7 : decode cX6_isName 7 = .ok (.ireturn, 1) := by decide +kernel
theorem dX6_isSector_0 : decode cX6_isSector 0 = .ok (.iload_n 0, 1) := by decide +kernel
theorem dX6_isSector_1 : decode cX6_isSector 1 = .ok (.iconst 0, 1) := by decide +kernel
theorem dX6_isSector_2 : decode cX6_isSector 2 = .ok (.sipush 239, 3) := by decide +kernel
theorem dX6_isSector_5 : decode cX6_isSector 5 = .ok (.invokestatic 30, 3) := by decide +kernel
theorem dX6_isSector_8 : decode cX6_isSector 8 = .ok (.ireturn, 1) := by decide +kernel
theorem dX6_isSession_0 : decode cX6_isSession 0 = .ok (.iload_n 1, 1) := by decide +kernel
theorem dX6_isSession_1 : decode cX6_isSession 1 = .ok (.iconst 0, 1) := by decide +kernel
theorem dX6_isSession_2 : decode cX6_isSession 2 = .ok (.aload_n 0, 1) := by decide +kernel
theorem dX6_isSession_3 : decode cX6_isSession 3 = .ok (.getfield 7, 3) := by decide +kernel
theorem dX6_isSession_6 : decode cX6_isSession 6 = .ok (.iconst 1, 1) := by decide +kernel
theorem dX6_isSession_7 : decode cX6_isSession 7 = .ok (.iaload, 1) := by decide +kernel
theorem dX6_isSession_8 : decode cX6_isSession 8 = .ok (.iconst 1, 1) := by decide +kernel
theorem dX6_isSession_9 : decode cX6_isSession 9 = .ok (.isub, 1) := by decide +kernel
theorem dX6_isSession_10 : decode cX6_isSession 10 = .ok (.invokestatic 30, 3) := by decide +kernel
theorem dX6_isSession_13 : decode cX6_isSession 13 = .ok (.ireturn, 1) := by decide +kernel
theorem dX6_of_0 : decode cX6_of 0 = .ok (.aload_n 0, 1) := by decide +kernel
theorem dX6_of_1 : decode cX6_of 1 = .ok (.getfield 7, 3) := by decide +kernel
theorem dX6_of_4 : decode cX6_of 4 = .ok (.bipush 32, 2) := by decide +kernel
theorem dX6_of_6 : decode cX6_of 6 = .ok (.bipush 6, 2) := by decide +kernel
theorem dX6_of_8 : decode cX6_of 8 = .ok (.iload_n 1, 1) := by decide +kernel
theorem dX6_of_9 : decode cX6_of 9 = .ok (.imul, 1) := by decide +kernel
theorem dX6_of_10 : decode cX6_of 10 = .ok (.iadd, 1) := by decide +kernel
theorem dX6_of_11 : decode cX6_of 11 = .ok (.iload_n 2, 1) := by decide +kernel
theorem dX6_of_12 : decode cX6_of 12 = .ok (.iadd, 1) := by decide +kernel
theorem dX6_of_13 : decode cX6_of 13 = .ok (.iaload, 1) := by decide +kernel
theorem dX6_of_14 : decode cX6_of 14 = .ok (.ireturn, 1) := by decide +kernel
theorem dX6_lays_0 : decode cX6_lays 0 = .ok (.aload_n 0, 1) := by decide +kernel
theorem dX6_lays_1 : decode cX6_lays 1 = .ok (.getfield 7, 3) := by decide +kernel
theorem dX6_lays_4 : decode cX6_lays 4 = .ok (.bipush 32, 2) := by decide +kernel
theorem dX6_lays_6 : decode cX6_lays 6 = .ok (.bipush 6, 2) := by decide +kernel
theorem dX6_lays_8 : decode cX6_lays 8 = .ok (.iload_n 1, 1) := by decide +kernel
theorem dX6_lays_9 : decode cX6_lays 9 = .ok (.imul, 1) := by decide +kernel
theorem dX6_lays_10 : decode cX6_lays 10 = .ok (.iadd, 1) := by decide +kernel
theorem dX6_lays_11 : decode cX6_lays 11 = .ok (.iload_n 2, 1) := by decide +kernel
theorem dX6_lays_12 : decode cX6_lays 12 = .ok (.iadd, 1) := by decide +kernel
theorem dX6_lays_13 : decode cX6_lays 13 = .ok (.iload_n 3, 1) := by decide +kernel
theorem dX6_lays_14 : decode cX6_lays 14 = .ok (.iastore, 1) := by decide +kernel
theorem dX6_lays_15 : decode cX6_lays 15 = .ok (.return_, 1) := by decide +kernel
theorem dX6_openOne_0 : decode cX6_openOne 0 = .ok (.aload_n 0, 1) := by decide +kernel
theorem dX6_openOne_1 : decode cX6_openOne 1 = .ok (.getfield 7, 3) := by decide +kernel
theorem dX6_openOne_4 : decode cX6_openOne 4 = .ok (.iconst 1, 1) := by decide +kernel
theorem dX6_openOne_5 : decode cX6_openOne 5 = .ok (.iaload, 1) := by decide +kernel
theorem dX6_openOne_6 : decode cX6_openOne 6 = .ok (.iconst 1, 1) := by decide +kernel
theorem dX6_openOne_7 : decode cX6_openOne 7 = .ok (.isub, 1) := by decide +kernel
theorem dX6_openOne_8 : decode cX6_openOne 8 = .ok (.istore_n 1, 1) := by decide +kernel
theorem dX6_openOne_9 : decode cX6_openOne 9 = .ok (.iload_n 1, 1) := by decide +kernel
theorem dX6_openOne_10 : decode cX6_openOne 10 = .ok (.ifCond .lt 16, 3) := by decide +kernel
theorem dX6_openOne_13 : decode cX6_openOne 13 = .ok (.aload_n 0, 1) := by decide +kernel
theorem dX6_openOne_14 : decode cX6_openOne 14 = .ok (.iload_n 1, 1) := by decide +kernel
theorem dX6_openOne_15 : decode cX6_openOne 15 = .ok (.iconst 0, 1) := by decide +kernel
theorem dX6_openOne_16 : decode cX6_openOne 16 = .ok (.invokevirtual 34, 3) := by decide +kernel
theorem dX6_openOne_19 : decode cX6_openOne 19 = .ok (.ifCond .ne 7, 3) := by decide +kernel
theorem dX6_openOne_22 : decode cX6_openOne 22 = .ok (.iload_n 1, 1) := by decide +kernel
theorem dX6_openOne_23 : decode cX6_openOne 23 = .ok (.goto 5, 3) := by decide +kernel
theorem dX6_openOne_26 : decode cX6_openOne 26 = .ok (.bipush (-6), 2) := by decide +kernel
theorem dX6_openOne_28 : decode cX6_openOne 28 = .ok (.ireturn, 1) := by decide +kernel
theorem dX6_entryOf_0 : decode cX6_entryOf 0 = .ok (.aload_n 0, 1) := by decide +kernel
theorem dX6_entryOf_1 : decode cX6_entryOf 1 = .ok (.getfield 7, 3) := by decide +kernel
theorem dX6_entryOf_4 : decode cX6_entryOf 4 = .ok (.bipush 104, 2) := by decide +kernel
theorem dX6_entryOf_6 : decode cX6_entryOf 6 = .ok (.bipush 20, 2) := by decide +kernel
theorem dX6_entryOf_8 : decode cX6_entryOf 8 = .ok (.iload_n 1, 1) := by decide +kernel
theorem dX6_entryOf_9 : decode cX6_entryOf 9 = .ok (.imul, 1) := by decide +kernel
theorem dX6_entryOf_10 : decode cX6_entryOf 10 = .ok (.iadd, 1) := by decide +kernel
theorem dX6_entryOf_11 : decode cX6_entryOf 11 = .ok (.iload_n 2, 1) := by decide +kernel
theorem dX6_entryOf_12 : decode cX6_entryOf 12 = .ok (.iadd, 1) := by decide +kernel
theorem dX6_entryOf_13 : decode cX6_entryOf 13 = .ok (.iaload, 1) := by decide +kernel
theorem dX6_entryOf_14 : decode cX6_entryOf 14 = .ok (.ireturn, 1) := by decide +kernel
theorem dX6_firstOf_0 : decode cX6_firstOf 0 = .ok (.iload_n 0, 1) := by decide +kernel
theorem dX6_firstOf_1 : decode cX6_firstOf 1 = .ok (.bipush 64, 2) := by decide +kernel
theorem dX6_firstOf_3 : decode cX6_firstOf 3 = .ok (.idiv, 1) := by decide +kernel
theorem dX6_firstOf_4 : decode cX6_firstOf 4 = .ok (.iconst 1, 1) := by decide +kernel
theorem dX6_firstOf_5 : decode cX6_firstOf 5 = .ok (.isub, 1) := by decide +kernel
theorem dX6_firstOf_6 : decode cX6_firstOf 6 = .ok (.ireturn, 1) := by decide +kernel
theorem dX6_sizeOf_0 : decode cX6_sizeOf 0 = .ok (.iload_n 0, 1) := by decide +kernel
theorem dX6_sizeOf_1 : decode cX6_sizeOf 1 = .ok (.bipush 64, 2) := by decide +kernel
theorem dX6_sizeOf_3 : decode cX6_sizeOf 3 = .ok (.irem, 1) := by decide +kernel
theorem dX6_sizeOf_4 : decode cX6_sizeOf 4 = .ok (.ireturn, 1) := by decide +kernel
theorem dX6_entries_0 : decode cX6_entries 0 = .ok (.iconst 0, 1) := by decide +kernel
theorem dX6_entries_1 : decode cX6_entries 1 = .ok (.istore_n 2, 1) := by decide +kernel
theorem dX6_entries_2 : decode cX6_entries 2 = .ok (.iconst 0, 1) := by decide +kernel
theorem dX6_entries_3 : decode cX6_entries 3 = .ok (.istore_n 3, 1) := by decide +kernel
theorem dX6_entries_4 : decode cX6_entries 4 = .ok (.iload_n 3, 1) := by decide +kernel
theorem dX6_entries_5 : decode cX6_entries 5 = .ok (.bipush 20, 2) := by decide +kernel
theorem dX6_entries_7 : decode cX6_entries 7 = .ok (.if_icmp .ge 26, 3) := by decide +kernel
theorem dX6_entries_10 : decode cX6_entries 10 = .ok (.iload_n 2, 1) := by decide +kernel
theorem dX6_entries_11 : decode cX6_entries 11 = .ok (.aload_n 0, 1) := by decide +kernel
theorem dX6_entries_12 : decode cX6_entries 12 = .ok (.iload_n 1, 1) := by decide +kernel
theorem dX6_entries_13 : decode cX6_entries 13 = .ok (.iload_n 3, 1) := by decide +kernel
theorem dX6_entries_14 : decode cX6_entries 14 = .ok (.invokevirtual 38, 3) := by decide +kernel
theorem dX6_entries_17 : decode cX6_entries 17 = .ok (.ifCond .le 7, 3) := by decide +kernel
theorem dX6_entries_20 : decode cX6_entries 20 = .ok (.iconst 1, 1) := by decide +kernel
theorem dX6_entries_21 : decode cX6_entries 21 = .ok (.goto 4, 3) := by decide +kernel
theorem dX6_entries_24 : decode cX6_entries 24 = .ok (.iconst 0, 1) := by decide +kernel
theorem dX6_entries_25 : decode cX6_entries 25 = .ok (.iadd, 1) := by decide +kernel
theorem dX6_entries_26 : decode cX6_entries 26 = .ok (.istore_n 2, 1) := by decide +kernel
theorem dX6_entries_27 : decode cX6_entries 27 = .ok (.iinc 3 1, 3) := by decide +kernel
theorem dX6_entries_30 : decode cX6_entries 30 = .ok (.goto (-26), 3) := by decide +kernel
theorem dX6_entries_33 : decode cX6_entries 33 = .ok (.iload_n 2, 1) := by decide +kernel
theorem dX6_entries_34 : decode cX6_entries 34 = .ok (.ireturn, 1) := by decide +kernel
theorem dX6_isHurt_0 : decode cX6_isHurt 0 = .ok (.aload_n 0, 1) := by decide +kernel
theorem dX6_isHurt_1 : decode cX6_isHurt 1 = .ok (.getfield 7, 3) := by decide +kernel
theorem dX6_isHurt_4 : decode cX6_isHurt 4 = .ok (.iconst 4, 1) := by decide +kernel
theorem dX6_isHurt_5 : decode cX6_isHurt 5 = .ok (.iload_n 1, 1) := by decide +kernel
theorem dX6_isHurt_6 : decode cX6_isHurt 6 = .ok (.bipush 30, 2) := by decide +kernel
theorem dX6_isHurt_8 : decode cX6_isHurt 8 = .ok (.idiv, 1) := by decide +kernel
theorem dX6_isHurt_9 : decode cX6_isHurt 9 = .ok (.iadd, 1) := by decide +kernel
theorem dX6_isHurt_10 : decode cX6_isHurt 10 = .ok (.iaload, 1) := by decide +kernel
theorem dX6_isHurt_11 : decode cX6_isHurt 11 = .ok (.iload_n 1, 1) := by decide +kernel
theorem dX6_isHurt_12 : decode cX6_isHurt 12 = .ok (.bipush 30, 2) := by decide +kernel
theorem dX6_isHurt_14 : decode cX6_isHurt 14 = .ok (.irem, 1) := by decide +kernel
theorem dX6_isHurt_15 : decode cX6_isHurt 15 = .ok (.ishr, 1) := by decide +kernel
theorem dX6_isHurt_16 : decode cX6_isHurt 16 = .ok (.iconst 1, 1) := by decide +kernel
theorem dX6_isHurt_17 : decode cX6_isHurt 17 = .ok (.iand, 1) := by decide +kernel
theorem dX6_isHurt_18 : decode cX6_isHurt 18 = .ok (.iconst 1, 1) := by decide +kernel
theorem dX6_isHurt_19 : decode cX6_isHurt 19 = .ok (.if_icmp .ne 7, 3) := by decide +kernel
theorem dX6_isHurt_22 : decode cX6_isHurt 22 = .ok (.iconst 1, 1) := by decide +kernel
theorem dX6_isHurt_23 : decode cX6_isHurt 23 = .ok (.goto 4, 3) := by decide +kernel
theorem dX6_isHurt_26 : decode cX6_isHurt 26 = .ok (.iconst 0, 1) := by decide +kernel
theorem dX6_isHurt_27 : decode cX6_isHurt 27 = .ok (.ireturn, 1) := by decide +kernel
theorem dX6_isWhole_0 : decode cX6_isWhole 0 = .ok (.iconst 1, 1) := by decide +kernel
theorem dX6_isWhole_1 : decode cX6_isWhole 1 = .ok (.istore_n 3, 1) := by decide +kernel
theorem dX6_isWhole_2 : decode cX6_isWhole 2 = .ok (.iload_n 1, 1) := by decide +kernel
theorem dX6_isWhole_3 : decode cX6_isWhole 3 = .ok (.istore 4, 2) := by decide +kernel
theorem dX6_isWhole_5 : decode cX6_isWhole 5 = .ok (.iload 4, 2) := by decide +kernel
theorem dX6_isWhole_7 : decode cX6_isWhole 7 = .ok (.iload_n 1, 1) := by decide +kernel
theorem dX6_isWhole_8 : decode cX6_isWhole 8 = .ok (.iload_n 2, 1) := by decide +kernel
theorem dX6_isWhole_9 : decode cX6_isWhole 9 = .ok (.iadd, 1) := by decide +kernel
theorem dX6_isWhole_10 : decode cX6_isWhole 10 = .ok (.if_icmp .ge 28, 3) := by decide +kernel
theorem dX6_isWhole_13 : decode cX6_isWhole 13 = .ok (.iload_n 3, 1) := by decide +kernel
theorem dX6_isWhole_14 : decode cX6_isWhole 14 = .ok (.ifCond .eq 16, 3) := by decide +kernel
theorem dX6_isWhole_17 : decode cX6_isWhole 17 = .ok (.aload_n 0, 1) := by decide +kernel
theorem dX6_isWhole_18 : decode cX6_isWhole 18 = .ok (.iload 4, 2) := by decide +kernel
theorem dX6_isWhole_20 : decode cX6_isWhole 20 = .ok (.invokevirtual 41, 3) := by decide +kernel
theorem dX6_isWhole_23 : decode cX6_isWhole 23 = .ok (.ifCond .ne 7, 3) := by decide +kernel
theorem dX6_isWhole_26 : decode cX6_isWhole 26 = .ok (.iconst 1, 1) := by decide +kernel
theorem dX6_isWhole_27 : decode cX6_isWhole 27 = .ok (.goto 4, 3) := by decide +kernel
theorem dX6_isWhole_30 : decode cX6_isWhole 30 = .ok (.iconst 0, 1) := by decide +kernel
theorem dX6_isWhole_31 : decode cX6_isWhole 31 = .ok (.istore_n 3, 1) := by decide +kernel
theorem dX6_isWhole_32 : decode cX6_isWhole 32 = .ok (.iinc 4 1, 3) := by decide +kernel
theorem dX6_isWhole_35 : decode cX6_isWhole 35 = .ok (.goto (-30), 3) := by decide +kernel
theorem dX6_isWhole_38 : decode cX6_isWhole 38 = .ok (.iload_n 3, 1) := by decide +kernel
theorem dX6_isWhole_39 : decode cX6_isWhole 39 = .ok (.ireturn, 1) := by decide +kernel
theorem dX6_isReadable_0 : decode cX6_isReadable 0 = .ok (.aload_n 0, 1) := by decide +kernel
theorem dX6_isReadable_1 : decode cX6_isReadable 1 = .ok (.iload_n 1, 1) := by decide +kernel
theorem dX6_isReadable_2 : decode cX6_isReadable 2 = .ok (.iconst 0, 1) := by decide +kernel
theorem dX6_isReadable_3 : decode cX6_isReadable 3 = .ok (.invokevirtual 34, 3) := by decide +kernel
theorem dX6_isReadable_6 : decode cX6_isReadable 6 = .ok (.iconst 1, 1) := by decide +kernel
theorem dX6_isReadable_7 : decode cX6_isReadable 7 = .ok (.if_icmp .ne 26, 3) := by decide +kernel
theorem dX6_isReadable_10 : decode cX6_isReadable 10 = .ok (.aload_n 0, 1) := by decide +kernel
theorem dX6_isReadable_11 : decode cX6_isReadable 11 = .ok (.aload_n 0, 1) := by decide +kernel
theorem dX6_isReadable_12 : decode cX6_isReadable 12 = .ok (.iload_n 1, 1) := by decide +kernel
theorem dX6_isReadable_13 : decode cX6_isReadable 13 = .ok (.iconst 1, 1) := by decide +kernel
theorem dX6_isReadable_14 : decode cX6_isReadable 14 = .ok (.invokevirtual 34, 3) := by decide +kernel
theorem dX6_isReadable_17 : decode cX6_isReadable 17 = .ok (.aload_n 0, 1) := by decide +kernel
theorem dX6_isReadable_18 : decode cX6_isReadable 18 = .ok (.iload_n 1, 1) := by decide +kernel
theorem dX6_isReadable_19 : decode cX6_isReadable 19 = .ok (.iconst 3, 1) := by decide +kernel
theorem dX6_isReadable_20 : decode cX6_isReadable 20 = .ok (.invokevirtual 34, 3) := by decide +kernel
theorem dX6_isReadable_23 : decode cX6_isReadable 23 = .ok (.invokevirtual 45, 3) := by decide +kernel
theorem dX6_isReadable_26 : decode cX6_isReadable 26 = .ok (.ifCond .eq 7, 3) := by decide +kernel
theorem dX6_isReadable_29 : decode cX6_isReadable 29 = .ok (.iconst 1, 1) := by decide +kernel
theorem dX6_isReadable_30 : decode cX6_isReadable 30 = .ok (.goto 4, 3) := by decide +kernel
theorem dX6_isReadable_33 : decode cX6_isReadable 33 = .ok (.iconst 0, 1) := by decide +kernel
theorem dX6_isReadable_34 : decode cX6_isReadable 34 = .ok (.ireturn, 1) := by decide +kernel
theorem dX6_validOne_0 : decode cX6_validOne 0 = .ok (.aload_n 0, 1) := by decide +kernel
theorem dX6_validOne_1 : decode cX6_validOne 1 = .ok (.getfield 7, 3) := by decide +kernel
theorem dX6_validOne_4 : decode cX6_validOne 4 = .ok (.iconst 1, 1) := by decide +kernel
theorem dX6_validOne_5 : decode cX6_validOne 5 = .ok (.iaload, 1) := by decide +kernel
theorem dX6_validOne_6 : decode cX6_validOne 6 = .ok (.iconst 1, 1) := by decide +kernel
theorem dX6_validOne_7 : decode cX6_validOne 7 = .ok (.isub, 1) := by decide +kernel
theorem dX6_validOne_8 : decode cX6_validOne 8 = .ok (.istore_n 1, 1) := by decide +kernel
theorem dX6_validOne_9 : decode cX6_validOne 9 = .ok (.iload_n 1, 1) := by decide +kernel
theorem dX6_validOne_10 : decode cX6_validOne 10 = .ok (.ifCond .lt 17, 3) := by decide +kernel
theorem dX6_validOne_13 : decode cX6_validOne 13 = .ok (.aload_n 0, 1) := by decide +kernel
theorem dX6_validOne_14 : decode cX6_validOne 14 = .ok (.iload_n 1, 1) := by decide +kernel
theorem dX6_validOne_15 : decode cX6_validOne 15 = .ok (.invokevirtual 49, 3) := by decide +kernel
theorem dX6_validOne_18 : decode cX6_validOne 18 = .ok (.ifCond .ne 9, 3) := by decide +kernel
theorem dX6_validOne_21 : decode cX6_validOne 21 = .ok (.iinc 1 (-1), 3) := by decide +kernel
theorem dX6_validOne_24 : decode cX6_validOne 24 = .ok (.goto (-15), 3) := by decide +kernel
theorem dX6_validOne_27 : decode cX6_validOne 27 = .ok (.iload_n 1, 1) := by decide +kernel
theorem dX6_validOne_28 : decode cX6_validOne 28 = .ok (.ifCond .ge 8, 3) := by decide +kernel
theorem dX6_validOne_31 : decode cX6_validOne 31 = .ok (.bipush (-6), 2) := by decide +kernel
theorem dX6_validOne_33 : decode cX6_validOne 33 = .ok (.goto 4, 3) := by decide +kernel
theorem dX6_validOne_36 : decode cX6_validOne 36 = .ok (.iload_n 1, 1) := by decide +kernel
theorem dX6_validOne_37 : decode cX6_validOne 37 = .ok (.ireturn, 1) := by decide +kernel
theorem dX6_isIntact_0 : decode cX6_isIntact 0 = .ok (.aload_n 0, 1) := by decide +kernel
theorem dX6_isIntact_1 : decode cX6_isIntact 1 = .ok (.iload_n 1, 1) := by decide +kernel
theorem dX6_isIntact_2 : decode cX6_isIntact 2 = .ok (.invokestatic 52, 3) := by decide +kernel
theorem dX6_isIntact_5 : decode cX6_isIntact 5 = .ok (.iload_n 1, 1) := by decide +kernel
theorem dX6_isIntact_6 : decode cX6_isIntact 6 = .ok (.invokestatic 56, 3) := by decide +kernel
theorem dX6_isIntact_9 : decode cX6_isIntact 9 = .ok (.invokevirtual 45, 3) := by decide +kernel
theorem dX6_isIntact_12 : decode cX6_isIntact 12 = .ok (.ireturn, 1) := by decide +kernel
theorem dX6_sessionAt_0 : decode cX6_sessionAt 0 = .ok (.bipush (-6), 2) := by decide +kernel
theorem dX6_sessionAt_2 : decode cX6_sessionAt 2 = .ok (.istore_n 2, 1) := by decide +kernel
theorem dX6_sessionAt_3 : decode cX6_sessionAt 3 = .ok (.iconst 0, 1) := by decide +kernel
theorem dX6_sessionAt_4 : decode cX6_sessionAt 4 = .ok (.istore_n 3, 1) := by decide +kernel
theorem dX6_sessionAt_5 : decode cX6_sessionAt 5 = .ok (.iload_n 3, 1) := by decide +kernel
theorem dX6_sessionAt_6 : decode cX6_sessionAt 6 = .ok (.aload_n 0, 1) := by decide +kernel
theorem dX6_sessionAt_7 : decode cX6_sessionAt 7 = .ok (.getfield 7, 3) := by decide +kernel
theorem dX6_sessionAt_10 : decode cX6_sessionAt 10 = .ok (.iconst 1, 1) := by decide +kernel
theorem dX6_sessionAt_11 : decode cX6_sessionAt 11 = .ok (.iaload, 1) := by decide +kernel
theorem dX6_sessionAt_12 : decode cX6_sessionAt 12 = .ok (.if_icmp .ge 43, 3) := by decide +kernel
theorem dX6_sessionAt_15 : decode cX6_sessionAt 15 = .ok (.iload_n 1, 1) := by decide +kernel
theorem dX6_sessionAt_16 : decode cX6_sessionAt 16 = .ok (.aload_n 0, 1) := by decide +kernel
theorem dX6_sessionAt_17 : decode cX6_sessionAt 17 = .ok (.iload_n 3, 1) := by decide +kernel
theorem dX6_sessionAt_18 : decode cX6_sessionAt 18 = .ok (.iconst 1, 1) := by decide +kernel
theorem dX6_sessionAt_19 : decode cX6_sessionAt 19 = .ok (.invokevirtual 34, 3) := by decide +kernel
theorem dX6_sessionAt_22 : decode cX6_sessionAt 22 = .ok (.aload_n 0, 1) := by decide +kernel
theorem dX6_sessionAt_23 : decode cX6_sessionAt 23 = .ok (.iload_n 3, 1) := by decide +kernel
theorem dX6_sessionAt_24 : decode cX6_sessionAt 24 = .ok (.iconst 1, 1) := by decide +kernel
theorem dX6_sessionAt_25 : decode cX6_sessionAt 25 = .ok (.invokevirtual 34, 3) := by decide +kernel
theorem dX6_sessionAt_28 : decode cX6_sessionAt 28 = .ok (.aload_n 0, 1) := by decide +kernel
theorem dX6_sessionAt_29 : decode cX6_sessionAt 29 = .ok (.iload_n 3, 1) := by decide +kernel
theorem dX6_sessionAt_30 : decode cX6_sessionAt 30 = .ok (.iconst 2, 1) := by decide +kernel
theorem dX6_sessionAt_31 : decode cX6_sessionAt 31 = .ok (.invokevirtual 34, 3) := by decide +kernel
theorem dX6_sessionAt_34 : decode cX6_sessionAt 34 = .ok (.iadd, 1) := by decide +kernel
theorem dX6_sessionAt_35 : decode cX6_sessionAt 35 = .ok (.iconst 1, 1) := by decide +kernel
theorem dX6_sessionAt_36 : decode cX6_sessionAt 36 = .ok (.isub, 1) := by decide +kernel
theorem dX6_sessionAt_37 : decode cX6_sessionAt 37 = .ok (.invokestatic 30, 3) := by decide +kernel
theorem dX6_sessionAt_40 : decode cX6_sessionAt 40 = .ok (.ifCond .eq 7, 3) := by decide +kernel
theorem dX6_sessionAt_43 : decode cX6_sessionAt 43 = .ok (.iload_n 3, 1) := by decide +kernel
theorem dX6_sessionAt_44 : decode cX6_sessionAt 44 = .ok (.goto 4, 3) := by decide +kernel
theorem dX6_sessionAt_47 : decode cX6_sessionAt 47 = .ok (.iload_n 2, 1) := by decide +kernel
theorem dX6_sessionAt_48 : decode cX6_sessionAt 48 = .ok (.istore_n 2, 1) := by decide +kernel
theorem dX6_sessionAt_49 : decode cX6_sessionAt 49 = .ok (.iinc 3 1, 3) := by decide +kernel
theorem dX6_sessionAt_52 : decode cX6_sessionAt 52 = .ok (.goto (-47), 3) := by decide +kernel
theorem dX6_sessionAt_55 : decode cX6_sessionAt 55 = .ok (.iload_n 2, 1) := by decide +kernel
theorem dX6_sessionAt_56 : decode cX6_sessionAt 56 = .ok (.ireturn, 1) := by decide +kernel
theorem dX6_takesSectors_0 : decode cX6_takesSectors 0 = .ok (.aload_n 0, 1) := by decide +kernel
theorem dX6_takesSectors_1 : decode cX6_takesSectors 1 = .ok (.getfield 7, 3) := by decide +kernel
theorem dX6_takesSectors_4 : decode cX6_takesSectors 4 = .ok (.iconst 0, 1) := by decide +kernel
theorem dX6_takesSectors_5 : decode cX6_takesSectors 5 = .ok (.dup2, 1) := by decide +kernel
theorem dX6_takesSectors_6 : decode cX6_takesSectors 6 = .ok (.iaload, 1) := by decide +kernel
theorem dX6_takesSectors_7 : decode cX6_takesSectors 7 = .ok (.iload_n 2, 1) := by decide +kernel
theorem dX6_takesSectors_8 : decode cX6_takesSectors 8 = .ok (.iadd, 1) := by decide +kernel
theorem dX6_takesSectors_9 : decode cX6_takesSectors 9 = .ok (.iastore, 1) := by decide +kernel
theorem dX6_takesSectors_10 : decode cX6_takesSectors 10 = .ok (.aload_n 0, 1) := by decide +kernel
theorem dX6_takesSectors_11 : decode cX6_takesSectors 11 = .ok (.iload_n 1, 1) := by decide +kernel
theorem dX6_takesSectors_12 : decode cX6_takesSectors 12 = .ok (.iconst 2, 1) := by decide +kernel
theorem dX6_takesSectors_13 : decode cX6_takesSectors 13 = .ok (.aload_n 0, 1) := by decide +kernel
theorem dX6_takesSectors_14 : decode cX6_takesSectors 14 = .ok (.iload_n 1, 1) := by decide +kernel
theorem dX6_takesSectors_15 : decode cX6_takesSectors 15 = .ok (.iconst 2, 1) := by decide +kernel
theorem dX6_takesSectors_16 : decode cX6_takesSectors 16 = .ok (.invokevirtual 34, 3) := by decide +kernel
theorem dX6_takesSectors_19 : decode cX6_takesSectors 19 = .ok (.iload_n 2, 1) := by decide +kernel
theorem dX6_takesSectors_20 : decode cX6_takesSectors 20 = .ok (.iadd, 1) := by decide +kernel
theorem dX6_takesSectors_21 : decode cX6_takesSectors 21 = .ok (.invokevirtual 59, 3) := by decide +kernel
theorem dX6_takesSectors_24 : decode cX6_takesSectors 24 = .ok (.return_, 1) := by decide +kernel
theorem dX6_goBegin_0 : decode cX6_goBegin 0 = .ok (.iload_n 1, 1) := by decide +kernel
theorem dX6_goBegin_1 : decode cX6_goBegin 1 = .ok (.iconst 0, 1) := by decide +kernel
theorem dX6_goBegin_2 : decode cX6_goBegin 2 = .ok (.iconst 1, 1) := by decide +kernel
theorem dX6_goBegin_3 : decode cX6_goBegin 3 = .ok (.invokestatic 30, 3) := by decide +kernel
theorem dX6_goBegin_6 : decode cX6_goBegin 6 = .ok (.ifCond .ne 6, 3) := by decide +kernel
theorem dX6_goBegin_9 : decode cX6_goBegin 9 = .ok (.bipush (-2), 2) := by decide +kernel
theorem dX6_goBegin_11 : decode cX6_goBegin 11 = .ok (.ireturn, 1) := by decide +kernel
theorem dX6_goBegin_12 : decode cX6_goBegin 12 = .ok (.aload_n 0, 1) := by decide +kernel
theorem dX6_goBegin_13 : decode cX6_goBegin 13 = .ok (.invokevirtual 63, 3) := by decide +kernel
theorem dX6_goBegin_16 : decode cX6_goBegin 16 = .ok (.ifCond .lt 6, 3) := by decide +kernel
theorem dX6_goBegin_19 : decode cX6_goBegin 19 = .ok (.bipush (-5), 2) := by decide +kernel
theorem dX6_goBegin_21 : decode cX6_goBegin 21 = .ok (.ireturn, 1) := by decide +kernel
theorem dX6_goBegin_22 : decode cX6_goBegin 22 = .ok (.aload_n 0, 1) := by decide +kernel
theorem dX6_goBegin_23 : decode cX6_goBegin 23 = .ok (.getfield 7, 3) := by decide +kernel
theorem dX6_goBegin_26 : decode cX6_goBegin 26 = .ok (.iconst 1, 1) := by decide +kernel
theorem dX6_goBegin_27 : decode cX6_goBegin 27 = .ok (.iaload, 1) := by decide +kernel
theorem dX6_goBegin_28 : decode cX6_goBegin 28 = .ok (.bipush 12, 2) := by decide +kernel
theorem dX6_goBegin_30 : decode cX6_goBegin 30 = .ok (.if_icmp .eq 29, 3) := by decide +kernel
theorem dX6_goBegin_33 : decode cX6_goBegin 33 = .ok (.aload_n 0, 1) := by decide +kernel
theorem dX6_goBegin_34 : decode cX6_goBegin 34 = .ok (.getfield 7, 3) := by decide +kernel
theorem dX6_goBegin_37 : decode cX6_goBegin 37 = .ok (.iconst 0, 1) := by decide +kernel
theorem dX6_goBegin_38 : decode cX6_goBegin 38 = .ok (.iaload, 1) := by decide +kernel
theorem dX6_goBegin_39 : decode cX6_goBegin 39 = .ok (.aload_n 0, 1) := by decide +kernel
theorem dX6_goBegin_40 : decode cX6_goBegin 40 = .ok (.getfield 7, 3) := by decide +kernel
theorem dX6_goBegin_43 : decode cX6_goBegin 43 = .ok (.iconst 2, 1) := by decide +kernel
theorem dX6_goBegin_44 : decode cX6_goBegin 44 = .ok (.iaload, 1) := by decide +kernel
theorem dX6_goBegin_45 : decode cX6_goBegin 45 = .ok (.iadd, 1) := by decide +kernel
theorem dX6_goBegin_46 : decode cX6_goBegin 46 = .ok (.aload_n 0, 1) := by decide +kernel
theorem dX6_goBegin_47 : decode cX6_goBegin 47 = .ok (.getfield 7, 3) := by decide +kernel
theorem dX6_goBegin_50 : decode cX6_goBegin 50 = .ok (.iconst 3, 1) := by decide +kernel
theorem dX6_goBegin_51 : decode cX6_goBegin 51 = .ok (.iaload, 1) := by decide +kernel
theorem dX6_goBegin_52 : decode cX6_goBegin 52 = .ok (.iadd, 1) := by decide +kernel
theorem dX6_goBegin_53 : decode cX6_goBegin 53 = .ok (.sipush 240, 3) := by decide +kernel
theorem dX6_goBegin_56 : decode cX6_goBegin 56 = .ok (.if_icmp .le 6, 3) := by decide +kernel
theorem dX6_goBegin_59 : decode cX6_goBegin 59 = .ok (.bipush (-4), 2) := by decide +kernel
theorem dX6_goBegin_61 : decode cX6_goBegin 61 = .ok (.ireturn, 1) := by decide +kernel
theorem dX6_goBegin_62 : decode cX6_goBegin 62 = .ok (.iload_n 1, 1) := by decide +kernel
theorem dX6_goBegin_63 : decode cX6_goBegin 63 = .ok (.iconst 1, 1) := by decide +kernel
theorem dX6_goBegin_64 : decode cX6_goBegin 64 = .ok (.if_icmp .ne 10, 3) := by decide +kernel
theorem dX6_goBegin_67 : decode cX6_goBegin 67 = .ok (.aload_n 0, 1) := by decide +kernel
theorem dX6_goBegin_68 : decode cX6_goBegin 68 = .ok (.invokevirtual 67, 3) := by decide +kernel
theorem dX6_goBegin_71 : decode cX6_goBegin 71 = .ok (.goto 5, 3) := by decide +kernel
theorem dX6_goBegin_74 : decode cX6_goBegin 74 = .ok (.bipush (-6), 2) := by decide +kernel
theorem dX6_goBegin_76 : decode cX6_goBegin 76 = .ok (.istore_n 2, 1) := by decide +kernel
theorem dX6_goBegin_77 : decode cX6_goBegin 77 = .ok (.aload_n 0, 1) := by decide +kernel
theorem dX6_goBegin_78 : decode cX6_goBegin 78 = .ok (.getfield 7, 3) := by decide +kernel
theorem dX6_goBegin_81 : decode cX6_goBegin 81 = .ok (.iconst 1, 1) := by decide +kernel
theorem dX6_goBegin_82 : decode cX6_goBegin 82 = .ok (.iaload, 1) := by decide +kernel
theorem dX6_goBegin_83 : decode cX6_goBegin 83 = .ok (.istore_n 3, 1) := by decide +kernel
theorem dX6_goBegin_84 : decode cX6_goBegin 84 = .ok (.iconst 0, 1) := by decide +kernel
theorem dX6_goBegin_85 : decode cX6_goBegin 85 = .ok (.istore 4, 2) := by decide +kernel
theorem dX6_goBegin_87 : decode cX6_goBegin 87 = .ok (.iload 4, 2) := by decide +kernel
theorem dX6_goBegin_89 : decode cX6_goBegin 89 = .ok (.bipush 20, 2) := by decide +kernel
theorem dX6_goBegin_91 : decode cX6_goBegin 91 = .ok (.if_icmp .ge 39, 3) := by decide +kernel
theorem dX6_goBegin_94 : decode cX6_goBegin 94 = .ok (.aload_n 0, 1) := by decide +kernel
theorem dX6_goBegin_95 : decode cX6_goBegin 95 = .ok (.getfield 7, 3) := by decide +kernel
theorem dX6_goBegin_98 : decode cX6_goBegin 98 = .ok (.bipush 104, 2) := by decide +kernel
theorem dX6_goBegin_100 : decode cX6_goBegin 100 = .ok (.bipush 20, 2) := by decide +kernel
theorem dX6_goBegin_102 : decode cX6_goBegin 102 = .ok (.iload_n 3, 1) := by decide +kernel
theorem dX6_goBegin_103 : decode cX6_goBegin 103 = .ok (.imul, 1) := by decide +kernel
theorem dX6_goBegin_104 : decode cX6_goBegin 104 = .ok (.iadd, 1) := by decide +kernel
theorem dX6_goBegin_105 : decode cX6_goBegin 105 = .ok (.iload 4, 2) := by decide +kernel
theorem dX6_goBegin_107 : decode cX6_goBegin 107 = .ok (.iadd, 1) := by decide +kernel
theorem dX6_goBegin_108 : decode cX6_goBegin 108 = .ok (.iload_n 2, 1) := by decide +kernel
theorem dX6_goBegin_109 : decode cX6_goBegin 109 = .ok (.ifCond .ge 7, 3) := by decide +kernel
theorem dX6_goBegin_112 : decode cX6_goBegin 112 = .ok (.iconst 0, 1) := by decide +kernel
theorem dX6_goBegin_113 : decode cX6_goBegin 113 = .ok (.goto 10, 3) := by decide +kernel
theorem dX6_goBegin_116 : decode cX6_goBegin 116 = .ok (.aload_n 0, 1) := by decide +kernel
theorem dX6_goBegin_117 : decode cX6_goBegin 117 = .ok (.iload_n 2, 1) := by decide +kernel
theorem dX6_goBegin_118 : decode cX6_goBegin 118 = .ok (.iload 4, 2) := by decide +kernel
theorem dX6_goBegin_120 : decode cX6_goBegin 120 = .ok (.invokevirtual 38, 3) := by decide +kernel
theorem dX6_goBegin_123 : decode cX6_goBegin 123 = .ok (.iastore, 1) := by decide +kernel
theorem dX6_goBegin_124 : decode cX6_goBegin 124 = .ok (.iinc 4 1, 3) := by decide +kernel
theorem dX6_goBegin_127 : decode cX6_goBegin 127 = .ok (.goto (-40), 3) := by decide +kernel
theorem dX6_goBegin_130 : decode cX6_goBegin 130 = .ok (.aload_n 0, 1) := by decide +kernel
theorem dX6_goBegin_131 : decode cX6_goBegin 131 = .ok (.iload_n 3, 1) := by decide +kernel
theorem dX6_goBegin_132 : decode cX6_goBegin 132 = .ok (.iconst 0, 1) := by decide +kernel
theorem dX6_goBegin_133 : decode cX6_goBegin 133 = .ok (.iconst 0, 1) := by decide +kernel
theorem dX6_goBegin_134 : decode cX6_goBegin 134 = .ok (.invokevirtual 59, 3) := by decide +kernel
theorem dX6_goBegin_137 : decode cX6_goBegin 137 = .ok (.aload_n 0, 1) := by decide +kernel
theorem dX6_goBegin_138 : decode cX6_goBegin 138 = .ok (.iload_n 3, 1) := by decide +kernel
theorem dX6_goBegin_139 : decode cX6_goBegin 139 = .ok (.iconst 1, 1) := by decide +kernel
theorem dX6_goBegin_140 : decode cX6_goBegin 140 = .ok (.aload_n 0, 1) := by decide +kernel
theorem dX6_goBegin_141 : decode cX6_goBegin 141 = .ok (.getfield 7, 3) := by decide +kernel
theorem dX6_goBegin_144 : decode cX6_goBegin 144 = .ok (.iconst 0, 1) := by decide +kernel
theorem dX6_goBegin_145 : decode cX6_goBegin 145 = .ok (.iaload, 1) := by decide +kernel
theorem dX6_goBegin_146 : decode cX6_goBegin 146 = .ok (.invokevirtual 59, 3) := by decide +kernel
theorem dX6_goBegin_149 : decode cX6_goBegin 149 = .ok (.aload_n 0, 1) := by decide +kernel
theorem dX6_goBegin_150 : decode cX6_goBegin 150 = .ok (.iload_n 3, 1) := by decide +kernel
theorem dX6_goBegin_151 : decode cX6_goBegin 151 = .ok (.iconst 2, 1) := by decide +kernel
theorem dX6_goBegin_152 : decode cX6_goBegin 152 = .ok (.iconst 0, 1) := by decide +kernel
theorem dX6_goBegin_153 : decode cX6_goBegin 153 = .ok (.invokevirtual 59, 3) := by decide +kernel
theorem dX6_goBegin_156 : decode cX6_goBegin 156 = .ok (.aload_n 0, 1) := by decide +kernel
theorem dX6_goBegin_157 : decode cX6_goBegin 157 = .ok (.iload_n 3, 1) := by decide +kernel
theorem dX6_goBegin_158 : decode cX6_goBegin 158 = .ok (.iconst 3, 1) := by decide +kernel
theorem dX6_goBegin_159 : decode cX6_goBegin 159 = .ok (.aload_n 0, 1) := by decide +kernel
theorem dX6_goBegin_160 : decode cX6_goBegin 160 = .ok (.getfield 7, 3) := by decide +kernel
theorem dX6_goBegin_163 : decode cX6_goBegin 163 = .ok (.iconst 2, 1) := by decide +kernel
theorem dX6_goBegin_164 : decode cX6_goBegin 164 = .ok (.iaload, 1) := by decide +kernel
theorem dX6_goBegin_165 : decode cX6_goBegin 165 = .ok (.invokevirtual 59, 3) := by decide +kernel
theorem dX6_goBegin_168 : decode cX6_goBegin 168 = .ok (.aload_n 0, 1) := by decide +kernel
theorem dX6_goBegin_169 : decode cX6_goBegin 169 = .ok (.iload_n 3, 1) := by decide +kernel
theorem dX6_goBegin_170 : decode cX6_goBegin 170 = .ok (.iconst 4, 1) := by decide +kernel
theorem dX6_goBegin_171 : decode cX6_goBegin 171 = .ok (.aload_n 0, 1) := by decide +kernel
theorem dX6_goBegin_172 : decode cX6_goBegin 172 = .ok (.getfield 7, 3) := by decide +kernel
theorem dX6_goBegin_175 : decode cX6_goBegin 175 = .ok (.iconst 3, 1) := by decide +kernel
theorem dX6_goBegin_176 : decode cX6_goBegin 176 = .ok (.iaload, 1) := by decide +kernel
theorem dX6_goBegin_177 : decode cX6_goBegin 177 = .ok (.invokevirtual 59, 3) := by decide +kernel
theorem dX6_goBegin_180 : decode cX6_goBegin 180 = .ok (.aload_n 0, 1) := by decide +kernel
theorem dX6_goBegin_181 : decode cX6_goBegin 181 = .ok (.iload_n 3, 1) := by decide +kernel
theorem dX6_goBegin_182 : decode cX6_goBegin 182 = .ok (.iconst 5, 1) := by decide +kernel
theorem dX6_goBegin_183 : decode cX6_goBegin 183 = .ok (.iconst 0, 1) := by decide +kernel
theorem dX6_goBegin_184 : decode cX6_goBegin 184 = .ok (.invokevirtual 59, 3) := by decide +kernel
theorem dX6_goBegin_187 : decode cX6_goBegin 187 = .ok (.aload_n 0, 1) := by decide +kernel
theorem dX6_goBegin_188 : decode cX6_goBegin 188 = .ok (.iload_n 3, 1) := by decide +kernel
theorem dX6_goBegin_189 : decode cX6_goBegin 189 = .ok (.aload_n 0, 1) := by decide +kernel
theorem dX6_goBegin_190 : decode cX6_goBegin 190 = .ok (.getfield 7, 3) := by decide +kernel
theorem dX6_goBegin_193 : decode cX6_goBegin 193 = .ok (.iconst 2, 1) := by decide +kernel
theorem dX6_goBegin_194 : decode cX6_goBegin 194 = .ok (.iaload, 1) := by decide +kernel
theorem dX6_goBegin_195 : decode cX6_goBegin 195 = .ok (.invokevirtual 70, 3) := by decide +kernel
theorem dX6_goBegin_198 : decode cX6_goBegin 198 = .ok (.aload_n 0, 1) := by decide +kernel
theorem dX6_goBegin_199 : decode cX6_goBegin 199 = .ok (.getfield 7, 3) := by decide +kernel
theorem dX6_goBegin_202 : decode cX6_goBegin 202 = .ok (.iconst 1, 1) := by decide +kernel
theorem dX6_goBegin_203 : decode cX6_goBegin 203 = .ok (.dup2, 1) := by decide +kernel
theorem dX6_goBegin_204 : decode cX6_goBegin 204 = .ok (.iaload, 1) := by decide +kernel
theorem dX6_goBegin_205 : decode cX6_goBegin 205 = .ok (.iconst 1, 1) := by decide +kernel
theorem dX6_goBegin_206 : decode cX6_goBegin 206 = .ok (.iadd, 1) := by decide +kernel
theorem dX6_goBegin_207 : decode cX6_goBegin 207 = .ok (.iastore, 1) := by decide +kernel
theorem dX6_goBegin_208 : decode cX6_goBegin 208 = .ok (.iload_n 3, 1) := by decide +kernel
theorem dX6_goBegin_209 : decode cX6_goBegin 209 = .ok (.ireturn, 1) := by decide +kernel
theorem dX6_goWrite_0 : decode cX6_goWrite 0 = .ok (.aload_n 0, 1) := by decide +kernel
theorem dX6_goWrite_1 : decode cX6_goWrite 1 = .ok (.invokevirtual 63, 3) := by decide +kernel
theorem dX6_goWrite_4 : decode cX6_goWrite 4 = .ok (.istore_n 3, 1) := by decide +kernel
theorem dX6_goWrite_5 : decode cX6_goWrite 5 = .ok (.iload_n 1, 1) := by decide +kernel
theorem dX6_goWrite_6 : decode cX6_goWrite 6 = .ok (.invokestatic 74, 3) := by decide +kernel
theorem dX6_goWrite_9 : decode cX6_goWrite 9 = .ok (.ifCond .ne 5, 3) := by decide +kernel
theorem dX6_goWrite_12 : decode cX6_goWrite 12 = .ok (.iconst (-1), 1) := by decide +kernel
theorem dX6_goWrite_13 : decode cX6_goWrite 13 = .ok (.ireturn, 1) := by decide +kernel
theorem dX6_goWrite_14 : decode cX6_goWrite 14 = .ok (.iload_n 2, 1) := by decide +kernel
theorem dX6_goWrite_15 : decode cX6_goWrite 15 = .ok (.iconst 1, 1) := by decide +kernel
theorem dX6_goWrite_16 : decode cX6_goWrite 16 = .ok (.bipush 40, 2) := by decide +kernel
theorem dX6_goWrite_18 : decode cX6_goWrite 18 = .ok (.invokestatic 30, 3) := by decide +kernel
theorem dX6_goWrite_21 : decode cX6_goWrite 21 = .ok (.ifCond .ne 6, 3) := by decide +kernel
theorem dX6_goWrite_24 : decode cX6_goWrite 24 = .ok (.bipush (-2), 2) := by decide +kernel
theorem dX6_goWrite_26 : decode cX6_goWrite 26 = .ok (.ireturn, 1) := by decide +kernel
theorem dX6_goWrite_27 : decode cX6_goWrite 27 = .ok (.iload_n 3, 1) := by decide +kernel
theorem dX6_goWrite_28 : decode cX6_goWrite 28 = .ok (.ifCond .ge 6, 3) := by decide +kernel
theorem dX6_goWrite_31 : decode cX6_goWrite 31 = .ok (.bipush (-5), 2) := by decide +kernel
theorem dX6_goWrite_33 : decode cX6_goWrite 33 = .ok (.ireturn, 1) := by decide +kernel
theorem dX6_goWrite_34 : decode cX6_goWrite 34 = .ok (.aload_n 0, 1) := by decide +kernel
theorem dX6_goWrite_35 : decode cX6_goWrite 35 = .ok (.getfield 7, 3) := by decide +kernel
theorem dX6_goWrite_38 : decode cX6_goWrite 38 = .ok (.iconst 0, 1) := by decide +kernel
theorem dX6_goWrite_39 : decode cX6_goWrite 39 = .ok (.iaload, 1) := by decide +kernel
theorem dX6_goWrite_40 : decode cX6_goWrite 40 = .ok (.iload_n 2, 1) := by decide +kernel
theorem dX6_goWrite_41 : decode cX6_goWrite 41 = .ok (.iadd, 1) := by decide +kernel
theorem dX6_goWrite_42 : decode cX6_goWrite 42 = .ok (.aload_n 0, 1) := by decide +kernel
theorem dX6_goWrite_43 : decode cX6_goWrite 43 = .ok (.iload_n 3, 1) := by decide +kernel
theorem dX6_goWrite_44 : decode cX6_goWrite 44 = .ok (.iconst 4, 1) := by decide +kernel
theorem dX6_goWrite_45 : decode cX6_goWrite 45 = .ok (.invokevirtual 34, 3) := by decide +kernel
theorem dX6_goWrite_48 : decode cX6_goWrite 48 = .ok (.iadd, 1) := by decide +kernel
theorem dX6_goWrite_49 : decode cX6_goWrite 49 = .ok (.sipush 240, 3) := by decide +kernel
theorem dX6_goWrite_52 : decode cX6_goWrite 52 = .ok (.if_icmp .le 6, 3) := by decide +kernel
theorem dX6_goWrite_55 : decode cX6_goWrite 55 = .ok (.bipush (-4), 2) := by decide +kernel
theorem dX6_goWrite_57 : decode cX6_goWrite 57 = .ok (.ireturn, 1) := by decide +kernel
theorem dX6_goWrite_58 : decode cX6_goWrite 58 = .ok (.aload_n 0, 1) := by decide +kernel
theorem dX6_goWrite_59 : decode cX6_goWrite 59 = .ok (.getfield 7, 3) := by decide +kernel
theorem dX6_goWrite_62 : decode cX6_goWrite 62 = .ok (.iconst 0, 1) := by decide +kernel
theorem dX6_goWrite_63 : decode cX6_goWrite 63 = .ok (.iaload, 1) := by decide +kernel
theorem dX6_goWrite_64 : decode cX6_goWrite 64 = .ok (.istore 4, 2) := by decide +kernel
theorem dX6_goWrite_66 : decode cX6_goWrite 66 = .ok (.aload_n 0, 1) := by decide +kernel
theorem dX6_goWrite_67 : decode cX6_goWrite 67 = .ok (.getfield 7, 3) := by decide +kernel
theorem dX6_goWrite_70 : decode cX6_goWrite 70 = .ok (.bipush 104, 2) := by decide +kernel
theorem dX6_goWrite_72 : decode cX6_goWrite 72 = .ok (.bipush 20, 2) := by decide +kernel
theorem dX6_goWrite_74 : decode cX6_goWrite 74 = .ok (.iload_n 3, 1) := by decide +kernel
theorem dX6_goWrite_75 : decode cX6_goWrite 75 = .ok (.imul, 1) := by decide +kernel
theorem dX6_goWrite_76 : decode cX6_goWrite 76 = .ok (.iadd, 1) := by decide +kernel
theorem dX6_goWrite_77 : decode cX6_goWrite 77 = .ok (.iload_n 1, 1) := by decide +kernel
theorem dX6_goWrite_78 : decode cX6_goWrite 78 = .ok (.iadd, 1) := by decide +kernel
theorem dX6_goWrite_79 : decode cX6_goWrite 79 = .ok (.bipush 64, 2) := by decide +kernel
theorem dX6_goWrite_81 : decode cX6_goWrite 81 = .ok (.iload 4, 2) := by decide +kernel
theorem dX6_goWrite_83 : decode cX6_goWrite 83 = .ok (.iconst 1, 1) := by decide +kernel
theorem dX6_goWrite_84 : decode cX6_goWrite 84 = .ok (.iadd, 1) := by decide +kernel
theorem dX6_goWrite_85 : decode cX6_goWrite 85 = .ok (.imul, 1) := by decide +kernel
theorem dX6_goWrite_86 : decode cX6_goWrite 86 = .ok (.iload_n 2, 1) := by decide +kernel
theorem dX6_goWrite_87 : decode cX6_goWrite 87 = .ok (.iadd, 1) := by decide +kernel
theorem dX6_goWrite_88 : decode cX6_goWrite 88 = .ok (.iastore, 1) := by decide +kernel
theorem dX6_goWrite_89 : decode cX6_goWrite 89 = .ok (.aload_n 0, 1) := by decide +kernel
theorem dX6_goWrite_90 : decode cX6_goWrite 90 = .ok (.getfield 7, 3) := by decide +kernel
theorem dX6_goWrite_93 : decode cX6_goWrite 93 = .ok (.bipush 12, 2) := by decide +kernel
theorem dX6_goWrite_95 : decode cX6_goWrite 95 = .ok (.iload_n 1, 1) := by decide +kernel
theorem dX6_goWrite_96 : decode cX6_goWrite 96 = .ok (.iadd, 1) := by decide +kernel
theorem dX6_goWrite_97 : decode cX6_goWrite 97 = .ok (.dup2, 1) := by decide +kernel
theorem dX6_goWrite_98 : decode cX6_goWrite 98 = .ok (.iaload, 1) := by decide +kernel
theorem dX6_goWrite_99 : decode cX6_goWrite 99 = .ok (.iconst 1, 1) := by decide +kernel
theorem dX6_goWrite_100 : decode cX6_goWrite 100 = .ok (.iadd, 1) := by decide +kernel
theorem dX6_goWrite_101 : decode cX6_goWrite 101 = .ok (.iastore, 1) := by decide +kernel
theorem dX6_goWrite_102 : decode cX6_goWrite 102 = .ok (.aload_n 0, 1) := by decide +kernel
theorem dX6_goWrite_103 : decode cX6_goWrite 103 = .ok (.iload_n 3, 1) := by decide +kernel
theorem dX6_goWrite_104 : decode cX6_goWrite 104 = .ok (.iconst 5, 1) := by decide +kernel
theorem dX6_goWrite_105 : decode cX6_goWrite 105 = .ok (.aload_n 0, 1) := by decide +kernel
theorem dX6_goWrite_106 : decode cX6_goWrite 106 = .ok (.iload_n 3, 1) := by decide +kernel
theorem dX6_goWrite_107 : decode cX6_goWrite 107 = .ok (.iconst 5, 1) := by decide +kernel
theorem dX6_goWrite_108 : decode cX6_goWrite 108 = .ok (.invokevirtual 34, 3) := by decide +kernel
theorem dX6_goWrite_111 : decode cX6_goWrite 111 = .ok (.iconst 1, 1) := by decide +kernel
theorem dX6_goWrite_112 : decode cX6_goWrite 112 = .ok (.iadd, 1) := by decide +kernel
theorem dX6_goWrite_113 : decode cX6_goWrite 113 = .ok (.invokevirtual 59, 3) := by decide +kernel
theorem dX6_goWrite_116 : decode cX6_goWrite 116 = .ok (.aload_n 0, 1) := by decide +kernel
theorem dX6_goWrite_117 : decode cX6_goWrite 117 = .ok (.iload_n 3, 1) := by decide +kernel
theorem dX6_goWrite_118 : decode cX6_goWrite 118 = .ok (.iload_n 2, 1) := by decide +kernel
theorem dX6_goWrite_119 : decode cX6_goWrite 119 = .ok (.invokevirtual 70, 3) := by decide +kernel
theorem dX6_goWrite_122 : decode cX6_goWrite 122 = .ok (.iload 4, 2) := by decide +kernel
theorem dX6_goWrite_124 : decode cX6_goWrite 124 = .ok (.ireturn, 1) := by decide +kernel
theorem dX6_goRemove_0 : decode cX6_goRemove 0 = .ok (.aload_n 0, 1) := by decide +kernel
theorem dX6_goRemove_1 : decode cX6_goRemove 1 = .ok (.invokevirtual 63, 3) := by decide +kernel
theorem dX6_goRemove_4 : decode cX6_goRemove 4 = .ok (.istore_n 2, 1) := by decide +kernel
theorem dX6_goRemove_5 : decode cX6_goRemove 5 = .ok (.iload_n 1, 1) := by decide +kernel
theorem dX6_goRemove_6 : decode cX6_goRemove 6 = .ok (.invokestatic 74, 3) := by decide +kernel
theorem dX6_goRemove_9 : decode cX6_goRemove 9 = .ok (.ifCond .ne 5, 3) := by decide +kernel
theorem dX6_goRemove_12 : decode cX6_goRemove 12 = .ok (.iconst (-1), 1) := by decide +kernel
theorem dX6_goRemove_13 : decode cX6_goRemove 13 = .ok (.ireturn, 1) := by decide +kernel
theorem dX6_goRemove_14 : decode cX6_goRemove 14 = .ok (.iload_n 2, 1) := by decide +kernel
theorem dX6_goRemove_15 : decode cX6_goRemove 15 = .ok (.ifCond .lt 12, 3) := by decide +kernel
theorem dX6_goRemove_18 : decode cX6_goRemove 18 = .ok (.aload_n 0, 1) := by decide +kernel
theorem dX6_goRemove_19 : decode cX6_goRemove 19 = .ok (.iload_n 2, 1) := by decide +kernel
theorem dX6_goRemove_20 : decode cX6_goRemove 20 = .ok (.iload_n 1, 1) := by decide +kernel
theorem dX6_goRemove_21 : decode cX6_goRemove 21 = .ok (.invokevirtual 38, 3) := by decide +kernel
theorem dX6_goRemove_24 : decode cX6_goRemove 24 = .ok (.ifCond .ne 6, 3) := by decide +kernel
theorem dX6_goRemove_27 : decode cX6_goRemove 27 = .ok (.bipush (-5), 2) := by decide +kernel
theorem dX6_goRemove_29 : decode cX6_goRemove 29 = .ok (.ireturn, 1) := by decide +kernel
theorem dX6_goRemove_30 : decode cX6_goRemove 30 = .ok (.aload_n 0, 1) := by decide +kernel
theorem dX6_goRemove_31 : decode cX6_goRemove 31 = .ok (.getfield 7, 3) := by decide +kernel
theorem dX6_goRemove_34 : decode cX6_goRemove 34 = .ok (.bipush 104, 2) := by decide +kernel
theorem dX6_goRemove_36 : decode cX6_goRemove 36 = .ok (.bipush 20, 2) := by decide +kernel
theorem dX6_goRemove_38 : decode cX6_goRemove 38 = .ok (.iload_n 2, 1) := by decide +kernel
theorem dX6_goRemove_39 : decode cX6_goRemove 39 = .ok (.imul, 1) := by decide +kernel
theorem dX6_goRemove_40 : decode cX6_goRemove 40 = .ok (.iadd, 1) := by decide +kernel
theorem dX6_goRemove_41 : decode cX6_goRemove 41 = .ok (.iload_n 1, 1) := by decide +kernel
theorem dX6_goRemove_42 : decode cX6_goRemove 42 = .ok (.iadd, 1) := by decide +kernel
theorem dX6_goRemove_43 : decode cX6_goRemove 43 = .ok (.iconst 0, 1) := by decide +kernel
theorem dX6_goRemove_44 : decode cX6_goRemove 44 = .ok (.iastore, 1) := by decide +kernel
theorem dX6_goRemove_45 : decode cX6_goRemove 45 = .ok (.aload_n 0, 1) := by decide +kernel
theorem dX6_goRemove_46 : decode cX6_goRemove 46 = .ok (.iload_n 2, 1) := by decide +kernel
theorem dX6_goRemove_47 : decode cX6_goRemove 47 = .ok (.invokevirtual 77, 3) := by decide +kernel
theorem dX6_goRemove_50 : decode cX6_goRemove 50 = .ok (.ireturn, 1) := by decide +kernel
theorem dX6_goKeep_0 : decode cX6_goKeep 0 = .ok (.aload_n 0, 1) := by decide +kernel
theorem dX6_goKeep_1 : decode cX6_goKeep 1 = .ok (.invokevirtual 63, 3) := by decide +kernel
theorem dX6_goKeep_4 : decode cX6_goKeep 4 = .ok (.istore_n 3, 1) := by decide +kernel
theorem dX6_goKeep_5 : decode cX6_goKeep 5 = .ok (.iload_n 1, 1) := by decide +kernel
theorem dX6_goKeep_6 : decode cX6_goKeep 6 = .ok (.invokestatic 74, 3) := by decide +kernel
theorem dX6_goKeep_9 : decode cX6_goKeep 9 = .ok (.ifCond .eq 11, 3) := by decide +kernel
theorem dX6_goKeep_12 : decode cX6_goKeep 12 = .ok (.aload_n 0, 1) := by decide +kernel
theorem dX6_goKeep_13 : decode cX6_goKeep 13 = .ok (.iload_n 2, 1) := by decide +kernel
theorem dX6_goKeep_14 : decode cX6_goKeep 14 = .ok (.invokevirtual 80, 3) := by decide +kernel
theorem dX6_goKeep_17 : decode cX6_goKeep 17 = .ok (.ifCond .ne 5, 3) := by decide +kernel
theorem dX6_goKeep_20 : decode cX6_goKeep 20 = .ok (.iconst (-1), 1) := by decide +kernel
theorem dX6_goKeep_21 : decode cX6_goKeep 21 = .ok (.ireturn, 1) := by decide +kernel
theorem dX6_goKeep_22 : decode cX6_goKeep 22 = .ok (.iload_n 3, 1) := by decide +kernel
theorem dX6_goKeep_23 : decode cX6_goKeep 23 = .ok (.ifCond .lt 20, 3) := by decide +kernel
theorem dX6_goKeep_26 : decode cX6_goKeep 26 = .ok (.aload_n 0, 1) := by decide +kernel
theorem dX6_goKeep_27 : decode cX6_goKeep 27 = .ok (.iload_n 2, 1) := by decide +kernel
theorem dX6_goKeep_28 : decode cX6_goKeep 28 = .ok (.invokevirtual 49, 3) := by decide +kernel
theorem dX6_goKeep_31 : decode cX6_goKeep 31 = .ok (.ifCond .eq 12, 3) := by decide +kernel
theorem dX6_goKeep_34 : decode cX6_goKeep 34 = .ok (.aload_n 0, 1) := by decide +kernel
theorem dX6_goKeep_35 : decode cX6_goKeep 35 = .ok (.iload_n 2, 1) := by decide +kernel
theorem dX6_goKeep_36 : decode cX6_goKeep 36 = .ok (.iload_n 1, 1) := by decide +kernel
theorem dX6_goKeep_37 : decode cX6_goKeep 37 = .ok (.invokevirtual 38, 3) := by decide +kernel
theorem dX6_goKeep_40 : decode cX6_goKeep 40 = .ok (.ifCond .ne 6, 3) := by decide +kernel
theorem dX6_goKeep_43 : decode cX6_goKeep 43 = .ok (.bipush (-5), 2) := by decide +kernel
theorem dX6_goKeep_45 : decode cX6_goKeep 45 = .ok (.ireturn, 1) := by decide +kernel
theorem dX6_goKeep_46 : decode cX6_goKeep 46 = .ok (.aload_n 0, 1) := by decide +kernel
theorem dX6_goKeep_47 : decode cX6_goKeep 47 = .ok (.getfield 7, 3) := by decide +kernel
theorem dX6_goKeep_50 : decode cX6_goKeep 50 = .ok (.bipush 104, 2) := by decide +kernel
theorem dX6_goKeep_52 : decode cX6_goKeep 52 = .ok (.bipush 20, 2) := by decide +kernel
theorem dX6_goKeep_54 : decode cX6_goKeep 54 = .ok (.iload_n 3, 1) := by decide +kernel
theorem dX6_goKeep_55 : decode cX6_goKeep 55 = .ok (.imul, 1) := by decide +kernel
theorem dX6_goKeep_56 : decode cX6_goKeep 56 = .ok (.iadd, 1) := by decide +kernel
theorem dX6_goKeep_57 : decode cX6_goKeep 57 = .ok (.iload_n 1, 1) := by decide +kernel
theorem dX6_goKeep_58 : decode cX6_goKeep 58 = .ok (.iadd, 1) := by decide +kernel
theorem dX6_goKeep_59 : decode cX6_goKeep 59 = .ok (.aload_n 0, 1) := by decide +kernel
theorem dX6_goKeep_60 : decode cX6_goKeep 60 = .ok (.iload_n 2, 1) := by decide +kernel
theorem dX6_goKeep_61 : decode cX6_goKeep 61 = .ok (.iload_n 1, 1) := by decide +kernel
theorem dX6_goKeep_62 : decode cX6_goKeep 62 = .ok (.invokevirtual 38, 3) := by decide +kernel
theorem dX6_goKeep_65 : decode cX6_goKeep 65 = .ok (.iastore, 1) := by decide +kernel
theorem dX6_goKeep_66 : decode cX6_goKeep 66 = .ok (.aload_n 0, 1) := by decide +kernel
theorem dX6_goKeep_67 : decode cX6_goKeep 67 = .ok (.iload_n 3, 1) := by decide +kernel
theorem dX6_goKeep_68 : decode cX6_goKeep 68 = .ok (.iload_n 1, 1) := by decide +kernel
theorem dX6_goKeep_69 : decode cX6_goKeep 69 = .ok (.invokevirtual 38, 3) := by decide +kernel
theorem dX6_goKeep_72 : decode cX6_goKeep 72 = .ok (.invokestatic 52, 3) := by decide +kernel
theorem dX6_goKeep_75 : decode cX6_goKeep 75 = .ok (.ireturn, 1) := by decide +kernel
theorem dX6_closes_0 : decode cX6_closes 0 = .ok (.aload_n 0, 1) := by decide +kernel
theorem dX6_closes_1 : decode cX6_closes 1 = .ok (.iload_n 1, 1) := by decide +kernel
theorem dX6_closes_2 : decode cX6_closes 2 = .ok (.aload_n 0, 1) := by decide +kernel
theorem dX6_closes_3 : decode cX6_closes 3 = .ok (.iload_n 1, 1) := by decide +kernel
theorem dX6_closes_4 : decode cX6_closes 4 = .ok (.iconst 4, 1) := by decide +kernel
theorem dX6_closes_5 : decode cX6_closes 5 = .ok (.invokevirtual 34, 3) := by decide +kernel
theorem dX6_closes_8 : decode cX6_closes 8 = .ok (.invokevirtual 70, 3) := by decide +kernel
theorem dX6_closes_11 : decode cX6_closes 11 = .ok (.aload_n 0, 1) := by decide +kernel
theorem dX6_closes_12 : decode cX6_closes 12 = .ok (.iload_n 1, 1) := by decide +kernel
theorem dX6_closes_13 : decode cX6_closes 13 = .ok (.iconst 0, 1) := by decide +kernel
theorem dX6_closes_14 : decode cX6_closes 14 = .ok (.iconst 1, 1) := by decide +kernel
theorem dX6_closes_15 : decode cX6_closes 15 = .ok (.invokevirtual 59, 3) := by decide +kernel
theorem dX6_closes_18 : decode cX6_closes 18 = .ok (.aload_n 0, 1) := by decide +kernel
theorem dX6_closes_19 : decode cX6_closes 19 = .ok (.getfield 7, 3) := by decide +kernel
theorem dX6_closes_22 : decode cX6_closes 22 = .ok (.iconst 0, 1) := by decide +kernel
theorem dX6_closes_23 : decode cX6_closes 23 = .ok (.iaload, 1) := by decide +kernel
theorem dX6_closes_24 : decode cX6_closes 24 = .ok (.ireturn, 1) := by decide +kernel
theorem dX6_goClose_0 : decode cX6_goClose 0 = .ok (.aload_n 0, 1) := by decide +kernel
theorem dX6_goClose_1 : decode cX6_goClose 1 = .ok (.invokevirtual 63, 3) := by decide +kernel
theorem dX6_goClose_4 : decode cX6_goClose 4 = .ok (.ifCond .ge 8, 3) := by decide +kernel
theorem dX6_goClose_7 : decode cX6_goClose 7 = .ok (.bipush (-5), 2) := by decide +kernel
theorem dX6_goClose_9 : decode cX6_goClose 9 = .ok (.goto 11, 3) := by decide +kernel
theorem dX6_goClose_12 : decode cX6_goClose 12 = .ok (.aload_n 0, 1) := by decide +kernel
theorem dX6_goClose_13 : decode cX6_goClose 13 = .ok (.aload_n 0, 1) := by decide +kernel
theorem dX6_goClose_14 : decode cX6_goClose 14 = .ok (.invokevirtual 63, 3) := by decide +kernel
theorem dX6_goClose_17 : decode cX6_goClose 17 = .ok (.invokevirtual 83, 3) := by decide +kernel
theorem dX6_goClose_20 : decode cX6_goClose 20 = .ok (.ireturn, 1) := by decide +kernel
theorem dX6_goEject_0 : decode cX6_goEject 0 = .ok (.aload_n 0, 1) := by decide +kernel
theorem dX6_goEject_1 : decode cX6_goEject 1 = .ok (.invokevirtual 63, 3) := by decide +kernel
theorem dX6_goEject_4 : decode cX6_goEject 4 = .ok (.istore_n 1, 1) := by decide +kernel
theorem dX6_goEject_5 : decode cX6_goEject 5 = .ok (.iload_n 1, 1) := by decide +kernel
theorem dX6_goEject_6 : decode cX6_goEject 6 = .ok (.ifCond .lt 10, 3) := by decide +kernel
theorem dX6_goEject_9 : decode cX6_goEject 9 = .ok (.aload_n 0, 1) := by decide +kernel
theorem dX6_goEject_10 : decode cX6_goEject 10 = .ok (.iload_n 1, 1) := by decide +kernel
theorem dX6_goEject_11 : decode cX6_goEject 11 = .ok (.iconst 0, 1) := by decide +kernel
theorem dX6_goEject_12 : decode cX6_goEject 12 = .ok (.iconst 2, 1) := by decide +kernel
theorem dX6_goEject_13 : decode cX6_goEject 13 = .ok (.invokevirtual 59, 3) := by decide +kernel
theorem dX6_goEject_16 : decode cX6_goEject 16 = .ok (.iload_n 1, 1) := by decide +kernel
theorem dX6_goEject_17 : decode cX6_goEject 17 = .ok (.ifCond .ge 7, 3) := by decide +kernel
theorem dX6_goEject_20 : decode cX6_goEject 20 = .ok (.iconst 0, 1) := by decide +kernel
theorem dX6_goEject_21 : decode cX6_goEject 21 = .ok (.goto 4, 3) := by decide +kernel
theorem dX6_goEject_24 : decode cX6_goEject 24 = .ok (.iconst 1, 1) := by decide +kernel
theorem dX6_goEject_25 : decode cX6_goEject 25 = .ok (.ireturn, 1) := by decide +kernel
theorem dX6_goRepair_0 : decode cX6_goRepair 0 = .ok (.aload_n 0, 1) := by decide +kernel
theorem dX6_goRepair_1 : decode cX6_goRepair 1 = .ok (.iload_n 1, 1) := by decide +kernel
theorem dX6_goRepair_2 : decode cX6_goRepair 2 = .ok (.invokevirtual 80, 3) := by decide +kernel
theorem dX6_goRepair_5 : decode cX6_goRepair 5 = .ok (.ifCond .ne 5, 3) := by decide +kernel
theorem dX6_goRepair_8 : decode cX6_goRepair 8 = .ok (.iconst (-1), 1) := by decide +kernel
theorem dX6_goRepair_9 : decode cX6_goRepair 9 = .ok (.ireturn, 1) := by decide +kernel
theorem dX6_goRepair_10 : decode cX6_goRepair 10 = .ok (.aload_n 0, 1) := by decide +kernel
theorem dX6_goRepair_11 : decode cX6_goRepair 11 = .ok (.iload_n 1, 1) := by decide +kernel
theorem dX6_goRepair_12 : decode cX6_goRepair 12 = .ok (.iconst 0, 1) := by decide +kernel
theorem dX6_goRepair_13 : decode cX6_goRepair 13 = .ok (.invokevirtual 34, 3) := by decide +kernel
theorem dX6_goRepair_16 : decode cX6_goRepair 16 = .ok (.iconst 2, 1) := by decide +kernel
theorem dX6_goRepair_17 : decode cX6_goRepair 17 = .ok (.if_icmp .ne 38, 3) := by decide +kernel
theorem dX6_goRepair_20 : decode cX6_goRepair 20 = .ok (.iload_n 1, 1) := by decide +kernel
theorem dX6_goRepair_21 : decode cX6_goRepair 21 = .ok (.aload_n 0, 1) := by decide +kernel
theorem dX6_goRepair_22 : decode cX6_goRepair 22 = .ok (.getfield 7, 3) := by decide +kernel
theorem dX6_goRepair_25 : decode cX6_goRepair 25 = .ok (.iconst 1, 1) := by decide +kernel
theorem dX6_goRepair_26 : decode cX6_goRepair 26 = .ok (.iaload, 1) := by decide +kernel
theorem dX6_goRepair_27 : decode cX6_goRepair 27 = .ok (.iconst 1, 1) := by decide +kernel
theorem dX6_goRepair_28 : decode cX6_goRepair 28 = .ok (.isub, 1) := by decide +kernel
theorem dX6_goRepair_29 : decode cX6_goRepair 29 = .ok (.if_icmp .ne 26, 3) := by decide +kernel
theorem dX6_goRepair_32 : decode cX6_goRepair 32 = .ok (.aload_n 0, 1) := by decide +kernel
theorem dX6_goRepair_33 : decode cX6_goRepair 33 = .ok (.aload_n 0, 1) := by decide +kernel
theorem dX6_goRepair_34 : decode cX6_goRepair 34 = .ok (.iload_n 1, 1) := by decide +kernel
theorem dX6_goRepair_35 : decode cX6_goRepair 35 = .ok (.iconst 1, 1) := by decide +kernel
theorem dX6_goRepair_36 : decode cX6_goRepair 36 = .ok (.invokevirtual 34, 3) := by decide +kernel
theorem dX6_goRepair_39 : decode cX6_goRepair 39 = .ok (.aload_n 0, 1) := by decide +kernel
theorem dX6_goRepair_40 : decode cX6_goRepair 40 = .ok (.iload_n 1, 1) := by decide +kernel
theorem dX6_goRepair_41 : decode cX6_goRepair 41 = .ok (.iconst 3, 1) := by decide +kernel
theorem dX6_goRepair_42 : decode cX6_goRepair 42 = .ok (.invokevirtual 34, 3) := by decide +kernel
theorem dX6_goRepair_45 : decode cX6_goRepair 45 = .ok (.invokevirtual 45, 3) := by decide +kernel
theorem dX6_goRepair_48 : decode cX6_goRepair 48 = .ok (.ifCond .eq 7, 3) := by decide +kernel
theorem dX6_goRepair_51 : decode cX6_goRepair 51 = .ok (.iconst 1, 1) := by decide +kernel
theorem dX6_goRepair_52 : decode cX6_goRepair 52 = .ok (.goto 4, 3) := by decide +kernel
theorem dX6_goRepair_55 : decode cX6_goRepair 55 = .ok (.iconst 0, 1) := by decide +kernel
theorem dX6_goRepair_56 : decode cX6_goRepair 56 = .ok (.istore_n 2, 1) := by decide +kernel
theorem dX6_goRepair_57 : decode cX6_goRepair 57 = .ok (.iload_n 2, 1) := by decide +kernel
theorem dX6_goRepair_58 : decode cX6_goRepair 58 = .ok (.ifCond .eq 11, 3) := by decide +kernel
theorem dX6_goRepair_61 : decode cX6_goRepair 61 = .ok (.aload_n 0, 1) := by decide +kernel
theorem dX6_goRepair_62 : decode cX6_goRepair 62 = .ok (.iload_n 1, 1) := by decide +kernel
theorem dX6_goRepair_63 : decode cX6_goRepair 63 = .ok (.invokevirtual 83, 3) := by decide +kernel
theorem dX6_goRepair_66 : decode cX6_goRepair 66 = .ok (.goto 5, 3) := by decide +kernel
theorem dX6_goRepair_69 : decode cX6_goRepair 69 = .ok (.bipush (-5), 2) := by decide +kernel
theorem dX6_goRepair_71 : decode cX6_goRepair 71 = .ok (.ireturn, 1) := by decide +kernel
theorem dX6_damages_0 : decode cX6_damages 0 = .ok (.iconst 0, 1) := by decide +kernel
theorem dX6_damages_1 : decode cX6_damages 1 = .ok (.istore_n 1, 1) := by decide +kernel
theorem dX6_damages_2 : decode cX6_damages 2 = .ok (.iconst 0, 1) := by decide +kernel
theorem dX6_damages_3 : decode cX6_damages 3 = .ok (.istore_n 2, 1) := by decide +kernel
theorem dX6_damages_4 : decode cX6_damages 4 = .ok (.iload_n 2, 1) := by decide +kernel
theorem dX6_damages_5 : decode cX6_damages 5 = .ok (.sipush 240, 3) := by decide +kernel
theorem dX6_damages_8 : decode cX6_damages 8 = .ok (.if_icmp .ge 25, 3) := by decide +kernel
theorem dX6_damages_11 : decode cX6_damages 11 = .ok (.iload_n 1, 1) := by decide +kernel
theorem dX6_damages_12 : decode cX6_damages 12 = .ok (.aload_n 0, 1) := by decide +kernel
theorem dX6_damages_13 : decode cX6_damages 13 = .ok (.iload_n 2, 1) := by decide +kernel
theorem dX6_damages_14 : decode cX6_damages 14 = .ok (.invokevirtual 41, 3) := by decide +kernel
theorem dX6_damages_17 : decode cX6_damages 17 = .ok (.ifCond .eq 7, 3) := by decide +kernel
theorem dX6_damages_20 : decode cX6_damages 20 = .ok (.iconst 1, 1) := by decide +kernel
theorem dX6_damages_21 : decode cX6_damages 21 = .ok (.goto 4, 3) := by decide +kernel
theorem dX6_damages_24 : decode cX6_damages 24 = .ok (.iconst 0, 1) := by decide +kernel
theorem dX6_damages_25 : decode cX6_damages 25 = .ok (.iadd, 1) := by decide +kernel
theorem dX6_damages_26 : decode cX6_damages 26 = .ok (.istore_n 1, 1) := by decide +kernel
theorem dX6_damages_27 : decode cX6_damages 27 = .ok (.iinc 2 1, 3) := by decide +kernel
theorem dX6_damages_30 : decode cX6_damages 30 = .ok (.goto (-26), 3) := by decide +kernel
theorem dX6_damages_33 : decode cX6_damages 33 = .ok (.iload_n 1, 1) := by decide +kernel
theorem dX6_damages_34 : decode cX6_damages 34 = .ok (.ireturn, 1) := by decide +kernel
theorem dX6_goDamage_0 : decode cX6_goDamage 0 = .ok (.iload_n 1, 1) := by decide +kernel
theorem dX6_goDamage_1 : decode cX6_goDamage 1 = .ok (.invokestatic 86, 3) := by decide +kernel
theorem dX6_goDamage_4 : decode cX6_goDamage 4 = .ok (.ifCond .ne 5, 3) := by decide +kernel
theorem dX6_goDamage_7 : decode cX6_goDamage 7 = .ok (.iconst (-1), 1) := by decide +kernel
theorem dX6_goDamage_8 : decode cX6_goDamage 8 = .ok (.ireturn, 1) := by decide +kernel
theorem dX6_goDamage_9 : decode cX6_goDamage 9 = .ok (.aload_n 0, 1) := by decide +kernel
theorem dX6_goDamage_10 : decode cX6_goDamage 10 = .ok (.getfield 7, 3) := by decide +kernel
theorem dX6_goDamage_13 : decode cX6_goDamage 13 = .ok (.iconst 4, 1) := by decide +kernel
theorem dX6_goDamage_14 : decode cX6_goDamage 14 = .ok (.iload_n 1, 1) := by decide +kernel
theorem dX6_goDamage_15 : decode cX6_goDamage 15 = .ok (.bipush 30, 2) := by decide +kernel
theorem dX6_goDamage_17 : decode cX6_goDamage 17 = .ok (.idiv, 1) := by decide +kernel
theorem dX6_goDamage_18 : decode cX6_goDamage 18 = .ok (.iadd, 1) := by decide +kernel
theorem dX6_goDamage_19 : decode cX6_goDamage 19 = .ok (.dup2, 1) := by decide +kernel
theorem dX6_goDamage_20 : decode cX6_goDamage 20 = .ok (.iaload, 1) := by decide +kernel
theorem dX6_goDamage_21 : decode cX6_goDamage 21 = .ok (.iconst 1, 1) := by decide +kernel
theorem dX6_goDamage_22 : decode cX6_goDamage 22 = .ok (.iload_n 1, 1) := by decide +kernel
theorem dX6_goDamage_23 : decode cX6_goDamage 23 = .ok (.bipush 30, 2) := by decide +kernel
theorem dX6_goDamage_25 : decode cX6_goDamage 25 = .ok (.irem, 1) := by decide +kernel
theorem dX6_goDamage_26 : decode cX6_goDamage 26 = .ok (.ishl, 1) := by decide +kernel
theorem dX6_goDamage_27 : decode cX6_goDamage 27 = .ok (.ior, 1) := by decide +kernel
theorem dX6_goDamage_28 : decode cX6_goDamage 28 = .ok (.iastore, 1) := by decide +kernel
theorem dX6_goDamage_29 : decode cX6_goDamage 29 = .ok (.aload_n 0, 1) := by decide +kernel
theorem dX6_goDamage_30 : decode cX6_goDamage 30 = .ok (.invokevirtual 89, 3) := by decide +kernel
theorem dX6_goDamage_33 : decode cX6_goDamage 33 = .ok (.ireturn, 1) := by decide +kernel
theorem dX6_goSet_0 : decode cX6_goSet 0 = .ok (.iload_n 1, 1) := by decide +kernel
theorem dX6_goSet_1 : decode cX6_goSet 1 = .ok (.iconst 0, 1) := by decide +kernel
theorem dX6_goSet_2 : decode cX6_goSet 2 = .ok (.iconst 1, 1) := by decide +kernel
theorem dX6_goSet_3 : decode cX6_goSet 3 = .ok (.invokestatic 30, 3) := by decide +kernel
theorem dX6_goSet_6 : decode cX6_goSet 6 = .ok (.ifCond .ne 5, 3) := by decide +kernel
theorem dX6_goSet_9 : decode cX6_goSet 9 = .ok (.iconst (-1), 1) := by decide +kernel
theorem dX6_goSet_10 : decode cX6_goSet 10 = .ok (.ireturn, 1) := by decide +kernel
theorem dX6_goSet_11 : decode cX6_goSet 11 = .ok (.iload_n 2, 1) := by decide +kernel
theorem dX6_goSet_12 : decode cX6_goSet 12 = .ok (.iload_n 1, 1) := by decide +kernel
theorem dX6_goSet_13 : decode cX6_goSet 13 = .ok (.ifCond .ne 7, 3) := by decide +kernel
theorem dX6_goSet_16 : decode cX6_goSet 16 = .ok (.iconst 2, 1) := by decide +kernel
theorem dX6_goSet_17 : decode cX6_goSet 17 = .ok (.goto 4, 3) := by decide +kernel
theorem dX6_goSet_20 : decode cX6_goSet 20 = .ok (.iconst 1, 1) := by decide +kernel
theorem dX6_goSet_21 : decode cX6_goSet 21 = .ok (.bipush 9, 2) := by decide +kernel
theorem dX6_goSet_23 : decode cX6_goSet 23 = .ok (.invokestatic 30, 3) := by decide +kernel
theorem dX6_goSet_26 : decode cX6_goSet 26 = .ok (.ifCond .ne 6, 3) := by decide +kernel
theorem dX6_goSet_29 : decode cX6_goSet 29 = .ok (.bipush (-2), 2) := by decide +kernel
theorem dX6_goSet_31 : decode cX6_goSet 31 = .ok (.ireturn, 1) := by decide +kernel
theorem dX6_goSet_32 : decode cX6_goSet 32 = .ok (.aload_n 0, 1) := by decide +kernel
theorem dX6_goSet_33 : decode cX6_goSet 33 = .ok (.getfield 7, 3) := by decide +kernel
theorem dX6_goSet_36 : decode cX6_goSet 36 = .ok (.iconst 2, 1) := by decide +kernel
theorem dX6_goSet_37 : decode cX6_goSet 37 = .ok (.iload_n 1, 1) := by decide +kernel
theorem dX6_goSet_38 : decode cX6_goSet 38 = .ok (.iadd, 1) := by decide +kernel
theorem dX6_goSet_39 : decode cX6_goSet 39 = .ok (.iaload, 1) := by decide +kernel
theorem dX6_goSet_40 : decode cX6_goSet 40 = .ok (.istore_n 3, 1) := by decide +kernel
theorem dX6_goSet_41 : decode cX6_goSet 41 = .ok (.aload_n 0, 1) := by decide +kernel
theorem dX6_goSet_42 : decode cX6_goSet 42 = .ok (.getfield 7, 3) := by decide +kernel
theorem dX6_goSet_45 : decode cX6_goSet 45 = .ok (.iconst 2, 1) := by decide +kernel
theorem dX6_goSet_46 : decode cX6_goSet 46 = .ok (.iload_n 1, 1) := by decide +kernel
theorem dX6_goSet_47 : decode cX6_goSet 47 = .ok (.iadd, 1) := by decide +kernel
theorem dX6_goSet_48 : decode cX6_goSet 48 = .ok (.iload_n 2, 1) := by decide +kernel
theorem dX6_goSet_49 : decode cX6_goSet 49 = .ok (.iastore, 1) := by decide +kernel
theorem dX6_goSet_50 : decode cX6_goSet 50 = .ok (.iload_n 3, 1) := by decide +kernel
theorem dX6_goSet_51 : decode cX6_goSet 51 = .ok (.ireturn, 1) := by decide +kernel
theorem dX6_begin_0 : decode cX6_begin 0 = .ok (.aload_n 0, 1) := by decide +kernel
theorem dX6_begin_1 : decode cX6_begin 1 = .ok (.invokevirtual 92, 3) := by decide +kernel
theorem dX6_begin_4 : decode cX6_begin 4 = .ok (.aload_n 0, 1) := by decide +kernel
theorem dX6_begin_5 : decode cX6_begin 5 = .ok (.aload_n 0, 1) := by decide +kernel
theorem dX6_begin_6 : decode cX6_begin 6 = .ok (.iload_n 1, 1) := by decide +kernel
theorem dX6_begin_7 : decode cX6_begin 7 = .ok (.invokevirtual 95, 3) := by decide +kernel
theorem dX6_begin_10 : decode cX6_begin 10 = .ok (.invokevirtual 98, 3) := by decide +kernel
theorem dX6_begin_13 : decode cX6_begin 13 = .ok (.ireturn, 1) := by decide +kernel
theorem dX6_write_0 : decode cX6_write 0 = .ok (.aload_n 0, 1) := by decide +kernel
theorem dX6_write_1 : decode cX6_write 1 = .ok (.invokevirtual 92, 3) := by decide +kernel
theorem dX6_write_4 : decode cX6_write 4 = .ok (.aload_n 0, 1) := by decide +kernel
theorem dX6_write_5 : decode cX6_write 5 = .ok (.aload_n 0, 1) := by decide +kernel
theorem dX6_write_6 : decode cX6_write 6 = .ok (.iload_n 1, 1) := by decide +kernel
theorem dX6_write_7 : decode cX6_write 7 = .ok (.iload_n 2, 1) := by decide +kernel
theorem dX6_write_8 : decode cX6_write 8 = .ok (.invokevirtual 101, 3) := by decide +kernel
theorem dX6_write_11 : decode cX6_write 11 = .ok (.invokevirtual 98, 3) := by decide +kernel
theorem dX6_write_14 : decode cX6_write 14 = .ok (.ireturn, 1) := by decide +kernel
theorem dX6_remove_0 : decode cX6_remove 0 = .ok (.aload_n 0, 1) := by decide +kernel
theorem dX6_remove_1 : decode cX6_remove 1 = .ok (.invokevirtual 92, 3) := by decide +kernel
theorem dX6_remove_4 : decode cX6_remove 4 = .ok (.aload_n 0, 1) := by decide +kernel
theorem dX6_remove_5 : decode cX6_remove 5 = .ok (.aload_n 0, 1) := by decide +kernel
theorem dX6_remove_6 : decode cX6_remove 6 = .ok (.iload_n 1, 1) := by decide +kernel
theorem dX6_remove_7 : decode cX6_remove 7 = .ok (.invokevirtual 104, 3) := by decide +kernel
theorem dX6_remove_10 : decode cX6_remove 10 = .ok (.invokevirtual 98, 3) := by decide +kernel
theorem dX6_remove_13 : decode cX6_remove 13 = .ok (.ireturn, 1) := by decide +kernel
theorem dX6_keep_0 : decode cX6_keep 0 = .ok (.aload_n 0, 1) := by decide +kernel
theorem dX6_keep_1 : decode cX6_keep 1 = .ok (.invokevirtual 92, 3) := by decide +kernel
theorem dX6_keep_4 : decode cX6_keep 4 = .ok (.aload_n 0, 1) := by decide +kernel
theorem dX6_keep_5 : decode cX6_keep 5 = .ok (.aload_n 0, 1) := by decide +kernel
theorem dX6_keep_6 : decode cX6_keep 6 = .ok (.iload_n 1, 1) := by decide +kernel
theorem dX6_keep_7 : decode cX6_keep 7 = .ok (.iload_n 2, 1) := by decide +kernel
theorem dX6_keep_8 : decode cX6_keep 8 = .ok (.invokevirtual 107, 3) := by decide +kernel
theorem dX6_keep_11 : decode cX6_keep 11 = .ok (.invokevirtual 98, 3) := by decide +kernel
theorem dX6_keep_14 : decode cX6_keep 14 = .ok (.ireturn, 1) := by decide +kernel
theorem dX6_close_0 : decode cX6_close 0 = .ok (.aload_n 0, 1) := by decide +kernel
theorem dX6_close_1 : decode cX6_close 1 = .ok (.invokevirtual 92, 3) := by decide +kernel
theorem dX6_close_4 : decode cX6_close 4 = .ok (.aload_n 0, 1) := by decide +kernel
theorem dX6_close_5 : decode cX6_close 5 = .ok (.aload_n 0, 1) := by decide +kernel
theorem dX6_close_6 : decode cX6_close 6 = .ok (.invokevirtual 110, 3) := by decide +kernel
theorem dX6_close_9 : decode cX6_close 9 = .ok (.invokevirtual 98, 3) := by decide +kernel
theorem dX6_close_12 : decode cX6_close 12 = .ok (.ireturn, 1) := by decide +kernel
theorem dX6_eject_0 : decode cX6_eject 0 = .ok (.aload_n 0, 1) := by decide +kernel
theorem dX6_eject_1 : decode cX6_eject 1 = .ok (.invokevirtual 92, 3) := by decide +kernel
theorem dX6_eject_4 : decode cX6_eject 4 = .ok (.aload_n 0, 1) := by decide +kernel
theorem dX6_eject_5 : decode cX6_eject 5 = .ok (.aload_n 0, 1) := by decide +kernel
theorem dX6_eject_6 : decode cX6_eject 6 = .ok (.invokevirtual 113, 3) := by decide +kernel
theorem dX6_eject_9 : decode cX6_eject 9 = .ok (.invokevirtual 98, 3) := by decide +kernel
theorem dX6_eject_12 : decode cX6_eject 12 = .ok (.ireturn, 1) := by decide +kernel
theorem dX6_repair_0 : decode cX6_repair 0 = .ok (.aload_n 0, 1) := by decide +kernel
theorem dX6_repair_1 : decode cX6_repair 1 = .ok (.invokevirtual 92, 3) := by decide +kernel
theorem dX6_repair_4 : decode cX6_repair 4 = .ok (.aload_n 0, 1) := by decide +kernel
theorem dX6_repair_5 : decode cX6_repair 5 = .ok (.aload_n 0, 1) := by decide +kernel
theorem dX6_repair_6 : decode cX6_repair 6 = .ok (.iload_n 1, 1) := by decide +kernel
theorem dX6_repair_7 : decode cX6_repair 7 = .ok (.invokevirtual 116, 3) := by decide +kernel
theorem dX6_repair_10 : decode cX6_repair 10 = .ok (.invokevirtual 98, 3) := by decide +kernel
theorem dX6_repair_13 : decode cX6_repair 13 = .ok (.ireturn, 1) := by decide +kernel
theorem dX6_damage_0 : decode cX6_damage 0 = .ok (.aload_n 0, 1) := by decide +kernel
theorem dX6_damage_1 : decode cX6_damage 1 = .ok (.invokevirtual 92, 3) := by decide +kernel
theorem dX6_damage_4 : decode cX6_damage 4 = .ok (.aload_n 0, 1) := by decide +kernel
theorem dX6_damage_5 : decode cX6_damage 5 = .ok (.aload_n 0, 1) := by decide +kernel
theorem dX6_damage_6 : decode cX6_damage 6 = .ok (.iload_n 1, 1) := by decide +kernel
theorem dX6_damage_7 : decode cX6_damage 7 = .ok (.invokevirtual 119, 3) := by decide +kernel
theorem dX6_damage_10 : decode cX6_damage 10 = .ok (.invokevirtual 98, 3) := by decide +kernel
theorem dX6_damage_13 : decode cX6_damage 13 = .ok (.ireturn, 1) := by decide +kernel
theorem dX6_set_0 : decode cX6_set 0 = .ok (.aload_n 0, 1) := by decide +kernel
theorem dX6_set_1 : decode cX6_set 1 = .ok (.invokevirtual 92, 3) := by decide +kernel
theorem dX6_set_4 : decode cX6_set 4 = .ok (.aload_n 0, 1) := by decide +kernel
theorem dX6_set_5 : decode cX6_set 5 = .ok (.aload_n 0, 1) := by decide +kernel
theorem dX6_set_6 : decode cX6_set 6 = .ok (.iload_n 1, 1) := by decide +kernel
theorem dX6_set_7 : decode cX6_set 7 = .ok (.iload_n 2, 1) := by decide +kernel
theorem dX6_set_8 : decode cX6_set 8 = .ok (.invokevirtual 122, 3) := by decide +kernel
theorem dX6_set_11 : decode cX6_set 11 = .ok (.invokevirtual 98, 3) := by decide +kernel
theorem dX6_set_14 : decode cX6_set 14 = .ok (.ireturn, 1) := by decide +kernel
theorem dX6_append_0 : decode cX6_append 0 = .ok (.iload_n 1, 1) := by decide +kernel
theorem dX6_append_1 : decode cX6_append 1 = .ok (.bipush 32, 2) := by decide +kernel
theorem dX6_append_3 : decode cX6_append 3 = .ok (.bipush 126, 2) := by decide +kernel
theorem dX6_append_5 : decode cX6_append 5 = .ok (.invokestatic 30, 3) := by decide +kernel
theorem dX6_append_8 : decode cX6_append 8 = .ok (.ifCond .ne 6, 3) := by decide +kernel
theorem dX6_append_11 : decode cX6_append 11 = .ok (.bipush (-2), 2) := by decide +kernel
theorem dX6_append_13 : decode cX6_append 13 = .ok (.ireturn, 1) := by decide +kernel
theorem dX6_append_14 : decode cX6_append 14 = .ok (.aload_n 0, 1) := by decide +kernel
theorem dX6_append_15 : decode cX6_append 15 = .ok (.getfield 125, 3) := by decide +kernel
theorem dX6_append_18 : decode cX6_append 18 = .ok (.bipush 80, 2) := by decide +kernel
theorem dX6_append_20 : decode cX6_append 20 = .ok (.if_icmp .ne 6, 3) := by decide +kernel
theorem dX6_append_23 : decode cX6_append 23 = .ok (.bipush (-4), 2) := by decide +kernel
theorem dX6_append_25 : decode cX6_append 25 = .ok (.ireturn, 1) := by decide +kernel
theorem dX6_append_26 : decode cX6_append 26 = .ok (.aload_n 0, 1) := by decide +kernel
theorem dX6_append_27 : decode cX6_append 27 = .ok (.getfield 19, 3) := by decide +kernel
theorem dX6_append_30 : decode cX6_append 30 = .ok (.aload_n 0, 1) := by decide +kernel
theorem dX6_append_31 : decode cX6_append 31 = .ok (.getfield 125, 3) := by decide +kernel
theorem dX6_append_34 : decode cX6_append 34 = .ok (.iload_n 1, 1) := by decide +kernel
theorem dX6_append_35 : decode cX6_append 35 = .ok (.iastore, 1) := by decide +kernel
theorem dX6_append_36 : decode cX6_append 36 = .ok (.aload_n 0, 1) := by decide +kernel
theorem dX6_append_37 : decode cX6_append 37 = .ok (.dup, 1) := by decide +kernel
theorem dX6_append_38 : decode cX6_append 38 = .ok (.getfield 125, 3) := by decide +kernel
theorem dX6_append_41 : decode cX6_append 41 = .ok (.iconst 1, 1) := by decide +kernel
theorem dX6_append_42 : decode cX6_append 42 = .ok (.iadd, 1) := by decide +kernel
theorem dX6_append_43 : decode cX6_append 43 = .ok (.putfield 125, 3) := by decide +kernel
theorem dX6_append_46 : decode cX6_append 46 = .ok (.aload_n 0, 1) := by decide +kernel
theorem dX6_append_47 : decode cX6_append 47 = .ok (.getfield 125, 3) := by decide +kernel
theorem dX6_append_50 : decode cX6_append 50 = .ok (.ireturn, 1) := by decide +kernel
theorem dX6_clearText_0 : decode cX6_clearText 0 = .ok (.aload_n 0, 1) := by decide +kernel
theorem dX6_clearText_1 : decode cX6_clearText 1 = .ok (.getfield 125, 3) := by decide +kernel
theorem dX6_clearText_4 : decode cX6_clearText 4 = .ok (.istore_n 1, 1) := by decide +kernel
theorem dX6_clearText_5 : decode cX6_clearText 5 = .ok (.aload_n 0, 1) := by decide +kernel
theorem dX6_clearText_6 : decode cX6_clearText 6 = .ok (.iconst 0, 1) := by decide +kernel
theorem dX6_clearText_7 : decode cX6_clearText 7 = .ok (.putfield 125, 3) := by decide +kernel
theorem dX6_clearText_10 : decode cX6_clearText 10 = .ok (.iload_n 1, 1) := by decide +kernel
theorem dX6_clearText_11 : decode cX6_clearText 11 = .ok (.ireturn, 1) := by decide +kernel
theorem dX6_here_0 : decode cX6_here 0 = .ok (.aload_n 0, 1) := by decide +kernel
theorem dX6_here_1 : decode cX6_here 1 = .ok (.getfield 128, 3) := by decide +kernel
theorem dX6_here_4 : decode cX6_here 4 = .ok (.aload_n 0, 1) := by decide +kernel
theorem dX6_here_5 : decode cX6_here 5 = .ok (.getfield 125, 3) := by decide +kernel
theorem dX6_here_8 : decode cX6_here 8 = .ok (.if_icmp .ge 15, 3) := by decide +kernel
theorem dX6_here_11 : decode cX6_here 11 = .ok (.aload_n 0, 1) := by decide +kernel
theorem dX6_here_12 : decode cX6_here 12 = .ok (.getfield 19, 3) := by decide +kernel
theorem dX6_here_15 : decode cX6_here 15 = .ok (.aload_n 0, 1) := by decide +kernel
theorem dX6_here_16 : decode cX6_here 16 = .ok (.getfield 128, 3) := by decide +kernel
theorem dX6_here_19 : decode cX6_here 19 = .ok (.iaload, 1) := by decide +kernel
theorem dX6_here_20 : decode cX6_here 20 = .ok (.goto 4, 3) := by decide +kernel
theorem dX6_here_23 : decode cX6_here 23 = .ok (.iconst 0, 1) := by decide +kernel
theorem dX6_here_24 : decode cX6_here 24 = .ok (.ireturn, 1) := by decide +kernel
theorem dX6_takes_0 : decode cX6_takes 0 = .ok (.aload_n 0, 1) := by decide +kernel
theorem dX6_takes_1 : decode cX6_takes 1 = .ok (.aload_n 0, 1) := by decide +kernel
theorem dX6_takes_2 : decode cX6_takes 2 = .ok (.getfield 131, 3) := by decide +kernel
theorem dX6_takes_5 : decode cX6_takes 5 = .ok (.ifCond .eq 11, 3) := by decide +kernel
theorem dX6_takes_8 : decode cX6_takes 8 = .ok (.iload_n 1, 1) := by decide +kernel
theorem dX6_takes_9 : decode cX6_takes 9 = .ok (.ifCond .eq 7, 3) := by decide +kernel
theorem dX6_takes_12 : decode cX6_takes 12 = .ok (.iconst 1, 1) := by decide +kernel
theorem dX6_takes_13 : decode cX6_takes 13 = .ok (.goto 4, 3) := by decide +kernel
theorem dX6_takes_16 : decode cX6_takes 16 = .ok (.iconst 0, 1) := by decide +kernel
theorem dX6_takes_17 : decode cX6_takes 17 = .ok (.putfield 131, 3) := by decide +kernel
theorem dX6_takes_20 : decode cX6_takes 20 = .ok (.aload_n 0, 1) := by decide +kernel
theorem dX6_takes_21 : decode cX6_takes 21 = .ok (.dup, 1) := by decide +kernel
theorem dX6_takes_22 : decode cX6_takes 22 = .ok (.getfield 128, 3) := by decide +kernel
theorem dX6_takes_25 : decode cX6_takes 25 = .ok (.aload_n 0, 1) := by decide +kernel
theorem dX6_takes_26 : decode cX6_takes 26 = .ok (.getfield 131, 3) := by decide +kernel
theorem dX6_takes_29 : decode cX6_takes 29 = .ok (.ifCond .eq 7, 3) := by decide +kernel
theorem dX6_takes_32 : decode cX6_takes 32 = .ok (.iconst 1, 1) := by decide +kernel
theorem dX6_takes_33 : decode cX6_takes 33 = .ok (.goto 4, 3) := by decide +kernel
theorem dX6_takes_36 : decode cX6_takes 36 = .ok (.iconst 0, 1) := by decide +kernel
theorem dX6_takes_37 : decode cX6_takes 37 = .ok (.iadd, 1) := by decide +kernel
theorem dX6_takes_38 : decode cX6_takes 38 = .ok (.putfield 128, 3) := by decide +kernel
theorem dX6_takes_41 : decode cX6_takes 41 = .ok (.return_, 1) := by decide +kernel
theorem dX6_takesNumber_0 : decode cX6_takesNumber 0 = .ok (.aload_n 0, 1) := by decide +kernel
theorem dX6_takesNumber_1 : decode cX6_takesNumber 1 = .ok (.invokevirtual 135, 3) := by decide +kernel
theorem dX6_takesNumber_4 : decode cX6_takesNumber 4 = .ok (.bipush 48, 2) := by decide +kernel
theorem dX6_takesNumber_6 : decode cX6_takesNumber 6 = .ok (.isub, 1) := by decide +kernel
theorem dX6_takesNumber_7 : decode cX6_takesNumber 7 = .ok (.istore_n 3, 1) := by decide +kernel
theorem dX6_takesNumber_8 : decode cX6_takesNumber 8 = .ok (.aload_n 0, 1) := by decide +kernel
theorem dX6_takesNumber_9 : decode cX6_takesNumber 9 = .ok (.iload_n 3, 1) := by decide +kernel
theorem dX6_takesNumber_10 : decode cX6_takesNumber 10 = .ok (.iload_n 1, 1) := by decide +kernel
theorem dX6_takesNumber_11 : decode cX6_takesNumber 11 = .ok (.bipush 9, 2) := by decide +kernel
theorem dX6_takesNumber_13 : decode cX6_takesNumber 13 = .ok (.invokestatic 30, 3) := by decide +kernel
theorem dX6_takesNumber_16 : decode cX6_takesNumber 16 = .ok (.ifCond .eq 12, 3) := by decide +kernel
theorem dX6_takesNumber_19 : decode cX6_takesNumber 19 = .ok (.iload_n 3, 1) := by decide +kernel
theorem dX6_takesNumber_20 : decode cX6_takesNumber 20 = .ok (.iload_n 2, 1) := by decide +kernel
theorem dX6_takesNumber_21 : decode cX6_takesNumber 21 = .ok (.if_icmp .gt 7, 3) := by decide +kernel
theorem dX6_takesNumber_24 : decode cX6_takesNumber 24 = .ok (.iconst 1, 1) := by decide +kernel
theorem dX6_takesNumber_25 : decode cX6_takesNumber 25 = .ok (.goto 4, 3) := by decide +kernel
theorem dX6_takesNumber_28 : decode cX6_takesNumber 28 = .ok (.iconst 0, 1) := by decide +kernel
theorem dX6_takesNumber_29 : decode cX6_takesNumber 29 = .ok (.invokevirtual 138, 3) := by decide +kernel
theorem dX6_takesNumber_32 : decode cX6_takesNumber 32 = .ok (.aload_n 0, 1) := by decide +kernel
theorem dX6_takesNumber_33 : decode cX6_takesNumber 33 = .ok (.getfield 131, 3) := by decide +kernel
theorem dX6_takesNumber_36 : decode cX6_takesNumber 36 = .ok (.ifCond .eq 63, 3) := by decide +kernel
theorem dX6_takesNumber_39 : decode cX6_takesNumber 39 = .ok (.iload_n 3, 1) := by decide +kernel
theorem dX6_takesNumber_40 : decode cX6_takesNumber 40 = .ok (.ifCond .le 59, 3) := by decide +kernel
theorem dX6_takesNumber_43 : decode cX6_takesNumber 43 = .ok (.aload_n 0, 1) := by decide +kernel
theorem dX6_takesNumber_44 : decode cX6_takesNumber 44 = .ok (.invokevirtual 135, 3) := by decide +kernel
theorem dX6_takesNumber_47 : decode cX6_takesNumber 47 = .ok (.bipush 48, 2) := by decide +kernel
theorem dX6_takesNumber_49 : decode cX6_takesNumber 49 = .ok (.bipush 57, 2) := by decide +kernel
theorem dX6_takesNumber_51 : decode cX6_takesNumber 51 = .ok (.invokestatic 30, 3) := by decide +kernel
theorem dX6_takesNumber_54 : decode cX6_takesNumber 54 = .ok (.ifCond .eq 45, 3) := by decide +kernel
theorem dX6_takesNumber_57 : decode cX6_takesNumber 57 = .ok (.bipush 10, 2) := by decide +kernel
theorem dX6_takesNumber_59 : decode cX6_takesNumber 59 = .ok (.iload_n 3, 1) := by decide +kernel
theorem dX6_takesNumber_60 : decode cX6_takesNumber 60 = .ok (.imul, 1) := by decide +kernel
theorem dX6_takesNumber_61 : decode cX6_takesNumber 61 = .ok (.aload_n 0, 1) := by decide +kernel
theorem dX6_takesNumber_62 : decode cX6_takesNumber 62 = .ok (.invokevirtual 135, 3) := by decide +kernel
theorem dX6_takesNumber_65 : decode cX6_takesNumber 65 = .ok (.iadd, 1) := by decide +kernel
theorem dX6_takesNumber_66 : decode cX6_takesNumber 66 = .ok (.bipush 48, 2) := by decide +kernel
theorem dX6_takesNumber_68 : decode cX6_takesNumber 68 = .ok (.isub, 1) := by decide +kernel
theorem dX6_takesNumber_69 : decode cX6_takesNumber 69 = .ok (.iload_n 2, 1) := by decide +kernel
theorem dX6_takesNumber_70 : decode cX6_takesNumber 70 = .ok (.if_icmp .gt 29, 3) := by decide +kernel
theorem dX6_takesNumber_73 : decode cX6_takesNumber 73 = .ok (.bipush 10, 2) := by decide +kernel
theorem dX6_takesNumber_75 : decode cX6_takesNumber 75 = .ok (.iload_n 3, 1) := by decide +kernel
theorem dX6_takesNumber_76 : decode cX6_takesNumber 76 = .ok (.imul, 1) := by decide +kernel
theorem dX6_takesNumber_77 : decode cX6_takesNumber 77 = .ok (.aload_n 0, 1) := by decide +kernel
theorem dX6_takesNumber_78 : decode cX6_takesNumber 78 = .ok (.invokevirtual 135, 3) := by decide +kernel
theorem dX6_takesNumber_81 : decode cX6_takesNumber 81 = .ok (.iadd, 1) := by decide +kernel
theorem dX6_takesNumber_82 : decode cX6_takesNumber 82 = .ok (.bipush 48, 2) := by decide +kernel
theorem dX6_takesNumber_84 : decode cX6_takesNumber 84 = .ok (.isub, 1) := by decide +kernel
theorem dX6_takesNumber_85 : decode cX6_takesNumber 85 = .ok (.istore_n 3, 1) := by decide +kernel
theorem dX6_takesNumber_86 : decode cX6_takesNumber 86 = .ok (.aload_n 0, 1) := by decide +kernel
theorem dX6_takesNumber_87 : decode cX6_takesNumber 87 = .ok (.dup, 1) := by decide +kernel
theorem dX6_takesNumber_88 : decode cX6_takesNumber 88 = .ok (.getfield 128, 3) := by decide +kernel
theorem dX6_takesNumber_91 : decode cX6_takesNumber 91 = .ok (.iconst 1, 1) := by decide +kernel
theorem dX6_takesNumber_92 : decode cX6_takesNumber 92 = .ok (.iadd, 1) := by decide +kernel
theorem dX6_takesNumber_93 : decode cX6_takesNumber 93 = .ok (.putfield 128, 3) := by decide +kernel
theorem dX6_takesNumber_96 : decode cX6_takesNumber 96 = .ok (.goto (-64), 3) := by decide +kernel
theorem dX6_takesNumber_99 : decode cX6_takesNumber 99 = .ok (.iload_n 3, 1) := by decide +kernel
theorem dX6_takesNumber_100 : decode cX6_takesNumber 100 = .ok (.ireturn, 1) := by decide +kernel
theorem dX6_takesCommand_0 : decode cX6_takesCommand 0 = .ok (.aload_n 0, 1) := by decide +kernel
theorem dX6_takesCommand_1 : decode cX6_takesCommand 1 = .ok (.aload_n 0, 1) := by decide +kernel
theorem dX6_takesCommand_2 : decode cX6_takesCommand 2 = .ok (.invokevirtual 135, 3) := by decide +kernel
theorem dX6_takesCommand_5 : decode cX6_takesCommand 5 = .ok (.putfield 142, 3) := by decide +kernel
theorem dX6_takesCommand_8 : decode cX6_takesCommand 8 = .ok (.aload_n 0, 1) := by decide +kernel
theorem dX6_takesCommand_9 : decode cX6_takesCommand 9 = .ok (.getfield 142, 3) := by decide +kernel
theorem dX6_takesCommand_12 : decode cX6_takesCommand 12 = .ok (.bipush 99, 2) := by decide +kernel
theorem dX6_takesCommand_14 : decode cX6_takesCommand 14 = .ok (.if_icmp .eq 12, 3) := by decide +kernel
theorem dX6_takesCommand_17 : decode cX6_takesCommand 17 = .ok (.aload_n 0, 1) := by decide +kernel
theorem dX6_takesCommand_18 : decode cX6_takesCommand 18 = .ok (.getfield 142, 3) := by decide +kernel
theorem dX6_takesCommand_21 : decode cX6_takesCommand 21 = .ok (.bipush 101, 2) := by decide +kernel
theorem dX6_takesCommand_23 : decode cX6_takesCommand 23 = .ok (.if_icmp .ne 7, 3) := by decide +kernel
theorem dX6_takesCommand_26 : decode cX6_takesCommand 26 = .ok (.iconst 1, 1) := by decide +kernel
theorem dX6_takesCommand_27 : decode cX6_takesCommand 27 = .ok (.goto 4, 3) := by decide +kernel
theorem dX6_takesCommand_30 : decode cX6_takesCommand 30 = .ok (.iconst 0, 1) := by decide +kernel
theorem dX6_takesCommand_31 : decode cX6_takesCommand 31 = .ok (.istore_n 1, 1) := by decide +kernel
theorem dX6_takesCommand_32 : decode cX6_takesCommand 32 = .ok (.aload_n 0, 1) := by decide +kernel
theorem dX6_takesCommand_33 : decode cX6_takesCommand 33 = .ok (.getfield 142, 3) := by decide +kernel
theorem dX6_takesCommand_36 : decode cX6_takesCommand 36 = .ok (.bipush 119, 2) := by decide +kernel
theorem dX6_takesCommand_38 : decode cX6_takesCommand 38 = .ok (.if_icmp .eq 21, 3) := by decide +kernel
theorem dX6_takesCommand_41 : decode cX6_takesCommand 41 = .ok (.aload_n 0, 1) := by decide +kernel
theorem dX6_takesCommand_42 : decode cX6_takesCommand 42 = .ok (.getfield 142, 3) := by decide +kernel
theorem dX6_takesCommand_45 : decode cX6_takesCommand 45 = .ok (.bipush 114, 2) := by decide +kernel
theorem dX6_takesCommand_47 : decode cX6_takesCommand 47 = .ok (.if_icmp .eq 12, 3) := by decide +kernel
theorem dX6_takesCommand_50 : decode cX6_takesCommand 50 = .ok (.aload_n 0, 1) := by decide +kernel
theorem dX6_takesCommand_51 : decode cX6_takesCommand 51 = .ok (.getfield 142, 3) := by decide +kernel
theorem dX6_takesCommand_54 : decode cX6_takesCommand 54 = .ok (.bipush 107, 2) := by decide +kernel
theorem dX6_takesCommand_56 : decode cX6_takesCommand 56 = .ok (.if_icmp .ne 7, 3) := by decide +kernel
theorem dX6_takesCommand_59 : decode cX6_takesCommand 59 = .ok (.iconst 1, 1) := by decide +kernel
theorem dX6_takesCommand_60 : decode cX6_takesCommand 60 = .ok (.goto 4, 3) := by decide +kernel
theorem dX6_takesCommand_63 : decode cX6_takesCommand 63 = .ok (.iconst 0, 1) := by decide +kernel
theorem dX6_takesCommand_64 : decode cX6_takesCommand 64 = .ok (.istore_n 2, 1) := by decide +kernel
theorem dX6_takesCommand_65 : decode cX6_takesCommand 65 = .ok (.aload_n 0, 1) := by decide +kernel
theorem dX6_takesCommand_66 : decode cX6_takesCommand 66 = .ok (.iload_n 1, 1) := by decide +kernel
theorem dX6_takesCommand_67 : decode cX6_takesCommand 67 = .ok (.ifCond .ne 25, 3) := by decide +kernel
theorem dX6_takesCommand_70 : decode cX6_takesCommand 70 = .ok (.iload_n 2, 1) := by decide +kernel
theorem dX6_takesCommand_71 : decode cX6_takesCommand 71 = .ok (.ifCond .ne 21, 3) := by decide +kernel
theorem dX6_takesCommand_74 : decode cX6_takesCommand 74 = .ok (.aload_n 0, 1) := by decide +kernel
theorem dX6_takesCommand_75 : decode cX6_takesCommand 75 = .ok (.getfield 142, 3) := by decide +kernel
theorem dX6_takesCommand_78 : decode cX6_takesCommand 78 = .ok (.bipush 98, 2) := by decide +kernel
theorem dX6_takesCommand_80 : decode cX6_takesCommand 80 = .ok (.if_icmp .eq 12, 3) := by decide +kernel
theorem dX6_takesCommand_83 : decode cX6_takesCommand 83 = .ok (.aload_n 0, 1) := by decide +kernel
theorem dX6_takesCommand_84 : decode cX6_takesCommand 84 = .ok (.getfield 142, 3) := by decide +kernel
theorem dX6_takesCommand_87 : decode cX6_takesCommand 87 = .ok (.bipush 100, 2) := by decide +kernel
theorem dX6_takesCommand_89 : decode cX6_takesCommand 89 = .ok (.if_icmp .ne 7, 3) := by decide +kernel
theorem dX6_takesCommand_92 : decode cX6_takesCommand 92 = .ok (.iconst 1, 1) := by decide +kernel
theorem dX6_takesCommand_93 : decode cX6_takesCommand 93 = .ok (.goto 4, 3) := by decide +kernel
theorem dX6_takesCommand_96 : decode cX6_takesCommand 96 = .ok (.iconst 0, 1) := by decide +kernel
theorem dX6_takesCommand_97 : decode cX6_takesCommand 97 = .ok (.invokevirtual 138, 3) := by decide +kernel
theorem dX6_takesCommand_100 : decode cX6_takesCommand 100 = .ok (.aload_n 0, 1) := by decide +kernel
theorem dX6_takesCommand_101 : decode cX6_takesCommand 101 = .ok (.getfield 131, 3) := by decide +kernel
theorem dX6_takesCommand_104 : decode cX6_takesCommand 104 = .ok (.ifCond .eq 7, 3) := by decide +kernel
theorem dX6_takesCommand_107 : decode cX6_takesCommand 107 = .ok (.iload_n 1, 1) := by decide +kernel
theorem dX6_takesCommand_108 : decode cX6_takesCommand 108 = .ok (.ifCond .eq 4, 3) := by decide +kernel
theorem dX6_takesCommand_111 : decode cX6_takesCommand 111 = .ok (.return_, 1) := by decide +kernel
theorem dX6_takesCommand_112 : decode cX6_takesCommand 112 = .ok (.aload_n 0, 1) := by decide +kernel
theorem dX6_takesCommand_113 : decode cX6_takesCommand 113 = .ok (.aload_n 0, 1) := by decide +kernel
theorem dX6_takesCommand_114 : decode cX6_takesCommand 114 = .ok (.iconst 0, 1) := by decide +kernel
theorem dX6_takesCommand_115 : decode cX6_takesCommand 115 = .ok (.aload_n 0, 1) := by decide +kernel
theorem dX6_takesCommand_116 : decode cX6_takesCommand 116 = .ok (.getfield 142, 3) := by decide +kernel
theorem dX6_takesCommand_119 : decode cX6_takesCommand 119 = .ok (.bipush 98, 2) := by decide +kernel
theorem dX6_takesCommand_121 : decode cX6_takesCommand 121 = .ok (.if_icmp .ne 7, 3) := by decide +kernel
theorem dX6_takesCommand_124 : decode cX6_takesCommand 124 = .ok (.iconst 1, 1) := by decide +kernel
theorem dX6_takesCommand_125 : decode cX6_takesCommand 125 = .ok (.goto 20, 3) := by decide +kernel
theorem dX6_takesCommand_128 : decode cX6_takesCommand 128 = .ok (.aload_n 0, 1) := by decide +kernel
theorem dX6_takesCommand_129 : decode cX6_takesCommand 129 = .ok (.getfield 142, 3) := by decide +kernel
theorem dX6_takesCommand_132 : decode cX6_takesCommand 132 = .ok (.bipush 100, 2) := by decide +kernel
theorem dX6_takesCommand_134 : decode cX6_takesCommand 134 = .ok (.if_icmp .ne 9, 3) := by decide +kernel
theorem dX6_takesCommand_137 : decode cX6_takesCommand 137 = .ok (.sipush 239, 3) := by decide +kernel
theorem dX6_takesCommand_140 : decode cX6_takesCommand 140 = .ok (.goto 5, 3) := by decide +kernel
theorem dX6_takesCommand_143 : decode cX6_takesCommand 143 = .ok (.bipush 19, 2) := by decide +kernel
theorem dX6_takesCommand_145 : decode cX6_takesCommand 145 = .ok (.invokevirtual 145, 3) := by decide +kernel
theorem dX6_takesCommand_148 : decode cX6_takesCommand 148 = .ok (.putfield 148, 3) := by decide +kernel
theorem dX6_takesCommand_151 : decode cX6_takesCommand 151 = .ok (.aload_n 0, 1) := by decide +kernel
theorem dX6_takesCommand_152 : decode cX6_takesCommand 152 = .ok (.getfield 142, 3) := by decide +kernel
theorem dX6_takesCommand_155 : decode cX6_takesCommand 155 = .ok (.bipush 119, 2) := by decide +kernel
theorem dX6_takesCommand_157 : decode cX6_takesCommand 157 = .ok (.if_icmp .ne 43, 3) := by decide +kernel
theorem dX6_takesCommand_160 : decode cX6_takesCommand 160 = .ok (.aload_n 0, 1) := by decide +kernel
theorem dX6_takesCommand_161 : decode cX6_takesCommand 161 = .ok (.aload_n 0, 1) := by decide +kernel
theorem dX6_takesCommand_162 : decode cX6_takesCommand 162 = .ok (.invokevirtual 135, 3) := by decide +kernel
theorem dX6_takesCommand_165 : decode cX6_takesCommand 165 = .ok (.bipush 61, 2) := by decide +kernel
theorem dX6_takesCommand_167 : decode cX6_takesCommand 167 = .ok (.if_icmp .ne 7, 3) := by decide +kernel
theorem dX6_takesCommand_170 : decode cX6_takesCommand 170 = .ok (.iconst 1, 1) := by decide +kernel
theorem dX6_takesCommand_171 : decode cX6_takesCommand 171 = .ok (.goto 4, 3) := by decide +kernel
theorem dX6_takesCommand_174 : decode cX6_takesCommand 174 = .ok (.iconst 0, 1) := by decide +kernel
theorem dX6_takesCommand_175 : decode cX6_takesCommand 175 = .ok (.invokevirtual 138, 3) := by decide +kernel
theorem dX6_takesCommand_178 : decode cX6_takesCommand 178 = .ok (.aload_n 0, 1) := by decide +kernel
theorem dX6_takesCommand_179 : decode cX6_takesCommand 179 = .ok (.aload_n 0, 1) := by decide +kernel
theorem dX6_takesCommand_180 : decode cX6_takesCommand 180 = .ok (.getfield 131, 3) := by decide +kernel
theorem dX6_takesCommand_183 : decode cX6_takesCommand 183 = .ok (.ifCond .eq 13, 3) := by decide +kernel
theorem dX6_takesCommand_186 : decode cX6_takesCommand 186 = .ok (.aload_n 0, 1) := by decide +kernel
theorem dX6_takesCommand_187 : decode cX6_takesCommand 187 = .ok (.iconst 1, 1) := by decide +kernel
theorem dX6_takesCommand_188 : decode cX6_takesCommand 188 = .ok (.bipush 40, 2) := by decide +kernel
theorem dX6_takesCommand_190 : decode cX6_takesCommand 190 = .ok (.invokevirtual 145, 3) := by decide +kernel
theorem dX6_takesCommand_193 : decode cX6_takesCommand 193 = .ok (.goto 4, 3) := by decide +kernel
theorem dX6_takesCommand_196 : decode cX6_takesCommand 196 = .ok (.iconst 0, 1) := by decide +kernel
theorem dX6_takesCommand_197 : decode cX6_takesCommand 197 = .ok (.putfield 151, 3) := by decide +kernel
theorem dX6_takesCommand_200 : decode cX6_takesCommand 200 = .ok (.aload_n 0, 1) := by decide +kernel
theorem dX6_takesCommand_201 : decode cX6_takesCommand 201 = .ok (.getfield 142, 3) := by decide +kernel
theorem dX6_takesCommand_204 : decode cX6_takesCommand 204 = .ok (.bipush 107, 2) := by decide +kernel
theorem dX6_takesCommand_206 : decode cX6_takesCommand 206 = .ok (.if_icmp .ne 43, 3) := by decide +kernel
theorem dX6_takesCommand_209 : decode cX6_takesCommand 209 = .ok (.aload_n 0, 1) := by decide +kernel
theorem dX6_takesCommand_210 : decode cX6_takesCommand 210 = .ok (.aload_n 0, 1) := by decide +kernel
theorem dX6_takesCommand_211 : decode cX6_takesCommand 211 = .ok (.invokevirtual 135, 3) := by decide +kernel
theorem dX6_takesCommand_214 : decode cX6_takesCommand 214 = .ok (.bipush 46, 2) := by decide +kernel
theorem dX6_takesCommand_216 : decode cX6_takesCommand 216 = .ok (.if_icmp .ne 7, 3) := by decide +kernel
theorem dX6_takesCommand_219 : decode cX6_takesCommand 219 = .ok (.iconst 1, 1) := by decide +kernel
theorem dX6_takesCommand_220 : decode cX6_takesCommand 220 = .ok (.goto 4, 3) := by decide +kernel
theorem dX6_takesCommand_223 : decode cX6_takesCommand 223 = .ok (.iconst 0, 1) := by decide +kernel
theorem dX6_takesCommand_224 : decode cX6_takesCommand 224 = .ok (.invokevirtual 138, 3) := by decide +kernel
theorem dX6_takesCommand_227 : decode cX6_takesCommand 227 = .ok (.aload_n 0, 1) := by decide +kernel
theorem dX6_takesCommand_228 : decode cX6_takesCommand 228 = .ok (.aload_n 0, 1) := by decide +kernel
theorem dX6_takesCommand_229 : decode cX6_takesCommand 229 = .ok (.getfield 131, 3) := by decide +kernel
theorem dX6_takesCommand_232 : decode cX6_takesCommand 232 = .ok (.ifCond .eq 13, 3) := by decide +kernel
theorem dX6_takesCommand_235 : decode cX6_takesCommand 235 = .ok (.aload_n 0, 1) := by decide +kernel
theorem dX6_takesCommand_236 : decode cX6_takesCommand 236 = .ok (.iconst 0, 1) := by decide +kernel
theorem dX6_takesCommand_237 : decode cX6_takesCommand 237 = .ok (.bipush 11, 2) := by decide +kernel
theorem dX6_takesCommand_239 : decode cX6_takesCommand 239 = .ok (.invokevirtual 145, 3) := by decide +kernel
theorem dX6_takesCommand_242 : decode cX6_takesCommand 242 = .ok (.goto 4, 3) := by decide +kernel
theorem dX6_takesCommand_245 : decode cX6_takesCommand 245 = .ok (.iconst 0, 1) := by decide +kernel
theorem dX6_takesCommand_246 : decode cX6_takesCommand 246 = .ok (.putfield 151, 3) := by decide +kernel
theorem dX6_takesCommand_249 : decode cX6_takesCommand 249 = .ok (.return_, 1) := by decide +kernel
theorem dX6_isText_0 : decode cX6_isText 0 = .ok (.aload_n 0, 1) := by decide +kernel
theorem dX6_isText_1 : decode cX6_isText 1 = .ok (.iconst 0, 1) := by decide +kernel
theorem dX6_isText_2 : decode cX6_isText 2 = .ok (.putfield 128, 3) := by decide +kernel
theorem dX6_isText_5 : decode cX6_isText 5 = .ok (.aload_n 0, 1) := by decide +kernel
theorem dX6_isText_6 : decode cX6_isText 6 = .ok (.iconst 1, 1) := by decide +kernel
theorem dX6_isText_7 : decode cX6_isText 7 = .ok (.putfield 131, 3) := by decide +kernel
theorem dX6_isText_10 : decode cX6_isText 10 = .ok (.aload_n 0, 1) := by decide +kernel
theorem dX6_isText_11 : decode cX6_isText 11 = .ok (.invokevirtual 154, 3) := by decide +kernel
theorem dX6_isText_14 : decode cX6_isText 14 = .ok (.aload_n 0, 1) := by decide +kernel
theorem dX6_isText_15 : decode cX6_isText 15 = .ok (.getfield 131, 3) := by decide +kernel
theorem dX6_isText_18 : decode cX6_isText 18 = .ok (.ifCond .eq 46, 3) := by decide +kernel
theorem dX6_isText_21 : decode cX6_isText 21 = .ok (.aload_n 0, 1) := by decide +kernel
theorem dX6_isText_22 : decode cX6_isText 22 = .ok (.getfield 128, 3) := by decide +kernel
theorem dX6_isText_25 : decode cX6_isText 25 = .ok (.aload_n 0, 1) := by decide +kernel
theorem dX6_isText_26 : decode cX6_isText 26 = .ok (.getfield 125, 3) := by decide +kernel
theorem dX6_isText_29 : decode cX6_isText 29 = .ok (.if_icmp .ge 35, 3) := by decide +kernel
theorem dX6_isText_32 : decode cX6_isText 32 = .ok (.aload_n 0, 1) := by decide +kernel
theorem dX6_isText_33 : decode cX6_isText 33 = .ok (.aload_n 0, 1) := by decide +kernel
theorem dX6_isText_34 : decode cX6_isText 34 = .ok (.invokevirtual 135, 3) := by decide +kernel
theorem dX6_isText_37 : decode cX6_isText 37 = .ok (.bipush 59, 2) := by decide +kernel
theorem dX6_isText_39 : decode cX6_isText 39 = .ok (.if_icmp .ne 7, 3) := by decide +kernel
theorem dX6_isText_42 : decode cX6_isText 42 = .ok (.iconst 1, 1) := by decide +kernel
theorem dX6_isText_43 : decode cX6_isText 43 = .ok (.goto 4, 3) := by decide +kernel
theorem dX6_isText_46 : decode cX6_isText 46 = .ok (.iconst 0, 1) := by decide +kernel
theorem dX6_isText_47 : decode cX6_isText 47 = .ok (.invokevirtual 138, 3) := by decide +kernel
theorem dX6_isText_50 : decode cX6_isText 50 = .ok (.aload_n 0, 1) := by decide +kernel
theorem dX6_isText_51 : decode cX6_isText 51 = .ok (.getfield 131, 3) := by decide +kernel
theorem dX6_isText_54 : decode cX6_isText 54 = .ok (.ifCond .eq (-40), 3) := by decide +kernel
theorem dX6_isText_57 : decode cX6_isText 57 = .ok (.aload_n 0, 1) := by decide +kernel
theorem dX6_isText_58 : decode cX6_isText 58 = .ok (.invokevirtual 154, 3) := by decide +kernel
theorem dX6_isText_61 : decode cX6_isText 61 = .ok (.goto (-47), 3) := by decide +kernel
theorem dX6_isText_64 : decode cX6_isText 64 = .ok (.aload_n 0, 1) := by decide +kernel
theorem dX6_isText_65 : decode cX6_isText 65 = .ok (.getfield 131, 3) := by decide +kernel
theorem dX6_isText_68 : decode cX6_isText 68 = .ok (.ireturn, 1) := by decide +kernel
theorem dX6_fault_0 : decode cX6_fault 0 = .ok (.aload_n 0, 1) := by decide +kernel
theorem dX6_fault_1 : decode cX6_fault 1 = .ok (.invokevirtual 157, 3) := by decide +kernel
theorem dX6_fault_4 : decode cX6_fault 4 = .ok (.ifCond .eq 8, 3) := by decide +kernel
theorem dX6_fault_7 : decode cX6_fault 7 = .ok (.bipush (-6), 2) := by decide +kernel
theorem dX6_fault_9 : decode cX6_fault 9 = .ok (.goto 7, 3) := by decide +kernel
theorem dX6_fault_12 : decode cX6_fault 12 = .ok (.aload_n 0, 1) := by decide +kernel
theorem dX6_fault_13 : decode cX6_fault 13 = .ok (.getfield 128, 3) := by decide +kernel
theorem dX6_fault_16 : decode cX6_fault 16 = .ok (.ireturn, 1) := by decide +kernel
theorem dX6_doesCommand_0 : decode cX6_doesCommand 0 = .ok (.aload_n 0, 1) := by decide +kernel
theorem dX6_doesCommand_1 : decode cX6_doesCommand 1 = .ok (.getfield 142, 3) := by decide +kernel
theorem dX6_doesCommand_4 : decode cX6_doesCommand 4 = .ok (.lookupswitch 114 #[(98, 60), (99, 104), (101, 109), (107, 91), (114, 82), (119, 69)], 60) := by decide +kernel
theorem dX6_doesCommand_64 : decode cX6_doesCommand 64 = .ok (.aload_n 0, 1) := by decide +kernel
theorem dX6_doesCommand_65 : decode cX6_doesCommand 65 = .ok (.aload_n 0, 1) := by decide +kernel
theorem dX6_doesCommand_66 : decode cX6_doesCommand 66 = .ok (.getfield 148, 3) := by decide +kernel
theorem dX6_doesCommand_69 : decode cX6_doesCommand 69 = .ok (.invokevirtual 95, 3) := by decide +kernel
theorem dX6_doesCommand_72 : decode cX6_doesCommand 72 = .ok (.ireturn, 1) := by decide +kernel
theorem dX6_doesCommand_73 : decode cX6_doesCommand 73 = .ok (.aload_n 0, 1) := by decide +kernel
theorem dX6_doesCommand_74 : decode cX6_doesCommand 74 = .ok (.aload_n 0, 1) := by decide +kernel
theorem dX6_doesCommand_75 : decode cX6_doesCommand 75 = .ok (.getfield 148, 3) := by decide +kernel
theorem dX6_doesCommand_78 : decode cX6_doesCommand 78 = .ok (.aload_n 0, 1) := by decide +kernel
theorem dX6_doesCommand_79 : decode cX6_doesCommand 79 = .ok (.getfield 151, 3) := by decide +kernel
theorem dX6_doesCommand_82 : decode cX6_doesCommand 82 = .ok (.invokevirtual 101, 3) := by decide +kernel
theorem dX6_doesCommand_85 : decode cX6_doesCommand 85 = .ok (.ireturn, 1) := by decide +kernel
theorem dX6_doesCommand_86 : decode cX6_doesCommand 86 = .ok (.aload_n 0, 1) := by decide +kernel
theorem dX6_doesCommand_87 : decode cX6_doesCommand 87 = .ok (.aload_n 0, 1) := by decide +kernel
theorem dX6_doesCommand_88 : decode cX6_doesCommand 88 = .ok (.getfield 148, 3) := by decide +kernel
theorem dX6_doesCommand_91 : decode cX6_doesCommand 91 = .ok (.invokevirtual 104, 3) := by decide +kernel
theorem dX6_doesCommand_94 : decode cX6_doesCommand 94 = .ok (.ireturn, 1) := by decide +kernel
theorem dX6_doesCommand_95 : decode cX6_doesCommand 95 = .ok (.aload_n 0, 1) := by decide +kernel
theorem dX6_doesCommand_96 : decode cX6_doesCommand 96 = .ok (.aload_n 0, 1) := by decide +kernel
theorem dX6_doesCommand_97 : decode cX6_doesCommand 97 = .ok (.getfield 148, 3) := by decide +kernel
theorem dX6_doesCommand_100 : decode cX6_doesCommand 100 = .ok (.aload_n 0, 1) := by decide +kernel
theorem dX6_doesCommand_101 : decode cX6_doesCommand 101 = .ok (.getfield 151, 3) := by decide +kernel
theorem dX6_doesCommand_104 : decode cX6_doesCommand 104 = .ok (.invokevirtual 107, 3) := by decide +kernel
theorem dX6_doesCommand_107 : decode cX6_doesCommand 107 = .ok (.ireturn, 1) := by decide +kernel
theorem dX6_doesCommand_108 : decode cX6_doesCommand 108 = .ok (.aload_n 0, 1) := by decide +kernel
theorem dX6_doesCommand_109 : decode cX6_doesCommand 109 = .ok (.invokevirtual 110, 3) := by decide +kernel
theorem dX6_doesCommand_112 : decode cX6_doesCommand 112 = .ok (.ireturn, 1) := by decide +kernel
theorem dX6_doesCommand_113 : decode cX6_doesCommand 113 = .ok (.aload_n 0, 1) := by decide +kernel
theorem dX6_doesCommand_114 : decode cX6_doesCommand 114 = .ok (.invokevirtual 113, 3) := by decide +kernel
theorem dX6_doesCommand_117 : decode cX6_doesCommand 117 = .ok (.ireturn, 1) := by decide +kernel
theorem dX6_doesCommand_118 : decode cX6_doesCommand 118 = .ok (.aload_n 0, 1) := by decide +kernel
theorem dX6_doesCommand_119 : decode cX6_doesCommand 119 = .ok (.aload_n 0, 1) := by decide +kernel
theorem dX6_doesCommand_120 : decode cX6_doesCommand 120 = .ok (.getfield 148, 3) := by decide +kernel
theorem dX6_doesCommand_123 : decode cX6_doesCommand 123 = .ok (.invokevirtual 119, 3) := by decide +kernel
theorem dX6_doesCommand_126 : decode cX6_doesCommand 126 = .ok (.ireturn, 1) := by decide +kernel
theorem dX6_run_0 : decode cX6_run 0 = .ok (.aload_n 0, 1) := by decide +kernel
theorem dX6_run_1 : decode cX6_run 1 = .ok (.invokevirtual 157, 3) := by decide +kernel
theorem dX6_run_4 : decode cX6_run 4 = .ok (.ifCond .ne 6, 3) := by decide +kernel
theorem dX6_run_7 : decode cX6_run 7 = .ok (.bipush (-3), 2) := by decide +kernel
theorem dX6_run_9 : decode cX6_run 9 = .ok (.ireturn, 1) := by decide +kernel
theorem dX6_run_10 : decode cX6_run 10 = .ok (.aload_n 0, 1) := by decide +kernel
theorem dX6_run_11 : decode cX6_run 11 = .ok (.invokevirtual 92, 3) := by decide +kernel
theorem dX6_run_14 : decode cX6_run 14 = .ok (.aload_n 0, 1) := by decide +kernel
theorem dX6_run_15 : decode cX6_run 15 = .ok (.iconst 0, 1) := by decide +kernel
theorem dX6_run_16 : decode cX6_run 16 = .ok (.putfield 128, 3) := by decide +kernel
theorem dX6_run_19 : decode cX6_run 19 = .ok (.iconst 0, 1) := by decide +kernel
theorem dX6_run_20 : decode cX6_run 20 = .ok (.istore_n 1, 1) := by decide +kernel
theorem dX6_run_21 : decode cX6_run 21 = .ok (.iconst 1, 1) := by decide +kernel
theorem dX6_run_22 : decode cX6_run 22 = .ok (.istore_n 2, 1) := by decide +kernel
theorem dX6_run_23 : decode cX6_run 23 = .ok (.iload_n 2, 1) := by decide +kernel
theorem dX6_run_24 : decode cX6_run 24 = .ok (.ifCond .eq 56, 3) := by decide +kernel
theorem dX6_run_27 : decode cX6_run 27 = .ok (.aload_n 0, 1) := by decide +kernel
theorem dX6_run_28 : decode cX6_run 28 = .ok (.getfield 128, 3) := by decide +kernel
theorem dX6_run_31 : decode cX6_run 31 = .ok (.aload_n 0, 1) := by decide +kernel
theorem dX6_run_32 : decode cX6_run 32 = .ok (.getfield 125, 3) := by decide +kernel
theorem dX6_run_35 : decode cX6_run 35 = .ok (.if_icmp .ge 45, 3) := by decide +kernel
theorem dX6_run_38 : decode cX6_run 38 = .ok (.aload_n 0, 1) := by decide +kernel
theorem dX6_run_39 : decode cX6_run 39 = .ok (.invokevirtual 154, 3) := by decide +kernel
theorem dX6_run_42 : decode cX6_run 42 = .ok (.aload_n 0, 1) := by decide +kernel
theorem dX6_run_43 : decode cX6_run 43 = .ok (.dup, 1) := by decide +kernel
theorem dX6_run_44 : decode cX6_run 44 = .ok (.getfield 128, 3) := by decide +kernel
theorem dX6_run_47 : decode cX6_run 47 = .ok (.iconst 1, 1) := by decide +kernel
theorem dX6_run_48 : decode cX6_run 48 = .ok (.iadd, 1) := by decide +kernel
theorem dX6_run_49 : decode cX6_run 49 = .ok (.putfield 128, 3) := by decide +kernel
theorem dX6_run_52 : decode cX6_run 52 = .ok (.aload_n 0, 1) := by decide +kernel
theorem dX6_run_53 : decode cX6_run 53 = .ok (.invokevirtual 161, 3) := by decide +kernel
theorem dX6_run_56 : decode cX6_run 56 = .ok (.ifCond .lt 7, 3) := by decide +kernel
theorem dX6_run_59 : decode cX6_run 59 = .ok (.iconst 1, 1) := by decide +kernel
theorem dX6_run_60 : decode cX6_run 60 = .ok (.goto 4, 3) := by decide +kernel
theorem dX6_run_63 : decode cX6_run 63 = .ok (.iconst 0, 1) := by decide +kernel
theorem dX6_run_64 : decode cX6_run 64 = .ok (.istore_n 2, 1) := by decide +kernel
theorem dX6_run_65 : decode cX6_run 65 = .ok (.iload_n 1, 1) := by decide +kernel
theorem dX6_run_66 : decode cX6_run 66 = .ok (.iload_n 2, 1) := by decide +kernel
theorem dX6_run_67 : decode cX6_run 67 = .ok (.ifCond .eq 7, 3) := by decide +kernel
theorem dX6_run_70 : decode cX6_run 70 = .ok (.iconst 1, 1) := by decide +kernel
theorem dX6_run_71 : decode cX6_run 71 = .ok (.goto 4, 3) := by decide +kernel
theorem dX6_run_74 : decode cX6_run 74 = .ok (.iconst 0, 1) := by decide +kernel
theorem dX6_run_75 : decode cX6_run 75 = .ok (.iadd, 1) := by decide +kernel
theorem dX6_run_76 : decode cX6_run 76 = .ok (.istore_n 1, 1) := by decide +kernel
theorem dX6_run_77 : decode cX6_run 77 = .ok (.goto (-54), 3) := by decide +kernel
theorem dX6_run_80 : decode cX6_run 80 = .ok (.aload_n 0, 1) := by decide +kernel
theorem dX6_run_81 : decode cX6_run 81 = .ok (.iload_n 1, 1) := by decide +kernel
theorem dX6_run_82 : decode cX6_run 82 = .ok (.invokevirtual 98, 3) := by decide +kernel
theorem dX6_run_85 : decode cX6_run 85 = .ok (.ireturn, 1) := by decide +kernel
theorem dX6_undo_0 : decode cX6_undo 0 = .ok (.aload_n 0, 1) := by decide +kernel
theorem dX6_undo_1 : decode cX6_undo 1 = .ok (.getfield 26, 3) := by decide +kernel
theorem dX6_undo_4 : decode cX6_undo 4 = .ok (.ifCond .ne 6, 3) := by decide +kernel
theorem dX6_undo_7 : decode cX6_undo 7 = .ok (.bipush (-6), 2) := by decide +kernel
theorem dX6_undo_9 : decode cX6_undo 9 = .ok (.ireturn, 1) := by decide +kernel
theorem dX6_undo_10 : decode cX6_undo 10 = .ok (.aload_n 0, 1) := by decide +kernel
theorem dX6_undo_11 : decode cX6_undo 11 = .ok (.dup, 1) := by decide +kernel
theorem dX6_undo_12 : decode cX6_undo 12 = .ok (.getfield 26, 3) := by decide +kernel
theorem dX6_undo_15 : decode cX6_undo 15 = .ok (.iconst 1, 1) := by decide +kernel
theorem dX6_undo_16 : decode cX6_undo 16 = .ok (.isub, 1) := by decide +kernel
theorem dX6_undo_17 : decode cX6_undo 17 = .ok (.putfield 26, 3) := by decide +kernel
theorem dX6_undo_20 : decode cX6_undo 20 = .ok (.aload_n 0, 1) := by decide +kernel
theorem dX6_undo_21 : decode cX6_undo 21 = .ok (.getfield 16, 3) := by decide +kernel
theorem dX6_undo_24 : decode cX6_undo 24 = .ok (.sipush 344, 3) := by decide +kernel
theorem dX6_undo_27 : decode cX6_undo 27 = .ok (.aload_n 0, 1) := by decide +kernel
theorem dX6_undo_28 : decode cX6_undo 28 = .ok (.getfield 26, 3) := by decide +kernel
theorem dX6_undo_31 : decode cX6_undo 31 = .ok (.imul, 1) := by decide +kernel
theorem dX6_undo_32 : decode cX6_undo 32 = .ok (.aload_n 0, 1) := by decide +kernel
theorem dX6_undo_33 : decode cX6_undo 33 = .ok (.getfield 7, 3) := by decide +kernel
theorem dX6_undo_36 : decode cX6_undo 36 = .ok (.iconst 0, 1) := by decide +kernel
theorem dX6_undo_37 : decode cX6_undo 37 = .ok (.invokestatic 22, 3) := by decide +kernel
theorem dX6_undo_40 : decode cX6_undo 40 = .ok (.aload_n 0, 1) := by decide +kernel
theorem dX6_undo_41 : decode cX6_undo 41 = .ok (.getfield 26, 3) := by decide +kernel
theorem dX6_undo_44 : decode cX6_undo 44 = .ok (.ireturn, 1) := by decide +kernel
theorem dX6_sessions_0 : decode cX6_sessions 0 = .ok (.aload_n 0, 1) := by decide +kernel
theorem dX6_sessions_1 : decode cX6_sessions 1 = .ok (.getfield 7, 3) := by decide +kernel
theorem dX6_sessions_4 : decode cX6_sessions 4 = .ok (.iconst 1, 1) := by decide +kernel
theorem dX6_sessions_5 : decode cX6_sessions 5 = .ok (.iaload, 1) := by decide +kernel
theorem dX6_sessions_6 : decode cX6_sessions 6 = .ok (.ireturn, 1) := by decide +kernel
theorem dX6_session_0 : decode cX6_session 0 = .ok (.aload_n 0, 1) := by decide +kernel
theorem dX6_session_1 : decode cX6_session 1 = .ok (.iload_n 1, 1) := by decide +kernel
theorem dX6_session_2 : decode cX6_session 2 = .ok (.invokevirtual 80, 3) := by decide +kernel
theorem dX6_session_5 : decode cX6_session 5 = .ok (.ifCond .ne 5, 3) := by decide +kernel
theorem dX6_session_8 : decode cX6_session 8 = .ok (.iconst (-1), 1) := by decide +kernel
theorem dX6_session_9 : decode cX6_session 9 = .ok (.ireturn, 1) := by decide +kernel
theorem dX6_session_10 : decode cX6_session 10 = .ok (.iload_n 2, 1) := by decide +kernel
theorem dX6_session_11 : decode cX6_session 11 = .ok (.tableswitch 79 0 7 #[45, 45, 45, 45, 45, 52, 58, 72], 45) := by decide +kernel
theorem dX6_session_56 : decode cX6_session 56 = .ok (.aload_n 0, 1) := by decide +kernel
theorem dX6_session_57 : decode cX6_session 57 = .ok (.iload_n 1, 1) := by decide +kernel
theorem dX6_session_58 : decode cX6_session 58 = .ok (.iload_n 2, 1) := by decide +kernel
theorem dX6_session_59 : decode cX6_session 59 = .ok (.invokevirtual 34, 3) := by decide +kernel
theorem dX6_session_62 : decode cX6_session 62 = .ok (.ireturn, 1) := by decide +kernel
theorem dX6_session_63 : decode cX6_session 63 = .ok (.aload_n 0, 1) := by decide +kernel
theorem dX6_session_64 : decode cX6_session 64 = .ok (.iload_n 1, 1) := by decide +kernel
theorem dX6_session_65 : decode cX6_session 65 = .ok (.invokevirtual 77, 3) := by decide +kernel
theorem dX6_session_68 : decode cX6_session 68 = .ok (.ireturn, 1) := by decide +kernel
theorem dX6_session_69 : decode cX6_session 69 = .ok (.aload_n 0, 1) := by decide +kernel
theorem dX6_session_70 : decode cX6_session 70 = .ok (.iload_n 1, 1) := by decide +kernel
theorem dX6_session_71 : decode cX6_session 71 = .ok (.invokevirtual 49, 3) := by decide +kernel
theorem dX6_session_74 : decode cX6_session 74 = .ok (.ifCond .eq 7, 3) := by decide +kernel
theorem dX6_session_77 : decode cX6_session 77 = .ok (.iconst 1, 1) := by decide +kernel
theorem dX6_session_78 : decode cX6_session 78 = .ok (.goto 4, 3) := by decide +kernel
theorem dX6_session_81 : decode cX6_session 81 = .ok (.iconst 0, 1) := by decide +kernel
theorem dX6_session_82 : decode cX6_session 82 = .ok (.ireturn, 1) := by decide +kernel
theorem dX6_session_83 : decode cX6_session 83 = .ok (.aload_n 0, 1) := by decide +kernel
theorem dX6_session_84 : decode cX6_session 84 = .ok (.iload_n 1, 1) := by decide +kernel
theorem dX6_session_85 : decode cX6_session 85 = .ok (.iconst 5, 1) := by decide +kernel
theorem dX6_session_86 : decode cX6_session 86 = .ok (.invokevirtual 34, 3) := by decide +kernel
theorem dX6_session_89 : decode cX6_session 89 = .ok (.ireturn, 1) := by decide +kernel
theorem dX6_session_90 : decode cX6_session 90 = .ok (.bipush (-2), 2) := by decide +kernel
theorem dX6_session_92 : decode cX6_session 92 = .ok (.ireturn, 1) := by decide +kernel
theorem dX6_entry_0 : decode cX6_entry 0 = .ok (.aload_n 0, 1) := by decide +kernel
theorem dX6_entry_1 : decode cX6_entry 1 = .ok (.iload_n 1, 1) := by decide +kernel
theorem dX6_entry_2 : decode cX6_entry 2 = .ok (.invokevirtual 80, 3) := by decide +kernel
theorem dX6_entry_5 : decode cX6_entry 5 = .ok (.ifCond .eq 10, 3) := by decide +kernel
theorem dX6_entry_8 : decode cX6_entry 8 = .ok (.iload_n 2, 1) := by decide +kernel
theorem dX6_entry_9 : decode cX6_entry 9 = .ok (.invokestatic 74, 3) := by decide +kernel
theorem dX6_entry_12 : decode cX6_entry 12 = .ok (.ifCond .ne 5, 3) := by decide +kernel
theorem dX6_entry_15 : decode cX6_entry 15 = .ok (.iconst (-1), 1) := by decide +kernel
theorem dX6_entry_16 : decode cX6_entry 16 = .ok (.ireturn, 1) := by decide +kernel
theorem dX6_entry_17 : decode cX6_entry 17 = .ok (.iload_n 3, 1) := by decide +kernel
theorem dX6_entry_18 : decode cX6_entry 18 = .ok (.iconst 0, 1) := by decide +kernel
theorem dX6_entry_19 : decode cX6_entry 19 = .ok (.iconst 2, 1) := by decide +kernel
theorem dX6_entry_20 : decode cX6_entry 20 = .ok (.invokestatic 30, 3) := by decide +kernel
theorem dX6_entry_23 : decode cX6_entry 23 = .ok (.ifCond .ne 6, 3) := by decide +kernel
theorem dX6_entry_26 : decode cX6_entry 26 = .ok (.bipush (-2), 2) := by decide +kernel
theorem dX6_entry_28 : decode cX6_entry 28 = .ok (.ireturn, 1) := by decide +kernel
theorem dX6_entry_29 : decode cX6_entry 29 = .ok (.aload_n 0, 1) := by decide +kernel
theorem dX6_entry_30 : decode cX6_entry 30 = .ok (.iload_n 1, 1) := by decide +kernel
theorem dX6_entry_31 : decode cX6_entry 31 = .ok (.iload_n 2, 1) := by decide +kernel
theorem dX6_entry_32 : decode cX6_entry 32 = .ok (.invokevirtual 38, 3) := by decide +kernel
theorem dX6_entry_35 : decode cX6_entry 35 = .ok (.istore 4, 2) := by decide +kernel
theorem dX6_entry_37 : decode cX6_entry 37 = .ok (.iload 4, 2) := by decide +kernel
theorem dX6_entry_39 : decode cX6_entry 39 = .ok (.ifCond .ne 6, 3) := by decide +kernel
theorem dX6_entry_42 : decode cX6_entry 42 = .ok (.bipush (-6), 2) := by decide +kernel
theorem dX6_entry_44 : decode cX6_entry 44 = .ok (.ireturn, 1) := by decide +kernel
theorem dX6_entry_45 : decode cX6_entry 45 = .ok (.iload_n 3, 1) := by decide +kernel
theorem dX6_entry_46 : decode cX6_entry 46 = .ok (.ifCond .ne 11, 3) := by decide +kernel
theorem dX6_entry_49 : decode cX6_entry 49 = .ok (.iload 4, 2) := by decide +kernel
theorem dX6_entry_51 : decode cX6_entry 51 = .ok (.invokestatic 52, 3) := by decide +kernel
theorem dX6_entry_54 : decode cX6_entry 54 = .ok (.goto 25, 3) := by decide +kernel
theorem dX6_entry_57 : decode cX6_entry 57 = .ok (.iload_n 3, 1) := by decide +kernel
theorem dX6_entry_58 : decode cX6_entry 58 = .ok (.iconst 1, 1) := by decide +kernel
theorem dX6_entry_59 : decode cX6_entry 59 = .ok (.if_icmp .ne 11, 3) := by decide +kernel
theorem dX6_entry_62 : decode cX6_entry 62 = .ok (.iload 4, 2) := by decide +kernel
theorem dX6_entry_64 : decode cX6_entry 64 = .ok (.invokestatic 56, 3) := by decide +kernel
theorem dX6_entry_67 : decode cX6_entry 67 = .ok (.goto 12, 3) := by decide +kernel
theorem dX6_entry_70 : decode cX6_entry 70 = .ok (.aload_n 0, 1) := by decide +kernel
theorem dX6_entry_71 : decode cX6_entry 71 = .ok (.iload 4, 2) := by decide +kernel
theorem dX6_entry_73 : decode cX6_entry 73 = .ok (.invokestatic 52, 3) := by decide +kernel
theorem dX6_entry_76 : decode cX6_entry 76 = .ok (.invokevirtual 164, 3) := by decide +kernel
theorem dX6_entry_79 : decode cX6_entry 79 = .ok (.ireturn, 1) := by decide +kernel
theorem dX6_valid_0 : decode cX6_valid 0 = .ok (.aload_n 0, 1) := by decide +kernel
theorem dX6_valid_1 : decode cX6_valid 1 = .ok (.invokevirtual 67, 3) := by decide +kernel
theorem dX6_valid_4 : decode cX6_valid 4 = .ok (.ireturn, 1) := by decide +kernel
theorem dX6_next_0 : decode cX6_next 0 = .ok (.aload_n 0, 1) := by decide +kernel
theorem dX6_next_1 : decode cX6_next 1 = .ok (.getfield 7, 3) := by decide +kernel
theorem dX6_next_4 : decode cX6_next 4 = .ok (.iconst 0, 1) := by decide +kernel
theorem dX6_next_5 : decode cX6_next 5 = .ok (.iaload, 1) := by decide +kernel
theorem dX6_next_6 : decode cX6_next 6 = .ok (.ireturn, 1) := by decide +kernel
theorem dX6_damaged_0 : decode cX6_damaged 0 = .ok (.iload_n 1, 1) := by decide +kernel
theorem dX6_damaged_1 : decode cX6_damaged 1 = .ok (.invokestatic 86, 3) := by decide +kernel
theorem dX6_damaged_4 : decode cX6_damaged 4 = .ok (.ifCond .ne 7, 3) := by decide +kernel
theorem dX6_damaged_7 : decode cX6_damaged 7 = .ok (.iconst (-1), 1) := by decide +kernel
theorem dX6_damaged_8 : decode cX6_damaged 8 = .ok (.goto 16, 3) := by decide +kernel
theorem dX6_damaged_11 : decode cX6_damaged 11 = .ok (.aload_n 0, 1) := by decide +kernel
theorem dX6_damaged_12 : decode cX6_damaged 12 = .ok (.iload_n 1, 1) := by decide +kernel
theorem dX6_damaged_13 : decode cX6_damaged 13 = .ok (.invokevirtual 41, 3) := by decide +kernel
theorem dX6_damaged_16 : decode cX6_damaged 16 = .ok (.ifCond .eq 7, 3) := by decide +kernel
theorem dX6_damaged_19 : decode cX6_damaged 19 = .ok (.iconst 1, 1) := by decide +kernel
theorem dX6_damaged_20 : decode cX6_damaged 20 = .ok (.goto 4, 3) := by decide +kernel
theorem dX6_damaged_23 : decode cX6_damaged 23 = .ok (.iconst 0, 1) := by decide +kernel
theorem dX6_damaged_24 : decode cX6_damaged 24 = .ok (.ireturn, 1) := by decide +kernel
theorem dX6_use_0 : decode cX6_use 0 = .ok (.iload_n 1, 1) := by decide +kernel
theorem dX6_use_1 : decode cX6_use 1 = .ok (.invokestatic 86, 3) := by decide +kernel
theorem dX6_use_4 : decode cX6_use 4 = .ok (.ifCond .ne 5, 3) := by decide +kernel
theorem dX6_use_7 : decode cX6_use 7 = .ok (.iconst (-1), 1) := by decide +kernel
theorem dX6_use_8 : decode cX6_use 8 = .ok (.ireturn, 1) := by decide +kernel
theorem dX6_use_9 : decode cX6_use 9 = .ok (.aload_n 0, 1) := by decide +kernel
theorem dX6_use_10 : decode cX6_use 10 = .ok (.iload_n 1, 1) := by decide +kernel
theorem dX6_use_11 : decode cX6_use 11 = .ok (.invokevirtual 164, 3) := by decide +kernel
theorem dX6_use_14 : decode cX6_use 14 = .ok (.istore_n 2, 1) := by decide +kernel
theorem dX6_use_15 : decode cX6_use 15 = .ok (.iload_n 2, 1) := by decide +kernel
theorem dX6_use_16 : decode cX6_use 16 = .ok (.ifCond .ge 5, 3) := by decide +kernel
theorem dX6_use_19 : decode cX6_use 19 = .ok (.iconst 0, 1) := by decide +kernel
theorem dX6_use_20 : decode cX6_use 20 = .ok (.ireturn, 1) := by decide +kernel
theorem dX6_use_21 : decode cX6_use 21 = .ok (.iload_n 1, 1) := by decide +kernel
theorem dX6_use_22 : decode cX6_use 22 = .ok (.aload_n 0, 1) := by decide +kernel
theorem dX6_use_23 : decode cX6_use 23 = .ok (.iload_n 2, 1) := by decide +kernel
theorem dX6_use_24 : decode cX6_use 24 = .ok (.iconst 1, 1) := by decide +kernel
theorem dX6_use_25 : decode cX6_use 25 = .ok (.invokevirtual 34, 3) := by decide +kernel
theorem dX6_use_28 : decode cX6_use 28 = .ok (.isub, 1) := by decide +kernel
theorem dX6_use_29 : decode cX6_use 29 = .ok (.istore_n 3, 1) := by decide +kernel
theorem dX6_use_30 : decode cX6_use 30 = .ok (.aload_n 0, 1) := by decide +kernel
theorem dX6_use_31 : decode cX6_use 31 = .ok (.iload_n 2, 1) := by decide +kernel
theorem dX6_use_32 : decode cX6_use 32 = .ok (.iconst 0, 1) := by decide +kernel
theorem dX6_use_33 : decode cX6_use 33 = .ok (.invokevirtual 34, 3) := by decide +kernel
theorem dX6_use_36 : decode cX6_use 36 = .ok (.iconst 1, 1) := by decide +kernel
theorem dX6_use_37 : decode cX6_use 37 = .ok (.if_icmp .ne 24, 3) := by decide +kernel
theorem dX6_use_40 : decode cX6_use 40 = .ok (.iload_n 3, 1) := by decide +kernel
theorem dX6_use_41 : decode cX6_use 41 = .ok (.aload_n 0, 1) := by decide +kernel
theorem dX6_use_42 : decode cX6_use 42 = .ok (.iload_n 2, 1) := by decide +kernel
theorem dX6_use_43 : decode cX6_use 43 = .ok (.iconst 2, 1) := by decide +kernel
theorem dX6_use_44 : decode cX6_use 44 = .ok (.invokevirtual 34, 3) := by decide +kernel
theorem dX6_use_47 : decode cX6_use 47 = .ok (.aload_n 0, 1) := by decide +kernel
theorem dX6_use_48 : decode cX6_use 48 = .ok (.iload_n 2, 1) := by decide +kernel
theorem dX6_use_49 : decode cX6_use 49 = .ok (.iconst 4, 1) := by decide +kernel
theorem dX6_use_50 : decode cX6_use 50 = .ok (.invokevirtual 34, 3) := by decide +kernel
theorem dX6_use_53 : decode cX6_use 53 = .ok (.isub, 1) := by decide +kernel
theorem dX6_use_54 : decode cX6_use 54 = .ok (.if_icmp .lt 7, 3) := by decide +kernel
theorem dX6_use_57 : decode cX6_use 57 = .ok (.iconst 1, 1) := by decide +kernel
theorem dX6_use_58 : decode cX6_use 58 = .ok (.goto 4, 3) := by decide +kernel
theorem dX6_use_61 : decode cX6_use 61 = .ok (.iconst 0, 1) := by decide +kernel
theorem dX6_use_62 : decode cX6_use 62 = .ok (.istore 4, 2) := by decide +kernel
theorem dX6_use_64 : decode cX6_use 64 = .ok (.iload_n 3, 1) := by decide +kernel
theorem dX6_use_65 : decode cX6_use 65 = .ok (.aload_n 0, 1) := by decide +kernel
theorem dX6_use_66 : decode cX6_use 66 = .ok (.iload_n 2, 1) := by decide +kernel
theorem dX6_use_67 : decode cX6_use 67 = .ok (.iconst 3, 1) := by decide +kernel
theorem dX6_use_68 : decode cX6_use 68 = .ok (.invokevirtual 34, 3) := by decide +kernel
theorem dX6_use_71 : decode cX6_use 71 = .ok (.if_icmp .ge 7, 3) := by decide +kernel
theorem dX6_use_74 : decode cX6_use 74 = .ok (.iconst 1, 1) := by decide +kernel
theorem dX6_use_75 : decode cX6_use 75 = .ok (.goto 13, 3) := by decide +kernel
theorem dX6_use_78 : decode cX6_use 78 = .ok (.iload 4, 2) := by decide +kernel
theorem dX6_use_80 : decode cX6_use 80 = .ok (.ifCond .eq 7, 3) := by decide +kernel
theorem dX6_use_83 : decode cX6_use 83 = .ok (.iconst 2, 1) := by decide +kernel
theorem dX6_use_84 : decode cX6_use 84 = .ok (.goto 4, 3) := by decide +kernel
theorem dX6_use_87 : decode cX6_use 87 = .ok (.iconst 3, 1) := by decide +kernel
theorem dX6_use_88 : decode cX6_use 88 = .ok (.ireturn, 1) := by decide +kernel
theorem dX6_setting_0 : decode cX6_setting 0 = .ok (.iload_n 1, 1) := by decide +kernel
theorem dX6_setting_1 : decode cX6_setting 1 = .ok (.iconst 0, 1) := by decide +kernel
theorem dX6_setting_2 : decode cX6_setting 2 = .ok (.iconst 1, 1) := by decide +kernel
theorem dX6_setting_3 : decode cX6_setting 3 = .ok (.invokestatic 30, 3) := by decide +kernel
theorem dX6_setting_6 : decode cX6_setting 6 = .ok (.ifCond .eq 14, 3) := by decide +kernel
theorem dX6_setting_9 : decode cX6_setting 9 = .ok (.aload_n 0, 1) := by decide +kernel
theorem dX6_setting_10 : decode cX6_setting 10 = .ok (.getfield 7, 3) := by decide +kernel
theorem dX6_setting_13 : decode cX6_setting 13 = .ok (.iconst 2, 1) := by decide +kernel
theorem dX6_setting_14 : decode cX6_setting 14 = .ok (.iload_n 1, 1) := by decide +kernel
theorem dX6_setting_15 : decode cX6_setting 15 = .ok (.iadd, 1) := by decide +kernel
theorem dX6_setting_16 : decode cX6_setting 16 = .ok (.iaload, 1) := by decide +kernel
theorem dX6_setting_17 : decode cX6_setting 17 = .ok (.goto 4, 3) := by decide +kernel
theorem dX6_setting_20 : decode cX6_setting 20 = .ok (.iconst (-1), 1) := by decide +kernel
theorem dX6_setting_21 : decode cX6_setting 21 = .ok (.ireturn, 1) := by decide +kernel
theorem dX6_found_0 : decode cX6_found 0 = .ok (.aload_n 0, 1) := by decide +kernel
theorem dX6_found_1 : decode cX6_found 1 = .ok (.invokevirtual 67, 3) := by decide +kernel
theorem dX6_found_4 : decode cX6_found 4 = .ok (.ifCond .ge 7, 3) := by decide +kernel
theorem dX6_found_7 : decode cX6_found 7 = .ok (.iconst 0, 1) := by decide +kernel
theorem dX6_found_8 : decode cX6_found 8 = .ok (.goto 12, 3) := by decide +kernel
theorem dX6_found_11 : decode cX6_found 11 = .ok (.aload_n 0, 1) := by decide +kernel
theorem dX6_found_12 : decode cX6_found 12 = .ok (.aload_n 0, 1) := by decide +kernel
theorem dX6_found_13 : decode cX6_found 13 = .ok (.invokevirtual 67, 3) := by decide +kernel
theorem dX6_found_16 : decode cX6_found 16 = .ok (.iload_n 1, 1) := by decide +kernel
theorem dX6_found_17 : decode cX6_found 17 = .ok (.invokevirtual 38, 3) := by decide +kernel
theorem dX6_found_20 : decode cX6_found 20 = .ok (.ireturn, 1) := by decide +kernel
theorem dX6_find_0 : decode cX6_find 0 = .ok (.iload_n 1, 1) := by decide +kernel
theorem dX6_find_1 : decode cX6_find 1 = .ok (.invokestatic 74, 3) := by decide +kernel
theorem dX6_find_4 : decode cX6_find 4 = .ok (.ifCond .ne 5, 3) := by decide +kernel
theorem dX6_find_7 : decode cX6_find 7 = .ok (.iconst (-1), 1) := by decide +kernel
theorem dX6_find_8 : decode cX6_find 8 = .ok (.ireturn, 1) := by decide +kernel
theorem dX6_find_9 : decode cX6_find 9 = .ok (.aload_n 0, 1) := by decide +kernel
theorem dX6_find_10 : decode cX6_find 10 = .ok (.iload_n 1, 1) := by decide +kernel
theorem dX6_find_11 : decode cX6_find 11 = .ok (.invokevirtual 167, 3) := by decide +kernel
theorem dX6_find_14 : decode cX6_find 14 = .ok (.ifCond .ne 8, 3) := by decide +kernel
theorem dX6_find_17 : decode cX6_find 17 = .ok (.bipush (-6), 2) := by decide +kernel
theorem dX6_find_19 : decode cX6_find 19 = .ok (.goto 11, 3) := by decide +kernel
theorem dX6_find_22 : decode cX6_find 22 = .ok (.aload_n 0, 1) := by decide +kernel
theorem dX6_find_23 : decode cX6_find 23 = .ok (.iload_n 1, 1) := by decide +kernel
theorem dX6_find_24 : decode cX6_find 24 = .ok (.invokevirtual 167, 3) := by decide +kernel
theorem dX6_find_27 : decode cX6_find 27 = .ok (.invokestatic 52, 3) := by decide +kernel
theorem dX6_find_30 : decode cX6_find 30 = .ok (.ireturn, 1) := by decide +kernel
theorem dX6_intact_0 : decode cX6_intact 0 = .ok (.iload_n 1, 1) := by decide +kernel
theorem dX6_intact_1 : decode cX6_intact 1 = .ok (.invokestatic 74, 3) := by decide +kernel
theorem dX6_intact_4 : decode cX6_intact 4 = .ok (.ifCond .ne 5, 3) := by decide +kernel
theorem dX6_intact_7 : decode cX6_intact 7 = .ok (.iconst (-1), 1) := by decide +kernel
theorem dX6_intact_8 : decode cX6_intact 8 = .ok (.ireturn, 1) := by decide +kernel
theorem dX6_intact_9 : decode cX6_intact 9 = .ok (.aload_n 0, 1) := by decide +kernel
theorem dX6_intact_10 : decode cX6_intact 10 = .ok (.iload_n 1, 1) := by decide +kernel
theorem dX6_intact_11 : decode cX6_intact 11 = .ok (.invokevirtual 167, 3) := by decide +kernel
theorem dX6_intact_14 : decode cX6_intact 14 = .ok (.ifCond .ne 8, 3) := by decide +kernel
theorem dX6_intact_17 : decode cX6_intact 17 = .ok (.bipush (-6), 2) := by decide +kernel
theorem dX6_intact_19 : decode cX6_intact 19 = .ok (.goto 20, 3) := by decide +kernel
theorem dX6_intact_22 : decode cX6_intact 22 = .ok (.aload_n 0, 1) := by decide +kernel
theorem dX6_intact_23 : decode cX6_intact 23 = .ok (.aload_n 0, 1) := by decide +kernel
theorem dX6_intact_24 : decode cX6_intact 24 = .ok (.iload_n 1, 1) := by decide +kernel
theorem dX6_intact_25 : decode cX6_intact 25 = .ok (.invokevirtual 167, 3) := by decide +kernel
theorem dX6_intact_28 : decode cX6_intact 28 = .ok (.invokevirtual 170, 3) := by decide +kernel
theorem dX6_intact_31 : decode cX6_intact 31 = .ok (.ifCond .eq 7, 3) := by decide +kernel
theorem dX6_intact_34 : decode cX6_intact 34 = .ok (.iconst 1, 1) := by decide +kernel
theorem dX6_intact_35 : decode cX6_intact 35 = .ok (.goto 4, 3) := by decide +kernel
theorem dX6_intact_38 : decode cX6_intact 38 = .ok (.iconst 0, 1) := by decide +kernel
theorem dX6_intact_39 : decode cX6_intact 39 = .ok (.ireturn, 1) := by decide +kernel
theorem dX6_wholeFiles_0 : decode cX6_wholeFiles 0 = .ok (.iconst 0, 1) := by decide +kernel
theorem dX6_wholeFiles_1 : decode cX6_wholeFiles 1 = .ok (.istore_n 1, 1) := by decide +kernel
theorem dX6_wholeFiles_2 : decode cX6_wholeFiles 2 = .ok (.aload_n 0, 1) := by decide +kernel
theorem dX6_wholeFiles_3 : decode cX6_wholeFiles 3 = .ok (.invokevirtual 67, 3) := by decide +kernel
theorem dX6_wholeFiles_6 : decode cX6_wholeFiles 6 = .ok (.istore_n 2, 1) := by decide +kernel
theorem dX6_wholeFiles_7 : decode cX6_wholeFiles 7 = .ok (.iconst 0, 1) := by decide +kernel
theorem dX6_wholeFiles_8 : decode cX6_wholeFiles 8 = .ok (.istore_n 3, 1) := by decide +kernel
theorem dX6_wholeFiles_9 : decode cX6_wholeFiles 9 = .ok (.iload_n 3, 1) := by decide +kernel
theorem dX6_wholeFiles_10 : decode cX6_wholeFiles 10 = .ok (.bipush 20, 2) := by decide +kernel
theorem dX6_wholeFiles_12 : decode cX6_wholeFiles 12 = .ok (.if_icmp .ge 43, 3) := by decide +kernel
theorem dX6_wholeFiles_15 : decode cX6_wholeFiles 15 = .ok (.iload_n 2, 1) := by decide +kernel
theorem dX6_wholeFiles_16 : decode cX6_wholeFiles 16 = .ok (.ifCond .lt 39, 3) := by decide +kernel
theorem dX6_wholeFiles_19 : decode cX6_wholeFiles 19 = .ok (.aload_n 0, 1) := by decide +kernel
theorem dX6_wholeFiles_20 : decode cX6_wholeFiles 20 = .ok (.iload_n 2, 1) := by decide +kernel
theorem dX6_wholeFiles_21 : decode cX6_wholeFiles 21 = .ok (.iload_n 3, 1) := by decide +kernel
theorem dX6_wholeFiles_22 : decode cX6_wholeFiles 22 = .ok (.invokevirtual 38, 3) := by decide +kernel
theorem dX6_wholeFiles_25 : decode cX6_wholeFiles 25 = .ok (.istore 4, 2) := by decide +kernel
theorem dX6_wholeFiles_27 : decode cX6_wholeFiles 27 = .ok (.iload_n 1, 1) := by decide +kernel
theorem dX6_wholeFiles_28 : decode cX6_wholeFiles 28 = .ok (.iload 4, 2) := by decide +kernel
theorem dX6_wholeFiles_30 : decode cX6_wholeFiles 30 = .ok (.ifCond .le 16, 3) := by decide +kernel
theorem dX6_wholeFiles_33 : decode cX6_wholeFiles 33 = .ok (.aload_n 0, 1) := by decide +kernel
theorem dX6_wholeFiles_34 : decode cX6_wholeFiles 34 = .ok (.iload 4, 2) := by decide +kernel
theorem dX6_wholeFiles_36 : decode cX6_wholeFiles 36 = .ok (.invokevirtual 170, 3) := by decide +kernel
theorem dX6_wholeFiles_39 : decode cX6_wholeFiles 39 = .ok (.ifCond .eq 7, 3) := by decide +kernel
theorem dX6_wholeFiles_42 : decode cX6_wholeFiles 42 = .ok (.iconst 1, 1) := by decide +kernel
theorem dX6_wholeFiles_43 : decode cX6_wholeFiles 43 = .ok (.goto 4, 3) := by decide +kernel
theorem dX6_wholeFiles_46 : decode cX6_wholeFiles 46 = .ok (.iconst 0, 1) := by decide +kernel
theorem dX6_wholeFiles_47 : decode cX6_wholeFiles 47 = .ok (.iadd, 1) := by decide +kernel
theorem dX6_wholeFiles_48 : decode cX6_wholeFiles 48 = .ok (.istore_n 1, 1) := by decide +kernel
theorem dX6_wholeFiles_49 : decode cX6_wholeFiles 49 = .ok (.iinc 3 1, 3) := by decide +kernel
theorem dX6_wholeFiles_52 : decode cX6_wholeFiles 52 = .ok (.goto (-43), 3) := by decide +kernel
theorem dX6_wholeFiles_55 : decode cX6_wholeFiles 55 = .ok (.iload_n 1, 1) := by decide +kernel
theorem dX6_wholeFiles_56 : decode cX6_wholeFiles 56 = .ok (.ireturn, 1) := by decide +kernel
theorem dX6_intactFiles_0 : decode cX6_intactFiles 0 = .ok (.aload_n 0, 1) := by decide +kernel
theorem dX6_intactFiles_1 : decode cX6_intactFiles 1 = .ok (.invokevirtual 173, 3) := by decide +kernel
theorem dX6_intactFiles_4 : decode cX6_intactFiles 4 = .ok (.ireturn, 1) := by decide +kernel
theorem dX6_versions_0 : decode cX6_versions 0 = .ok (.iload_n 1, 1) := by decide +kernel
theorem dX6_versions_1 : decode cX6_versions 1 = .ok (.invokestatic 74, 3) := by decide +kernel
theorem dX6_versions_4 : decode cX6_versions 4 = .ok (.ifCond .eq 15, 3) := by decide +kernel
theorem dX6_versions_7 : decode cX6_versions 7 = .ok (.aload_n 0, 1) := by decide +kernel
theorem dX6_versions_8 : decode cX6_versions 8 = .ok (.getfield 7, 3) := by decide +kernel
theorem dX6_versions_11 : decode cX6_versions 11 = .ok (.bipush 12, 2) := by decide +kernel
theorem dX6_versions_13 : decode cX6_versions 13 = .ok (.iload_n 1, 1) := by decide +kernel
theorem dX6_versions_14 : decode cX6_versions 14 = .ok (.iadd, 1) := by decide +kernel
theorem dX6_versions_15 : decode cX6_versions 15 = .ok (.iaload, 1) := by decide +kernel
theorem dX6_versions_16 : decode cX6_versions 16 = .ok (.goto 4, 3) := by decide +kernel
theorem dX6_versions_19 : decode cX6_versions 19 = .ok (.iconst (-1), 1) := by decide +kernel
theorem dX6_versions_20 : decode cX6_versions 20 = .ok (.ireturn, 1) := by decide +kernel
theorem dX6_latestIntact_0 : decode cX6_latestIntact 0 = .ok (.iload_n 1, 1) := by decide +kernel
theorem dX6_latestIntact_1 : decode cX6_latestIntact 1 = .ok (.invokestatic 74, 3) := by decide +kernel
theorem dX6_latestIntact_4 : decode cX6_latestIntact 4 = .ok (.ifCond .ne 5, 3) := by decide +kernel
theorem dX6_latestIntact_7 : decode cX6_latestIntact 7 = .ok (.iconst (-1), 1) := by decide +kernel
theorem dX6_latestIntact_8 : decode cX6_latestIntact 8 = .ok (.ireturn, 1) := by decide +kernel
theorem dX6_latestIntact_9 : decode cX6_latestIntact 9 = .ok (.bipush (-6), 2) := by decide +kernel
theorem dX6_latestIntact_11 : decode cX6_latestIntact 11 = .ok (.istore_n 2, 1) := by decide +kernel
theorem dX6_latestIntact_12 : decode cX6_latestIntact 12 = .ok (.iconst 0, 1) := by decide +kernel
theorem dX6_latestIntact_13 : decode cX6_latestIntact 13 = .ok (.istore_n 3, 1) := by decide +kernel
theorem dX6_latestIntact_14 : decode cX6_latestIntact 14 = .ok (.iload_n 3, 1) := by decide +kernel
theorem dX6_latestIntact_15 : decode cX6_latestIntact 15 = .ok (.aload_n 0, 1) := by decide +kernel
theorem dX6_latestIntact_16 : decode cX6_latestIntact 16 = .ok (.getfield 7, 3) := by decide +kernel
theorem dX6_latestIntact_19 : decode cX6_latestIntact 19 = .ok (.iconst 1, 1) := by decide +kernel
theorem dX6_latestIntact_20 : decode cX6_latestIntact 20 = .ok (.iaload, 1) := by decide +kernel
theorem dX6_latestIntact_21 : decode cX6_latestIntact 21 = .ok (.if_icmp .ge 45, 3) := by decide +kernel
theorem dX6_latestIntact_24 : decode cX6_latestIntact 24 = .ok (.aload_n 0, 1) := by decide +kernel
theorem dX6_latestIntact_25 : decode cX6_latestIntact 25 = .ok (.iload_n 3, 1) := by decide +kernel
theorem dX6_latestIntact_26 : decode cX6_latestIntact 26 = .ok (.iload_n 1, 1) := by decide +kernel
theorem dX6_latestIntact_27 : decode cX6_latestIntact 27 = .ok (.invokevirtual 38, 3) := by decide +kernel
theorem dX6_latestIntact_30 : decode cX6_latestIntact 30 = .ok (.istore 4, 2) := by decide +kernel
theorem dX6_latestIntact_32 : decode cX6_latestIntact 32 = .ok (.aload_n 0, 1) := by decide +kernel
theorem dX6_latestIntact_33 : decode cX6_latestIntact 33 = .ok (.iload_n 3, 1) := by decide +kernel
theorem dX6_latestIntact_34 : decode cX6_latestIntact 34 = .ok (.invokevirtual 49, 3) := by decide +kernel
theorem dX6_latestIntact_37 : decode cX6_latestIntact 37 = .ok (.ifCond .eq 21, 3) := by decide +kernel
theorem dX6_latestIntact_40 : decode cX6_latestIntact 40 = .ok (.iload 4, 2) := by decide +kernel
theorem dX6_latestIntact_42 : decode cX6_latestIntact 42 = .ok (.ifCond .le 16, 3) := by decide +kernel
theorem dX6_latestIntact_45 : decode cX6_latestIntact 45 = .ok (.aload_n 0, 1) := by decide +kernel
theorem dX6_latestIntact_46 : decode cX6_latestIntact 46 = .ok (.iload 4, 2) := by decide +kernel
theorem dX6_latestIntact_48 : decode cX6_latestIntact 48 = .ok (.invokevirtual 170, 3) := by decide +kernel
theorem dX6_latestIntact_51 : decode cX6_latestIntact 51 = .ok (.ifCond .eq 7, 3) := by decide +kernel
theorem dX6_latestIntact_54 : decode cX6_latestIntact 54 = .ok (.iload_n 3, 1) := by decide +kernel
theorem dX6_latestIntact_55 : decode cX6_latestIntact 55 = .ok (.goto 4, 3) := by decide +kernel
theorem dX6_latestIntact_58 : decode cX6_latestIntact 58 = .ok (.iload_n 2, 1) := by decide +kernel
theorem dX6_latestIntact_59 : decode cX6_latestIntact 59 = .ok (.istore_n 2, 1) := by decide +kernel
theorem dX6_latestIntact_60 : decode cX6_latestIntact 60 = .ok (.iinc 3 1, 3) := by decide +kernel
theorem dX6_latestIntact_63 : decode cX6_latestIntact 63 = .ok (.goto (-49), 3) := by decide +kernel
theorem dX6_latestIntact_66 : decode cX6_latestIntact 66 = .ok (.iload_n 2, 1) := by decide +kernel
theorem dX6_latestIntact_67 : decode cX6_latestIntact 67 = .ok (.ireturn, 1) := by decide +kernel
theorem dX6_foundSectors_0 : decode cX6_foundSectors 0 = .ok (.iconst 0, 1) := by decide +kernel
theorem dX6_foundSectors_1 : decode cX6_foundSectors 1 = .ok (.istore_n 1, 1) := by decide +kernel
theorem dX6_foundSectors_2 : decode cX6_foundSectors 2 = .ok (.aload_n 0, 1) := by decide +kernel
theorem dX6_foundSectors_3 : decode cX6_foundSectors 3 = .ok (.invokevirtual 67, 3) := by decide +kernel
theorem dX6_foundSectors_6 : decode cX6_foundSectors 6 = .ok (.istore_n 2, 1) := by decide +kernel
theorem dX6_foundSectors_7 : decode cX6_foundSectors 7 = .ok (.iconst 0, 1) := by decide +kernel
theorem dX6_foundSectors_8 : decode cX6_foundSectors 8 = .ok (.istore_n 3, 1) := by decide +kernel
theorem dX6_foundSectors_9 : decode cX6_foundSectors 9 = .ok (.iload_n 3, 1) := by decide +kernel
theorem dX6_foundSectors_10 : decode cX6_foundSectors 10 = .ok (.bipush 20, 2) := by decide +kernel
theorem dX6_foundSectors_12 : decode cX6_foundSectors 12 = .ok (.if_icmp .ge 25, 3) := by decide +kernel
theorem dX6_foundSectors_15 : decode cX6_foundSectors 15 = .ok (.iload_n 2, 1) := by decide +kernel
theorem dX6_foundSectors_16 : decode cX6_foundSectors 16 = .ok (.ifCond .lt 21, 3) := by decide +kernel
theorem dX6_foundSectors_19 : decode cX6_foundSectors 19 = .ok (.iload_n 1, 1) := by decide +kernel
theorem dX6_foundSectors_20 : decode cX6_foundSectors 20 = .ok (.aload_n 0, 1) := by decide +kernel
theorem dX6_foundSectors_21 : decode cX6_foundSectors 21 = .ok (.iload_n 2, 1) := by decide +kernel
theorem dX6_foundSectors_22 : decode cX6_foundSectors 22 = .ok (.iload_n 3, 1) := by decide +kernel
theorem dX6_foundSectors_23 : decode cX6_foundSectors 23 = .ok (.invokevirtual 38, 3) := by decide +kernel
theorem dX6_foundSectors_26 : decode cX6_foundSectors 26 = .ok (.invokestatic 56, 3) := by decide +kernel
theorem dX6_foundSectors_29 : decode cX6_foundSectors 29 = .ok (.iadd, 1) := by decide +kernel
theorem dX6_foundSectors_30 : decode cX6_foundSectors 30 = .ok (.istore_n 1, 1) := by decide +kernel
theorem dX6_foundSectors_31 : decode cX6_foundSectors 31 = .ok (.iinc 3 1, 3) := by decide +kernel
theorem dX6_foundSectors_34 : decode cX6_foundSectors 34 = .ok (.goto (-25), 3) := by decide +kernel
theorem dX6_foundSectors_37 : decode cX6_foundSectors 37 = .ok (.iload_n 1, 1) := by decide +kernel
theorem dX6_foundSectors_38 : decode cX6_foundSectors 38 = .ok (.ireturn, 1) := by decide +kernel
theorem dX6_lost_0 : decode cX6_lost 0 = .ok (.aload_n 0, 1) := by decide +kernel
theorem dX6_lost_1 : decode cX6_lost 1 = .ok (.getfield 7, 3) := by decide +kernel
theorem dX6_lost_4 : decode cX6_lost 4 = .ok (.iconst 0, 1) := by decide +kernel
theorem dX6_lost_5 : decode cX6_lost 5 = .ok (.iaload, 1) := by decide +kernel
theorem dX6_lost_6 : decode cX6_lost 6 = .ok (.aload_n 0, 1) := by decide +kernel
theorem dX6_lost_7 : decode cX6_lost 7 = .ok (.invokevirtual 176, 3) := by decide +kernel
theorem dX6_lost_10 : decode cX6_lost 10 = .ok (.isub, 1) := by decide +kernel
theorem dX6_lost_11 : decode cX6_lost 11 = .ok (.ireturn, 1) := by decide +kernel
theorem dX6_usedWell_0 : decode cX6_usedWell 0 = .ok (.aload_n 0, 1) := by decide +kernel
theorem dX6_usedWell_1 : decode cX6_usedWell 1 = .ok (.getfield 7, 3) := by decide +kernel
theorem dX6_usedWell_4 : decode cX6_usedWell 4 = .ok (.iconst 0, 1) := by decide +kernel
theorem dX6_usedWell_5 : decode cX6_usedWell 5 = .ok (.iaload, 1) := by decide +kernel
theorem dX6_usedWell_6 : decode cX6_usedWell 6 = .ok (.ifCond .ne 7, 3) := by decide +kernel
theorem dX6_usedWell_9 : decode cX6_usedWell 9 = .ok (.fconst 1, 1) := by decide +kernel
theorem dX6_usedWell_10 : decode cX6_usedWell 10 = .ok (.goto 16, 3) := by decide +kernel
theorem dX6_usedWell_13 : decode cX6_usedWell 13 = .ok (.aload_n 0, 1) := by decide +kernel
theorem dX6_usedWell_14 : decode cX6_usedWell 14 = .ok (.invokevirtual 176, 3) := by decide +kernel
theorem dX6_usedWell_17 : decode cX6_usedWell 17 = .ok (.i2f, 1) := by decide +kernel
theorem dX6_usedWell_18 : decode cX6_usedWell 18 = .ok (.aload_n 0, 1) := by decide +kernel
theorem dX6_usedWell_19 : decode cX6_usedWell 19 = .ok (.getfield 7, 3) := by decide +kernel
theorem dX6_usedWell_22 : decode cX6_usedWell 22 = .ok (.iconst 0, 1) := by decide +kernel
theorem dX6_usedWell_23 : decode cX6_usedWell 23 = .ok (.iaload, 1) := by decide +kernel
theorem dX6_usedWell_24 : decode cX6_usedWell 24 = .ok (.i2f, 1) := by decide +kernel
theorem dX6_usedWell_25 : decode cX6_usedWell 25 = .ok (.fdiv, 1) := by decide +kernel
theorem dX6_usedWell_26 : decode cX6_usedWell 26 = .ok (.freturn, 1) := by decide +kernel
theorem dX6_room_0 : decode cX6_room 0 = .ok (.aload_n 0, 1) := by decide +kernel
theorem dX6_room_1 : decode cX6_room 1 = .ok (.invokevirtual 63, 3) := by decide +kernel
theorem dX6_room_4 : decode cX6_room 4 = .ok (.istore_n 1, 1) := by decide +kernel
theorem dX6_room_5 : decode cX6_room 5 = .ok (.sipush 240, 3) := by decide +kernel
theorem dX6_room_8 : decode cX6_room 8 = .ok (.aload_n 0, 1) := by decide +kernel
theorem dX6_room_9 : decode cX6_room 9 = .ok (.getfield 7, 3) := by decide +kernel
theorem dX6_room_12 : decode cX6_room 12 = .ok (.iconst 0, 1) := by decide +kernel
theorem dX6_room_13 : decode cX6_room 13 = .ok (.iaload, 1) := by decide +kernel
theorem dX6_room_14 : decode cX6_room 14 = .ok (.isub, 1) := by decide +kernel
theorem dX6_room_15 : decode cX6_room 15 = .ok (.istore_n 2, 1) := by decide +kernel
theorem dX6_room_16 : decode cX6_room 16 = .ok (.iload_n 1, 1) := by decide +kernel
theorem dX6_room_17 : decode cX6_room 17 = .ok (.ifCond .lt 14, 3) := by decide +kernel
theorem dX6_room_20 : decode cX6_room 20 = .ok (.iload_n 2, 1) := by decide +kernel
theorem dX6_room_21 : decode cX6_room 21 = .ok (.aload_n 0, 1) := by decide +kernel
theorem dX6_room_22 : decode cX6_room 22 = .ok (.iload_n 1, 1) := by decide +kernel
theorem dX6_room_23 : decode cX6_room 23 = .ok (.iconst 4, 1) := by decide +kernel
theorem dX6_room_24 : decode cX6_room 24 = .ok (.invokevirtual 34, 3) := by decide +kernel
theorem dX6_room_27 : decode cX6_room 27 = .ok (.isub, 1) := by decide +kernel
theorem dX6_room_28 : decode cX6_room 28 = .ok (.goto 33, 3) := by decide +kernel
theorem dX6_room_31 : decode cX6_room 31 = .ok (.aload_n 0, 1) := by decide +kernel
theorem dX6_room_32 : decode cX6_room 32 = .ok (.getfield 7, 3) := by decide +kernel
theorem dX6_room_35 : decode cX6_room 35 = .ok (.iconst 1, 1) := by decide +kernel
theorem dX6_room_36 : decode cX6_room 36 = .ok (.iaload, 1) := by decide +kernel
theorem dX6_room_37 : decode cX6_room 37 = .ok (.bipush 12, 2) := by decide +kernel
theorem dX6_room_39 : decode cX6_room 39 = .ok (.if_icmp .ne 7, 3) := by decide +kernel
theorem dX6_room_42 : decode cX6_room 42 = .ok (.iconst 0, 1) := by decide +kernel
theorem dX6_room_43 : decode cX6_room 43 = .ok (.goto 18, 3) := by decide +kernel
theorem dX6_room_46 : decode cX6_room 46 = .ok (.iload_n 2, 1) := by decide +kernel
theorem dX6_room_47 : decode cX6_room 47 = .ok (.aload_n 0, 1) := by decide +kernel
theorem dX6_room_48 : decode cX6_room 48 = .ok (.getfield 7, 3) := by decide +kernel
theorem dX6_room_51 : decode cX6_room 51 = .ok (.iconst 2, 1) := by decide +kernel
theorem dX6_room_52 : decode cX6_room 52 = .ok (.iaload, 1) := by decide +kernel
theorem dX6_room_53 : decode cX6_room 53 = .ok (.isub, 1) := by decide +kernel
theorem dX6_room_54 : decode cX6_room 54 = .ok (.aload_n 0, 1) := by decide +kernel
theorem dX6_room_55 : decode cX6_room 55 = .ok (.getfield 7, 3) := by decide +kernel
theorem dX6_room_58 : decode cX6_room 58 = .ok (.iconst 3, 1) := by decide +kernel
theorem dX6_room_59 : decode cX6_room 59 = .ok (.iaload, 1) := by decide +kernel
theorem dX6_room_60 : decode cX6_room 60 = .ok (.isub, 1) := by decide +kernel
theorem dX6_room_61 : decode cX6_room 61 = .ok (.istore_n 3, 1) := by decide +kernel
theorem dX6_room_62 : decode cX6_room 62 = .ok (.iload_n 3, 1) := by decide +kernel
theorem dX6_room_63 : decode cX6_room 63 = .ok (.ifCond .ge 7, 3) := by decide +kernel
theorem dX6_room_66 : decode cX6_room 66 = .ok (.iconst 0, 1) := by decide +kernel
theorem dX6_room_67 : decode cX6_room 67 = .ok (.goto 4, 3) := by decide +kernel
theorem dX6_room_70 : decode cX6_room 70 = .ok (.iload_n 3, 1) := by decide +kernel
theorem dX6_room_71 : decode cX6_room 71 = .ok (.ireturn, 1) := by decide +kernel
theorem dX6_largest_0 : decode cX6_largest 0 = .ok (.aload_n 0, 1) := by decide +kernel
theorem dX6_largest_1 : decode cX6_largest 1 = .ok (.invokevirtual 179, 3) := by decide +kernel
theorem dX6_largest_4 : decode cX6_largest 4 = .ok (.bipush 40, 2) := by decide +kernel
theorem dX6_largest_6 : decode cX6_largest 6 = .ok (.if_icmp .ge 10, 3) := by decide +kernel
theorem dX6_largest_9 : decode cX6_largest 9 = .ok (.aload_n 0, 1) := by decide +kernel
theorem dX6_largest_10 : decode cX6_largest 10 = .ok (.invokevirtual 179, 3) := by decide +kernel
theorem dX6_largest_13 : decode cX6_largest 13 = .ok (.goto 5, 3) := by decide +kernel
theorem dX6_largest_16 : decode cX6_largest 16 = .ok (.bipush 40, 2) := by decide +kernel
theorem dX6_largest_18 : decode cX6_largest 18 = .ok (.ireturn, 1) := by decide +kernel
theorem dX6_filesLeft_0 : decode cX6_filesLeft 0 = .ok (.iload_n 1, 1) := by decide +kernel
theorem dX6_filesLeft_1 : decode cX6_filesLeft 1 = .ok (.iconst 1, 1) := by decide +kernel
theorem dX6_filesLeft_2 : decode cX6_filesLeft 2 = .ok (.bipush 40, 2) := by decide +kernel
theorem dX6_filesLeft_4 : decode cX6_filesLeft 4 = .ok (.invokestatic 30, 3) := by decide +kernel
theorem dX6_filesLeft_7 : decode cX6_filesLeft 7 = .ok (.ifCond .eq 12, 3) := by decide +kernel
theorem dX6_filesLeft_10 : decode cX6_filesLeft 10 = .ok (.aload_n 0, 1) := by decide +kernel
theorem dX6_filesLeft_11 : decode cX6_filesLeft 11 = .ok (.invokevirtual 179, 3) := by decide +kernel
theorem dX6_filesLeft_14 : decode cX6_filesLeft 14 = .ok (.iload_n 1, 1) := by decide +kernel
theorem dX6_filesLeft_15 : decode cX6_filesLeft 15 = .ok (.idiv, 1) := by decide +kernel
theorem dX6_filesLeft_16 : decode cX6_filesLeft 16 = .ok (.goto 5, 3) := by decide +kernel
theorem dX6_filesLeft_19 : decode cX6_filesLeft 19 = .ok (.bipush (-2), 2) := by decide +kernel
theorem dX6_filesLeft_21 : decode cX6_filesLeft 21 = .ok (.ireturn, 1) := by decide +kernel
theorem dX6_filesEach_0 : decode cX6_filesEach 0 = .ok (.iload_n 1, 1) := by decide +kernel
theorem dX6_filesEach_1 : decode cX6_filesEach 1 = .ok (.iconst 1, 1) := by decide +kernel
theorem dX6_filesEach_2 : decode cX6_filesEach 2 = .ok (.bipush 40, 2) := by decide +kernel
theorem dX6_filesEach_4 : decode cX6_filesEach 4 = .ok (.invokestatic 30, 3) := by decide +kernel
theorem dX6_filesEach_7 : decode cX6_filesEach 7 = .ok (.ifCond .ne 6, 3) := by decide +kernel
theorem dX6_filesEach_10 : decode cX6_filesEach 10 = .ok (.bipush (-2), 2) := by decide +kernel
theorem dX6_filesEach_12 : decode cX6_filesEach 12 = .ok (.ireturn, 1) := by decide +kernel
theorem dX6_filesEach_13 : decode cX6_filesEach 13 = .ok (.aload_n 0, 1) := by decide +kernel
theorem dX6_filesEach_14 : decode cX6_filesEach 14 = .ok (.invokevirtual 63, 3) := by decide +kernel
theorem dX6_filesEach_17 : decode cX6_filesEach 17 = .ok (.istore_n 2, 1) := by decide +kernel
theorem dX6_filesEach_18 : decode cX6_filesEach 18 = .ok (.sipush 240, 3) := by decide +kernel
theorem dX6_filesEach_21 : decode cX6_filesEach 21 = .ok (.aload_n 0, 1) := by decide +kernel
theorem dX6_filesEach_22 : decode cX6_filesEach 22 = .ok (.getfield 7, 3) := by decide +kernel
theorem dX6_filesEach_25 : decode cX6_filesEach 25 = .ok (.iconst 0, 1) := by decide +kernel
theorem dX6_filesEach_26 : decode cX6_filesEach 26 = .ok (.iaload, 1) := by decide +kernel
theorem dX6_filesEach_27 : decode cX6_filesEach 27 = .ok (.isub, 1) := by decide +kernel
theorem dX6_filesEach_28 : decode cX6_filesEach 28 = .ok (.istore_n 3, 1) := by decide +kernel
theorem dX6_filesEach_29 : decode cX6_filesEach 29 = .ok (.aload_n 0, 1) := by decide +kernel
theorem dX6_filesEach_30 : decode cX6_filesEach 30 = .ok (.getfield 7, 3) := by decide +kernel
theorem dX6_filesEach_33 : decode cX6_filesEach 33 = .ok (.iconst 1, 1) := by decide +kernel
theorem dX6_filesEach_34 : decode cX6_filesEach 34 = .ok (.iaload, 1) := by decide +kernel
theorem dX6_filesEach_35 : decode cX6_filesEach 35 = .ok (.istore 4, 2) := by decide +kernel
theorem dX6_filesEach_37 : decode cX6_filesEach 37 = .ok (.iconst 0, 1) := by decide +kernel
theorem dX6_filesEach_38 : decode cX6_filesEach 38 = .ok (.istore 5, 2) := by decide +kernel
theorem dX6_filesEach_40 : decode cX6_filesEach 40 = .ok (.iload_n 2, 1) := by decide +kernel
theorem dX6_filesEach_41 : decode cX6_filesEach 41 = .ok (.ifCond .lt 25, 3) := by decide +kernel
theorem dX6_filesEach_44 : decode cX6_filesEach 44 = .ok (.iload_n 3, 1) := by decide +kernel
theorem dX6_filesEach_45 : decode cX6_filesEach 45 = .ok (.iload_n 1, 1) := by decide +kernel
theorem dX6_filesEach_46 : decode cX6_filesEach 46 = .ok (.aload_n 0, 1) := by decide +kernel
theorem dX6_filesEach_47 : decode cX6_filesEach 47 = .ok (.iload_n 2, 1) := by decide +kernel
theorem dX6_filesEach_48 : decode cX6_filesEach 48 = .ok (.iconst 4, 1) := by decide +kernel
theorem dX6_filesEach_49 : decode cX6_filesEach 49 = .ok (.invokevirtual 34, 3) := by decide +kernel
theorem dX6_filesEach_52 : decode cX6_filesEach 52 = .ok (.iadd, 1) := by decide +kernel
theorem dX6_filesEach_53 : decode cX6_filesEach 53 = .ok (.isub, 1) := by decide +kernel
theorem dX6_filesEach_54 : decode cX6_filesEach 54 = .ok (.istore_n 3, 1) := by decide +kernel
theorem dX6_filesEach_55 : decode cX6_filesEach 55 = .ok (.iload_n 3, 1) := by decide +kernel
theorem dX6_filesEach_56 : decode cX6_filesEach 56 = .ok (.ifCond .ge 7, 3) := by decide +kernel
theorem dX6_filesEach_59 : decode cX6_filesEach 59 = .ok (.iconst 0, 1) := by decide +kernel
theorem dX6_filesEach_60 : decode cX6_filesEach 60 = .ok (.goto 4, 3) := by decide +kernel
theorem dX6_filesEach_63 : decode cX6_filesEach 63 = .ok (.iconst 1, 1) := by decide +kernel
theorem dX6_filesEach_64 : decode cX6_filesEach 64 = .ok (.istore 5, 2) := by decide +kernel
theorem dX6_filesEach_66 : decode cX6_filesEach 66 = .ok (.iload_n 1, 1) := by decide +kernel
theorem dX6_filesEach_67 : decode cX6_filesEach 67 = .ok (.aload_n 0, 1) := by decide +kernel
theorem dX6_filesEach_68 : decode cX6_filesEach 68 = .ok (.getfield 7, 3) := by decide +kernel
theorem dX6_filesEach_71 : decode cX6_filesEach 71 = .ok (.iconst 2, 1) := by decide +kernel
theorem dX6_filesEach_72 : decode cX6_filesEach 72 = .ok (.iaload, 1) := by decide +kernel
theorem dX6_filesEach_73 : decode cX6_filesEach 73 = .ok (.iadd, 1) := by decide +kernel
theorem dX6_filesEach_74 : decode cX6_filesEach 74 = .ok (.aload_n 0, 1) := by decide +kernel
theorem dX6_filesEach_75 : decode cX6_filesEach 75 = .ok (.getfield 7, 3) := by decide +kernel
theorem dX6_filesEach_78 : decode cX6_filesEach 78 = .ok (.iconst 3, 1) := by decide +kernel
theorem dX6_filesEach_79 : decode cX6_filesEach 79 = .ok (.iaload, 1) := by decide +kernel
theorem dX6_filesEach_80 : decode cX6_filesEach 80 = .ok (.iadd, 1) := by decide +kernel
theorem dX6_filesEach_81 : decode cX6_filesEach 81 = .ok (.istore 6, 2) := by decide +kernel
theorem dX6_filesEach_83 : decode cX6_filesEach 83 = .ok (.iload_n 3, 1) := by decide +kernel
theorem dX6_filesEach_84 : decode cX6_filesEach 84 = .ok (.iload 6, 2) := by decide +kernel
theorem dX6_filesEach_86 : decode cX6_filesEach 86 = .ok (.if_icmp .lt 24, 3) := by decide +kernel
theorem dX6_filesEach_89 : decode cX6_filesEach 89 = .ok (.iload 4, 2) := by decide +kernel
theorem dX6_filesEach_91 : decode cX6_filesEach 91 = .ok (.bipush 12, 2) := by decide +kernel
theorem dX6_filesEach_93 : decode cX6_filesEach 93 = .ok (.if_icmp .ge 17, 3) := by decide +kernel
theorem dX6_filesEach_96 : decode cX6_filesEach 96 = .ok (.iload_n 3, 1) := by decide +kernel
theorem dX6_filesEach_97 : decode cX6_filesEach 97 = .ok (.iload 6, 2) := by decide +kernel
theorem dX6_filesEach_99 : decode cX6_filesEach 99 = .ok (.isub, 1) := by decide +kernel
theorem dX6_filesEach_100 : decode cX6_filesEach 100 = .ok (.istore_n 3, 1) := by decide +kernel
theorem dX6_filesEach_101 : decode cX6_filesEach 101 = .ok (.iinc 4 1, 3) := by decide +kernel
theorem dX6_filesEach_104 : decode cX6_filesEach 104 = .ok (.iinc 5 1, 3) := by decide +kernel
theorem dX6_filesEach_107 : decode cX6_filesEach 107 = .ok (.goto (-24), 3) := by decide +kernel
theorem dX6_filesEach_110 : decode cX6_filesEach 110 = .ok (.iload 5, 2) := by decide +kernel
theorem dX6_filesEach_112 : decode cX6_filesEach 112 = .ok (.ireturn, 1) := by decide +kernel
theorem dX6_hurtOf_0 : decode cX6_hurtOf 0 = .ok (.aload_n 0, 1) := by decide +kernel
theorem dX6_hurtOf_1 : decode cX6_hurtOf 1 = .ok (.getfield 7, 3) := by decide +kernel
theorem dX6_hurtOf_4 : decode cX6_hurtOf 4 = .ok (.iconst 4, 1) := by decide +kernel
theorem dX6_hurtOf_5 : decode cX6_hurtOf 5 = .ok (.iload_n 1, 1) := by decide +kernel
theorem dX6_hurtOf_6 : decode cX6_hurtOf 6 = .ok (.bipush 30, 2) := by decide +kernel
theorem dX6_hurtOf_8 : decode cX6_hurtOf 8 = .ok (.idiv, 1) := by decide +kernel
theorem dX6_hurtOf_9 : decode cX6_hurtOf 9 = .ok (.iadd, 1) := by decide +kernel
theorem dX6_hurtOf_10 : decode cX6_hurtOf 10 = .ok (.iaload, 1) := by decide +kernel
theorem dX6_hurtOf_11 : decode cX6_hurtOf 11 = .ok (.istore_n 2, 1) := by decide +kernel
theorem dX6_hurtOf_12 : decode cX6_hurtOf 12 = .ok (.aload_n 0, 1) := by decide +kernel
theorem dX6_hurtOf_13 : decode cX6_hurtOf 13 = .ok (.getfield 7, 3) := by decide +kernel
theorem dX6_hurtOf_16 : decode cX6_hurtOf 16 = .ok (.iconst 4, 1) := by decide +kernel
theorem dX6_hurtOf_17 : decode cX6_hurtOf 17 = .ok (.iload_n 1, 1) := by decide +kernel
theorem dX6_hurtOf_18 : decode cX6_hurtOf 18 = .ok (.bipush 30, 2) := by decide +kernel
theorem dX6_hurtOf_20 : decode cX6_hurtOf 20 = .ok (.idiv, 1) := by decide +kernel
theorem dX6_hurtOf_21 : decode cX6_hurtOf 21 = .ok (.iadd, 1) := by decide +kernel
theorem dX6_hurtOf_22 : decode cX6_hurtOf 22 = .ok (.dup2, 1) := by decide +kernel
theorem dX6_hurtOf_23 : decode cX6_hurtOf 23 = .ok (.iaload, 1) := by decide +kernel
theorem dX6_hurtOf_24 : decode cX6_hurtOf 24 = .ok (.iconst 1, 1) := by decide +kernel
theorem dX6_hurtOf_25 : decode cX6_hurtOf 25 = .ok (.iload_n 1, 1) := by decide +kernel
theorem dX6_hurtOf_26 : decode cX6_hurtOf 26 = .ok (.bipush 30, 2) := by decide +kernel
theorem dX6_hurtOf_28 : decode cX6_hurtOf 28 = .ok (.irem, 1) := by decide +kernel
theorem dX6_hurtOf_29 : decode cX6_hurtOf 29 = .ok (.ishl, 1) := by decide +kernel
theorem dX6_hurtOf_30 : decode cX6_hurtOf 30 = .ok (.ior, 1) := by decide +kernel
theorem dX6_hurtOf_31 : decode cX6_hurtOf 31 = .ok (.iastore, 1) := by decide +kernel
theorem dX6_hurtOf_32 : decode cX6_hurtOf 32 = .ok (.iload_n 2, 1) := by decide +kernel
theorem dX6_hurtOf_33 : decode cX6_hurtOf 33 = .ok (.ireturn, 1) := by decide +kernel
theorem dX6_validIf_0 : decode cX6_validIf 0 = .ok (.iload_n 1, 1) := by decide +kernel
theorem dX6_validIf_1 : decode cX6_validIf 1 = .ok (.invokestatic 86, 3) := by decide +kernel
theorem dX6_validIf_4 : decode cX6_validIf 4 = .ok (.ifCond .ne 5, 3) := by decide +kernel
theorem dX6_validIf_7 : decode cX6_validIf 7 = .ok (.iconst (-1), 1) := by decide +kernel
theorem dX6_validIf_8 : decode cX6_validIf 8 = .ok (.ireturn, 1) := by decide +kernel
theorem dX6_validIf_9 : decode cX6_validIf 9 = .ok (.aload_n 0, 1) := by decide +kernel
theorem dX6_validIf_10 : decode cX6_validIf 10 = .ok (.iload_n 1, 1) := by decide +kernel
theorem dX6_validIf_11 : decode cX6_validIf 11 = .ok (.invokevirtual 182, 3) := by decide +kernel
theorem dX6_validIf_14 : decode cX6_validIf 14 = .ok (.istore_n 2, 1) := by decide +kernel
theorem dX6_validIf_15 : decode cX6_validIf 15 = .ok (.aload_n 0, 1) := by decide +kernel
theorem dX6_validIf_16 : decode cX6_validIf 16 = .ok (.invokevirtual 67, 3) := by decide +kernel
theorem dX6_validIf_19 : decode cX6_validIf 19 = .ok (.istore_n 3, 1) := by decide +kernel
theorem dX6_validIf_20 : decode cX6_validIf 20 = .ok (.aload_n 0, 1) := by decide +kernel
theorem dX6_validIf_21 : decode cX6_validIf 21 = .ok (.getfield 7, 3) := by decide +kernel
theorem dX6_validIf_24 : decode cX6_validIf 24 = .ok (.iconst 4, 1) := by decide +kernel
theorem dX6_validIf_25 : decode cX6_validIf 25 = .ok (.iload_n 1, 1) := by decide +kernel
theorem dX6_validIf_26 : decode cX6_validIf 26 = .ok (.bipush 30, 2) := by decide +kernel
theorem dX6_validIf_28 : decode cX6_validIf 28 = .ok (.idiv, 1) := by decide +kernel
theorem dX6_validIf_29 : decode cX6_validIf 29 = .ok (.iadd, 1) := by decide +kernel
theorem dX6_validIf_30 : decode cX6_validIf 30 = .ok (.iload_n 2, 1) := by decide +kernel
theorem dX6_validIf_31 : decode cX6_validIf 31 = .ok (.iastore, 1) := by decide +kernel
theorem dX6_validIf_32 : decode cX6_validIf 32 = .ok (.iload_n 3, 1) := by decide +kernel
theorem dX6_validIf_33 : decode cX6_validIf 33 = .ok (.ireturn, 1) := by decide +kernel
theorem dX6_worstSector_0 : decode cX6_worstSector 0 = .ok (.iconst 0, 1) := by decide +kernel
theorem dX6_worstSector_1 : decode cX6_worstSector 1 = .ok (.istore_n 1, 1) := by decide +kernel
theorem dX6_worstSector_2 : decode cX6_worstSector 2 = .ok (.bipush 21, 2) := by decide +kernel
theorem dX6_worstSector_4 : decode cX6_worstSector 4 = .ok (.istore_n 2, 1) := by decide +kernel
theorem dX6_worstSector_5 : decode cX6_worstSector 5 = .ok (.iconst 0, 1) := by decide +kernel
theorem dX6_worstSector_6 : decode cX6_worstSector 6 = .ok (.istore_n 3, 1) := by decide +kernel
theorem dX6_worstSector_7 : decode cX6_worstSector 7 = .ok (.iload_n 3, 1) := by decide +kernel
theorem dX6_worstSector_8 : decode cX6_worstSector 8 = .ok (.sipush 240, 3) := by decide +kernel
theorem dX6_worstSector_11 : decode cX6_worstSector 11 = .ok (.if_icmp .ge 60, 3) := by decide +kernel
theorem dX6_worstSector_14 : decode cX6_worstSector 14 = .ok (.aload_n 0, 1) := by decide +kernel
theorem dX6_worstSector_15 : decode cX6_worstSector 15 = .ok (.iload_n 3, 1) := by decide +kernel
theorem dX6_worstSector_16 : decode cX6_worstSector 16 = .ok (.invokevirtual 182, 3) := by decide +kernel
theorem dX6_worstSector_19 : decode cX6_worstSector 19 = .ok (.istore 4, 2) := by decide +kernel
theorem dX6_worstSector_21 : decode cX6_worstSector 21 = .ok (.aload_n 0, 1) := by decide +kernel
theorem dX6_worstSector_22 : decode cX6_worstSector 22 = .ok (.invokevirtual 173, 3) := by decide +kernel
theorem dX6_worstSector_25 : decode cX6_worstSector 25 = .ok (.istore 5, 2) := by decide +kernel
theorem dX6_worstSector_27 : decode cX6_worstSector 27 = .ok (.aload_n 0, 1) := by decide +kernel
theorem dX6_worstSector_28 : decode cX6_worstSector 28 = .ok (.getfield 7, 3) := by decide +kernel
theorem dX6_worstSector_31 : decode cX6_worstSector 31 = .ok (.iconst 4, 1) := by decide +kernel
theorem dX6_worstSector_32 : decode cX6_worstSector 32 = .ok (.iload_n 3, 1) := by decide +kernel
theorem dX6_worstSector_33 : decode cX6_worstSector 33 = .ok (.bipush 30, 2) := by decide +kernel
theorem dX6_worstSector_35 : decode cX6_worstSector 35 = .ok (.idiv, 1) := by decide +kernel
theorem dX6_worstSector_36 : decode cX6_worstSector 36 = .ok (.iadd, 1) := by decide +kernel
theorem dX6_worstSector_37 : decode cX6_worstSector 37 = .ok (.iload 4, 2) := by decide +kernel
theorem dX6_worstSector_39 : decode cX6_worstSector 39 = .ok (.iastore, 1) := by decide +kernel
theorem dX6_worstSector_40 : decode cX6_worstSector 40 = .ok (.iload 5, 2) := by decide +kernel
theorem dX6_worstSector_42 : decode cX6_worstSector 42 = .ok (.iload_n 2, 1) := by decide +kernel
theorem dX6_worstSector_43 : decode cX6_worstSector 43 = .ok (.if_icmp .ge 7, 3) := by decide +kernel
theorem dX6_worstSector_46 : decode cX6_worstSector 46 = .ok (.iload_n 3, 1) := by decide +kernel
theorem dX6_worstSector_47 : decode cX6_worstSector 47 = .ok (.goto 4, 3) := by decide +kernel
theorem dX6_worstSector_50 : decode cX6_worstSector 50 = .ok (.iload_n 1, 1) := by decide +kernel
theorem dX6_worstSector_51 : decode cX6_worstSector 51 = .ok (.istore_n 1, 1) := by decide +kernel
theorem dX6_worstSector_52 : decode cX6_worstSector 52 = .ok (.iload 5, 2) := by decide +kernel
theorem dX6_worstSector_54 : decode cX6_worstSector 54 = .ok (.iload_n 2, 1) := by decide +kernel
theorem dX6_worstSector_55 : decode cX6_worstSector 55 = .ok (.if_icmp .ge 8, 3) := by decide +kernel
theorem dX6_worstSector_58 : decode cX6_worstSector 58 = .ok (.iload 5, 2) := by decide +kernel
theorem dX6_worstSector_60 : decode cX6_worstSector 60 = .ok (.goto 4, 3) := by decide +kernel
theorem dX6_worstSector_63 : decode cX6_worstSector 63 = .ok (.iload_n 2, 1) := by decide +kernel
theorem dX6_worstSector_64 : decode cX6_worstSector 64 = .ok (.istore_n 2, 1) := by decide +kernel
theorem dX6_worstSector_65 : decode cX6_worstSector 65 = .ok (.iinc 3 1, 3) := by decide +kernel
theorem dX6_worstSector_68 : decode cX6_worstSector 68 = .ok (.goto (-61), 3) := by decide +kernel
theorem dX6_worstSector_71 : decode cX6_worstSector 71 = .ok (.iload_n 1, 1) := by decide +kernel
theorem dX6_worstSector_72 : decode cX6_worstSector 72 = .ok (.ireturn, 1) := by decide +kernel
theorem dJ9_floorMod_7cf53_0 : decode cJ9_floorMod_7cf53 0 = .ok (.iload_n 0, 1) := by decide +kernel
theorem dJ9_floorMod_7cf53_1 : decode cJ9_floorMod_7cf53 1 = .ok (.iload_n 1, 1) := by decide +kernel
theorem dJ9_floorMod_7cf53_2 : decode cJ9_floorMod_7cf53 2 = .ok (.irem, 1) := by decide +kernel
theorem dJ9_floorMod_7cf53_3 : decode cJ9_floorMod_7cf53 3 = .ok (.istore_n 2, 1) := by decide +kernel
theorem dJ9_floorMod_7cf53_4 : decode cJ9_floorMod_7cf53 4 = .ok (.iload_n 0, 1) := by decide +kernel
theorem dJ9_floorMod_7cf53_5 : decode cJ9_floorMod_7cf53 5 = .ok (.iload_n 1, 1) := by decide +kernel
theorem dJ9_floorMod_7cf53_6 : decode cJ9_floorMod_7cf53 6 = .ok (.ixor, 1) := by decide +kernel
theorem dJ9_floorMod_7cf53_7 : decode cJ9_floorMod_7cf53 7 = .ok (.ifCond .ge 11, 3) := by decide +kernel
theorem dJ9_floorMod_7cf53_10 : decode cJ9_floorMod_7cf53 10 = .ok (.iload_n 2, 1) := by decide +kernel
theorem dJ9_floorMod_7cf53_11 : decode cJ9_floorMod_7cf53 11 = .ok (.ifCond .eq 7, 3) := by decide +kernel
theorem dJ9_floorMod_7cf53_14 : decode cJ9_floorMod_7cf53 14 = .ok (.iload_n 2, 1) := by decide +kernel
theorem dJ9_floorMod_7cf53_15 : decode cJ9_floorMod_7cf53 15 = .ok (.iload_n 1, 1) := by decide +kernel
theorem dJ9_floorMod_7cf53_16 : decode cJ9_floorMod_7cf53 16 = .ok (.iadd, 1) := by decide +kernel
theorem dJ9_floorMod_7cf53_17 : decode cJ9_floorMod_7cf53 17 = .ok (.ireturn, 1) := by decide +kernel
theorem dJ9_floorMod_7cf53_18 : decode cJ9_floorMod_7cf53 18 = .ok (.iload_n 2, 1) := by decide +kernel
theorem dJ9_floorMod_7cf53_19 : decode cJ9_floorMod_7cf53 19 = .ok (.ireturn, 1) := by decide +kernel
theorem dJ9_max_7cf53_0 : decode cJ9_max_7cf53 0 = .ok (.iload_n 0, 1) := by decide +kernel
theorem dJ9_max_7cf53_1 : decode cJ9_max_7cf53 1 = .ok (.iload_n 1, 1) := by decide +kernel
theorem dJ9_max_7cf53_2 : decode cJ9_max_7cf53 2 = .ok (.if_icmp .lt 7, 3) := by decide +kernel
theorem dJ9_max_7cf53_5 : decode cJ9_max_7cf53 5 = .ok (.iload_n 0, 1) := by decide +kernel
theorem dJ9_max_7cf53_6 : decode cJ9_max_7cf53 6 = .ok (.goto 4, 3) := by decide +kernel
theorem dJ9_max_7cf53_9 : decode cJ9_max_7cf53 9 = .ok (.iload_n 1, 1) := by decide +kernel
theorem dJ9_max_7cf53_10 : decode cJ9_max_7cf53 10 = .ok (.ireturn, 1) := by decide +kernel
theorem dJ9_min_7cf53_0 : decode cJ9_min_7cf53 0 = .ok (.iload_n 0, 1) := by decide +kernel
theorem dJ9_min_7cf53_1 : decode cJ9_min_7cf53 1 = .ok (.iload_n 1, 1) := by decide +kernel
theorem dJ9_min_7cf53_2 : decode cJ9_min_7cf53 2 = .ok (.if_icmp .gt 7, 3) := by decide +kernel
theorem dJ9_min_7cf53_5 : decode cJ9_min_7cf53 5 = .ok (.iload_n 0, 1) := by decide +kernel
theorem dJ9_min_7cf53_6 : decode cJ9_min_7cf53 6 = .ok (.goto 4, 3) := by decide +kernel
theorem dJ9_min_7cf53_9 : decode cJ9_min_7cf53 9 = .ok (.iload_n 1, 1) := by decide +kernel
theorem dJ9_min_7cf53_10 : decode cJ9_min_7cf53 10 = .ok (.ireturn, 1) := by decide +kernel
theorem dL_law_0 : decode cL_law 0 = .ok (.new 7, 3) := by decide +kernel
theorem dL_law_3 : decode cL_law 3 = .ok (.dup, 1) := by decide +kernel
theorem dL_law_4 : decode cL_law 4 = .ok (.invokespecial 9, 3) := by decide +kernel
theorem dL_law_7 : decode cL_law 7 = .ok (.astore_n 1, 1) := by decide +kernel
theorem dL_law_8 : decode cL_law 8 = .ok (.new 10, 3) := by decide +kernel
theorem dL_law_11 : decode cL_law 11 = .ok (.dup, 1) := by decide +kernel
theorem dL_law_12 : decode cL_law 12 = .ok (.invokespecial 12, 3) := by decide +kernel
theorem dL_law_15 : decode cL_law 15 = .ok (.astore_n 2, 1) := by decide +kernel
theorem dL_law_16 : decode cL_law 16 = .ok (.iconst 0, 1) := by decide +kernel
theorem dL_law_17 : decode cL_law 17 = .ok (.istore_n 3, 1) := by decide +kernel
theorem dL_law_18 : decode cL_law 18 = .ok (.iload_n 3, 1) := by decide +kernel
theorem dL_law_19 : decode cL_law 19 = .ok (.aload_n 0, 1) := by decide +kernel
theorem dL_law_20 : decode cL_law 20 = .ok (.arraylength, 1) := by decide +kernel
theorem dL_law_21 : decode cL_law 21 = .ok (.iconst 4, 1) := by decide +kernel
theorem dL_law_22 : decode cL_law 22 = .ok (.isub, 1) := by decide +kernel
theorem dL_law_23 : decode cL_law 23 = .ok (.if_icmp .gt 899, 3) := by decide +kernel
theorem dL_law_26 : decode cL_law 26 = .ok (.aload_n 0, 1) := by decide +kernel
theorem dL_law_27 : decode cL_law 27 = .ok (.iload_n 3, 1) := by decide +kernel
theorem dL_law_28 : decode cL_law 28 = .ok (.iaload, 1) := by decide +kernel
theorem dL_law_29 : decode cL_law 29 = .ok (.bipush 63, 2) := by decide +kernel
theorem dL_law_31 : decode cL_law 31 = .ok (.iand, 1) := by decide +kernel
theorem dL_law_32 : decode cL_law 32 = .ok (.tableswitch 884 0 33 #[152, 175, 208, 231, 264, 277, 290, 313, 336, 369, 392, 405, 418, 431, 444, 457, 490, 533, 546, 559, 582, 605, 628, 651, 674, 687, 710, 733, 746, 789, 802, 825, 848, 871], 152) := by decide +kernel
theorem dL_law_184 : decode cL_law 184 = .ok (.aload_n 1, 1) := by decide +kernel
theorem dL_law_185 : decode cL_law 185 = .ok (.aload_n 0, 1) := by decide +kernel
theorem dL_law_186 : decode cL_law 186 = .ok (.iload_n 3, 1) := by decide +kernel
theorem dL_law_187 : decode cL_law 187 = .ok (.iconst 1, 1) := by decide +kernel
theorem dL_law_188 : decode cL_law 188 = .ok (.iadd, 1) := by decide +kernel
theorem dL_law_189 : decode cL_law 189 = .ok (.iaload, 1) := by decide +kernel
theorem dL_law_190 : decode cL_law 190 = .ok (.invokevirtual 13, 3) := by decide +kernel
theorem dL_law_193 : decode cL_law 193 = .ok (.aload_n 2, 1) := by decide +kernel
theorem dL_law_194 : decode cL_law 194 = .ok (.aload_n 0, 1) := by decide +kernel
theorem dL_law_195 : decode cL_law 195 = .ok (.iload_n 3, 1) := by decide +kernel
theorem dL_law_196 : decode cL_law 196 = .ok (.iconst 1, 1) := by decide +kernel
theorem dL_law_197 : decode cL_law 197 = .ok (.iadd, 1) := by decide +kernel
theorem dL_law_198 : decode cL_law 198 = .ok (.iaload, 1) := by decide +kernel
theorem dL_law_199 : decode cL_law 199 = .ok (.invokevirtual 17, 3) := by decide +kernel
theorem dL_law_202 : decode cL_law 202 = .ok (.if_icmp .eq 714, 3) := by decide +kernel
theorem dL_law_205 : decode cL_law 205 = .ok (.iconst 0, 1) := by decide +kernel
theorem dL_law_206 : decode cL_law 206 = .ok (.ireturn, 1) := by decide +kernel
theorem dL_law_207 : decode cL_law 207 = .ok (.aload_n 1, 1) := by decide +kernel
theorem dL_law_208 : decode cL_law 208 = .ok (.aload_n 0, 1) := by decide +kernel
theorem dL_law_209 : decode cL_law 209 = .ok (.iload_n 3, 1) := by decide +kernel
theorem dL_law_210 : decode cL_law 210 = .ok (.iconst 1, 1) := by decide +kernel
theorem dL_law_211 : decode cL_law 211 = .ok (.iadd, 1) := by decide +kernel
theorem dL_law_212 : decode cL_law 212 = .ok (.iaload, 1) := by decide +kernel
theorem dL_law_213 : decode cL_law 213 = .ok (.aload_n 0, 1) := by decide +kernel
theorem dL_law_214 : decode cL_law 214 = .ok (.iload_n 3, 1) := by decide +kernel
theorem dL_law_215 : decode cL_law 215 = .ok (.iconst 2, 1) := by decide +kernel
theorem dL_law_216 : decode cL_law 216 = .ok (.iadd, 1) := by decide +kernel
theorem dL_law_217 : decode cL_law 217 = .ok (.iaload, 1) := by decide +kernel
theorem dL_law_218 : decode cL_law 218 = .ok (.invokevirtual 18, 3) := by decide +kernel
theorem dL_law_221 : decode cL_law 221 = .ok (.aload_n 2, 1) := by decide +kernel
theorem dL_law_222 : decode cL_law 222 = .ok (.aload_n 0, 1) := by decide +kernel
theorem dL_law_223 : decode cL_law 223 = .ok (.iload_n 3, 1) := by decide +kernel
theorem dL_law_224 : decode cL_law 224 = .ok (.iconst 1, 1) := by decide +kernel
theorem dL_law_225 : decode cL_law 225 = .ok (.iadd, 1) := by decide +kernel
theorem dL_law_226 : decode cL_law 226 = .ok (.iaload, 1) := by decide +kernel
theorem dL_law_227 : decode cL_law 227 = .ok (.aload_n 0, 1) := by decide +kernel
theorem dL_law_228 : decode cL_law 228 = .ok (.iload_n 3, 1) := by decide +kernel
theorem dL_law_229 : decode cL_law 229 = .ok (.iconst 2, 1) := by decide +kernel
theorem dL_law_230 : decode cL_law 230 = .ok (.iadd, 1) := by decide +kernel
theorem dL_law_231 : decode cL_law 231 = .ok (.iaload, 1) := by decide +kernel
theorem dL_law_232 : decode cL_law 232 = .ok (.invokevirtual 22, 3) := by decide +kernel
theorem dL_law_235 : decode cL_law 235 = .ok (.if_icmp .eq 681, 3) := by decide +kernel
theorem dL_law_238 : decode cL_law 238 = .ok (.iconst 0, 1) := by decide +kernel
theorem dL_law_239 : decode cL_law 239 = .ok (.ireturn, 1) := by decide +kernel
theorem dL_law_240 : decode cL_law 240 = .ok (.aload_n 1, 1) := by decide +kernel
theorem dL_law_241 : decode cL_law 241 = .ok (.aload_n 0, 1) := by decide +kernel
theorem dL_law_242 : decode cL_law 242 = .ok (.iload_n 3, 1) := by decide +kernel
theorem dL_law_243 : decode cL_law 243 = .ok (.iconst 1, 1) := by decide +kernel
theorem dL_law_244 : decode cL_law 244 = .ok (.iadd, 1) := by decide +kernel
theorem dL_law_245 : decode cL_law 245 = .ok (.iaload, 1) := by decide +kernel
theorem dL_law_246 : decode cL_law 246 = .ok (.invokevirtual 23, 3) := by decide +kernel
theorem dL_law_249 : decode cL_law 249 = .ok (.aload_n 2, 1) := by decide +kernel
theorem dL_law_250 : decode cL_law 250 = .ok (.aload_n 0, 1) := by decide +kernel
theorem dL_law_251 : decode cL_law 251 = .ok (.iload_n 3, 1) := by decide +kernel
theorem dL_law_252 : decode cL_law 252 = .ok (.iconst 1, 1) := by decide +kernel
theorem dL_law_253 : decode cL_law 253 = .ok (.iadd, 1) := by decide +kernel
theorem dL_law_254 : decode cL_law 254 = .ok (.iaload, 1) := by decide +kernel
theorem dL_law_255 : decode cL_law 255 = .ok (.invokevirtual 26, 3) := by decide +kernel
theorem dL_law_258 : decode cL_law 258 = .ok (.if_icmp .eq 658, 3) := by decide +kernel
theorem dL_law_261 : decode cL_law 261 = .ok (.iconst 0, 1) := by decide +kernel
theorem dL_law_262 : decode cL_law 262 = .ok (.ireturn, 1) := by decide +kernel
theorem dL_law_263 : decode cL_law 263 = .ok (.aload_n 1, 1) := by decide +kernel
theorem dL_law_264 : decode cL_law 264 = .ok (.aload_n 0, 1) := by decide +kernel
theorem dL_law_265 : decode cL_law 265 = .ok (.iload_n 3, 1) := by decide +kernel
theorem dL_law_266 : decode cL_law 266 = .ok (.iconst 1, 1) := by decide +kernel
theorem dL_law_267 : decode cL_law 267 = .ok (.iadd, 1) := by decide +kernel
theorem dL_law_268 : decode cL_law 268 = .ok (.iaload, 1) := by decide +kernel
theorem dL_law_269 : decode cL_law 269 = .ok (.aload_n 0, 1) := by decide +kernel
theorem dL_law_270 : decode cL_law 270 = .ok (.iload_n 3, 1) := by decide +kernel
theorem dL_law_271 : decode cL_law 271 = .ok (.iconst 2, 1) := by decide +kernel
theorem dL_law_272 : decode cL_law 272 = .ok (.iadd, 1) := by decide +kernel
theorem dL_law_273 : decode cL_law 273 = .ok (.iaload, 1) := by decide +kernel
theorem dL_law_274 : decode cL_law 274 = .ok (.invokevirtual 27, 3) := by decide +kernel
theorem dL_law_277 : decode cL_law 277 = .ok (.aload_n 2, 1) := by decide +kernel
theorem dL_law_278 : decode cL_law 278 = .ok (.aload_n 0, 1) := by decide +kernel
theorem dL_law_279 : decode cL_law 279 = .ok (.iload_n 3, 1) := by decide +kernel
theorem dL_law_280 : decode cL_law 280 = .ok (.iconst 1, 1) := by decide +kernel
theorem dL_law_281 : decode cL_law 281 = .ok (.iadd, 1) := by decide +kernel
theorem dL_law_282 : decode cL_law 282 = .ok (.iaload, 1) := by decide +kernel
theorem dL_law_283 : decode cL_law 283 = .ok (.aload_n 0, 1) := by decide +kernel
theorem dL_law_284 : decode cL_law 284 = .ok (.iload_n 3, 1) := by decide +kernel
theorem dL_law_285 : decode cL_law 285 = .ok (.iconst 2, 1) := by decide +kernel
theorem dL_law_286 : decode cL_law 286 = .ok (.iadd, 1) := by decide +kernel
theorem dL_law_287 : decode cL_law 287 = .ok (.iaload, 1) := by decide +kernel
theorem dL_law_288 : decode cL_law 288 = .ok (.invokevirtual 30, 3) := by decide +kernel
theorem dL_law_291 : decode cL_law 291 = .ok (.if_icmp .eq 625, 3) := by decide +kernel
theorem dL_law_294 : decode cL_law 294 = .ok (.iconst 0, 1) := by decide +kernel
theorem dL_law_295 : decode cL_law 295 = .ok (.ireturn, 1) := by decide +kernel
theorem dL_law_296 : decode cL_law 296 = .ok (.aload_n 1, 1) := by decide +kernel
theorem dL_law_297 : decode cL_law 297 = .ok (.invokevirtual 31, 3) := by decide +kernel
theorem dL_law_300 : decode cL_law 300 = .ok (.aload_n 2, 1) := by decide +kernel
theorem dL_law_301 : decode cL_law 301 = .ok (.invokevirtual 35, 3) := by decide +kernel
theorem dL_law_304 : decode cL_law 304 = .ok (.if_icmp .eq 612, 3) := by decide +kernel
theorem dL_law_307 : decode cL_law 307 = .ok (.iconst 0, 1) := by decide +kernel
theorem dL_law_308 : decode cL_law 308 = .ok (.ireturn, 1) := by decide +kernel
theorem dL_law_309 : decode cL_law 309 = .ok (.aload_n 1, 1) := by decide +kernel
theorem dL_law_310 : decode cL_law 310 = .ok (.invokevirtual 36, 3) := by decide +kernel
theorem dL_law_313 : decode cL_law 313 = .ok (.aload_n 2, 1) := by decide +kernel
theorem dL_law_314 : decode cL_law 314 = .ok (.invokevirtual 39, 3) := by decide +kernel
theorem dL_law_317 : decode cL_law 317 = .ok (.if_icmp .eq 599, 3) := by decide +kernel
theorem dL_law_320 : decode cL_law 320 = .ok (.iconst 0, 1) := by decide +kernel
theorem dL_law_321 : decode cL_law 321 = .ok (.ireturn, 1) := by decide +kernel
theorem dL_law_322 : decode cL_law 322 = .ok (.aload_n 1, 1) := by decide +kernel
theorem dL_law_323 : decode cL_law 323 = .ok (.aload_n 0, 1) := by decide +kernel
theorem dL_law_324 : decode cL_law 324 = .ok (.iload_n 3, 1) := by decide +kernel
theorem dL_law_325 : decode cL_law 325 = .ok (.iconst 1, 1) := by decide +kernel
theorem dL_law_326 : decode cL_law 326 = .ok (.iadd, 1) := by decide +kernel
theorem dL_law_327 : decode cL_law 327 = .ok (.iaload, 1) := by decide +kernel
theorem dL_law_328 : decode cL_law 328 = .ok (.invokevirtual 40, 3) := by decide +kernel
theorem dL_law_331 : decode cL_law 331 = .ok (.aload_n 2, 1) := by decide +kernel
theorem dL_law_332 : decode cL_law 332 = .ok (.aload_n 0, 1) := by decide +kernel
theorem dL_law_333 : decode cL_law 333 = .ok (.iload_n 3, 1) := by decide +kernel
theorem dL_law_334 : decode cL_law 334 = .ok (.iconst 1, 1) := by decide +kernel
theorem dL_law_335 : decode cL_law 335 = .ok (.iadd, 1) := by decide +kernel
theorem dL_law_336 : decode cL_law 336 = .ok (.iaload, 1) := by decide +kernel
theorem dL_law_337 : decode cL_law 337 = .ok (.invokevirtual 43, 3) := by decide +kernel
theorem dL_law_340 : decode cL_law 340 = .ok (.if_icmp .eq 576, 3) := by decide +kernel
theorem dL_law_343 : decode cL_law 343 = .ok (.iconst 0, 1) := by decide +kernel
theorem dL_law_344 : decode cL_law 344 = .ok (.ireturn, 1) := by decide +kernel
theorem dL_law_345 : decode cL_law 345 = .ok (.aload_n 1, 1) := by decide +kernel
theorem dL_law_346 : decode cL_law 346 = .ok (.aload_n 0, 1) := by decide +kernel
theorem dL_law_347 : decode cL_law 347 = .ok (.iload_n 3, 1) := by decide +kernel
theorem dL_law_348 : decode cL_law 348 = .ok (.iconst 1, 1) := by decide +kernel
theorem dL_law_349 : decode cL_law 349 = .ok (.iadd, 1) := by decide +kernel
theorem dL_law_350 : decode cL_law 350 = .ok (.iaload, 1) := by decide +kernel
theorem dL_law_351 : decode cL_law 351 = .ok (.invokevirtual 44, 3) := by decide +kernel
theorem dL_law_354 : decode cL_law 354 = .ok (.aload_n 2, 1) := by decide +kernel
theorem dL_law_355 : decode cL_law 355 = .ok (.aload_n 0, 1) := by decide +kernel
theorem dL_law_356 : decode cL_law 356 = .ok (.iload_n 3, 1) := by decide +kernel
theorem dL_law_357 : decode cL_law 357 = .ok (.iconst 1, 1) := by decide +kernel
theorem dL_law_358 : decode cL_law 358 = .ok (.iadd, 1) := by decide +kernel
theorem dL_law_359 : decode cL_law 359 = .ok (.iaload, 1) := by decide +kernel
theorem dL_law_360 : decode cL_law 360 = .ok (.invokevirtual 47, 3) := by decide +kernel
theorem dL_law_363 : decode cL_law 363 = .ok (.if_icmp .eq 553, 3) := by decide +kernel
theorem dL_law_366 : decode cL_law 366 = .ok (.iconst 0, 1) := by decide +kernel
theorem dL_law_367 : decode cL_law 367 = .ok (.ireturn, 1) := by decide +kernel
theorem dL_law_368 : decode cL_law 368 = .ok (.aload_n 1, 1) := by decide +kernel
theorem dL_law_369 : decode cL_law 369 = .ok (.aload_n 0, 1) := by decide +kernel
theorem dL_law_370 : decode cL_law 370 = .ok (.iload_n 3, 1) := by decide +kernel
theorem dL_law_371 : decode cL_law 371 = .ok (.iconst 1, 1) := by decide +kernel
theorem dL_law_372 : decode cL_law 372 = .ok (.iadd, 1) := by decide +kernel
theorem dL_law_373 : decode cL_law 373 = .ok (.iaload, 1) := by decide +kernel
theorem dL_law_374 : decode cL_law 374 = .ok (.aload_n 0, 1) := by decide +kernel
theorem dL_law_375 : decode cL_law 375 = .ok (.iload_n 3, 1) := by decide +kernel
theorem dL_law_376 : decode cL_law 376 = .ok (.iconst 2, 1) := by decide +kernel
theorem dL_law_377 : decode cL_law 377 = .ok (.iadd, 1) := by decide +kernel
theorem dL_law_378 : decode cL_law 378 = .ok (.iaload, 1) := by decide +kernel
theorem dL_law_379 : decode cL_law 379 = .ok (.invokevirtual 48, 3) := by decide +kernel
theorem dL_law_382 : decode cL_law 382 = .ok (.aload_n 2, 1) := by decide +kernel
theorem dL_law_383 : decode cL_law 383 = .ok (.aload_n 0, 1) := by decide +kernel
theorem dL_law_384 : decode cL_law 384 = .ok (.iload_n 3, 1) := by decide +kernel
theorem dL_law_385 : decode cL_law 385 = .ok (.iconst 1, 1) := by decide +kernel
theorem dL_law_386 : decode cL_law 386 = .ok (.iadd, 1) := by decide +kernel
theorem dL_law_387 : decode cL_law 387 = .ok (.iaload, 1) := by decide +kernel
theorem dL_law_388 : decode cL_law 388 = .ok (.aload_n 0, 1) := by decide +kernel
theorem dL_law_389 : decode cL_law 389 = .ok (.iload_n 3, 1) := by decide +kernel
theorem dL_law_390 : decode cL_law 390 = .ok (.iconst 2, 1) := by decide +kernel
theorem dL_law_391 : decode cL_law 391 = .ok (.iadd, 1) := by decide +kernel
theorem dL_law_392 : decode cL_law 392 = .ok (.iaload, 1) := by decide +kernel
theorem dL_law_393 : decode cL_law 393 = .ok (.invokevirtual 51, 3) := by decide +kernel
theorem dL_law_396 : decode cL_law 396 = .ok (.if_icmp .eq 520, 3) := by decide +kernel
theorem dL_law_399 : decode cL_law 399 = .ok (.iconst 0, 1) := by decide +kernel
theorem dL_law_400 : decode cL_law 400 = .ok (.ireturn, 1) := by decide +kernel
theorem dL_law_401 : decode cL_law 401 = .ok (.aload_n 1, 1) := by decide +kernel
theorem dL_law_402 : decode cL_law 402 = .ok (.aload_n 0, 1) := by decide +kernel
theorem dL_law_403 : decode cL_law 403 = .ok (.iload_n 3, 1) := by decide +kernel
theorem dL_law_404 : decode cL_law 404 = .ok (.iconst 1, 1) := by decide +kernel
theorem dL_law_405 : decode cL_law 405 = .ok (.iadd, 1) := by decide +kernel
theorem dL_law_406 : decode cL_law 406 = .ok (.iaload, 1) := by decide +kernel
theorem dL_law_407 : decode cL_law 407 = .ok (.invokevirtual 52, 3) := by decide +kernel
theorem dL_law_410 : decode cL_law 410 = .ok (.aload_n 2, 1) := by decide +kernel
theorem dL_law_411 : decode cL_law 411 = .ok (.aload_n 0, 1) := by decide +kernel
theorem dL_law_412 : decode cL_law 412 = .ok (.iload_n 3, 1) := by decide +kernel
theorem dL_law_413 : decode cL_law 413 = .ok (.iconst 1, 1) := by decide +kernel
theorem dL_law_414 : decode cL_law 414 = .ok (.iadd, 1) := by decide +kernel
theorem dL_law_415 : decode cL_law 415 = .ok (.iaload, 1) := by decide +kernel
theorem dL_law_416 : decode cL_law 416 = .ok (.invokevirtual 55, 3) := by decide +kernel
theorem dL_law_419 : decode cL_law 419 = .ok (.if_icmp .eq 497, 3) := by decide +kernel
theorem dL_law_422 : decode cL_law 422 = .ok (.iconst 0, 1) := by decide +kernel
theorem dL_law_423 : decode cL_law 423 = .ok (.ireturn, 1) := by decide +kernel
theorem dL_law_424 : decode cL_law 424 = .ok (.aload_n 1, 1) := by decide +kernel
theorem dL_law_425 : decode cL_law 425 = .ok (.invokevirtual 56, 3) := by decide +kernel
theorem dL_law_428 : decode cL_law 428 = .ok (.aload_n 2, 1) := by decide +kernel
theorem dL_law_429 : decode cL_law 429 = .ok (.invokevirtual 59, 3) := by decide +kernel
theorem dL_law_432 : decode cL_law 432 = .ok (.if_icmp .eq 484, 3) := by decide +kernel
theorem dL_law_435 : decode cL_law 435 = .ok (.iconst 0, 1) := by decide +kernel
theorem dL_law_436 : decode cL_law 436 = .ok (.ireturn, 1) := by decide +kernel
theorem dL_law_437 : decode cL_law 437 = .ok (.aload_n 1, 1) := by decide +kernel
theorem dL_law_438 : decode cL_law 438 = .ok (.invokevirtual 60, 3) := by decide +kernel
theorem dL_law_441 : decode cL_law 441 = .ok (.aload_n 2, 1) := by decide +kernel
theorem dL_law_442 : decode cL_law 442 = .ok (.invokevirtual 63, 3) := by decide +kernel
theorem dL_law_445 : decode cL_law 445 = .ok (.if_icmp .eq 471, 3) := by decide +kernel
theorem dL_law_448 : decode cL_law 448 = .ok (.iconst 0, 1) := by decide +kernel
theorem dL_law_449 : decode cL_law 449 = .ok (.ireturn, 1) := by decide +kernel
theorem dL_law_450 : decode cL_law 450 = .ok (.aload_n 1, 1) := by decide +kernel
theorem dL_law_451 : decode cL_law 451 = .ok (.invokevirtual 64, 3) := by decide +kernel
theorem dL_law_454 : decode cL_law 454 = .ok (.aload_n 2, 1) := by decide +kernel
theorem dL_law_455 : decode cL_law 455 = .ok (.invokevirtual 67, 3) := by decide +kernel
theorem dL_law_458 : decode cL_law 458 = .ok (.if_icmp .eq 458, 3) := by decide +kernel
theorem dL_law_461 : decode cL_law 461 = .ok (.iconst 0, 1) := by decide +kernel
theorem dL_law_462 : decode cL_law 462 = .ok (.ireturn, 1) := by decide +kernel
theorem dL_law_463 : decode cL_law 463 = .ok (.aload_n 1, 1) := by decide +kernel
theorem dL_law_464 : decode cL_law 464 = .ok (.invokevirtual 68, 3) := by decide +kernel
theorem dL_law_467 : decode cL_law 467 = .ok (.aload_n 2, 1) := by decide +kernel
theorem dL_law_468 : decode cL_law 468 = .ok (.invokevirtual 71, 3) := by decide +kernel
theorem dL_law_471 : decode cL_law 471 = .ok (.if_icmp .eq 445, 3) := by decide +kernel
theorem dL_law_474 : decode cL_law 474 = .ok (.iconst 0, 1) := by decide +kernel
theorem dL_law_475 : decode cL_law 475 = .ok (.ireturn, 1) := by decide +kernel
theorem dL_law_476 : decode cL_law 476 = .ok (.aload_n 1, 1) := by decide +kernel
theorem dL_law_477 : decode cL_law 477 = .ok (.invokevirtual 72, 3) := by decide +kernel
theorem dL_law_480 : decode cL_law 480 = .ok (.aload_n 2, 1) := by decide +kernel
theorem dL_law_481 : decode cL_law 481 = .ok (.invokevirtual 75, 3) := by decide +kernel
theorem dL_law_484 : decode cL_law 484 = .ok (.if_icmp .eq 432, 3) := by decide +kernel
theorem dL_law_487 : decode cL_law 487 = .ok (.iconst 0, 1) := by decide +kernel
theorem dL_law_488 : decode cL_law 488 = .ok (.ireturn, 1) := by decide +kernel
theorem dL_law_489 : decode cL_law 489 = .ok (.aload_n 1, 1) := by decide +kernel
theorem dL_law_490 : decode cL_law 490 = .ok (.aload_n 0, 1) := by decide +kernel
theorem dL_law_491 : decode cL_law 491 = .ok (.iload_n 3, 1) := by decide +kernel
theorem dL_law_492 : decode cL_law 492 = .ok (.iconst 1, 1) := by decide +kernel
theorem dL_law_493 : decode cL_law 493 = .ok (.iadd, 1) := by decide +kernel
theorem dL_law_494 : decode cL_law 494 = .ok (.iaload, 1) := by decide +kernel
theorem dL_law_495 : decode cL_law 495 = .ok (.aload_n 0, 1) := by decide +kernel
theorem dL_law_496 : decode cL_law 496 = .ok (.iload_n 3, 1) := by decide +kernel
theorem dL_law_497 : decode cL_law 497 = .ok (.iconst 2, 1) := by decide +kernel
theorem dL_law_498 : decode cL_law 498 = .ok (.iadd, 1) := by decide +kernel
theorem dL_law_499 : decode cL_law 499 = .ok (.iaload, 1) := by decide +kernel
theorem dL_law_500 : decode cL_law 500 = .ok (.invokevirtual 76, 3) := by decide +kernel
theorem dL_law_503 : decode cL_law 503 = .ok (.aload_n 2, 1) := by decide +kernel
theorem dL_law_504 : decode cL_law 504 = .ok (.aload_n 0, 1) := by decide +kernel
theorem dL_law_505 : decode cL_law 505 = .ok (.iload_n 3, 1) := by decide +kernel
theorem dL_law_506 : decode cL_law 506 = .ok (.iconst 1, 1) := by decide +kernel
theorem dL_law_507 : decode cL_law 507 = .ok (.iadd, 1) := by decide +kernel
theorem dL_law_508 : decode cL_law 508 = .ok (.iaload, 1) := by decide +kernel
theorem dL_law_509 : decode cL_law 509 = .ok (.aload_n 0, 1) := by decide +kernel
theorem dL_law_510 : decode cL_law 510 = .ok (.iload_n 3, 1) := by decide +kernel
theorem dL_law_511 : decode cL_law 511 = .ok (.iconst 2, 1) := by decide +kernel
theorem dL_law_512 : decode cL_law 512 = .ok (.iadd, 1) := by decide +kernel
theorem dL_law_513 : decode cL_law 513 = .ok (.iaload, 1) := by decide +kernel
theorem dL_law_514 : decode cL_law 514 = .ok (.invokevirtual 79, 3) := by decide +kernel
theorem dL_law_517 : decode cL_law 517 = .ok (.if_icmp .eq 399, 3) := by decide +kernel
theorem dL_law_520 : decode cL_law 520 = .ok (.iconst 0, 1) := by decide +kernel
theorem dL_law_521 : decode cL_law 521 = .ok (.ireturn, 1) := by decide +kernel
theorem dL_law_522 : decode cL_law 522 = .ok (.aload_n 1, 1) := by decide +kernel
theorem dL_law_523 : decode cL_law 523 = .ok (.aload_n 0, 1) := by decide +kernel
theorem dL_law_524 : decode cL_law 524 = .ok (.iload_n 3, 1) := by decide +kernel
theorem dL_law_525 : decode cL_law 525 = .ok (.iconst 1, 1) := by decide +kernel
theorem dL_law_526 : decode cL_law 526 = .ok (.iadd, 1) := by decide +kernel
theorem dL_law_527 : decode cL_law 527 = .ok (.iaload, 1) := by decide +kernel
theorem dL_law_528 : decode cL_law 528 = .ok (.aload_n 0, 1) := by decide +kernel
theorem dL_law_529 : decode cL_law 529 = .ok (.iload_n 3, 1) := by decide +kernel
theorem dL_law_530 : decode cL_law 530 = .ok (.iconst 2, 1) := by decide +kernel
theorem dL_law_531 : decode cL_law 531 = .ok (.iadd, 1) := by decide +kernel
theorem dL_law_532 : decode cL_law 532 = .ok (.iaload, 1) := by decide +kernel
theorem dL_law_533 : decode cL_law 533 = .ok (.aload_n 0, 1) := by decide +kernel
theorem dL_law_534 : decode cL_law 534 = .ok (.iload_n 3, 1) := by decide +kernel
theorem dL_law_535 : decode cL_law 535 = .ok (.iconst 3, 1) := by decide +kernel
theorem dL_law_536 : decode cL_law 536 = .ok (.iadd, 1) := by decide +kernel
theorem dL_law_537 : decode cL_law 537 = .ok (.iaload, 1) := by decide +kernel
theorem dL_law_538 : decode cL_law 538 = .ok (.invokevirtual 80, 3) := by decide +kernel
theorem dL_law_541 : decode cL_law 541 = .ok (.aload_n 2, 1) := by decide +kernel
theorem dL_law_542 : decode cL_law 542 = .ok (.aload_n 0, 1) := by decide +kernel
theorem dL_law_543 : decode cL_law 543 = .ok (.iload_n 3, 1) := by decide +kernel
theorem dL_law_544 : decode cL_law 544 = .ok (.iconst 1, 1) := by decide +kernel
theorem dL_law_545 : decode cL_law 545 = .ok (.iadd, 1) := by decide +kernel
theorem dL_law_546 : decode cL_law 546 = .ok (.iaload, 1) := by decide +kernel
theorem dL_law_547 : decode cL_law 547 = .ok (.aload_n 0, 1) := by decide +kernel
theorem dL_law_548 : decode cL_law 548 = .ok (.iload_n 3, 1) := by decide +kernel
theorem dL_law_549 : decode cL_law 549 = .ok (.iconst 2, 1) := by decide +kernel
theorem dL_law_550 : decode cL_law 550 = .ok (.iadd, 1) := by decide +kernel
theorem dL_law_551 : decode cL_law 551 = .ok (.iaload, 1) := by decide +kernel
theorem dL_law_552 : decode cL_law 552 = .ok (.aload_n 0, 1) := by decide +kernel
theorem dL_law_553 : decode cL_law 553 = .ok (.iload_n 3, 1) := by decide +kernel
theorem dL_law_554 : decode cL_law 554 = .ok (.iconst 3, 1) := by decide +kernel
theorem dL_law_555 : decode cL_law 555 = .ok (.iadd, 1) := by decide +kernel
theorem dL_law_556 : decode cL_law 556 = .ok (.iaload, 1) := by decide +kernel
theorem dL_law_557 : decode cL_law 557 = .ok (.invokevirtual 84, 3) := by decide +kernel
theorem dL_law_560 : decode cL_law 560 = .ok (.if_icmp .eq 356, 3) := by decide +kernel
theorem dL_law_563 : decode cL_law 563 = .ok (.iconst 0, 1) := by decide +kernel
theorem dL_law_564 : decode cL_law 564 = .ok (.ireturn, 1) := by decide +kernel
theorem dL_law_565 : decode cL_law 565 = .ok (.aload_n 1, 1) := by decide +kernel
theorem dL_law_566 : decode cL_law 566 = .ok (.invokevirtual 85, 3) := by decide +kernel
theorem dL_law_569 : decode cL_law 569 = .ok (.aload_n 2, 1) := by decide +kernel
theorem dL_law_570 : decode cL_law 570 = .ok (.invokevirtual 88, 3) := by decide +kernel
theorem dL_law_573 : decode cL_law 573 = .ok (.if_icmp .eq 343, 3) := by decide +kernel
theorem dL_law_576 : decode cL_law 576 = .ok (.iconst 0, 1) := by decide +kernel
theorem dL_law_577 : decode cL_law 577 = .ok (.ireturn, 1) := by decide +kernel
theorem dL_law_578 : decode cL_law 578 = .ok (.aload_n 1, 1) := by decide +kernel
theorem dL_law_579 : decode cL_law 579 = .ok (.invokevirtual 89, 3) := by decide +kernel
theorem dL_law_582 : decode cL_law 582 = .ok (.aload_n 2, 1) := by decide +kernel
theorem dL_law_583 : decode cL_law 583 = .ok (.invokevirtual 92, 3) := by decide +kernel
theorem dL_law_586 : decode cL_law 586 = .ok (.if_icmp .eq 330, 3) := by decide +kernel
theorem dL_law_589 : decode cL_law 589 = .ok (.iconst 0, 1) := by decide +kernel
theorem dL_law_590 : decode cL_law 590 = .ok (.ireturn, 1) := by decide +kernel
theorem dL_law_591 : decode cL_law 591 = .ok (.aload_n 1, 1) := by decide +kernel
theorem dL_law_592 : decode cL_law 592 = .ok (.aload_n 0, 1) := by decide +kernel
theorem dL_law_593 : decode cL_law 593 = .ok (.iload_n 3, 1) := by decide +kernel
theorem dL_law_594 : decode cL_law 594 = .ok (.iconst 1, 1) := by decide +kernel
theorem dL_law_595 : decode cL_law 595 = .ok (.iadd, 1) := by decide +kernel
theorem dL_law_596 : decode cL_law 596 = .ok (.iaload, 1) := by decide +kernel
theorem dL_law_597 : decode cL_law 597 = .ok (.invokevirtual 93, 3) := by decide +kernel
theorem dL_law_600 : decode cL_law 600 = .ok (.aload_n 2, 1) := by decide +kernel
theorem dL_law_601 : decode cL_law 601 = .ok (.aload_n 0, 1) := by decide +kernel
theorem dL_law_602 : decode cL_law 602 = .ok (.iload_n 3, 1) := by decide +kernel
theorem dL_law_603 : decode cL_law 603 = .ok (.iconst 1, 1) := by decide +kernel
theorem dL_law_604 : decode cL_law 604 = .ok (.iadd, 1) := by decide +kernel
theorem dL_law_605 : decode cL_law 605 = .ok (.iaload, 1) := by decide +kernel
theorem dL_law_606 : decode cL_law 606 = .ok (.invokevirtual 96, 3) := by decide +kernel
theorem dL_law_609 : decode cL_law 609 = .ok (.if_icmp .eq 307, 3) := by decide +kernel
theorem dL_law_612 : decode cL_law 612 = .ok (.iconst 0, 1) := by decide +kernel
theorem dL_law_613 : decode cL_law 613 = .ok (.ireturn, 1) := by decide +kernel
theorem dL_law_614 : decode cL_law 614 = .ok (.aload_n 1, 1) := by decide +kernel
theorem dL_law_615 : decode cL_law 615 = .ok (.aload_n 0, 1) := by decide +kernel
theorem dL_law_616 : decode cL_law 616 = .ok (.iload_n 3, 1) := by decide +kernel
theorem dL_law_617 : decode cL_law 617 = .ok (.iconst 1, 1) := by decide +kernel
theorem dL_law_618 : decode cL_law 618 = .ok (.iadd, 1) := by decide +kernel
theorem dL_law_619 : decode cL_law 619 = .ok (.iaload, 1) := by decide +kernel
theorem dL_law_620 : decode cL_law 620 = .ok (.invokevirtual 97, 3) := by decide +kernel
theorem dL_law_623 : decode cL_law 623 = .ok (.aload_n 2, 1) := by decide +kernel
theorem dL_law_624 : decode cL_law 624 = .ok (.aload_n 0, 1) := by decide +kernel
theorem dL_law_625 : decode cL_law 625 = .ok (.iload_n 3, 1) := by decide +kernel
theorem dL_law_626 : decode cL_law 626 = .ok (.iconst 1, 1) := by decide +kernel
theorem dL_law_627 : decode cL_law 627 = .ok (.iadd, 1) := by decide +kernel
theorem dL_law_628 : decode cL_law 628 = .ok (.iaload, 1) := by decide +kernel
theorem dL_law_629 : decode cL_law 629 = .ok (.invokevirtual 100, 3) := by decide +kernel
theorem dL_law_632 : decode cL_law 632 = .ok (.if_icmp .eq 284, 3) := by decide +kernel
theorem dL_law_635 : decode cL_law 635 = .ok (.iconst 0, 1) := by decide +kernel
theorem dL_law_636 : decode cL_law 636 = .ok (.ireturn, 1) := by decide +kernel
theorem dL_law_637 : decode cL_law 637 = .ok (.aload_n 1, 1) := by decide +kernel
theorem dL_law_638 : decode cL_law 638 = .ok (.aload_n 0, 1) := by decide +kernel
theorem dL_law_639 : decode cL_law 639 = .ok (.iload_n 3, 1) := by decide +kernel
theorem dL_law_640 : decode cL_law 640 = .ok (.iconst 1, 1) := by decide +kernel
theorem dL_law_641 : decode cL_law 641 = .ok (.iadd, 1) := by decide +kernel
theorem dL_law_642 : decode cL_law 642 = .ok (.iaload, 1) := by decide +kernel
theorem dL_law_643 : decode cL_law 643 = .ok (.invokevirtual 101, 3) := by decide +kernel
theorem dL_law_646 : decode cL_law 646 = .ok (.aload_n 2, 1) := by decide +kernel
theorem dL_law_647 : decode cL_law 647 = .ok (.aload_n 0, 1) := by decide +kernel
theorem dL_law_648 : decode cL_law 648 = .ok (.iload_n 3, 1) := by decide +kernel
theorem dL_law_649 : decode cL_law 649 = .ok (.iconst 1, 1) := by decide +kernel
theorem dL_law_650 : decode cL_law 650 = .ok (.iadd, 1) := by decide +kernel
theorem dL_law_651 : decode cL_law 651 = .ok (.iaload, 1) := by decide +kernel
theorem dL_law_652 : decode cL_law 652 = .ok (.invokevirtual 104, 3) := by decide +kernel
theorem dL_law_655 : decode cL_law 655 = .ok (.if_icmp .eq 261, 3) := by decide +kernel
theorem dL_law_658 : decode cL_law 658 = .ok (.iconst 0, 1) := by decide +kernel
theorem dL_law_659 : decode cL_law 659 = .ok (.ireturn, 1) := by decide +kernel
theorem dL_law_660 : decode cL_law 660 = .ok (.aload_n 1, 1) := by decide +kernel
theorem dL_law_661 : decode cL_law 661 = .ok (.aload_n 0, 1) := by decide +kernel
theorem dL_law_662 : decode cL_law 662 = .ok (.iload_n 3, 1) := by decide +kernel
theorem dL_law_663 : decode cL_law 663 = .ok (.iconst 1, 1) := by decide +kernel
theorem dL_law_664 : decode cL_law 664 = .ok (.iadd, 1) := by decide +kernel
theorem dL_law_665 : decode cL_law 665 = .ok (.iaload, 1) := by decide +kernel
theorem dL_law_666 : decode cL_law 666 = .ok (.invokevirtual 105, 3) := by decide +kernel
theorem dL_law_669 : decode cL_law 669 = .ok (.aload_n 2, 1) := by decide +kernel
theorem dL_law_670 : decode cL_law 670 = .ok (.aload_n 0, 1) := by decide +kernel
theorem dL_law_671 : decode cL_law 671 = .ok (.iload_n 3, 1) := by decide +kernel
theorem dL_law_672 : decode cL_law 672 = .ok (.iconst 1, 1) := by decide +kernel
theorem dL_law_673 : decode cL_law 673 = .ok (.iadd, 1) := by decide +kernel
theorem dL_law_674 : decode cL_law 674 = .ok (.iaload, 1) := by decide +kernel
theorem dL_law_675 : decode cL_law 675 = .ok (.invokevirtual 108, 3) := by decide +kernel
theorem dL_law_678 : decode cL_law 678 = .ok (.if_icmp .eq 238, 3) := by decide +kernel
theorem dL_law_681 : decode cL_law 681 = .ok (.iconst 0, 1) := by decide +kernel
theorem dL_law_682 : decode cL_law 682 = .ok (.ireturn, 1) := by decide +kernel
theorem dL_law_683 : decode cL_law 683 = .ok (.aload_n 1, 1) := by decide +kernel
theorem dL_law_684 : decode cL_law 684 = .ok (.aload_n 0, 1) := by decide +kernel
theorem dL_law_685 : decode cL_law 685 = .ok (.iload_n 3, 1) := by decide +kernel
theorem dL_law_686 : decode cL_law 686 = .ok (.iconst 1, 1) := by decide +kernel
theorem dL_law_687 : decode cL_law 687 = .ok (.iadd, 1) := by decide +kernel
theorem dL_law_688 : decode cL_law 688 = .ok (.iaload, 1) := by decide +kernel
theorem dL_law_689 : decode cL_law 689 = .ok (.invokevirtual 109, 3) := by decide +kernel
theorem dL_law_692 : decode cL_law 692 = .ok (.aload_n 2, 1) := by decide +kernel
theorem dL_law_693 : decode cL_law 693 = .ok (.aload_n 0, 1) := by decide +kernel
theorem dL_law_694 : decode cL_law 694 = .ok (.iload_n 3, 1) := by decide +kernel
theorem dL_law_695 : decode cL_law 695 = .ok (.iconst 1, 1) := by decide +kernel
theorem dL_law_696 : decode cL_law 696 = .ok (.iadd, 1) := by decide +kernel
theorem dL_law_697 : decode cL_law 697 = .ok (.iaload, 1) := by decide +kernel
theorem dL_law_698 : decode cL_law 698 = .ok (.invokevirtual 112, 3) := by decide +kernel
theorem dL_law_701 : decode cL_law 701 = .ok (.if_icmp .eq 215, 3) := by decide +kernel
theorem dL_law_704 : decode cL_law 704 = .ok (.iconst 0, 1) := by decide +kernel
theorem dL_law_705 : decode cL_law 705 = .ok (.ireturn, 1) := by decide +kernel
theorem dL_law_706 : decode cL_law 706 = .ok (.aload_n 1, 1) := by decide +kernel
theorem dL_law_707 : decode cL_law 707 = .ok (.invokevirtual 113, 3) := by decide +kernel
theorem dL_law_710 : decode cL_law 710 = .ok (.aload_n 2, 1) := by decide +kernel
theorem dL_law_711 : decode cL_law 711 = .ok (.invokevirtual 116, 3) := by decide +kernel
theorem dL_law_714 : decode cL_law 714 = .ok (.if_icmp .eq 202, 3) := by decide +kernel
theorem dL_law_717 : decode cL_law 717 = .ok (.iconst 0, 1) := by decide +kernel
theorem dL_law_718 : decode cL_law 718 = .ok (.ireturn, 1) := by decide +kernel
theorem dL_law_719 : decode cL_law 719 = .ok (.aload_n 1, 1) := by decide +kernel
theorem dL_law_720 : decode cL_law 720 = .ok (.aload_n 0, 1) := by decide +kernel
theorem dL_law_721 : decode cL_law 721 = .ok (.iload_n 3, 1) := by decide +kernel
theorem dL_law_722 : decode cL_law 722 = .ok (.iconst 1, 1) := by decide +kernel
theorem dL_law_723 : decode cL_law 723 = .ok (.iadd, 1) := by decide +kernel
theorem dL_law_724 : decode cL_law 724 = .ok (.iaload, 1) := by decide +kernel
theorem dL_law_725 : decode cL_law 725 = .ok (.invokevirtual 117, 3) := by decide +kernel
theorem dL_law_728 : decode cL_law 728 = .ok (.aload_n 2, 1) := by decide +kernel
theorem dL_law_729 : decode cL_law 729 = .ok (.aload_n 0, 1) := by decide +kernel
theorem dL_law_730 : decode cL_law 730 = .ok (.iload_n 3, 1) := by decide +kernel
theorem dL_law_731 : decode cL_law 731 = .ok (.iconst 1, 1) := by decide +kernel
theorem dL_law_732 : decode cL_law 732 = .ok (.iadd, 1) := by decide +kernel
theorem dL_law_733 : decode cL_law 733 = .ok (.iaload, 1) := by decide +kernel
theorem dL_law_734 : decode cL_law 734 = .ok (.invokevirtual 120, 3) := by decide +kernel
theorem dL_law_737 : decode cL_law 737 = .ok (.if_icmp .eq 179, 3) := by decide +kernel
theorem dL_law_740 : decode cL_law 740 = .ok (.iconst 0, 1) := by decide +kernel
theorem dL_law_741 : decode cL_law 741 = .ok (.ireturn, 1) := by decide +kernel
theorem dL_law_742 : decode cL_law 742 = .ok (.aload_n 1, 1) := by decide +kernel
theorem dL_law_743 : decode cL_law 743 = .ok (.aload_n 0, 1) := by decide +kernel
theorem dL_law_744 : decode cL_law 744 = .ok (.iload_n 3, 1) := by decide +kernel
theorem dL_law_745 : decode cL_law 745 = .ok (.iconst 1, 1) := by decide +kernel
theorem dL_law_746 : decode cL_law 746 = .ok (.iadd, 1) := by decide +kernel
theorem dL_law_747 : decode cL_law 747 = .ok (.iaload, 1) := by decide +kernel
theorem dL_law_748 : decode cL_law 748 = .ok (.invokevirtual 121, 3) := by decide +kernel
theorem dL_law_751 : decode cL_law 751 = .ok (.aload_n 2, 1) := by decide +kernel
theorem dL_law_752 : decode cL_law 752 = .ok (.aload_n 0, 1) := by decide +kernel
theorem dL_law_753 : decode cL_law 753 = .ok (.iload_n 3, 1) := by decide +kernel
theorem dL_law_754 : decode cL_law 754 = .ok (.iconst 1, 1) := by decide +kernel
theorem dL_law_755 : decode cL_law 755 = .ok (.iadd, 1) := by decide +kernel
theorem dL_law_756 : decode cL_law 756 = .ok (.iaload, 1) := by decide +kernel
theorem dL_law_757 : decode cL_law 757 = .ok (.invokevirtual 124, 3) := by decide +kernel
theorem dL_law_760 : decode cL_law 760 = .ok (.if_icmp .eq 156, 3) := by decide +kernel
theorem dL_law_763 : decode cL_law 763 = .ok (.iconst 0, 1) := by decide +kernel
theorem dL_law_764 : decode cL_law 764 = .ok (.ireturn, 1) := by decide +kernel
theorem dL_law_765 : decode cL_law 765 = .ok (.aload_n 1, 1) := by decide +kernel
theorem dL_law_766 : decode cL_law 766 = .ok (.invokevirtual 125, 3) := by decide +kernel
theorem dL_law_769 : decode cL_law 769 = .ok (.aload_n 2, 1) := by decide +kernel
theorem dL_law_770 : decode cL_law 770 = .ok (.invokevirtual 128, 3) := by decide +kernel
theorem dL_law_773 : decode cL_law 773 = .ok (.if_icmp .eq 143, 3) := by decide +kernel
theorem dL_law_776 : decode cL_law 776 = .ok (.iconst 0, 1) := by decide +kernel
theorem dL_law_777 : decode cL_law 777 = .ok (.ireturn, 1) := by decide +kernel
theorem dL_law_778 : decode cL_law 778 = .ok (.aload_n 1, 1) := by decide +kernel
theorem dL_law_779 : decode cL_law 779 = .ok (.invokevirtual 129, 3) := by decide +kernel
theorem dL_law_782 : decode cL_law 782 = .ok (.f2d, 1) := by decide +kernel
theorem dL_law_783 : decode cL_law 783 = .ok (.dstore 4, 2) := by decide +kernel
theorem dL_law_785 : decode cL_law 785 = .ok (.aload_n 2, 1) := by decide +kernel
theorem dL_law_786 : decode cL_law 786 = .ok (.invokevirtual 133, 3) := by decide +kernel
theorem dL_law_789 : decode cL_law 789 = .ok (.f2d, 1) := by decide +kernel
theorem dL_law_790 : decode cL_law 790 = .ok (.dstore 6, 2) := by decide +kernel
theorem dL_law_792 : decode cL_law 792 = .ok (.dload 4, 2) := by decide +kernel
theorem dL_law_794 : decode cL_law 794 = .ok (.dload 6, 2) := by decide +kernel
theorem dL_law_796 : decode cL_law 796 = .ok (.dcmp .l, 1) := by decide +kernel
theorem dL_law_797 : decode cL_law 797 = .ok (.ifCond .eq 21, 3) := by decide +kernel
theorem dL_law_800 : decode cL_law 800 = .ok (.dload 4, 2) := by decide +kernel
theorem dL_law_802 : decode cL_law 802 = .ok (.dload 4, 2) := by decide +kernel
theorem dL_law_804 : decode cL_law 804 = .ok (.dcmp .l, 1) := by decide +kernel
theorem dL_law_805 : decode cL_law 805 = .ok (.ifCond .eq 11, 3) := by decide +kernel
theorem dL_law_808 : decode cL_law 808 = .ok (.dload 6, 2) := by decide +kernel
theorem dL_law_810 : decode cL_law 810 = .ok (.dload 6, 2) := by decide +kernel
theorem dL_law_812 : decode cL_law 812 = .ok (.dcmp .l, 1) := by decide +kernel
theorem dL_law_813 : decode cL_law 813 = .ok (.ifCond .ne 5, 3) := by decide +kernel
theorem dL_law_816 : decode cL_law 816 = .ok (.iconst 0, 1) := by decide +kernel
theorem dL_law_817 : decode cL_law 817 = .ok (.ireturn, 1) := by decide +kernel
theorem dL_law_818 : decode cL_law 818 = .ok (.goto 98, 3) := by decide +kernel
theorem dL_law_821 : decode cL_law 821 = .ok (.aload_n 1, 1) := by decide +kernel
theorem dL_law_822 : decode cL_law 822 = .ok (.invokevirtual 134, 3) := by decide +kernel
theorem dL_law_825 : decode cL_law 825 = .ok (.aload_n 2, 1) := by decide +kernel
theorem dL_law_826 : decode cL_law 826 = .ok (.invokevirtual 137, 3) := by decide +kernel
theorem dL_law_829 : decode cL_law 829 = .ok (.if_icmp .eq 87, 3) := by decide +kernel
theorem dL_law_832 : decode cL_law 832 = .ok (.iconst 0, 1) := by decide +kernel
theorem dL_law_833 : decode cL_law 833 = .ok (.ireturn, 1) := by decide +kernel
theorem dL_law_834 : decode cL_law 834 = .ok (.aload_n 1, 1) := by decide +kernel
theorem dL_law_835 : decode cL_law 835 = .ok (.aload_n 0, 1) := by decide +kernel
theorem dL_law_836 : decode cL_law 836 = .ok (.iload_n 3, 1) := by decide +kernel
theorem dL_law_837 : decode cL_law 837 = .ok (.iconst 1, 1) := by decide +kernel
theorem dL_law_838 : decode cL_law 838 = .ok (.iadd, 1) := by decide +kernel
theorem dL_law_839 : decode cL_law 839 = .ok (.iaload, 1) := by decide +kernel
theorem dL_law_840 : decode cL_law 840 = .ok (.invokevirtual 138, 3) := by decide +kernel
theorem dL_law_843 : decode cL_law 843 = .ok (.aload_n 2, 1) := by decide +kernel
theorem dL_law_844 : decode cL_law 844 = .ok (.aload_n 0, 1) := by decide +kernel
theorem dL_law_845 : decode cL_law 845 = .ok (.iload_n 3, 1) := by decide +kernel
theorem dL_law_846 : decode cL_law 846 = .ok (.iconst 1, 1) := by decide +kernel
theorem dL_law_847 : decode cL_law 847 = .ok (.iadd, 1) := by decide +kernel
theorem dL_law_848 : decode cL_law 848 = .ok (.iaload, 1) := by decide +kernel
theorem dL_law_849 : decode cL_law 849 = .ok (.invokevirtual 141, 3) := by decide +kernel
theorem dL_law_852 : decode cL_law 852 = .ok (.if_icmp .eq 64, 3) := by decide +kernel
theorem dL_law_855 : decode cL_law 855 = .ok (.iconst 0, 1) := by decide +kernel
theorem dL_law_856 : decode cL_law 856 = .ok (.ireturn, 1) := by decide +kernel
theorem dL_law_857 : decode cL_law 857 = .ok (.aload_n 1, 1) := by decide +kernel
theorem dL_law_858 : decode cL_law 858 = .ok (.aload_n 0, 1) := by decide +kernel
theorem dL_law_859 : decode cL_law 859 = .ok (.iload_n 3, 1) := by decide +kernel
theorem dL_law_860 : decode cL_law 860 = .ok (.iconst 1, 1) := by decide +kernel
theorem dL_law_861 : decode cL_law 861 = .ok (.iadd, 1) := by decide +kernel
theorem dL_law_862 : decode cL_law 862 = .ok (.iaload, 1) := by decide +kernel
theorem dL_law_863 : decode cL_law 863 = .ok (.invokevirtual 142, 3) := by decide +kernel
theorem dL_law_866 : decode cL_law 866 = .ok (.aload_n 2, 1) := by decide +kernel
theorem dL_law_867 : decode cL_law 867 = .ok (.aload_n 0, 1) := by decide +kernel
theorem dL_law_868 : decode cL_law 868 = .ok (.iload_n 3, 1) := by decide +kernel
theorem dL_law_869 : decode cL_law 869 = .ok (.iconst 1, 1) := by decide +kernel
theorem dL_law_870 : decode cL_law 870 = .ok (.iadd, 1) := by decide +kernel
theorem dL_law_871 : decode cL_law 871 = .ok (.iaload, 1) := by decide +kernel
theorem dL_law_872 : decode cL_law 872 = .ok (.invokevirtual 145, 3) := by decide +kernel
theorem dL_law_875 : decode cL_law 875 = .ok (.if_icmp .eq 41, 3) := by decide +kernel
theorem dL_law_878 : decode cL_law 878 = .ok (.iconst 0, 1) := by decide +kernel
theorem dL_law_879 : decode cL_law 879 = .ok (.ireturn, 1) := by decide +kernel
theorem dL_law_880 : decode cL_law 880 = .ok (.aload_n 1, 1) := by decide +kernel
theorem dL_law_881 : decode cL_law 881 = .ok (.aload_n 0, 1) := by decide +kernel
theorem dL_law_882 : decode cL_law 882 = .ok (.iload_n 3, 1) := by decide +kernel
theorem dL_law_883 : decode cL_law 883 = .ok (.iconst 1, 1) := by decide +kernel
theorem dL_law_884 : decode cL_law 884 = .ok (.iadd, 1) := by decide +kernel
theorem dL_law_885 : decode cL_law 885 = .ok (.iaload, 1) := by decide +kernel
theorem dL_law_886 : decode cL_law 886 = .ok (.invokevirtual 146, 3) := by decide +kernel
theorem dL_law_889 : decode cL_law 889 = .ok (.aload_n 2, 1) := by decide +kernel
theorem dL_law_890 : decode cL_law 890 = .ok (.aload_n 0, 1) := by decide +kernel
theorem dL_law_891 : decode cL_law 891 = .ok (.iload_n 3, 1) := by decide +kernel
theorem dL_law_892 : decode cL_law 892 = .ok (.iconst 1, 1) := by decide +kernel
theorem dL_law_893 : decode cL_law 893 = .ok (.iadd, 1) := by decide +kernel
theorem dL_law_894 : decode cL_law 894 = .ok (.iaload, 1) := by decide +kernel
theorem dL_law_895 : decode cL_law 895 = .ok (.invokevirtual 149, 3) := by decide +kernel
theorem dL_law_898 : decode cL_law 898 = .ok (.if_icmp .eq 18, 3) := by decide +kernel
theorem dL_law_901 : decode cL_law 901 = .ok (.iconst 0, 1) := by decide +kernel
theorem dL_law_902 : decode cL_law 902 = .ok (.ireturn, 1) := by decide +kernel
theorem dL_law_903 : decode cL_law 903 = .ok (.aload_n 1, 1) := by decide +kernel
theorem dL_law_904 : decode cL_law 904 = .ok (.invokevirtual 150, 3) := by decide +kernel
theorem dL_law_907 : decode cL_law 907 = .ok (.aload_n 2, 1) := by decide +kernel
theorem dL_law_908 : decode cL_law 908 = .ok (.invokevirtual 153, 3) := by decide +kernel
theorem dL_law_911 : decode cL_law 911 = .ok (.if_icmp .eq 5, 3) := by decide +kernel
theorem dL_law_914 : decode cL_law 914 = .ok (.iconst 0, 1) := by decide +kernel
theorem dL_law_915 : decode cL_law 915 = .ok (.ireturn, 1) := by decide +kernel
theorem dL_law_916 : decode cL_law 916 = .ok (.iinc 3 4, 3) := by decide +kernel
theorem dL_law_919 : decode cL_law 919 = .ok (.goto (-901), 3) := by decide +kernel
theorem dL_law_922 : decode cL_law 922 = .ok (.iconst 1, 1) := by decide +kernel
theorem dL_law_923 : decode cL_law 923 = .ok (.ireturn, 1) := by decide +kernel
