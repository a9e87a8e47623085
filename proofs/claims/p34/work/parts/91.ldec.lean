theorem dgL_0 : (decode code 0 = .ok (.new 7, 3)) ∧ (decode code 3 = .ok (.dup, 1)) ∧ (decode code 4 = .ok (.invokespecial 9, 3)) ∧ (decode code 7 = .ok (.astore_n 1, 1)) ∧ (decode code 8 = .ok (.new 10, 3)) ∧ (decode code 11 = .ok (.dup, 1)) ∧ (decode code 12 = .ok (.invokespecial 12, 3)) ∧ (decode code 15 = .ok (.astore_n 2, 1)) ∧ (decode code 16 = .ok (.iconst 0, 1)) ∧ (decode code 17 = .ok (.istore_n 3, 1)) ∧ (decode code 18 = .ok (.iload_n 3, 1)) ∧ (decode code 19 = .ok (.aload_n 0, 1)) ∧ True := dkW [(0, .new 7, 3), (3, .dup, 1), (4, .invokespecial 9, 3), (7, .astore_n 1, 1), (8, .new 10, 3), (11, .dup, 1), (12, .invokespecial 12, 3), (15, .astore_n 2, 1), (16, .iconst 0, 1), (17, .istore_n 3, 1), (18, .iload_n 3, 1), (19, .aload_n 0, 1)] 0 (by decide +kernel)
theorem dL_0 : decode code 0 = .ok (.new 7, 3) := dgL_0.1
theorem dL_3 : decode code 3 = .ok (.dup, 1) := dgL_0.2.1
theorem dL_4 : decode code 4 = .ok (.invokespecial 9, 3) := dgL_0.2.2.1
theorem dL_7 : decode code 7 = .ok (.astore_n 1, 1) := dgL_0.2.2.2.1
theorem dL_8 : decode code 8 = .ok (.new 10, 3) := dgL_0.2.2.2.2.1
theorem dL_11 : decode code 11 = .ok (.dup, 1) := dgL_0.2.2.2.2.2.1
theorem dL_12 : decode code 12 = .ok (.invokespecial 12, 3) := dgL_0.2.2.2.2.2.2.1
theorem dL_15 : decode code 15 = .ok (.astore_n 2, 1) := dgL_0.2.2.2.2.2.2.2.1
theorem dL_16 : decode code 16 = .ok (.iconst 0, 1) := dgL_0.2.2.2.2.2.2.2.2.1
theorem dL_17 : decode code 17 = .ok (.istore_n 3, 1) := dgL_0.2.2.2.2.2.2.2.2.2.1
theorem dL_18 : decode code 18 = .ok (.iload_n 3, 1) := dgL_0.2.2.2.2.2.2.2.2.2.2.1
theorem dL_19 : decode code 19 = .ok (.aload_n 0, 1) := dgL_0.2.2.2.2.2.2.2.2.2.2.2.1
theorem dgL_20 : (decode code 20 = .ok (.arraylength, 1)) ∧ (decode code 21 = .ok (.iconst 5, 1)) ∧ (decode code 22 = .ok (.isub, 1)) ∧ (decode code 23 = .ok (.if_icmp .gt 1042, 3)) ∧ (decode code 26 = .ok (.aload_n 0, 1)) ∧ (decode code 27 = .ok (.iload_n 3, 1)) ∧ (decode code 28 = .ok (.iaload, 1)) ∧ (decode code 29 = .ok (.bipush 63, 2)) ∧ (decode code 31 = .ok (.iand, 1)) ∧ True := dkW [(20, .arraylength, 1), (21, .iconst 5, 1), (22, .isub, 1), (23, .if_icmp .gt 1042, 3), (26, .aload_n 0, 1), (27, .iload_n 3, 1), (28, .iaload, 1), (29, .bipush 63, 2), (31, .iand, 1)] 20 (by decide +kernel)
theorem dL_20 : decode code 20 = .ok (.arraylength, 1) := dgL_20.1
theorem dL_21 : decode code 21 = .ok (.iconst 5, 1) := dgL_20.2.1
theorem dL_22 : decode code 22 = .ok (.isub, 1) := dgL_20.2.2.1
theorem dL_23 : decode code 23 = .ok (.if_icmp .gt 1042, 3) := dgL_20.2.2.2.1
theorem dL_26 : decode code 26 = .ok (.aload_n 0, 1) := dgL_20.2.2.2.2.1
theorem dL_27 : decode code 27 = .ok (.iload_n 3, 1) := dgL_20.2.2.2.2.2.1
theorem dL_28 : decode code 28 = .ok (.iaload, 1) := dgL_20.2.2.2.2.2.2.1
theorem dL_29 : decode code 29 = .ok (.bipush 63, 2) := dgL_20.2.2.2.2.2.2.2.1
theorem dL_31 : decode code 31 = .ok (.iand, 1) := dgL_20.2.2.2.2.2.2.2.2.1
theorem dL_32 : decode code 32 = .ok (.tableswitch 1027 0 32 #[148, 201, 234, 257, 280, 323, 356, 389, 412, 445, 468, 481, 504, 527, 550, 573, 596, 639, 672, 705, 728, 751, 784, 797, 810, 833, 856, 879, 902, 935, 968, 981, 1004], 148) := by decide +kernel
theorem dgL_180 : (decode code 180 = .ok (.aload_n 1, 1)) ∧ (decode code 181 = .ok (.aload_n 0, 1)) ∧ (decode code 182 = .ok (.iload_n 3, 1)) ∧ (decode code 183 = .ok (.iconst 1, 1)) ∧ (decode code 184 = .ok (.iadd, 1)) ∧ (decode code 185 = .ok (.iaload, 1)) ∧ (decode code 186 = .ok (.aload_n 0, 1)) ∧ (decode code 187 = .ok (.iload_n 3, 1)) ∧ (decode code 188 = .ok (.iconst 2, 1)) ∧ (decode code 189 = .ok (.iadd, 1)) ∧ (decode code 190 = .ok (.iaload, 1)) ∧ (decode code 191 = .ok (.aload_n 0, 1)) ∧ True := dkW [(180, .aload_n 1, 1), (181, .aload_n 0, 1), (182, .iload_n 3, 1), (183, .iconst 1, 1), (184, .iadd, 1), (185, .iaload, 1), (186, .aload_n 0, 1), (187, .iload_n 3, 1), (188, .iconst 2, 1), (189, .iadd, 1), (190, .iaload, 1), (191, .aload_n 0, 1)] 180 (by decide +kernel)
theorem dL_180 : decode code 180 = .ok (.aload_n 1, 1) := dgL_180.1
theorem dL_181 : decode code 181 = .ok (.aload_n 0, 1) := dgL_180.2.1
theorem dL_182 : decode code 182 = .ok (.iload_n 3, 1) := dgL_180.2.2.1
theorem dL_183 : decode code 183 = .ok (.iconst 1, 1) := dgL_180.2.2.2.1
theorem dL_184 : decode code 184 = .ok (.iadd, 1) := dgL_180.2.2.2.2.1
theorem dL_185 : decode code 185 = .ok (.iaload, 1) := dgL_180.2.2.2.2.2.1
theorem dL_186 : decode code 186 = .ok (.aload_n 0, 1) := dgL_180.2.2.2.2.2.2.1
theorem dL_187 : decode code 187 = .ok (.iload_n 3, 1) := dgL_180.2.2.2.2.2.2.2.1
theorem dL_188 : decode code 188 = .ok (.iconst 2, 1) := dgL_180.2.2.2.2.2.2.2.2.1
theorem dL_189 : decode code 189 = .ok (.iadd, 1) := dgL_180.2.2.2.2.2.2.2.2.2.1
theorem dL_190 : decode code 190 = .ok (.iaload, 1) := dgL_180.2.2.2.2.2.2.2.2.2.2.1
theorem dL_191 : decode code 191 = .ok (.aload_n 0, 1) := dgL_180.2.2.2.2.2.2.2.2.2.2.2.1
theorem dgL_192 : (decode code 192 = .ok (.iload_n 3, 1)) ∧ (decode code 193 = .ok (.iconst 3, 1)) ∧ (decode code 194 = .ok (.iadd, 1)) ∧ (decode code 195 = .ok (.iaload, 1)) ∧ (decode code 196 = .ok (.aload_n 0, 1)) ∧ (decode code 197 = .ok (.iload_n 3, 1)) ∧ (decode code 198 = .ok (.iconst 4, 1)) ∧ (decode code 199 = .ok (.iadd, 1)) ∧ (decode code 200 = .ok (.iaload, 1)) ∧ (decode code 201 = .ok (.invokevirtual 13, 3)) ∧ (decode code 204 = .ok (.pop, 1)) ∧ (decode code 205 = .ok (.aload_n 2, 1)) ∧ True := dkW [(192, .iload_n 3, 1), (193, .iconst 3, 1), (194, .iadd, 1), (195, .iaload, 1), (196, .aload_n 0, 1), (197, .iload_n 3, 1), (198, .iconst 4, 1), (199, .iadd, 1), (200, .iaload, 1), (201, .invokevirtual 13, 3), (204, .pop, 1), (205, .aload_n 2, 1)] 192 (by decide +kernel)
theorem dL_192 : decode code 192 = .ok (.iload_n 3, 1) := dgL_192.1
theorem dL_193 : decode code 193 = .ok (.iconst 3, 1) := dgL_192.2.1
theorem dL_194 : decode code 194 = .ok (.iadd, 1) := dgL_192.2.2.1
theorem dL_195 : decode code 195 = .ok (.iaload, 1) := dgL_192.2.2.2.1
theorem dL_196 : decode code 196 = .ok (.aload_n 0, 1) := dgL_192.2.2.2.2.1
theorem dL_197 : decode code 197 = .ok (.iload_n 3, 1) := dgL_192.2.2.2.2.2.1
theorem dL_198 : decode code 198 = .ok (.iconst 4, 1) := dgL_192.2.2.2.2.2.2.1
theorem dL_199 : decode code 199 = .ok (.iadd, 1) := dgL_192.2.2.2.2.2.2.2.1
theorem dL_200 : decode code 200 = .ok (.iaload, 1) := dgL_192.2.2.2.2.2.2.2.2.1
theorem dL_201 : decode code 201 = .ok (.invokevirtual 13, 3) := dgL_192.2.2.2.2.2.2.2.2.2.1
theorem dL_204 : decode code 204 = .ok (.pop, 1) := dgL_192.2.2.2.2.2.2.2.2.2.2.1
theorem dL_205 : decode code 205 = .ok (.aload_n 2, 1) := dgL_192.2.2.2.2.2.2.2.2.2.2.2.1
theorem dgL_206 : (decode code 206 = .ok (.aload_n 0, 1)) ∧ (decode code 207 = .ok (.iload_n 3, 1)) ∧ (decode code 208 = .ok (.iconst 1, 1)) ∧ (decode code 209 = .ok (.iadd, 1)) ∧ (decode code 210 = .ok (.iaload, 1)) ∧ (decode code 211 = .ok (.aload_n 0, 1)) ∧ (decode code 212 = .ok (.iload_n 3, 1)) ∧ (decode code 213 = .ok (.iconst 2, 1)) ∧ (decode code 214 = .ok (.iadd, 1)) ∧ (decode code 215 = .ok (.iaload, 1)) ∧ (decode code 216 = .ok (.aload_n 0, 1)) ∧ (decode code 217 = .ok (.iload_n 3, 1)) ∧ True := dkW [(206, .aload_n 0, 1), (207, .iload_n 3, 1), (208, .iconst 1, 1), (209, .iadd, 1), (210, .iaload, 1), (211, .aload_n 0, 1), (212, .iload_n 3, 1), (213, .iconst 2, 1), (214, .iadd, 1), (215, .iaload, 1), (216, .aload_n 0, 1), (217, .iload_n 3, 1)] 206 (by decide +kernel)
theorem dL_206 : decode code 206 = .ok (.aload_n 0, 1) := dgL_206.1
theorem dL_207 : decode code 207 = .ok (.iload_n 3, 1) := dgL_206.2.1
theorem dL_208 : decode code 208 = .ok (.iconst 1, 1) := dgL_206.2.2.1
theorem dL_209 : decode code 209 = .ok (.iadd, 1) := dgL_206.2.2.2.1
theorem dL_210 : decode code 210 = .ok (.iaload, 1) := dgL_206.2.2.2.2.1
theorem dL_211 : decode code 211 = .ok (.aload_n 0, 1) := dgL_206.2.2.2.2.2.1
theorem dL_212 : decode code 212 = .ok (.iload_n 3, 1) := dgL_206.2.2.2.2.2.2.1
theorem dL_213 : decode code 213 = .ok (.iconst 2, 1) := dgL_206.2.2.2.2.2.2.2.1
theorem dL_214 : decode code 214 = .ok (.iadd, 1) := dgL_206.2.2.2.2.2.2.2.2.1
theorem dL_215 : decode code 215 = .ok (.iaload, 1) := dgL_206.2.2.2.2.2.2.2.2.2.1
theorem dL_216 : decode code 216 = .ok (.aload_n 0, 1) := dgL_206.2.2.2.2.2.2.2.2.2.2.1
theorem dL_217 : decode code 217 = .ok (.iload_n 3, 1) := dgL_206.2.2.2.2.2.2.2.2.2.2.2.1
theorem dgL_218 : (decode code 218 = .ok (.iconst 3, 1)) ∧ (decode code 219 = .ok (.iadd, 1)) ∧ (decode code 220 = .ok (.iaload, 1)) ∧ (decode code 221 = .ok (.aload_n 0, 1)) ∧ (decode code 222 = .ok (.iload_n 3, 1)) ∧ (decode code 223 = .ok (.iconst 4, 1)) ∧ (decode code 224 = .ok (.iadd, 1)) ∧ (decode code 225 = .ok (.iaload, 1)) ∧ (decode code 226 = .ok (.invokevirtual 17, 3)) ∧ (decode code 229 = .ok (.pop, 1)) ∧ (decode code 230 = .ok (.goto 829, 3)) ∧ (decode code 233 = .ok (.aload_n 1, 1)) ∧ True := dkW [(218, .iconst 3, 1), (219, .iadd, 1), (220, .iaload, 1), (221, .aload_n 0, 1), (222, .iload_n 3, 1), (223, .iconst 4, 1), (224, .iadd, 1), (225, .iaload, 1), (226, .invokevirtual 17, 3), (229, .pop, 1), (230, .goto 829, 3), (233, .aload_n 1, 1)] 218 (by decide +kernel)
theorem dL_218 : decode code 218 = .ok (.iconst 3, 1) := dgL_218.1
theorem dL_219 : decode code 219 = .ok (.iadd, 1) := dgL_218.2.1
theorem dL_220 : decode code 220 = .ok (.iaload, 1) := dgL_218.2.2.1
theorem dL_221 : decode code 221 = .ok (.aload_n 0, 1) := dgL_218.2.2.2.1
theorem dL_222 : decode code 222 = .ok (.iload_n 3, 1) := dgL_218.2.2.2.2.1
theorem dL_223 : decode code 223 = .ok (.iconst 4, 1) := dgL_218.2.2.2.2.2.1
theorem dL_224 : decode code 224 = .ok (.iadd, 1) := dgL_218.2.2.2.2.2.2.1
theorem dL_225 : decode code 225 = .ok (.iaload, 1) := dgL_218.2.2.2.2.2.2.2.1
theorem dL_226 : decode code 226 = .ok (.invokevirtual 17, 3) := dgL_218.2.2.2.2.2.2.2.2.1
theorem dL_229 : decode code 229 = .ok (.pop, 1) := dgL_218.2.2.2.2.2.2.2.2.2.1
theorem dL_230 : decode code 230 = .ok (.goto 829, 3) := dgL_218.2.2.2.2.2.2.2.2.2.2.1
theorem dL_233 : decode code 233 = .ok (.aload_n 1, 1) := dgL_218.2.2.2.2.2.2.2.2.2.2.2.1
theorem dgL_234 : (decode code 234 = .ok (.aload_n 0, 1)) ∧ (decode code 235 = .ok (.iload_n 3, 1)) ∧ (decode code 236 = .ok (.iconst 1, 1)) ∧ (decode code 237 = .ok (.iadd, 1)) ∧ (decode code 238 = .ok (.iaload, 1)) ∧ (decode code 239 = .ok (.aload_n 0, 1)) ∧ (decode code 240 = .ok (.iload_n 3, 1)) ∧ (decode code 241 = .ok (.iconst 2, 1)) ∧ (decode code 242 = .ok (.iadd, 1)) ∧ (decode code 243 = .ok (.iaload, 1)) ∧ (decode code 244 = .ok (.invokevirtual 18, 3)) ∧ (decode code 247 = .ok (.pop, 1)) ∧ True := dkW [(234, .aload_n 0, 1), (235, .iload_n 3, 1), (236, .iconst 1, 1), (237, .iadd, 1), (238, .iaload, 1), (239, .aload_n 0, 1), (240, .iload_n 3, 1), (241, .iconst 2, 1), (242, .iadd, 1), (243, .iaload, 1), (244, .invokevirtual 18, 3), (247, .pop, 1)] 234 (by decide +kernel)
theorem dL_234 : decode code 234 = .ok (.aload_n 0, 1) := dgL_234.1
theorem dL_235 : decode code 235 = .ok (.iload_n 3, 1) := dgL_234.2.1
theorem dL_236 : decode code 236 = .ok (.iconst 1, 1) := dgL_234.2.2.1
theorem dL_237 : decode code 237 = .ok (.iadd, 1) := dgL_234.2.2.2.1
theorem dL_238 : decode code 238 = .ok (.iaload, 1) := dgL_234.2.2.2.2.1
theorem dL_239 : decode code 239 = .ok (.aload_n 0, 1) := dgL_234.2.2.2.2.2.1
theorem dL_240 : decode code 240 = .ok (.iload_n 3, 1) := dgL_234.2.2.2.2.2.2.1
theorem dL_241 : decode code 241 = .ok (.iconst 2, 1) := dgL_234.2.2.2.2.2.2.2.1
theorem dL_242 : decode code 242 = .ok (.iadd, 1) := dgL_234.2.2.2.2.2.2.2.2.1
theorem dL_243 : decode code 243 = .ok (.iaload, 1) := dgL_234.2.2.2.2.2.2.2.2.2.1
theorem dL_244 : decode code 244 = .ok (.invokevirtual 18, 3) := dgL_234.2.2.2.2.2.2.2.2.2.2.1
theorem dL_247 : decode code 247 = .ok (.pop, 1) := dgL_234.2.2.2.2.2.2.2.2.2.2.2.1
theorem dgL_248 : (decode code 248 = .ok (.aload_n 2, 1)) ∧ (decode code 249 = .ok (.aload_n 0, 1)) ∧ (decode code 250 = .ok (.iload_n 3, 1)) ∧ (decode code 251 = .ok (.iconst 1, 1)) ∧ (decode code 252 = .ok (.iadd, 1)) ∧ (decode code 253 = .ok (.iaload, 1)) ∧ (decode code 254 = .ok (.aload_n 0, 1)) ∧ (decode code 255 = .ok (.iload_n 3, 1)) ∧ (decode code 256 = .ok (.iconst 2, 1)) ∧ (decode code 257 = .ok (.iadd, 1)) ∧ (decode code 258 = .ok (.iaload, 1)) ∧ (decode code 259 = .ok (.invokevirtual 22, 3)) ∧ True := dkW [(248, .aload_n 2, 1), (249, .aload_n 0, 1), (250, .iload_n 3, 1), (251, .iconst 1, 1), (252, .iadd, 1), (253, .iaload, 1), (254, .aload_n 0, 1), (255, .iload_n 3, 1), (256, .iconst 2, 1), (257, .iadd, 1), (258, .iaload, 1), (259, .invokevirtual 22, 3)] 248 (by decide +kernel)
theorem dL_248 : decode code 248 = .ok (.aload_n 2, 1) := dgL_248.1
theorem dL_249 : decode code 249 = .ok (.aload_n 0, 1) := dgL_248.2.1
theorem dL_250 : decode code 250 = .ok (.iload_n 3, 1) := dgL_248.2.2.1
theorem dL_251 : decode code 251 = .ok (.iconst 1, 1) := dgL_248.2.2.2.1
theorem dL_252 : decode code 252 = .ok (.iadd, 1) := dgL_248.2.2.2.2.1
theorem dL_253 : decode code 253 = .ok (.iaload, 1) := dgL_248.2.2.2.2.2.1
theorem dL_254 : decode code 254 = .ok (.aload_n 0, 1) := dgL_248.2.2.2.2.2.2.1
theorem dL_255 : decode code 255 = .ok (.iload_n 3, 1) := dgL_248.2.2.2.2.2.2.2.1
theorem dL_256 : decode code 256 = .ok (.iconst 2, 1) := dgL_248.2.2.2.2.2.2.2.2.1
theorem dL_257 : decode code 257 = .ok (.iadd, 1) := dgL_248.2.2.2.2.2.2.2.2.2.1
theorem dL_258 : decode code 258 = .ok (.iaload, 1) := dgL_248.2.2.2.2.2.2.2.2.2.2.1
theorem dL_259 : decode code 259 = .ok (.invokevirtual 22, 3) := dgL_248.2.2.2.2.2.2.2.2.2.2.2.1
theorem dgL_262 : (decode code 262 = .ok (.pop, 1)) ∧ (decode code 263 = .ok (.goto 796, 3)) ∧ (decode code 266 = .ok (.aload_n 1, 1)) ∧ (decode code 267 = .ok (.aload_n 0, 1)) ∧ (decode code 268 = .ok (.iload_n 3, 1)) ∧ (decode code 269 = .ok (.iconst 1, 1)) ∧ (decode code 270 = .ok (.iadd, 1)) ∧ (decode code 271 = .ok (.iaload, 1)) ∧ (decode code 272 = .ok (.invokevirtual 23, 3)) ∧ (decode code 275 = .ok (.pop, 1)) ∧ (decode code 276 = .ok (.aload_n 2, 1)) ∧ (decode code 277 = .ok (.aload_n 0, 1)) ∧ True := dkW [(262, .pop, 1), (263, .goto 796, 3), (266, .aload_n 1, 1), (267, .aload_n 0, 1), (268, .iload_n 3, 1), (269, .iconst 1, 1), (270, .iadd, 1), (271, .iaload, 1), (272, .invokevirtual 23, 3), (275, .pop, 1), (276, .aload_n 2, 1), (277, .aload_n 0, 1)] 262 (by decide +kernel)
theorem dL_262 : decode code 262 = .ok (.pop, 1) := dgL_262.1
theorem dL_263 : decode code 263 = .ok (.goto 796, 3) := dgL_262.2.1
theorem dL_266 : decode code 266 = .ok (.aload_n 1, 1) := dgL_262.2.2.1
theorem dL_267 : decode code 267 = .ok (.aload_n 0, 1) := dgL_262.2.2.2.1
theorem dL_268 : decode code 268 = .ok (.iload_n 3, 1) := dgL_262.2.2.2.2.1
theorem dL_269 : decode code 269 = .ok (.iconst 1, 1) := dgL_262.2.2.2.2.2.1
theorem dL_270 : decode code 270 = .ok (.iadd, 1) := dgL_262.2.2.2.2.2.2.1
theorem dL_271 : decode code 271 = .ok (.iaload, 1) := dgL_262.2.2.2.2.2.2.2.1
theorem dL_272 : decode code 272 = .ok (.invokevirtual 23, 3) := dgL_262.2.2.2.2.2.2.2.2.1
theorem dL_275 : decode code 275 = .ok (.pop, 1) := dgL_262.2.2.2.2.2.2.2.2.2.1
theorem dL_276 : decode code 276 = .ok (.aload_n 2, 1) := dgL_262.2.2.2.2.2.2.2.2.2.2.1
theorem dL_277 : decode code 277 = .ok (.aload_n 0, 1) := dgL_262.2.2.2.2.2.2.2.2.2.2.2.1
theorem dgL_278 : (decode code 278 = .ok (.iload_n 3, 1)) ∧ (decode code 279 = .ok (.iconst 1, 1)) ∧ (decode code 280 = .ok (.iadd, 1)) ∧ (decode code 281 = .ok (.iaload, 1)) ∧ (decode code 282 = .ok (.invokevirtual 27, 3)) ∧ (decode code 285 = .ok (.pop, 1)) ∧ (decode code 286 = .ok (.goto 773, 3)) ∧ (decode code 289 = .ok (.aload_n 1, 1)) ∧ (decode code 290 = .ok (.aload_n 0, 1)) ∧ (decode code 291 = .ok (.iload_n 3, 1)) ∧ (decode code 292 = .ok (.iconst 1, 1)) ∧ (decode code 293 = .ok (.iadd, 1)) ∧ True := dkW [(278, .iload_n 3, 1), (279, .iconst 1, 1), (280, .iadd, 1), (281, .iaload, 1), (282, .invokevirtual 27, 3), (285, .pop, 1), (286, .goto 773, 3), (289, .aload_n 1, 1), (290, .aload_n 0, 1), (291, .iload_n 3, 1), (292, .iconst 1, 1), (293, .iadd, 1)] 278 (by decide +kernel)
theorem dL_278 : decode code 278 = .ok (.iload_n 3, 1) := dgL_278.1
theorem dL_279 : decode code 279 = .ok (.iconst 1, 1) := dgL_278.2.1
theorem dL_280 : decode code 280 = .ok (.iadd, 1) := dgL_278.2.2.1
theorem dL_281 : decode code 281 = .ok (.iaload, 1) := dgL_278.2.2.2.1
theorem dL_282 : decode code 282 = .ok (.invokevirtual 27, 3) := dgL_278.2.2.2.2.1
theorem dL_285 : decode code 285 = .ok (.pop, 1) := dgL_278.2.2.2.2.2.1
theorem dL_286 : decode code 286 = .ok (.goto 773, 3) := dgL_278.2.2.2.2.2.2.1
theorem dL_289 : decode code 289 = .ok (.aload_n 1, 1) := dgL_278.2.2.2.2.2.2.2.1
theorem dL_290 : decode code 290 = .ok (.aload_n 0, 1) := dgL_278.2.2.2.2.2.2.2.2.1
theorem dL_291 : decode code 291 = .ok (.iload_n 3, 1) := dgL_278.2.2.2.2.2.2.2.2.2.1
theorem dL_292 : decode code 292 = .ok (.iconst 1, 1) := dgL_278.2.2.2.2.2.2.2.2.2.2.1
theorem dL_293 : decode code 293 = .ok (.iadd, 1) := dgL_278.2.2.2.2.2.2.2.2.2.2.2.1
theorem dgL_294 : (decode code 294 = .ok (.iaload, 1)) ∧ (decode code 295 = .ok (.invokevirtual 28, 3)) ∧ (decode code 298 = .ok (.pop, 1)) ∧ (decode code 299 = .ok (.aload_n 2, 1)) ∧ (decode code 300 = .ok (.aload_n 0, 1)) ∧ (decode code 301 = .ok (.iload_n 3, 1)) ∧ (decode code 302 = .ok (.iconst 1, 1)) ∧ (decode code 303 = .ok (.iadd, 1)) ∧ (decode code 304 = .ok (.iaload, 1)) ∧ (decode code 305 = .ok (.invokevirtual 31, 3)) ∧ (decode code 308 = .ok (.pop, 1)) ∧ (decode code 309 = .ok (.goto 750, 3)) ∧ True := dkW [(294, .iaload, 1), (295, .invokevirtual 28, 3), (298, .pop, 1), (299, .aload_n 2, 1), (300, .aload_n 0, 1), (301, .iload_n 3, 1), (302, .iconst 1, 1), (303, .iadd, 1), (304, .iaload, 1), (305, .invokevirtual 31, 3), (308, .pop, 1), (309, .goto 750, 3)] 294 (by decide +kernel)
theorem dL_294 : decode code 294 = .ok (.iaload, 1) := dgL_294.1
theorem dL_295 : decode code 295 = .ok (.invokevirtual 28, 3) := dgL_294.2.1
theorem dL_298 : decode code 298 = .ok (.pop, 1) := dgL_294.2.2.1
theorem dL_299 : decode code 299 = .ok (.aload_n 2, 1) := dgL_294.2.2.2.1
theorem dL_300 : decode code 300 = .ok (.aload_n 0, 1) := dgL_294.2.2.2.2.1
theorem dL_301 : decode code 301 = .ok (.iload_n 3, 1) := dgL_294.2.2.2.2.2.1
theorem dL_302 : decode code 302 = .ok (.iconst 1, 1) := dgL_294.2.2.2.2.2.2.1
theorem dL_303 : decode code 303 = .ok (.iadd, 1) := dgL_294.2.2.2.2.2.2.2.1
theorem dL_304 : decode code 304 = .ok (.iaload, 1) := dgL_294.2.2.2.2.2.2.2.2.1
theorem dL_305 : decode code 305 = .ok (.invokevirtual 31, 3) := dgL_294.2.2.2.2.2.2.2.2.2.1
theorem dL_308 : decode code 308 = .ok (.pop, 1) := dgL_294.2.2.2.2.2.2.2.2.2.2.1
theorem dL_309 : decode code 309 = .ok (.goto 750, 3) := dgL_294.2.2.2.2.2.2.2.2.2.2.2.1
theorem dgL_312 : (decode code 312 = .ok (.aload_n 1, 1)) ∧ (decode code 313 = .ok (.aload_n 0, 1)) ∧ (decode code 314 = .ok (.iload_n 3, 1)) ∧ (decode code 315 = .ok (.iconst 1, 1)) ∧ (decode code 316 = .ok (.iadd, 1)) ∧ (decode code 317 = .ok (.iaload, 1)) ∧ (decode code 318 = .ok (.aload_n 0, 1)) ∧ (decode code 319 = .ok (.iload_n 3, 1)) ∧ (decode code 320 = .ok (.iconst 2, 1)) ∧ (decode code 321 = .ok (.iadd, 1)) ∧ (decode code 322 = .ok (.iaload, 1)) ∧ (decode code 323 = .ok (.aload_n 0, 1)) ∧ True := dkW [(312, .aload_n 1, 1), (313, .aload_n 0, 1), (314, .iload_n 3, 1), (315, .iconst 1, 1), (316, .iadd, 1), (317, .iaload, 1), (318, .aload_n 0, 1), (319, .iload_n 3, 1), (320, .iconst 2, 1), (321, .iadd, 1), (322, .iaload, 1), (323, .aload_n 0, 1)] 312 (by decide +kernel)
theorem dL_312 : decode code 312 = .ok (.aload_n 1, 1) := dgL_312.1
theorem dL_313 : decode code 313 = .ok (.aload_n 0, 1) := dgL_312.2.1
theorem dL_314 : decode code 314 = .ok (.iload_n 3, 1) := dgL_312.2.2.1
theorem dL_315 : decode code 315 = .ok (.iconst 1, 1) := dgL_312.2.2.2.1
theorem dL_316 : decode code 316 = .ok (.iadd, 1) := dgL_312.2.2.2.2.1
theorem dL_317 : decode code 317 = .ok (.iaload, 1) := dgL_312.2.2.2.2.2.1
theorem dL_318 : decode code 318 = .ok (.aload_n 0, 1) := dgL_312.2.2.2.2.2.2.1
theorem dL_319 : decode code 319 = .ok (.iload_n 3, 1) := dgL_312.2.2.2.2.2.2.2.1
theorem dL_320 : decode code 320 = .ok (.iconst 2, 1) := dgL_312.2.2.2.2.2.2.2.2.1
theorem dL_321 : decode code 321 = .ok (.iadd, 1) := dgL_312.2.2.2.2.2.2.2.2.2.1
theorem dL_322 : decode code 322 = .ok (.iaload, 1) := dgL_312.2.2.2.2.2.2.2.2.2.2.1
theorem dL_323 : decode code 323 = .ok (.aload_n 0, 1) := dgL_312.2.2.2.2.2.2.2.2.2.2.2.1
theorem dgL_324 : (decode code 324 = .ok (.iload_n 3, 1)) ∧ (decode code 325 = .ok (.iconst 3, 1)) ∧ (decode code 326 = .ok (.iadd, 1)) ∧ (decode code 327 = .ok (.iaload, 1)) ∧ (decode code 328 = .ok (.invokevirtual 32, 3)) ∧ (decode code 331 = .ok (.pop, 1)) ∧ (decode code 332 = .ok (.aload_n 2, 1)) ∧ (decode code 333 = .ok (.aload_n 0, 1)) ∧ (decode code 334 = .ok (.iload_n 3, 1)) ∧ (decode code 335 = .ok (.iconst 1, 1)) ∧ (decode code 336 = .ok (.iadd, 1)) ∧ (decode code 337 = .ok (.iaload, 1)) ∧ True := dkW [(324, .iload_n 3, 1), (325, .iconst 3, 1), (326, .iadd, 1), (327, .iaload, 1), (328, .invokevirtual 32, 3), (331, .pop, 1), (332, .aload_n 2, 1), (333, .aload_n 0, 1), (334, .iload_n 3, 1), (335, .iconst 1, 1), (336, .iadd, 1), (337, .iaload, 1)] 324 (by decide +kernel)
theorem dL_324 : decode code 324 = .ok (.iload_n 3, 1) := dgL_324.1
theorem dL_325 : decode code 325 = .ok (.iconst 3, 1) := dgL_324.2.1
theorem dL_326 : decode code 326 = .ok (.iadd, 1) := dgL_324.2.2.1
theorem dL_327 : decode code 327 = .ok (.iaload, 1) := dgL_324.2.2.2.1
theorem dL_328 : decode code 328 = .ok (.invokevirtual 32, 3) := dgL_324.2.2.2.2.1
theorem dL_331 : decode code 331 = .ok (.pop, 1) := dgL_324.2.2.2.2.2.1
theorem dL_332 : decode code 332 = .ok (.aload_n 2, 1) := dgL_324.2.2.2.2.2.2.1
theorem dL_333 : decode code 333 = .ok (.aload_n 0, 1) := dgL_324.2.2.2.2.2.2.2.1
theorem dL_334 : decode code 334 = .ok (.iload_n 3, 1) := dgL_324.2.2.2.2.2.2.2.2.1
theorem dL_335 : decode code 335 = .ok (.iconst 1, 1) := dgL_324.2.2.2.2.2.2.2.2.2.1
theorem dL_336 : decode code 336 = .ok (.iadd, 1) := dgL_324.2.2.2.2.2.2.2.2.2.2.1
theorem dL_337 : decode code 337 = .ok (.iaload, 1) := dgL_324.2.2.2.2.2.2.2.2.2.2.2.1
theorem dgL_338 : (decode code 338 = .ok (.aload_n 0, 1)) ∧ (decode code 339 = .ok (.iload_n 3, 1)) ∧ (decode code 340 = .ok (.iconst 2, 1)) ∧ (decode code 341 = .ok (.iadd, 1)) ∧ (decode code 342 = .ok (.iaload, 1)) ∧ (decode code 343 = .ok (.aload_n 0, 1)) ∧ (decode code 344 = .ok (.iload_n 3, 1)) ∧ (decode code 345 = .ok (.iconst 3, 1)) ∧ (decode code 346 = .ok (.iadd, 1)) ∧ (decode code 347 = .ok (.iaload, 1)) ∧ (decode code 348 = .ok (.invokevirtual 36, 3)) ∧ (decode code 351 = .ok (.pop, 1)) ∧ True := dkW [(338, .aload_n 0, 1), (339, .iload_n 3, 1), (340, .iconst 2, 1), (341, .iadd, 1), (342, .iaload, 1), (343, .aload_n 0, 1), (344, .iload_n 3, 1), (345, .iconst 3, 1), (346, .iadd, 1), (347, .iaload, 1), (348, .invokevirtual 36, 3), (351, .pop, 1)] 338 (by decide +kernel)
theorem dL_338 : decode code 338 = .ok (.aload_n 0, 1) := dgL_338.1
theorem dL_339 : decode code 339 = .ok (.iload_n 3, 1) := dgL_338.2.1
theorem dL_340 : decode code 340 = .ok (.iconst 2, 1) := dgL_338.2.2.1
theorem dL_341 : decode code 341 = .ok (.iadd, 1) := dgL_338.2.2.2.1
theorem dL_342 : decode code 342 = .ok (.iaload, 1) := dgL_338.2.2.2.2.1
theorem dL_343 : decode code 343 = .ok (.aload_n 0, 1) := dgL_338.2.2.2.2.2.1
theorem dL_344 : decode code 344 = .ok (.iload_n 3, 1) := dgL_338.2.2.2.2.2.2.1
theorem dL_345 : decode code 345 = .ok (.iconst 3, 1) := dgL_338.2.2.2.2.2.2.2.1
theorem dL_346 : decode code 346 = .ok (.iadd, 1) := dgL_338.2.2.2.2.2.2.2.2.1
theorem dL_347 : decode code 347 = .ok (.iaload, 1) := dgL_338.2.2.2.2.2.2.2.2.2.1
theorem dL_348 : decode code 348 = .ok (.invokevirtual 36, 3) := dgL_338.2.2.2.2.2.2.2.2.2.2.1
theorem dL_351 : decode code 351 = .ok (.pop, 1) := dgL_338.2.2.2.2.2.2.2.2.2.2.2.1
theorem dgL_352 : (decode code 352 = .ok (.goto 707, 3)) ∧ (decode code 355 = .ok (.aload_n 1, 1)) ∧ (decode code 356 = .ok (.aload_n 0, 1)) ∧ (decode code 357 = .ok (.iload_n 3, 1)) ∧ (decode code 358 = .ok (.iconst 1, 1)) ∧ (decode code 359 = .ok (.iadd, 1)) ∧ (decode code 360 = .ok (.iaload, 1)) ∧ (decode code 361 = .ok (.aload_n 0, 1)) ∧ (decode code 362 = .ok (.iload_n 3, 1)) ∧ (decode code 363 = .ok (.iconst 2, 1)) ∧ (decode code 364 = .ok (.iadd, 1)) ∧ (decode code 365 = .ok (.iaload, 1)) ∧ True := dkW [(352, .goto 707, 3), (355, .aload_n 1, 1), (356, .aload_n 0, 1), (357, .iload_n 3, 1), (358, .iconst 1, 1), (359, .iadd, 1), (360, .iaload, 1), (361, .aload_n 0, 1), (362, .iload_n 3, 1), (363, .iconst 2, 1), (364, .iadd, 1), (365, .iaload, 1)] 352 (by decide +kernel)
theorem dL_352 : decode code 352 = .ok (.goto 707, 3) := dgL_352.1
theorem dL_355 : decode code 355 = .ok (.aload_n 1, 1) := dgL_352.2.1
theorem dL_356 : decode code 356 = .ok (.aload_n 0, 1) := dgL_352.2.2.1
theorem dL_357 : decode code 357 = .ok (.iload_n 3, 1) := dgL_352.2.2.2.1
theorem dL_358 : decode code 358 = .ok (.iconst 1, 1) := dgL_352.2.2.2.2.1
theorem dL_359 : decode code 359 = .ok (.iadd, 1) := dgL_352.2.2.2.2.2.1
theorem dL_360 : decode code 360 = .ok (.iaload, 1) := dgL_352.2.2.2.2.2.2.1
theorem dL_361 : decode code 361 = .ok (.aload_n 0, 1) := dgL_352.2.2.2.2.2.2.2.1
theorem dL_362 : decode code 362 = .ok (.iload_n 3, 1) := dgL_352.2.2.2.2.2.2.2.2.1
theorem dL_363 : decode code 363 = .ok (.iconst 2, 1) := dgL_352.2.2.2.2.2.2.2.2.2.1
theorem dL_364 : decode code 364 = .ok (.iadd, 1) := dgL_352.2.2.2.2.2.2.2.2.2.2.1
theorem dL_365 : decode code 365 = .ok (.iaload, 1) := dgL_352.2.2.2.2.2.2.2.2.2.2.2.1
theorem dgL_366 : (decode code 366 = .ok (.invokevirtual 37, 3)) ∧ (decode code 369 = .ok (.pop, 1)) ∧ (decode code 370 = .ok (.aload_n 2, 1)) ∧ (decode code 371 = .ok (.aload_n 0, 1)) ∧ (decode code 372 = .ok (.iload_n 3, 1)) ∧ (decode code 373 = .ok (.iconst 1, 1)) ∧ (decode code 374 = .ok (.iadd, 1)) ∧ (decode code 375 = .ok (.iaload, 1)) ∧ (decode code 376 = .ok (.aload_n 0, 1)) ∧ (decode code 377 = .ok (.iload_n 3, 1)) ∧ (decode code 378 = .ok (.iconst 2, 1)) ∧ (decode code 379 = .ok (.iadd, 1)) ∧ True := dkW [(366, .invokevirtual 37, 3), (369, .pop, 1), (370, .aload_n 2, 1), (371, .aload_n 0, 1), (372, .iload_n 3, 1), (373, .iconst 1, 1), (374, .iadd, 1), (375, .iaload, 1), (376, .aload_n 0, 1), (377, .iload_n 3, 1), (378, .iconst 2, 1), (379, .iadd, 1)] 366 (by decide +kernel)
theorem dL_366 : decode code 366 = .ok (.invokevirtual 37, 3) := dgL_366.1
theorem dL_369 : decode code 369 = .ok (.pop, 1) := dgL_366.2.1
theorem dL_370 : decode code 370 = .ok (.aload_n 2, 1) := dgL_366.2.2.1
theorem dL_371 : decode code 371 = .ok (.aload_n 0, 1) := dgL_366.2.2.2.1
theorem dL_372 : decode code 372 = .ok (.iload_n 3, 1) := dgL_366.2.2.2.2.1
theorem dL_373 : decode code 373 = .ok (.iconst 1, 1) := dgL_366.2.2.2.2.2.1
theorem dL_374 : decode code 374 = .ok (.iadd, 1) := dgL_366.2.2.2.2.2.2.1
theorem dL_375 : decode code 375 = .ok (.iaload, 1) := dgL_366.2.2.2.2.2.2.2.1
theorem dL_376 : decode code 376 = .ok (.aload_n 0, 1) := dgL_366.2.2.2.2.2.2.2.2.1
theorem dL_377 : decode code 377 = .ok (.iload_n 3, 1) := dgL_366.2.2.2.2.2.2.2.2.2.1
theorem dL_378 : decode code 378 = .ok (.iconst 2, 1) := dgL_366.2.2.2.2.2.2.2.2.2.2.1
theorem dL_379 : decode code 379 = .ok (.iadd, 1) := dgL_366.2.2.2.2.2.2.2.2.2.2.2.1
theorem dgL_380 : (decode code 380 = .ok (.iaload, 1)) ∧ (decode code 381 = .ok (.invokevirtual 40, 3)) ∧ (decode code 384 = .ok (.pop, 1)) ∧ (decode code 385 = .ok (.goto 674, 3)) ∧ (decode code 388 = .ok (.aload_n 1, 1)) ∧ (decode code 389 = .ok (.aload_n 0, 1)) ∧ (decode code 390 = .ok (.iload_n 3, 1)) ∧ (decode code 391 = .ok (.iconst 1, 1)) ∧ (decode code 392 = .ok (.iadd, 1)) ∧ (decode code 393 = .ok (.iaload, 1)) ∧ (decode code 394 = .ok (.aload_n 0, 1)) ∧ (decode code 395 = .ok (.iload_n 3, 1)) ∧ True := dkW [(380, .iaload, 1), (381, .invokevirtual 40, 3), (384, .pop, 1), (385, .goto 674, 3), (388, .aload_n 1, 1), (389, .aload_n 0, 1), (390, .iload_n 3, 1), (391, .iconst 1, 1), (392, .iadd, 1), (393, .iaload, 1), (394, .aload_n 0, 1), (395, .iload_n 3, 1)] 380 (by decide +kernel)
theorem dL_380 : decode code 380 = .ok (.iaload, 1) := dgL_380.1
theorem dL_381 : decode code 381 = .ok (.invokevirtual 40, 3) := dgL_380.2.1
theorem dL_384 : decode code 384 = .ok (.pop, 1) := dgL_380.2.2.1
theorem dL_385 : decode code 385 = .ok (.goto 674, 3) := dgL_380.2.2.2.1
theorem dL_388 : decode code 388 = .ok (.aload_n 1, 1) := dgL_380.2.2.2.2.1
theorem dL_389 : decode code 389 = .ok (.aload_n 0, 1) := dgL_380.2.2.2.2.2.1
theorem dL_390 : decode code 390 = .ok (.iload_n 3, 1) := dgL_380.2.2.2.2.2.2.1
theorem dL_391 : decode code 391 = .ok (.iconst 1, 1) := dgL_380.2.2.2.2.2.2.2.1
theorem dL_392 : decode code 392 = .ok (.iadd, 1) := dgL_380.2.2.2.2.2.2.2.2.1
theorem dL_393 : decode code 393 = .ok (.iaload, 1) := dgL_380.2.2.2.2.2.2.2.2.2.1
theorem dL_394 : decode code 394 = .ok (.aload_n 0, 1) := dgL_380.2.2.2.2.2.2.2.2.2.2.1
theorem dL_395 : decode code 395 = .ok (.iload_n 3, 1) := dgL_380.2.2.2.2.2.2.2.2.2.2.2.1
theorem dgL_396 : (decode code 396 = .ok (.iconst 2, 1)) ∧ (decode code 397 = .ok (.iadd, 1)) ∧ (decode code 398 = .ok (.iaload, 1)) ∧ (decode code 399 = .ok (.invokevirtual 41, 3)) ∧ (decode code 402 = .ok (.pop, 1)) ∧ (decode code 403 = .ok (.aload_n 2, 1)) ∧ (decode code 404 = .ok (.aload_n 0, 1)) ∧ (decode code 405 = .ok (.iload_n 3, 1)) ∧ (decode code 406 = .ok (.iconst 1, 1)) ∧ (decode code 407 = .ok (.iadd, 1)) ∧ (decode code 408 = .ok (.iaload, 1)) ∧ (decode code 409 = .ok (.aload_n 0, 1)) ∧ True := dkW [(396, .iconst 2, 1), (397, .iadd, 1), (398, .iaload, 1), (399, .invokevirtual 41, 3), (402, .pop, 1), (403, .aload_n 2, 1), (404, .aload_n 0, 1), (405, .iload_n 3, 1), (406, .iconst 1, 1), (407, .iadd, 1), (408, .iaload, 1), (409, .aload_n 0, 1)] 396 (by decide +kernel)
theorem dL_396 : decode code 396 = .ok (.iconst 2, 1) := dgL_396.1
theorem dL_397 : decode code 397 = .ok (.iadd, 1) := dgL_396.2.1
theorem dL_398 : decode code 398 = .ok (.iaload, 1) := dgL_396.2.2.1
theorem dL_399 : decode code 399 = .ok (.invokevirtual 41, 3) := dgL_396.2.2.2.1
theorem dL_402 : decode code 402 = .ok (.pop, 1) := dgL_396.2.2.2.2.1
theorem dL_403 : decode code 403 = .ok (.aload_n 2, 1) := dgL_396.2.2.2.2.2.1
theorem dL_404 : decode code 404 = .ok (.aload_n 0, 1) := dgL_396.2.2.2.2.2.2.1
theorem dL_405 : decode code 405 = .ok (.iload_n 3, 1) := dgL_396.2.2.2.2.2.2.2.1
theorem dL_406 : decode code 406 = .ok (.iconst 1, 1) := dgL_396.2.2.2.2.2.2.2.2.1
theorem dL_407 : decode code 407 = .ok (.iadd, 1) := dgL_396.2.2.2.2.2.2.2.2.2.1
theorem dL_408 : decode code 408 = .ok (.iaload, 1) := dgL_396.2.2.2.2.2.2.2.2.2.2.1
theorem dL_409 : decode code 409 = .ok (.aload_n 0, 1) := dgL_396.2.2.2.2.2.2.2.2.2.2.2.1
theorem dgL_410 : (decode code 410 = .ok (.iload_n 3, 1)) ∧ (decode code 411 = .ok (.iconst 2, 1)) ∧ (decode code 412 = .ok (.iadd, 1)) ∧ (decode code 413 = .ok (.iaload, 1)) ∧ (decode code 414 = .ok (.invokevirtual 44, 3)) ∧ (decode code 417 = .ok (.pop, 1)) ∧ (decode code 418 = .ok (.goto 641, 3)) ∧ (decode code 421 = .ok (.aload_n 1, 1)) ∧ (decode code 422 = .ok (.aload_n 0, 1)) ∧ (decode code 423 = .ok (.iload_n 3, 1)) ∧ (decode code 424 = .ok (.iconst 1, 1)) ∧ (decode code 425 = .ok (.iadd, 1)) ∧ True := dkW [(410, .iload_n 3, 1), (411, .iconst 2, 1), (412, .iadd, 1), (413, .iaload, 1), (414, .invokevirtual 44, 3), (417, .pop, 1), (418, .goto 641, 3), (421, .aload_n 1, 1), (422, .aload_n 0, 1), (423, .iload_n 3, 1), (424, .iconst 1, 1), (425, .iadd, 1)] 410 (by decide +kernel)
theorem dL_410 : decode code 410 = .ok (.iload_n 3, 1) := dgL_410.1
theorem dL_411 : decode code 411 = .ok (.iconst 2, 1) := dgL_410.2.1
theorem dL_412 : decode code 412 = .ok (.iadd, 1) := dgL_410.2.2.1
theorem dL_413 : decode code 413 = .ok (.iaload, 1) := dgL_410.2.2.2.1
theorem dL_414 : decode code 414 = .ok (.invokevirtual 44, 3) := dgL_410.2.2.2.2.1
theorem dL_417 : decode code 417 = .ok (.pop, 1) := dgL_410.2.2.2.2.2.1
theorem dL_418 : decode code 418 = .ok (.goto 641, 3) := dgL_410.2.2.2.2.2.2.1
theorem dL_421 : decode code 421 = .ok (.aload_n 1, 1) := dgL_410.2.2.2.2.2.2.2.1
theorem dL_422 : decode code 422 = .ok (.aload_n 0, 1) := dgL_410.2.2.2.2.2.2.2.2.1
theorem dL_423 : decode code 423 = .ok (.iload_n 3, 1) := dgL_410.2.2.2.2.2.2.2.2.2.1
theorem dL_424 : decode code 424 = .ok (.iconst 1, 1) := dgL_410.2.2.2.2.2.2.2.2.2.2.1
theorem dL_425 : decode code 425 = .ok (.iadd, 1) := dgL_410.2.2.2.2.2.2.2.2.2.2.2.1
theorem dgL_426 : (decode code 426 = .ok (.iaload, 1)) ∧ (decode code 427 = .ok (.invokevirtual 45, 3)) ∧ (decode code 430 = .ok (.pop, 1)) ∧ (decode code 431 = .ok (.aload_n 2, 1)) ∧ (decode code 432 = .ok (.aload_n 0, 1)) ∧ (decode code 433 = .ok (.iload_n 3, 1)) ∧ (decode code 434 = .ok (.iconst 1, 1)) ∧ (decode code 435 = .ok (.iadd, 1)) ∧ (decode code 436 = .ok (.iaload, 1)) ∧ (decode code 437 = .ok (.invokevirtual 48, 3)) ∧ (decode code 440 = .ok (.pop, 1)) ∧ (decode code 441 = .ok (.goto 618, 3)) ∧ True := dkW [(426, .iaload, 1), (427, .invokevirtual 45, 3), (430, .pop, 1), (431, .aload_n 2, 1), (432, .aload_n 0, 1), (433, .iload_n 3, 1), (434, .iconst 1, 1), (435, .iadd, 1), (436, .iaload, 1), (437, .invokevirtual 48, 3), (440, .pop, 1), (441, .goto 618, 3)] 426 (by decide +kernel)
theorem dL_426 : decode code 426 = .ok (.iaload, 1) := dgL_426.1
theorem dL_427 : decode code 427 = .ok (.invokevirtual 45, 3) := dgL_426.2.1
theorem dL_430 : decode code 430 = .ok (.pop, 1) := dgL_426.2.2.1
theorem dL_431 : decode code 431 = .ok (.aload_n 2, 1) := dgL_426.2.2.2.1
theorem dL_432 : decode code 432 = .ok (.aload_n 0, 1) := dgL_426.2.2.2.2.1
theorem dL_433 : decode code 433 = .ok (.iload_n 3, 1) := dgL_426.2.2.2.2.2.1
theorem dL_434 : decode code 434 = .ok (.iconst 1, 1) := dgL_426.2.2.2.2.2.2.1
theorem dL_435 : decode code 435 = .ok (.iadd, 1) := dgL_426.2.2.2.2.2.2.2.1
theorem dL_436 : decode code 436 = .ok (.iaload, 1) := dgL_426.2.2.2.2.2.2.2.2.1
theorem dL_437 : decode code 437 = .ok (.invokevirtual 48, 3) := dgL_426.2.2.2.2.2.2.2.2.2.1
theorem dL_440 : decode code 440 = .ok (.pop, 1) := dgL_426.2.2.2.2.2.2.2.2.2.2.1
theorem dL_441 : decode code 441 = .ok (.goto 618, 3) := dgL_426.2.2.2.2.2.2.2.2.2.2.2.1
theorem dgL_444 : (decode code 444 = .ok (.aload_n 1, 1)) ∧ (decode code 445 = .ok (.aload_n 0, 1)) ∧ (decode code 446 = .ok (.iload_n 3, 1)) ∧ (decode code 447 = .ok (.iconst 1, 1)) ∧ (decode code 448 = .ok (.iadd, 1)) ∧ (decode code 449 = .ok (.iaload, 1)) ∧ (decode code 450 = .ok (.aload_n 0, 1)) ∧ (decode code 451 = .ok (.iload_n 3, 1)) ∧ (decode code 452 = .ok (.iconst 2, 1)) ∧ (decode code 453 = .ok (.iadd, 1)) ∧ (decode code 454 = .ok (.iaload, 1)) ∧ (decode code 455 = .ok (.invokevirtual 49, 3)) ∧ True := dkW [(444, .aload_n 1, 1), (445, .aload_n 0, 1), (446, .iload_n 3, 1), (447, .iconst 1, 1), (448, .iadd, 1), (449, .iaload, 1), (450, .aload_n 0, 1), (451, .iload_n 3, 1), (452, .iconst 2, 1), (453, .iadd, 1), (454, .iaload, 1), (455, .invokevirtual 49, 3)] 444 (by decide +kernel)
theorem dL_444 : decode code 444 = .ok (.aload_n 1, 1) := dgL_444.1
theorem dL_445 : decode code 445 = .ok (.aload_n 0, 1) := dgL_444.2.1
theorem dL_446 : decode code 446 = .ok (.iload_n 3, 1) := dgL_444.2.2.1
theorem dL_447 : decode code 447 = .ok (.iconst 1, 1) := dgL_444.2.2.2.1
theorem dL_448 : decode code 448 = .ok (.iadd, 1) := dgL_444.2.2.2.2.1
theorem dL_449 : decode code 449 = .ok (.iaload, 1) := dgL_444.2.2.2.2.2.1
theorem dL_450 : decode code 450 = .ok (.aload_n 0, 1) := dgL_444.2.2.2.2.2.2.1
theorem dL_451 : decode code 451 = .ok (.iload_n 3, 1) := dgL_444.2.2.2.2.2.2.2.1
theorem dL_452 : decode code 452 = .ok (.iconst 2, 1) := dgL_444.2.2.2.2.2.2.2.2.1
theorem dL_453 : decode code 453 = .ok (.iadd, 1) := dgL_444.2.2.2.2.2.2.2.2.2.1
theorem dL_454 : decode code 454 = .ok (.iaload, 1) := dgL_444.2.2.2.2.2.2.2.2.2.2.1
theorem dL_455 : decode code 455 = .ok (.invokevirtual 49, 3) := dgL_444.2.2.2.2.2.2.2.2.2.2.2.1
theorem dgL_458 : (decode code 458 = .ok (.pop, 1)) ∧ (decode code 459 = .ok (.aload_n 2, 1)) ∧ (decode code 460 = .ok (.aload_n 0, 1)) ∧ (decode code 461 = .ok (.iload_n 3, 1)) ∧ (decode code 462 = .ok (.iconst 1, 1)) ∧ (decode code 463 = .ok (.iadd, 1)) ∧ (decode code 464 = .ok (.iaload, 1)) ∧ (decode code 465 = .ok (.aload_n 0, 1)) ∧ (decode code 466 = .ok (.iload_n 3, 1)) ∧ (decode code 467 = .ok (.iconst 2, 1)) ∧ (decode code 468 = .ok (.iadd, 1)) ∧ (decode code 469 = .ok (.iaload, 1)) ∧ True := dkW [(458, .pop, 1), (459, .aload_n 2, 1), (460, .aload_n 0, 1), (461, .iload_n 3, 1), (462, .iconst 1, 1), (463, .iadd, 1), (464, .iaload, 1), (465, .aload_n 0, 1), (466, .iload_n 3, 1), (467, .iconst 2, 1), (468, .iadd, 1), (469, .iaload, 1)] 458 (by decide +kernel)
theorem dL_458 : decode code 458 = .ok (.pop, 1) := dgL_458.1
theorem dL_459 : decode code 459 = .ok (.aload_n 2, 1) := dgL_458.2.1
theorem dL_460 : decode code 460 = .ok (.aload_n 0, 1) := dgL_458.2.2.1
theorem dL_461 : decode code 461 = .ok (.iload_n 3, 1) := dgL_458.2.2.2.1
theorem dL_462 : decode code 462 = .ok (.iconst 1, 1) := dgL_458.2.2.2.2.1
theorem dL_463 : decode code 463 = .ok (.iadd, 1) := dgL_458.2.2.2.2.2.1
theorem dL_464 : decode code 464 = .ok (.iaload, 1) := dgL_458.2.2.2.2.2.2.1
theorem dL_465 : decode code 465 = .ok (.aload_n 0, 1) := dgL_458.2.2.2.2.2.2.2.1
theorem dL_466 : decode code 466 = .ok (.iload_n 3, 1) := dgL_458.2.2.2.2.2.2.2.2.1
theorem dL_467 : decode code 467 = .ok (.iconst 2, 1) := dgL_458.2.2.2.2.2.2.2.2.2.1
theorem dL_468 : decode code 468 = .ok (.iadd, 1) := dgL_458.2.2.2.2.2.2.2.2.2.2.1
theorem dL_469 : decode code 469 = .ok (.iaload, 1) := dgL_458.2.2.2.2.2.2.2.2.2.2.2.1
theorem dgL_470 : (decode code 470 = .ok (.invokevirtual 52, 3)) ∧ (decode code 473 = .ok (.pop, 1)) ∧ (decode code 474 = .ok (.goto 585, 3)) ∧ (decode code 477 = .ok (.aload_n 1, 1)) ∧ (decode code 478 = .ok (.aload_n 0, 1)) ∧ (decode code 479 = .ok (.iload_n 3, 1)) ∧ (decode code 480 = .ok (.iconst 1, 1)) ∧ (decode code 481 = .ok (.iadd, 1)) ∧ (decode code 482 = .ok (.iaload, 1)) ∧ (decode code 483 = .ok (.invokevirtual 53, 3)) ∧ (decode code 486 = .ok (.pop, 1)) ∧ (decode code 487 = .ok (.aload_n 2, 1)) ∧ True := dkW [(470, .invokevirtual 52, 3), (473, .pop, 1), (474, .goto 585, 3), (477, .aload_n 1, 1), (478, .aload_n 0, 1), (479, .iload_n 3, 1), (480, .iconst 1, 1), (481, .iadd, 1), (482, .iaload, 1), (483, .invokevirtual 53, 3), (486, .pop, 1), (487, .aload_n 2, 1)] 470 (by decide +kernel)
theorem dL_470 : decode code 470 = .ok (.invokevirtual 52, 3) := dgL_470.1
theorem dL_473 : decode code 473 = .ok (.pop, 1) := dgL_470.2.1
theorem dL_474 : decode code 474 = .ok (.goto 585, 3) := dgL_470.2.2.1
theorem dL_477 : decode code 477 = .ok (.aload_n 1, 1) := dgL_470.2.2.2.1
theorem dL_478 : decode code 478 = .ok (.aload_n 0, 1) := dgL_470.2.2.2.2.1
theorem dL_479 : decode code 479 = .ok (.iload_n 3, 1) := dgL_470.2.2.2.2.2.1
theorem dL_480 : decode code 480 = .ok (.iconst 1, 1) := dgL_470.2.2.2.2.2.2.1
theorem dL_481 : decode code 481 = .ok (.iadd, 1) := dgL_470.2.2.2.2.2.2.2.1
theorem dL_482 : decode code 482 = .ok (.iaload, 1) := dgL_470.2.2.2.2.2.2.2.2.1
theorem dL_483 : decode code 483 = .ok (.invokevirtual 53, 3) := dgL_470.2.2.2.2.2.2.2.2.2.1
theorem dL_486 : decode code 486 = .ok (.pop, 1) := dgL_470.2.2.2.2.2.2.2.2.2.2.1
theorem dL_487 : decode code 487 = .ok (.aload_n 2, 1) := dgL_470.2.2.2.2.2.2.2.2.2.2.2.1
theorem dgL_488 : (decode code 488 = .ok (.aload_n 0, 1)) ∧ (decode code 489 = .ok (.iload_n 3, 1)) ∧ (decode code 490 = .ok (.iconst 1, 1)) ∧ (decode code 491 = .ok (.iadd, 1)) ∧ (decode code 492 = .ok (.iaload, 1)) ∧ (decode code 493 = .ok (.invokevirtual 56, 3)) ∧ (decode code 496 = .ok (.pop, 1)) ∧ (decode code 497 = .ok (.goto 562, 3)) ∧ (decode code 500 = .ok (.aload_n 1, 1)) ∧ (decode code 501 = .ok (.invokevirtual 57, 3)) ∧ (decode code 504 = .ok (.pop, 1)) ∧ (decode code 505 = .ok (.aload_n 2, 1)) ∧ True := dkW [(488, .aload_n 0, 1), (489, .iload_n 3, 1), (490, .iconst 1, 1), (491, .iadd, 1), (492, .iaload, 1), (493, .invokevirtual 56, 3), (496, .pop, 1), (497, .goto 562, 3), (500, .aload_n 1, 1), (501, .invokevirtual 57, 3), (504, .pop, 1), (505, .aload_n 2, 1)] 488 (by decide +kernel)
theorem dL_488 : decode code 488 = .ok (.aload_n 0, 1) := dgL_488.1
theorem dL_489 : decode code 489 = .ok (.iload_n 3, 1) := dgL_488.2.1
theorem dL_490 : decode code 490 = .ok (.iconst 1, 1) := dgL_488.2.2.1
theorem dL_491 : decode code 491 = .ok (.iadd, 1) := dgL_488.2.2.2.1
theorem dL_492 : decode code 492 = .ok (.iaload, 1) := dgL_488.2.2.2.2.1
theorem dL_493 : decode code 493 = .ok (.invokevirtual 56, 3) := dgL_488.2.2.2.2.2.1
theorem dL_496 : decode code 496 = .ok (.pop, 1) := dgL_488.2.2.2.2.2.2.1
theorem dL_497 : decode code 497 = .ok (.goto 562, 3) := dgL_488.2.2.2.2.2.2.2.1
theorem dL_500 : decode code 500 = .ok (.aload_n 1, 1) := dgL_488.2.2.2.2.2.2.2.2.1
theorem dL_501 : decode code 501 = .ok (.invokevirtual 57, 3) := dgL_488.2.2.2.2.2.2.2.2.2.1
theorem dL_504 : decode code 504 = .ok (.pop, 1) := dgL_488.2.2.2.2.2.2.2.2.2.2.1
theorem dL_505 : decode code 505 = .ok (.aload_n 2, 1) := dgL_488.2.2.2.2.2.2.2.2.2.2.2.1
theorem dgL_506 : (decode code 506 = .ok (.invokevirtual 61, 3)) ∧ (decode code 509 = .ok (.pop, 1)) ∧ (decode code 510 = .ok (.goto 549, 3)) ∧ (decode code 513 = .ok (.aload_n 1, 1)) ∧ (decode code 514 = .ok (.aload_n 0, 1)) ∧ (decode code 515 = .ok (.iload_n 3, 1)) ∧ (decode code 516 = .ok (.iconst 1, 1)) ∧ (decode code 517 = .ok (.iadd, 1)) ∧ (decode code 518 = .ok (.iaload, 1)) ∧ (decode code 519 = .ok (.invokevirtual 62, 3)) ∧ (decode code 522 = .ok (.pop, 1)) ∧ (decode code 523 = .ok (.aload_n 2, 1)) ∧ True := dkW [(506, .invokevirtual 61, 3), (509, .pop, 1), (510, .goto 549, 3), (513, .aload_n 1, 1), (514, .aload_n 0, 1), (515, .iload_n 3, 1), (516, .iconst 1, 1), (517, .iadd, 1), (518, .iaload, 1), (519, .invokevirtual 62, 3), (522, .pop, 1), (523, .aload_n 2, 1)] 506 (by decide +kernel)
theorem dL_506 : decode code 506 = .ok (.invokevirtual 61, 3) := dgL_506.1
theorem dL_509 : decode code 509 = .ok (.pop, 1) := dgL_506.2.1
theorem dL_510 : decode code 510 = .ok (.goto 549, 3) := dgL_506.2.2.1
theorem dL_513 : decode code 513 = .ok (.aload_n 1, 1) := dgL_506.2.2.2.1
theorem dL_514 : decode code 514 = .ok (.aload_n 0, 1) := dgL_506.2.2.2.2.1
theorem dL_515 : decode code 515 = .ok (.iload_n 3, 1) := dgL_506.2.2.2.2.2.1
theorem dL_516 : decode code 516 = .ok (.iconst 1, 1) := dgL_506.2.2.2.2.2.2.1
theorem dL_517 : decode code 517 = .ok (.iadd, 1) := dgL_506.2.2.2.2.2.2.2.1
theorem dL_518 : decode code 518 = .ok (.iaload, 1) := dgL_506.2.2.2.2.2.2.2.2.1
theorem dL_519 : decode code 519 = .ok (.invokevirtual 62, 3) := dgL_506.2.2.2.2.2.2.2.2.2.1
theorem dL_522 : decode code 522 = .ok (.pop, 1) := dgL_506.2.2.2.2.2.2.2.2.2.2.1
theorem dL_523 : decode code 523 = .ok (.aload_n 2, 1) := dgL_506.2.2.2.2.2.2.2.2.2.2.2.1
theorem dgL_524 : (decode code 524 = .ok (.aload_n 0, 1)) ∧ (decode code 525 = .ok (.iload_n 3, 1)) ∧ (decode code 526 = .ok (.iconst 1, 1)) ∧ (decode code 527 = .ok (.iadd, 1)) ∧ (decode code 528 = .ok (.iaload, 1)) ∧ (decode code 529 = .ok (.invokevirtual 65, 3)) ∧ (decode code 532 = .ok (.pop, 1)) ∧ (decode code 533 = .ok (.goto 526, 3)) ∧ (decode code 536 = .ok (.aload_n 1, 1)) ∧ (decode code 537 = .ok (.aload_n 0, 1)) ∧ (decode code 538 = .ok (.iload_n 3, 1)) ∧ (decode code 539 = .ok (.iconst 1, 1)) ∧ True := dkW [(524, .aload_n 0, 1), (525, .iload_n 3, 1), (526, .iconst 1, 1), (527, .iadd, 1), (528, .iaload, 1), (529, .invokevirtual 65, 3), (532, .pop, 1), (533, .goto 526, 3), (536, .aload_n 1, 1), (537, .aload_n 0, 1), (538, .iload_n 3, 1), (539, .iconst 1, 1)] 524 (by decide +kernel)
theorem dL_524 : decode code 524 = .ok (.aload_n 0, 1) := dgL_524.1
theorem dL_525 : decode code 525 = .ok (.iload_n 3, 1) := dgL_524.2.1
theorem dL_526 : decode code 526 = .ok (.iconst 1, 1) := dgL_524.2.2.1
theorem dL_527 : decode code 527 = .ok (.iadd, 1) := dgL_524.2.2.2.1
theorem dL_528 : decode code 528 = .ok (.iaload, 1) := dgL_524.2.2.2.2.1
theorem dL_529 : decode code 529 = .ok (.invokevirtual 65, 3) := dgL_524.2.2.2.2.2.1
theorem dL_532 : decode code 532 = .ok (.pop, 1) := dgL_524.2.2.2.2.2.2.1
theorem dL_533 : decode code 533 = .ok (.goto 526, 3) := dgL_524.2.2.2.2.2.2.2.1
theorem dL_536 : decode code 536 = .ok (.aload_n 1, 1) := dgL_524.2.2.2.2.2.2.2.2.1
theorem dL_537 : decode code 537 = .ok (.aload_n 0, 1) := dgL_524.2.2.2.2.2.2.2.2.2.1
theorem dL_538 : decode code 538 = .ok (.iload_n 3, 1) := dgL_524.2.2.2.2.2.2.2.2.2.2.1
theorem dL_539 : decode code 539 = .ok (.iconst 1, 1) := dgL_524.2.2.2.2.2.2.2.2.2.2.2.1
theorem dgL_540 : (decode code 540 = .ok (.iadd, 1)) ∧ (decode code 541 = .ok (.iaload, 1)) ∧ (decode code 542 = .ok (.invokevirtual 66, 3)) ∧ (decode code 545 = .ok (.pop, 1)) ∧ (decode code 546 = .ok (.aload_n 2, 1)) ∧ (decode code 547 = .ok (.aload_n 0, 1)) ∧ (decode code 548 = .ok (.iload_n 3, 1)) ∧ (decode code 549 = .ok (.iconst 1, 1)) ∧ (decode code 550 = .ok (.iadd, 1)) ∧ (decode code 551 = .ok (.iaload, 1)) ∧ (decode code 552 = .ok (.invokevirtual 69, 3)) ∧ (decode code 555 = .ok (.pop, 1)) ∧ True := dkW [(540, .iadd, 1), (541, .iaload, 1), (542, .invokevirtual 66, 3), (545, .pop, 1), (546, .aload_n 2, 1), (547, .aload_n 0, 1), (548, .iload_n 3, 1), (549, .iconst 1, 1), (550, .iadd, 1), (551, .iaload, 1), (552, .invokevirtual 69, 3), (555, .pop, 1)] 540 (by decide +kernel)
theorem dL_540 : decode code 540 = .ok (.iadd, 1) := dgL_540.1
theorem dL_541 : decode code 541 = .ok (.iaload, 1) := dgL_540.2.1
theorem dL_542 : decode code 542 = .ok (.invokevirtual 66, 3) := dgL_540.2.2.1
theorem dL_545 : decode code 545 = .ok (.pop, 1) := dgL_540.2.2.2.1
theorem dL_546 : decode code 546 = .ok (.aload_n 2, 1) := dgL_540.2.2.2.2.1
theorem dL_547 : decode code 547 = .ok (.aload_n 0, 1) := dgL_540.2.2.2.2.2.1
theorem dL_548 : decode code 548 = .ok (.iload_n 3, 1) := dgL_540.2.2.2.2.2.2.1
theorem dL_549 : decode code 549 = .ok (.iconst 1, 1) := dgL_540.2.2.2.2.2.2.2.1
theorem dL_550 : decode code 550 = .ok (.iadd, 1) := dgL_540.2.2.2.2.2.2.2.2.1
theorem dL_551 : decode code 551 = .ok (.iaload, 1) := dgL_540.2.2.2.2.2.2.2.2.2.1
theorem dL_552 : decode code 552 = .ok (.invokevirtual 69, 3) := dgL_540.2.2.2.2.2.2.2.2.2.2.1
theorem dL_555 : decode code 555 = .ok (.pop, 1) := dgL_540.2.2.2.2.2.2.2.2.2.2.2.1
theorem dgL_556 : (decode code 556 = .ok (.goto 503, 3)) ∧ (decode code 559 = .ok (.aload_n 1, 1)) ∧ (decode code 560 = .ok (.aload_n 0, 1)) ∧ (decode code 561 = .ok (.iload_n 3, 1)) ∧ (decode code 562 = .ok (.iconst 1, 1)) ∧ (decode code 563 = .ok (.iadd, 1)) ∧ (decode code 564 = .ok (.iaload, 1)) ∧ (decode code 565 = .ok (.invokevirtual 70, 3)) ∧ (decode code 568 = .ok (.pop, 1)) ∧ (decode code 569 = .ok (.aload_n 2, 1)) ∧ (decode code 570 = .ok (.aload_n 0, 1)) ∧ (decode code 571 = .ok (.iload_n 3, 1)) ∧ True := dkW [(556, .goto 503, 3), (559, .aload_n 1, 1), (560, .aload_n 0, 1), (561, .iload_n 3, 1), (562, .iconst 1, 1), (563, .iadd, 1), (564, .iaload, 1), (565, .invokevirtual 70, 3), (568, .pop, 1), (569, .aload_n 2, 1), (570, .aload_n 0, 1), (571, .iload_n 3, 1)] 556 (by decide +kernel)
theorem dL_556 : decode code 556 = .ok (.goto 503, 3) := dgL_556.1
theorem dL_559 : decode code 559 = .ok (.aload_n 1, 1) := dgL_556.2.1
theorem dL_560 : decode code 560 = .ok (.aload_n 0, 1) := dgL_556.2.2.1
theorem dL_561 : decode code 561 = .ok (.iload_n 3, 1) := dgL_556.2.2.2.1
theorem dL_562 : decode code 562 = .ok (.iconst 1, 1) := dgL_556.2.2.2.2.1
theorem dL_563 : decode code 563 = .ok (.iadd, 1) := dgL_556.2.2.2.2.2.1
theorem dL_564 : decode code 564 = .ok (.iaload, 1) := dgL_556.2.2.2.2.2.2.1
theorem dL_565 : decode code 565 = .ok (.invokevirtual 70, 3) := dgL_556.2.2.2.2.2.2.2.1
theorem dL_568 : decode code 568 = .ok (.pop, 1) := dgL_556.2.2.2.2.2.2.2.2.1
theorem dL_569 : decode code 569 = .ok (.aload_n 2, 1) := dgL_556.2.2.2.2.2.2.2.2.2.1
theorem dL_570 : decode code 570 = .ok (.aload_n 0, 1) := dgL_556.2.2.2.2.2.2.2.2.2.2.1
theorem dL_571 : decode code 571 = .ok (.iload_n 3, 1) := dgL_556.2.2.2.2.2.2.2.2.2.2.2.1
theorem dgL_572 : (decode code 572 = .ok (.iconst 1, 1)) ∧ (decode code 573 = .ok (.iadd, 1)) ∧ (decode code 574 = .ok (.iaload, 1)) ∧ (decode code 575 = .ok (.invokevirtual 73, 3)) ∧ (decode code 578 = .ok (.pop, 1)) ∧ (decode code 579 = .ok (.goto 480, 3)) ∧ (decode code 582 = .ok (.aload_n 1, 1)) ∧ (decode code 583 = .ok (.aload_n 0, 1)) ∧ (decode code 584 = .ok (.iload_n 3, 1)) ∧ (decode code 585 = .ok (.iconst 1, 1)) ∧ (decode code 586 = .ok (.iadd, 1)) ∧ (decode code 587 = .ok (.iaload, 1)) ∧ True := dkW [(572, .iconst 1, 1), (573, .iadd, 1), (574, .iaload, 1), (575, .invokevirtual 73, 3), (578, .pop, 1), (579, .goto 480, 3), (582, .aload_n 1, 1), (583, .aload_n 0, 1), (584, .iload_n 3, 1), (585, .iconst 1, 1), (586, .iadd, 1), (587, .iaload, 1)] 572 (by decide +kernel)
theorem dL_572 : decode code 572 = .ok (.iconst 1, 1) := dgL_572.1
theorem dL_573 : decode code 573 = .ok (.iadd, 1) := dgL_572.2.1
theorem dL_574 : decode code 574 = .ok (.iaload, 1) := dgL_572.2.2.1
theorem dL_575 : decode code 575 = .ok (.invokevirtual 73, 3) := dgL_572.2.2.2.1
theorem dL_578 : decode code 578 = .ok (.pop, 1) := dgL_572.2.2.2.2.1
theorem dL_579 : decode code 579 = .ok (.goto 480, 3) := dgL_572.2.2.2.2.2.1
theorem dL_582 : decode code 582 = .ok (.aload_n 1, 1) := dgL_572.2.2.2.2.2.2.1
theorem dL_583 : decode code 583 = .ok (.aload_n 0, 1) := dgL_572.2.2.2.2.2.2.2.1
theorem dL_584 : decode code 584 = .ok (.iload_n 3, 1) := dgL_572.2.2.2.2.2.2.2.2.1
theorem dL_585 : decode code 585 = .ok (.iconst 1, 1) := dgL_572.2.2.2.2.2.2.2.2.2.1
theorem dL_586 : decode code 586 = .ok (.iadd, 1) := dgL_572.2.2.2.2.2.2.2.2.2.2.1
theorem dL_587 : decode code 587 = .ok (.iaload, 1) := dgL_572.2.2.2.2.2.2.2.2.2.2.2.1
theorem dgL_588 : (decode code 588 = .ok (.invokevirtual 74, 3)) ∧ (decode code 591 = .ok (.pop, 1)) ∧ (decode code 592 = .ok (.aload_n 2, 1)) ∧ (decode code 593 = .ok (.aload_n 0, 1)) ∧ (decode code 594 = .ok (.iload_n 3, 1)) ∧ (decode code 595 = .ok (.iconst 1, 1)) ∧ (decode code 596 = .ok (.iadd, 1)) ∧ (decode code 597 = .ok (.iaload, 1)) ∧ (decode code 598 = .ok (.invokevirtual 77, 3)) ∧ (decode code 601 = .ok (.pop, 1)) ∧ (decode code 602 = .ok (.goto 457, 3)) ∧ (decode code 605 = .ok (.aload_n 1, 1)) ∧ True := dkW [(588, .invokevirtual 74, 3), (591, .pop, 1), (592, .aload_n 2, 1), (593, .aload_n 0, 1), (594, .iload_n 3, 1), (595, .iconst 1, 1), (596, .iadd, 1), (597, .iaload, 1), (598, .invokevirtual 77, 3), (601, .pop, 1), (602, .goto 457, 3), (605, .aload_n 1, 1)] 588 (by decide +kernel)
theorem dL_588 : decode code 588 = .ok (.invokevirtual 74, 3) := dgL_588.1
theorem dL_591 : decode code 591 = .ok (.pop, 1) := dgL_588.2.1
theorem dL_592 : decode code 592 = .ok (.aload_n 2, 1) := dgL_588.2.2.1
theorem dL_593 : decode code 593 = .ok (.aload_n 0, 1) := dgL_588.2.2.2.1
theorem dL_594 : decode code 594 = .ok (.iload_n 3, 1) := dgL_588.2.2.2.2.1
theorem dL_595 : decode code 595 = .ok (.iconst 1, 1) := dgL_588.2.2.2.2.2.1
theorem dL_596 : decode code 596 = .ok (.iadd, 1) := dgL_588.2.2.2.2.2.2.1
theorem dL_597 : decode code 597 = .ok (.iaload, 1) := dgL_588.2.2.2.2.2.2.2.1
theorem dL_598 : decode code 598 = .ok (.invokevirtual 77, 3) := dgL_588.2.2.2.2.2.2.2.2.1
theorem dL_601 : decode code 601 = .ok (.pop, 1) := dgL_588.2.2.2.2.2.2.2.2.2.1
theorem dL_602 : decode code 602 = .ok (.goto 457, 3) := dgL_588.2.2.2.2.2.2.2.2.2.2.1
theorem dL_605 : decode code 605 = .ok (.aload_n 1, 1) := dgL_588.2.2.2.2.2.2.2.2.2.2.2.1
theorem dgL_606 : (decode code 606 = .ok (.aload_n 0, 1)) ∧ (decode code 607 = .ok (.iload_n 3, 1)) ∧ (decode code 608 = .ok (.iconst 1, 1)) ∧ (decode code 609 = .ok (.iadd, 1)) ∧ (decode code 610 = .ok (.iaload, 1)) ∧ (decode code 611 = .ok (.invokevirtual 78, 3)) ∧ (decode code 614 = .ok (.pop, 1)) ∧ (decode code 615 = .ok (.aload_n 2, 1)) ∧ (decode code 616 = .ok (.aload_n 0, 1)) ∧ (decode code 617 = .ok (.iload_n 3, 1)) ∧ (decode code 618 = .ok (.iconst 1, 1)) ∧ (decode code 619 = .ok (.iadd, 1)) ∧ True := dkW [(606, .aload_n 0, 1), (607, .iload_n 3, 1), (608, .iconst 1, 1), (609, .iadd, 1), (610, .iaload, 1), (611, .invokevirtual 78, 3), (614, .pop, 1), (615, .aload_n 2, 1), (616, .aload_n 0, 1), (617, .iload_n 3, 1), (618, .iconst 1, 1), (619, .iadd, 1)] 606 (by decide +kernel)
theorem dL_606 : decode code 606 = .ok (.aload_n 0, 1) := dgL_606.1
theorem dL_607 : decode code 607 = .ok (.iload_n 3, 1) := dgL_606.2.1
theorem dL_608 : decode code 608 = .ok (.iconst 1, 1) := dgL_606.2.2.1
theorem dL_609 : decode code 609 = .ok (.iadd, 1) := dgL_606.2.2.2.1
theorem dL_610 : decode code 610 = .ok (.iaload, 1) := dgL_606.2.2.2.2.1
theorem dL_611 : decode code 611 = .ok (.invokevirtual 78, 3) := dgL_606.2.2.2.2.2.1
theorem dL_614 : decode code 614 = .ok (.pop, 1) := dgL_606.2.2.2.2.2.2.1
theorem dL_615 : decode code 615 = .ok (.aload_n 2, 1) := dgL_606.2.2.2.2.2.2.2.1
theorem dL_616 : decode code 616 = .ok (.aload_n 0, 1) := dgL_606.2.2.2.2.2.2.2.2.1
theorem dL_617 : decode code 617 = .ok (.iload_n 3, 1) := dgL_606.2.2.2.2.2.2.2.2.2.1
theorem dL_618 : decode code 618 = .ok (.iconst 1, 1) := dgL_606.2.2.2.2.2.2.2.2.2.2.1
theorem dL_619 : decode code 619 = .ok (.iadd, 1) := dgL_606.2.2.2.2.2.2.2.2.2.2.2.1
theorem dgL_620 : (decode code 620 = .ok (.iaload, 1)) ∧ (decode code 621 = .ok (.invokevirtual 81, 3)) ∧ (decode code 624 = .ok (.pop, 1)) ∧ (decode code 625 = .ok (.goto 434, 3)) ∧ (decode code 628 = .ok (.aload_n 1, 1)) ∧ (decode code 629 = .ok (.aload_n 0, 1)) ∧ (decode code 630 = .ok (.iload_n 3, 1)) ∧ (decode code 631 = .ok (.iconst 1, 1)) ∧ (decode code 632 = .ok (.iadd, 1)) ∧ (decode code 633 = .ok (.iaload, 1)) ∧ (decode code 634 = .ok (.aload_n 0, 1)) ∧ (decode code 635 = .ok (.iload_n 3, 1)) ∧ True := dkW [(620, .iaload, 1), (621, .invokevirtual 81, 3), (624, .pop, 1), (625, .goto 434, 3), (628, .aload_n 1, 1), (629, .aload_n 0, 1), (630, .iload_n 3, 1), (631, .iconst 1, 1), (632, .iadd, 1), (633, .iaload, 1), (634, .aload_n 0, 1), (635, .iload_n 3, 1)] 620 (by decide +kernel)
theorem dL_620 : decode code 620 = .ok (.iaload, 1) := dgL_620.1
theorem dL_621 : decode code 621 = .ok (.invokevirtual 81, 3) := dgL_620.2.1
theorem dL_624 : decode code 624 = .ok (.pop, 1) := dgL_620.2.2.1
theorem dL_625 : decode code 625 = .ok (.goto 434, 3) := dgL_620.2.2.2.1
theorem dL_628 : decode code 628 = .ok (.aload_n 1, 1) := dgL_620.2.2.2.2.1
theorem dL_629 : decode code 629 = .ok (.aload_n 0, 1) := dgL_620.2.2.2.2.2.1
theorem dL_630 : decode code 630 = .ok (.iload_n 3, 1) := dgL_620.2.2.2.2.2.2.1
theorem dL_631 : decode code 631 = .ok (.iconst 1, 1) := dgL_620.2.2.2.2.2.2.2.1
theorem dL_632 : decode code 632 = .ok (.iadd, 1) := dgL_620.2.2.2.2.2.2.2.2.1
theorem dL_633 : decode code 633 = .ok (.iaload, 1) := dgL_620.2.2.2.2.2.2.2.2.2.1
theorem dL_634 : decode code 634 = .ok (.aload_n 0, 1) := dgL_620.2.2.2.2.2.2.2.2.2.2.1
theorem dL_635 : decode code 635 = .ok (.iload_n 3, 1) := dgL_620.2.2.2.2.2.2.2.2.2.2.2.1
theorem dgL_636 : (decode code 636 = .ok (.iconst 2, 1)) ∧ (decode code 637 = .ok (.iadd, 1)) ∧ (decode code 638 = .ok (.iaload, 1)) ∧ (decode code 639 = .ok (.aload_n 0, 1)) ∧ (decode code 640 = .ok (.iload_n 3, 1)) ∧ (decode code 641 = .ok (.iconst 3, 1)) ∧ (decode code 642 = .ok (.iadd, 1)) ∧ (decode code 643 = .ok (.iaload, 1)) ∧ (decode code 644 = .ok (.invokevirtual 82, 3)) ∧ (decode code 647 = .ok (.pop, 1)) ∧ (decode code 648 = .ok (.aload_n 2, 1)) ∧ (decode code 649 = .ok (.aload_n 0, 1)) ∧ True := dkW [(636, .iconst 2, 1), (637, .iadd, 1), (638, .iaload, 1), (639, .aload_n 0, 1), (640, .iload_n 3, 1), (641, .iconst 3, 1), (642, .iadd, 1), (643, .iaload, 1), (644, .invokevirtual 82, 3), (647, .pop, 1), (648, .aload_n 2, 1), (649, .aload_n 0, 1)] 636 (by decide +kernel)
theorem dL_636 : decode code 636 = .ok (.iconst 2, 1) := dgL_636.1
theorem dL_637 : decode code 637 = .ok (.iadd, 1) := dgL_636.2.1
theorem dL_638 : decode code 638 = .ok (.iaload, 1) := dgL_636.2.2.1
theorem dL_639 : decode code 639 = .ok (.aload_n 0, 1) := dgL_636.2.2.2.1
theorem dL_640 : decode code 640 = .ok (.iload_n 3, 1) := dgL_636.2.2.2.2.1
theorem dL_641 : decode code 641 = .ok (.iconst 3, 1) := dgL_636.2.2.2.2.2.1
theorem dL_642 : decode code 642 = .ok (.iadd, 1) := dgL_636.2.2.2.2.2.2.1
theorem dL_643 : decode code 643 = .ok (.iaload, 1) := dgL_636.2.2.2.2.2.2.2.1
theorem dL_644 : decode code 644 = .ok (.invokevirtual 82, 3) := dgL_636.2.2.2.2.2.2.2.2.1
theorem dL_647 : decode code 647 = .ok (.pop, 1) := dgL_636.2.2.2.2.2.2.2.2.2.1
theorem dL_648 : decode code 648 = .ok (.aload_n 2, 1) := dgL_636.2.2.2.2.2.2.2.2.2.2.1
theorem dL_649 : decode code 649 = .ok (.aload_n 0, 1) := dgL_636.2.2.2.2.2.2.2.2.2.2.2.1
theorem dgL_650 : (decode code 650 = .ok (.iload_n 3, 1)) ∧ (decode code 651 = .ok (.iconst 1, 1)) ∧ (decode code 652 = .ok (.iadd, 1)) ∧ (decode code 653 = .ok (.iaload, 1)) ∧ (decode code 654 = .ok (.aload_n 0, 1)) ∧ (decode code 655 = .ok (.iload_n 3, 1)) ∧ (decode code 656 = .ok (.iconst 2, 1)) ∧ (decode code 657 = .ok (.iadd, 1)) ∧ (decode code 658 = .ok (.iaload, 1)) ∧ (decode code 659 = .ok (.aload_n 0, 1)) ∧ (decode code 660 = .ok (.iload_n 3, 1)) ∧ (decode code 661 = .ok (.iconst 3, 1)) ∧ True := dkW [(650, .iload_n 3, 1), (651, .iconst 1, 1), (652, .iadd, 1), (653, .iaload, 1), (654, .aload_n 0, 1), (655, .iload_n 3, 1), (656, .iconst 2, 1), (657, .iadd, 1), (658, .iaload, 1), (659, .aload_n 0, 1), (660, .iload_n 3, 1), (661, .iconst 3, 1)] 650 (by decide +kernel)
theorem dL_650 : decode code 650 = .ok (.iload_n 3, 1) := dgL_650.1
theorem dL_651 : decode code 651 = .ok (.iconst 1, 1) := dgL_650.2.1
theorem dL_652 : decode code 652 = .ok (.iadd, 1) := dgL_650.2.2.1
theorem dL_653 : decode code 653 = .ok (.iaload, 1) := dgL_650.2.2.2.1
theorem dL_654 : decode code 654 = .ok (.aload_n 0, 1) := dgL_650.2.2.2.2.1
theorem dL_655 : decode code 655 = .ok (.iload_n 3, 1) := dgL_650.2.2.2.2.2.1
theorem dL_656 : decode code 656 = .ok (.iconst 2, 1) := dgL_650.2.2.2.2.2.2.1
theorem dL_657 : decode code 657 = .ok (.iadd, 1) := dgL_650.2.2.2.2.2.2.2.1
theorem dL_658 : decode code 658 = .ok (.iaload, 1) := dgL_650.2.2.2.2.2.2.2.2.1
theorem dL_659 : decode code 659 = .ok (.aload_n 0, 1) := dgL_650.2.2.2.2.2.2.2.2.2.1
theorem dL_660 : decode code 660 = .ok (.iload_n 3, 1) := dgL_650.2.2.2.2.2.2.2.2.2.2.1
theorem dL_661 : decode code 661 = .ok (.iconst 3, 1) := dgL_650.2.2.2.2.2.2.2.2.2.2.2.1
theorem dgL_662 : (decode code 662 = .ok (.iadd, 1)) ∧ (decode code 663 = .ok (.iaload, 1)) ∧ (decode code 664 = .ok (.invokevirtual 85, 3)) ∧ (decode code 667 = .ok (.pop, 1)) ∧ (decode code 668 = .ok (.goto 391, 3)) ∧ (decode code 671 = .ok (.aload_n 1, 1)) ∧ (decode code 672 = .ok (.aload_n 0, 1)) ∧ (decode code 673 = .ok (.iload_n 3, 1)) ∧ (decode code 674 = .ok (.iconst 1, 1)) ∧ (decode code 675 = .ok (.iadd, 1)) ∧ (decode code 676 = .ok (.iaload, 1)) ∧ (decode code 677 = .ok (.aload_n 0, 1)) ∧ True := dkW [(662, .iadd, 1), (663, .iaload, 1), (664, .invokevirtual 85, 3), (667, .pop, 1), (668, .goto 391, 3), (671, .aload_n 1, 1), (672, .aload_n 0, 1), (673, .iload_n 3, 1), (674, .iconst 1, 1), (675, .iadd, 1), (676, .iaload, 1), (677, .aload_n 0, 1)] 662 (by decide +kernel)
theorem dL_662 : decode code 662 = .ok (.iadd, 1) := dgL_662.1
theorem dL_663 : decode code 663 = .ok (.iaload, 1) := dgL_662.2.1
theorem dL_664 : decode code 664 = .ok (.invokevirtual 85, 3) := dgL_662.2.2.1
theorem dL_667 : decode code 667 = .ok (.pop, 1) := dgL_662.2.2.2.1
theorem dL_668 : decode code 668 = .ok (.goto 391, 3) := dgL_662.2.2.2.2.1
theorem dL_671 : decode code 671 = .ok (.aload_n 1, 1) := dgL_662.2.2.2.2.2.1
theorem dL_672 : decode code 672 = .ok (.aload_n 0, 1) := dgL_662.2.2.2.2.2.2.1
theorem dL_673 : decode code 673 = .ok (.iload_n 3, 1) := dgL_662.2.2.2.2.2.2.2.1
theorem dL_674 : decode code 674 = .ok (.iconst 1, 1) := dgL_662.2.2.2.2.2.2.2.2.1
theorem dL_675 : decode code 675 = .ok (.iadd, 1) := dgL_662.2.2.2.2.2.2.2.2.2.1
theorem dL_676 : decode code 676 = .ok (.iaload, 1) := dgL_662.2.2.2.2.2.2.2.2.2.2.1
theorem dL_677 : decode code 677 = .ok (.aload_n 0, 1) := dgL_662.2.2.2.2.2.2.2.2.2.2.2.1
theorem dgL_678 : (decode code 678 = .ok (.iload_n 3, 1)) ∧ (decode code 679 = .ok (.iconst 2, 1)) ∧ (decode code 680 = .ok (.iadd, 1)) ∧ (decode code 681 = .ok (.iaload, 1)) ∧ (decode code 682 = .ok (.invokevirtual 86, 3)) ∧ (decode code 685 = .ok (.pop, 1)) ∧ (decode code 686 = .ok (.aload_n 2, 1)) ∧ (decode code 687 = .ok (.aload_n 0, 1)) ∧ (decode code 688 = .ok (.iload_n 3, 1)) ∧ (decode code 689 = .ok (.iconst 1, 1)) ∧ (decode code 690 = .ok (.iadd, 1)) ∧ (decode code 691 = .ok (.iaload, 1)) ∧ True := dkW [(678, .iload_n 3, 1), (679, .iconst 2, 1), (680, .iadd, 1), (681, .iaload, 1), (682, .invokevirtual 86, 3), (685, .pop, 1), (686, .aload_n 2, 1), (687, .aload_n 0, 1), (688, .iload_n 3, 1), (689, .iconst 1, 1), (690, .iadd, 1), (691, .iaload, 1)] 678 (by decide +kernel)
theorem dL_678 : decode code 678 = .ok (.iload_n 3, 1) := dgL_678.1
theorem dL_679 : decode code 679 = .ok (.iconst 2, 1) := dgL_678.2.1
theorem dL_680 : decode code 680 = .ok (.iadd, 1) := dgL_678.2.2.1
theorem dL_681 : decode code 681 = .ok (.iaload, 1) := dgL_678.2.2.2.1
theorem dL_682 : decode code 682 = .ok (.invokevirtual 86, 3) := dgL_678.2.2.2.2.1
theorem dL_685 : decode code 685 = .ok (.pop, 1) := dgL_678.2.2.2.2.2.1
theorem dL_686 : decode code 686 = .ok (.aload_n 2, 1) := dgL_678.2.2.2.2.2.2.1
theorem dL_687 : decode code 687 = .ok (.aload_n 0, 1) := dgL_678.2.2.2.2.2.2.2.1
theorem dL_688 : decode code 688 = .ok (.iload_n 3, 1) := dgL_678.2.2.2.2.2.2.2.2.1
theorem dL_689 : decode code 689 = .ok (.iconst 1, 1) := dgL_678.2.2.2.2.2.2.2.2.2.1
theorem dL_690 : decode code 690 = .ok (.iadd, 1) := dgL_678.2.2.2.2.2.2.2.2.2.2.1
theorem dL_691 : decode code 691 = .ok (.iaload, 1) := dgL_678.2.2.2.2.2.2.2.2.2.2.2.1
theorem dgL_692 : (decode code 692 = .ok (.aload_n 0, 1)) ∧ (decode code 693 = .ok (.iload_n 3, 1)) ∧ (decode code 694 = .ok (.iconst 2, 1)) ∧ (decode code 695 = .ok (.iadd, 1)) ∧ (decode code 696 = .ok (.iaload, 1)) ∧ (decode code 697 = .ok (.invokevirtual 89, 3)) ∧ (decode code 700 = .ok (.pop, 1)) ∧ (decode code 701 = .ok (.goto 358, 3)) ∧ (decode code 704 = .ok (.aload_n 1, 1)) ∧ (decode code 705 = .ok (.aload_n 0, 1)) ∧ (decode code 706 = .ok (.iload_n 3, 1)) ∧ (decode code 707 = .ok (.iconst 1, 1)) ∧ True := dkW [(692, .aload_n 0, 1), (693, .iload_n 3, 1), (694, .iconst 2, 1), (695, .iadd, 1), (696, .iaload, 1), (697, .invokevirtual 89, 3), (700, .pop, 1), (701, .goto 358, 3), (704, .aload_n 1, 1), (705, .aload_n 0, 1), (706, .iload_n 3, 1), (707, .iconst 1, 1)] 692 (by decide +kernel)
theorem dL_692 : decode code 692 = .ok (.aload_n 0, 1) := dgL_692.1
theorem dL_693 : decode code 693 = .ok (.iload_n 3, 1) := dgL_692.2.1
theorem dL_694 : decode code 694 = .ok (.iconst 2, 1) := dgL_692.2.2.1
theorem dL_695 : decode code 695 = .ok (.iadd, 1) := dgL_692.2.2.2.1
theorem dL_696 : decode code 696 = .ok (.iaload, 1) := dgL_692.2.2.2.2.1
theorem dL_697 : decode code 697 = .ok (.invokevirtual 89, 3) := dgL_692.2.2.2.2.2.1
theorem dL_700 : decode code 700 = .ok (.pop, 1) := dgL_692.2.2.2.2.2.2.1
theorem dL_701 : decode code 701 = .ok (.goto 358, 3) := dgL_692.2.2.2.2.2.2.2.1
theorem dL_704 : decode code 704 = .ok (.aload_n 1, 1) := dgL_692.2.2.2.2.2.2.2.2.1
theorem dL_705 : decode code 705 = .ok (.aload_n 0, 1) := dgL_692.2.2.2.2.2.2.2.2.2.1
theorem dL_706 : decode code 706 = .ok (.iload_n 3, 1) := dgL_692.2.2.2.2.2.2.2.2.2.2.1
theorem dL_707 : decode code 707 = .ok (.iconst 1, 1) := dgL_692.2.2.2.2.2.2.2.2.2.2.2.1
theorem dgL_708 : (decode code 708 = .ok (.iadd, 1)) ∧ (decode code 709 = .ok (.iaload, 1)) ∧ (decode code 710 = .ok (.aload_n 0, 1)) ∧ (decode code 711 = .ok (.iload_n 3, 1)) ∧ (decode code 712 = .ok (.iconst 2, 1)) ∧ (decode code 713 = .ok (.iadd, 1)) ∧ (decode code 714 = .ok (.iaload, 1)) ∧ (decode code 715 = .ok (.invokevirtual 90, 3)) ∧ (decode code 718 = .ok (.pop, 1)) ∧ (decode code 719 = .ok (.aload_n 2, 1)) ∧ (decode code 720 = .ok (.aload_n 0, 1)) ∧ (decode code 721 = .ok (.iload_n 3, 1)) ∧ True := dkW [(708, .iadd, 1), (709, .iaload, 1), (710, .aload_n 0, 1), (711, .iload_n 3, 1), (712, .iconst 2, 1), (713, .iadd, 1), (714, .iaload, 1), (715, .invokevirtual 90, 3), (718, .pop, 1), (719, .aload_n 2, 1), (720, .aload_n 0, 1), (721, .iload_n 3, 1)] 708 (by decide +kernel)
theorem dL_708 : decode code 708 = .ok (.iadd, 1) := dgL_708.1
theorem dL_709 : decode code 709 = .ok (.iaload, 1) := dgL_708.2.1
theorem dL_710 : decode code 710 = .ok (.aload_n 0, 1) := dgL_708.2.2.1
theorem dL_711 : decode code 711 = .ok (.iload_n 3, 1) := dgL_708.2.2.2.1
theorem dL_712 : decode code 712 = .ok (.iconst 2, 1) := dgL_708.2.2.2.2.1
theorem dL_713 : decode code 713 = .ok (.iadd, 1) := dgL_708.2.2.2.2.2.1
theorem dL_714 : decode code 714 = .ok (.iaload, 1) := dgL_708.2.2.2.2.2.2.1
theorem dL_715 : decode code 715 = .ok (.invokevirtual 90, 3) := dgL_708.2.2.2.2.2.2.2.1
theorem dL_718 : decode code 718 = .ok (.pop, 1) := dgL_708.2.2.2.2.2.2.2.2.1
theorem dL_719 : decode code 719 = .ok (.aload_n 2, 1) := dgL_708.2.2.2.2.2.2.2.2.2.1
theorem dL_720 : decode code 720 = .ok (.aload_n 0, 1) := dgL_708.2.2.2.2.2.2.2.2.2.2.1
theorem dL_721 : decode code 721 = .ok (.iload_n 3, 1) := dgL_708.2.2.2.2.2.2.2.2.2.2.2.1
theorem dgL_722 : (decode code 722 = .ok (.iconst 1, 1)) ∧ (decode code 723 = .ok (.iadd, 1)) ∧ (decode code 724 = .ok (.iaload, 1)) ∧ (decode code 725 = .ok (.aload_n 0, 1)) ∧ (decode code 726 = .ok (.iload_n 3, 1)) ∧ (decode code 727 = .ok (.iconst 2, 1)) ∧ (decode code 728 = .ok (.iadd, 1)) ∧ (decode code 729 = .ok (.iaload, 1)) ∧ (decode code 730 = .ok (.invokevirtual 93, 3)) ∧ (decode code 733 = .ok (.pop, 1)) ∧ (decode code 734 = .ok (.goto 325, 3)) ∧ (decode code 737 = .ok (.aload_n 1, 1)) ∧ True := dkW [(722, .iconst 1, 1), (723, .iadd, 1), (724, .iaload, 1), (725, .aload_n 0, 1), (726, .iload_n 3, 1), (727, .iconst 2, 1), (728, .iadd, 1), (729, .iaload, 1), (730, .invokevirtual 93, 3), (733, .pop, 1), (734, .goto 325, 3), (737, .aload_n 1, 1)] 722 (by decide +kernel)
theorem dL_722 : decode code 722 = .ok (.iconst 1, 1) := dgL_722.1
theorem dL_723 : decode code 723 = .ok (.iadd, 1) := dgL_722.2.1
theorem dL_724 : decode code 724 = .ok (.iaload, 1) := dgL_722.2.2.1
theorem dL_725 : decode code 725 = .ok (.aload_n 0, 1) := dgL_722.2.2.2.1
theorem dL_726 : decode code 726 = .ok (.iload_n 3, 1) := dgL_722.2.2.2.2.1
theorem dL_727 : decode code 727 = .ok (.iconst 2, 1) := dgL_722.2.2.2.2.2.1
theorem dL_728 : decode code 728 = .ok (.iadd, 1) := dgL_722.2.2.2.2.2.2.1
theorem dL_729 : decode code 729 = .ok (.iaload, 1) := dgL_722.2.2.2.2.2.2.2.1
theorem dL_730 : decode code 730 = .ok (.invokevirtual 93, 3) := dgL_722.2.2.2.2.2.2.2.2.1
theorem dL_733 : decode code 733 = .ok (.pop, 1) := dgL_722.2.2.2.2.2.2.2.2.2.1
theorem dL_734 : decode code 734 = .ok (.goto 325, 3) := dgL_722.2.2.2.2.2.2.2.2.2.2.1
theorem dL_737 : decode code 737 = .ok (.aload_n 1, 1) := dgL_722.2.2.2.2.2.2.2.2.2.2.2.1
theorem dgL_738 : (decode code 738 = .ok (.aload_n 0, 1)) ∧ (decode code 739 = .ok (.iload_n 3, 1)) ∧ (decode code 740 = .ok (.iconst 1, 1)) ∧ (decode code 741 = .ok (.iadd, 1)) ∧ (decode code 742 = .ok (.iaload, 1)) ∧ (decode code 743 = .ok (.invokevirtual 94, 3)) ∧ (decode code 746 = .ok (.pop, 1)) ∧ (decode code 747 = .ok (.aload_n 2, 1)) ∧ (decode code 748 = .ok (.aload_n 0, 1)) ∧ (decode code 749 = .ok (.iload_n 3, 1)) ∧ (decode code 750 = .ok (.iconst 1, 1)) ∧ (decode code 751 = .ok (.iadd, 1)) ∧ True := dkW [(738, .aload_n 0, 1), (739, .iload_n 3, 1), (740, .iconst 1, 1), (741, .iadd, 1), (742, .iaload, 1), (743, .invokevirtual 94, 3), (746, .pop, 1), (747, .aload_n 2, 1), (748, .aload_n 0, 1), (749, .iload_n 3, 1), (750, .iconst 1, 1), (751, .iadd, 1)] 738 (by decide +kernel)
theorem dL_738 : decode code 738 = .ok (.aload_n 0, 1) := dgL_738.1
theorem dL_739 : decode code 739 = .ok (.iload_n 3, 1) := dgL_738.2.1
theorem dL_740 : decode code 740 = .ok (.iconst 1, 1) := dgL_738.2.2.1
theorem dL_741 : decode code 741 = .ok (.iadd, 1) := dgL_738.2.2.2.1
theorem dL_742 : decode code 742 = .ok (.iaload, 1) := dgL_738.2.2.2.2.1
theorem dL_743 : decode code 743 = .ok (.invokevirtual 94, 3) := dgL_738.2.2.2.2.2.1
theorem dL_746 : decode code 746 = .ok (.pop, 1) := dgL_738.2.2.2.2.2.2.1
theorem dL_747 : decode code 747 = .ok (.aload_n 2, 1) := dgL_738.2.2.2.2.2.2.2.1
theorem dL_748 : decode code 748 = .ok (.aload_n 0, 1) := dgL_738.2.2.2.2.2.2.2.2.1
theorem dL_749 : decode code 749 = .ok (.iload_n 3, 1) := dgL_738.2.2.2.2.2.2.2.2.2.1
theorem dL_750 : decode code 750 = .ok (.iconst 1, 1) := dgL_738.2.2.2.2.2.2.2.2.2.2.1
theorem dL_751 : decode code 751 = .ok (.iadd, 1) := dgL_738.2.2.2.2.2.2.2.2.2.2.2.1
theorem dgL_752 : (decode code 752 = .ok (.iaload, 1)) ∧ (decode code 753 = .ok (.invokevirtual 97, 3)) ∧ (decode code 756 = .ok (.pop, 1)) ∧ (decode code 757 = .ok (.goto 302, 3)) ∧ (decode code 760 = .ok (.aload_n 1, 1)) ∧ (decode code 761 = .ok (.aload_n 0, 1)) ∧ (decode code 762 = .ok (.iload_n 3, 1)) ∧ (decode code 763 = .ok (.iconst 1, 1)) ∧ (decode code 764 = .ok (.iadd, 1)) ∧ (decode code 765 = .ok (.iaload, 1)) ∧ (decode code 766 = .ok (.invokevirtual 98, 3)) ∧ (decode code 769 = .ok (.pop, 1)) ∧ True := dkW [(752, .iaload, 1), (753, .invokevirtual 97, 3), (756, .pop, 1), (757, .goto 302, 3), (760, .aload_n 1, 1), (761, .aload_n 0, 1), (762, .iload_n 3, 1), (763, .iconst 1, 1), (764, .iadd, 1), (765, .iaload, 1), (766, .invokevirtual 98, 3), (769, .pop, 1)] 752 (by decide +kernel)
theorem dL_752 : decode code 752 = .ok (.iaload, 1) := dgL_752.1
theorem dL_753 : decode code 753 = .ok (.invokevirtual 97, 3) := dgL_752.2.1
theorem dL_756 : decode code 756 = .ok (.pop, 1) := dgL_752.2.2.1
theorem dL_757 : decode code 757 = .ok (.goto 302, 3) := dgL_752.2.2.2.1
theorem dL_760 : decode code 760 = .ok (.aload_n 1, 1) := dgL_752.2.2.2.2.1
theorem dL_761 : decode code 761 = .ok (.aload_n 0, 1) := dgL_752.2.2.2.2.2.1
theorem dL_762 : decode code 762 = .ok (.iload_n 3, 1) := dgL_752.2.2.2.2.2.2.1
theorem dL_763 : decode code 763 = .ok (.iconst 1, 1) := dgL_752.2.2.2.2.2.2.2.1
theorem dL_764 : decode code 764 = .ok (.iadd, 1) := dgL_752.2.2.2.2.2.2.2.2.1
theorem dL_765 : decode code 765 = .ok (.iaload, 1) := dgL_752.2.2.2.2.2.2.2.2.2.1
theorem dL_766 : decode code 766 = .ok (.invokevirtual 98, 3) := dgL_752.2.2.2.2.2.2.2.2.2.2.1
theorem dL_769 : decode code 769 = .ok (.pop, 1) := dgL_752.2.2.2.2.2.2.2.2.2.2.2.1
theorem dgL_770 : (decode code 770 = .ok (.aload_n 2, 1)) ∧ (decode code 771 = .ok (.aload_n 0, 1)) ∧ (decode code 772 = .ok (.iload_n 3, 1)) ∧ (decode code 773 = .ok (.iconst 1, 1)) ∧ (decode code 774 = .ok (.iadd, 1)) ∧ (decode code 775 = .ok (.iaload, 1)) ∧ (decode code 776 = .ok (.invokevirtual 101, 3)) ∧ (decode code 779 = .ok (.pop, 1)) ∧ (decode code 780 = .ok (.goto 279, 3)) ∧ (decode code 783 = .ok (.aload_n 1, 1)) ∧ (decode code 784 = .ok (.aload_n 0, 1)) ∧ (decode code 785 = .ok (.iload_n 3, 1)) ∧ True := dkW [(770, .aload_n 2, 1), (771, .aload_n 0, 1), (772, .iload_n 3, 1), (773, .iconst 1, 1), (774, .iadd, 1), (775, .iaload, 1), (776, .invokevirtual 101, 3), (779, .pop, 1), (780, .goto 279, 3), (783, .aload_n 1, 1), (784, .aload_n 0, 1), (785, .iload_n 3, 1)] 770 (by decide +kernel)
theorem dL_770 : decode code 770 = .ok (.aload_n 2, 1) := dgL_770.1
theorem dL_771 : decode code 771 = .ok (.aload_n 0, 1) := dgL_770.2.1
theorem dL_772 : decode code 772 = .ok (.iload_n 3, 1) := dgL_770.2.2.1
theorem dL_773 : decode code 773 = .ok (.iconst 1, 1) := dgL_770.2.2.2.1
theorem dL_774 : decode code 774 = .ok (.iadd, 1) := dgL_770.2.2.2.2.1
theorem dL_775 : decode code 775 = .ok (.iaload, 1) := dgL_770.2.2.2.2.2.1
theorem dL_776 : decode code 776 = .ok (.invokevirtual 101, 3) := dgL_770.2.2.2.2.2.2.1
theorem dL_779 : decode code 779 = .ok (.pop, 1) := dgL_770.2.2.2.2.2.2.2.1
theorem dL_780 : decode code 780 = .ok (.goto 279, 3) := dgL_770.2.2.2.2.2.2.2.2.1
theorem dL_783 : decode code 783 = .ok (.aload_n 1, 1) := dgL_770.2.2.2.2.2.2.2.2.2.1
theorem dL_784 : decode code 784 = .ok (.aload_n 0, 1) := dgL_770.2.2.2.2.2.2.2.2.2.2.1
theorem dL_785 : decode code 785 = .ok (.iload_n 3, 1) := dgL_770.2.2.2.2.2.2.2.2.2.2.2.1
theorem dgL_786 : (decode code 786 = .ok (.iconst 1, 1)) ∧ (decode code 787 = .ok (.iadd, 1)) ∧ (decode code 788 = .ok (.iaload, 1)) ∧ (decode code 789 = .ok (.aload_n 0, 1)) ∧ (decode code 790 = .ok (.iload_n 3, 1)) ∧ (decode code 791 = .ok (.iconst 2, 1)) ∧ (decode code 792 = .ok (.iadd, 1)) ∧ (decode code 793 = .ok (.iaload, 1)) ∧ (decode code 794 = .ok (.invokevirtual 102, 3)) ∧ (decode code 797 = .ok (.pop, 1)) ∧ (decode code 798 = .ok (.aload_n 2, 1)) ∧ (decode code 799 = .ok (.aload_n 0, 1)) ∧ True := dkW [(786, .iconst 1, 1), (787, .iadd, 1), (788, .iaload, 1), (789, .aload_n 0, 1), (790, .iload_n 3, 1), (791, .iconst 2, 1), (792, .iadd, 1), (793, .iaload, 1), (794, .invokevirtual 102, 3), (797, .pop, 1), (798, .aload_n 2, 1), (799, .aload_n 0, 1)] 786 (by decide +kernel)
theorem dL_786 : decode code 786 = .ok (.iconst 1, 1) := dgL_786.1
theorem dL_787 : decode code 787 = .ok (.iadd, 1) := dgL_786.2.1
theorem dL_788 : decode code 788 = .ok (.iaload, 1) := dgL_786.2.2.1
theorem dL_789 : decode code 789 = .ok (.aload_n 0, 1) := dgL_786.2.2.2.1
theorem dL_790 : decode code 790 = .ok (.iload_n 3, 1) := dgL_786.2.2.2.2.1
theorem dL_791 : decode code 791 = .ok (.iconst 2, 1) := dgL_786.2.2.2.2.2.1
theorem dL_792 : decode code 792 = .ok (.iadd, 1) := dgL_786.2.2.2.2.2.2.1
theorem dL_793 : decode code 793 = .ok (.iaload, 1) := dgL_786.2.2.2.2.2.2.2.1
theorem dL_794 : decode code 794 = .ok (.invokevirtual 102, 3) := dgL_786.2.2.2.2.2.2.2.2.1
theorem dL_797 : decode code 797 = .ok (.pop, 1) := dgL_786.2.2.2.2.2.2.2.2.2.1
theorem dL_798 : decode code 798 = .ok (.aload_n 2, 1) := dgL_786.2.2.2.2.2.2.2.2.2.2.1
theorem dL_799 : decode code 799 = .ok (.aload_n 0, 1) := dgL_786.2.2.2.2.2.2.2.2.2.2.2.1
theorem dgL_800 : (decode code 800 = .ok (.iload_n 3, 1)) ∧ (decode code 801 = .ok (.iconst 1, 1)) ∧ (decode code 802 = .ok (.iadd, 1)) ∧ (decode code 803 = .ok (.iaload, 1)) ∧ (decode code 804 = .ok (.aload_n 0, 1)) ∧ (decode code 805 = .ok (.iload_n 3, 1)) ∧ (decode code 806 = .ok (.iconst 2, 1)) ∧ (decode code 807 = .ok (.iadd, 1)) ∧ (decode code 808 = .ok (.iaload, 1)) ∧ (decode code 809 = .ok (.invokevirtual 105, 3)) ∧ (decode code 812 = .ok (.pop, 1)) ∧ (decode code 813 = .ok (.goto 246, 3)) ∧ True := dkW [(800, .iload_n 3, 1), (801, .iconst 1, 1), (802, .iadd, 1), (803, .iaload, 1), (804, .aload_n 0, 1), (805, .iload_n 3, 1), (806, .iconst 2, 1), (807, .iadd, 1), (808, .iaload, 1), (809, .invokevirtual 105, 3), (812, .pop, 1), (813, .goto 246, 3)] 800 (by decide +kernel)
theorem dL_800 : decode code 800 = .ok (.iload_n 3, 1) := dgL_800.1
theorem dL_801 : decode code 801 = .ok (.iconst 1, 1) := dgL_800.2.1
theorem dL_802 : decode code 802 = .ok (.iadd, 1) := dgL_800.2.2.1
theorem dL_803 : decode code 803 = .ok (.iaload, 1) := dgL_800.2.2.2.1
theorem dL_804 : decode code 804 = .ok (.aload_n 0, 1) := dgL_800.2.2.2.2.1
theorem dL_805 : decode code 805 = .ok (.iload_n 3, 1) := dgL_800.2.2.2.2.2.1
theorem dL_806 : decode code 806 = .ok (.iconst 2, 1) := dgL_800.2.2.2.2.2.2.1
theorem dL_807 : decode code 807 = .ok (.iadd, 1) := dgL_800.2.2.2.2.2.2.2.1
theorem dL_808 : decode code 808 = .ok (.iaload, 1) := dgL_800.2.2.2.2.2.2.2.2.1
theorem dL_809 : decode code 809 = .ok (.invokevirtual 105, 3) := dgL_800.2.2.2.2.2.2.2.2.2.1
theorem dL_812 : decode code 812 = .ok (.pop, 1) := dgL_800.2.2.2.2.2.2.2.2.2.2.1
theorem dL_813 : decode code 813 = .ok (.goto 246, 3) := dgL_800.2.2.2.2.2.2.2.2.2.2.2.1
theorem dgL_816 : (decode code 816 = .ok (.aload_n 1, 1)) ∧ (decode code 817 = .ok (.invokevirtual 106, 3)) ∧ (decode code 820 = .ok (.pop, 1)) ∧ (decode code 821 = .ok (.aload_n 2, 1)) ∧ (decode code 822 = .ok (.invokevirtual 109, 3)) ∧ (decode code 825 = .ok (.pop, 1)) ∧ (decode code 826 = .ok (.goto 233, 3)) ∧ (decode code 829 = .ok (.aload_n 1, 1)) ∧ (decode code 830 = .ok (.invokevirtual 110, 3)) ∧ (decode code 833 = .ok (.pop, 1)) ∧ (decode code 834 = .ok (.aload_n 2, 1)) ∧ (decode code 835 = .ok (.invokevirtual 113, 3)) ∧ True := dkW [(816, .aload_n 1, 1), (817, .invokevirtual 106, 3), (820, .pop, 1), (821, .aload_n 2, 1), (822, .invokevirtual 109, 3), (825, .pop, 1), (826, .goto 233, 3), (829, .aload_n 1, 1), (830, .invokevirtual 110, 3), (833, .pop, 1), (834, .aload_n 2, 1), (835, .invokevirtual 113, 3)] 816 (by decide +kernel)
theorem dL_816 : decode code 816 = .ok (.aload_n 1, 1) := dgL_816.1
theorem dL_817 : decode code 817 = .ok (.invokevirtual 106, 3) := dgL_816.2.1
theorem dL_820 : decode code 820 = .ok (.pop, 1) := dgL_816.2.2.1
theorem dL_821 : decode code 821 = .ok (.aload_n 2, 1) := dgL_816.2.2.2.1
theorem dL_822 : decode code 822 = .ok (.invokevirtual 109, 3) := dgL_816.2.2.2.2.1
theorem dL_825 : decode code 825 = .ok (.pop, 1) := dgL_816.2.2.2.2.2.1
theorem dL_826 : decode code 826 = .ok (.goto 233, 3) := dgL_816.2.2.2.2.2.2.1
theorem dL_829 : decode code 829 = .ok (.aload_n 1, 1) := dgL_816.2.2.2.2.2.2.2.1
theorem dL_830 : decode code 830 = .ok (.invokevirtual 110, 3) := dgL_816.2.2.2.2.2.2.2.2.1
theorem dL_833 : decode code 833 = .ok (.pop, 1) := dgL_816.2.2.2.2.2.2.2.2.2.1
theorem dL_834 : decode code 834 = .ok (.aload_n 2, 1) := dgL_816.2.2.2.2.2.2.2.2.2.2.1
theorem dL_835 : decode code 835 = .ok (.invokevirtual 113, 3) := dgL_816.2.2.2.2.2.2.2.2.2.2.2.1
theorem dgL_838 : (decode code 838 = .ok (.pop, 1)) ∧ (decode code 839 = .ok (.goto 220, 3)) ∧ (decode code 842 = .ok (.aload_n 1, 1)) ∧ (decode code 843 = .ok (.aload_n 0, 1)) ∧ (decode code 844 = .ok (.iload_n 3, 1)) ∧ (decode code 845 = .ok (.iconst 1, 1)) ∧ (decode code 846 = .ok (.iadd, 1)) ∧ (decode code 847 = .ok (.iaload, 1)) ∧ (decode code 848 = .ok (.invokevirtual 114, 3)) ∧ (decode code 851 = .ok (.pop, 1)) ∧ (decode code 852 = .ok (.aload_n 2, 1)) ∧ (decode code 853 = .ok (.aload_n 0, 1)) ∧ True := dkW [(838, .pop, 1), (839, .goto 220, 3), (842, .aload_n 1, 1), (843, .aload_n 0, 1), (844, .iload_n 3, 1), (845, .iconst 1, 1), (846, .iadd, 1), (847, .iaload, 1), (848, .invokevirtual 114, 3), (851, .pop, 1), (852, .aload_n 2, 1), (853, .aload_n 0, 1)] 838 (by decide +kernel)
theorem dL_838 : decode code 838 = .ok (.pop, 1) := dgL_838.1
theorem dL_839 : decode code 839 = .ok (.goto 220, 3) := dgL_838.2.1
theorem dL_842 : decode code 842 = .ok (.aload_n 1, 1) := dgL_838.2.2.1
theorem dL_843 : decode code 843 = .ok (.aload_n 0, 1) := dgL_838.2.2.2.1
theorem dL_844 : decode code 844 = .ok (.iload_n 3, 1) := dgL_838.2.2.2.2.1
theorem dL_845 : decode code 845 = .ok (.iconst 1, 1) := dgL_838.2.2.2.2.2.1
theorem dL_846 : decode code 846 = .ok (.iadd, 1) := dgL_838.2.2.2.2.2.2.1
theorem dL_847 : decode code 847 = .ok (.iaload, 1) := dgL_838.2.2.2.2.2.2.2.1
theorem dL_848 : decode code 848 = .ok (.invokevirtual 114, 3) := dgL_838.2.2.2.2.2.2.2.2.1
theorem dL_851 : decode code 851 = .ok (.pop, 1) := dgL_838.2.2.2.2.2.2.2.2.2.1
theorem dL_852 : decode code 852 = .ok (.aload_n 2, 1) := dgL_838.2.2.2.2.2.2.2.2.2.2.1
theorem dL_853 : decode code 853 = .ok (.aload_n 0, 1) := dgL_838.2.2.2.2.2.2.2.2.2.2.2.1
theorem dgL_854 : (decode code 854 = .ok (.iload_n 3, 1)) ∧ (decode code 855 = .ok (.iconst 1, 1)) ∧ (decode code 856 = .ok (.iadd, 1)) ∧ (decode code 857 = .ok (.iaload, 1)) ∧ (decode code 858 = .ok (.invokevirtual 117, 3)) ∧ (decode code 861 = .ok (.pop, 1)) ∧ (decode code 862 = .ok (.goto 197, 3)) ∧ (decode code 865 = .ok (.aload_n 1, 1)) ∧ (decode code 866 = .ok (.aload_n 0, 1)) ∧ (decode code 867 = .ok (.iload_n 3, 1)) ∧ (decode code 868 = .ok (.iconst 1, 1)) ∧ (decode code 869 = .ok (.iadd, 1)) ∧ True := dkW [(854, .iload_n 3, 1), (855, .iconst 1, 1), (856, .iadd, 1), (857, .iaload, 1), (858, .invokevirtual 117, 3), (861, .pop, 1), (862, .goto 197, 3), (865, .aload_n 1, 1), (866, .aload_n 0, 1), (867, .iload_n 3, 1), (868, .iconst 1, 1), (869, .iadd, 1)] 854 (by decide +kernel)
theorem dL_854 : decode code 854 = .ok (.iload_n 3, 1) := dgL_854.1
theorem dL_855 : decode code 855 = .ok (.iconst 1, 1) := dgL_854.2.1
theorem dL_856 : decode code 856 = .ok (.iadd, 1) := dgL_854.2.2.1
theorem dL_857 : decode code 857 = .ok (.iaload, 1) := dgL_854.2.2.2.1
theorem dL_858 : decode code 858 = .ok (.invokevirtual 117, 3) := dgL_854.2.2.2.2.1
theorem dL_861 : decode code 861 = .ok (.pop, 1) := dgL_854.2.2.2.2.2.1
theorem dL_862 : decode code 862 = .ok (.goto 197, 3) := dgL_854.2.2.2.2.2.2.1
theorem dL_865 : decode code 865 = .ok (.aload_n 1, 1) := dgL_854.2.2.2.2.2.2.2.1
theorem dL_866 : decode code 866 = .ok (.aload_n 0, 1) := dgL_854.2.2.2.2.2.2.2.2.1
theorem dL_867 : decode code 867 = .ok (.iload_n 3, 1) := dgL_854.2.2.2.2.2.2.2.2.2.1
theorem dL_868 : decode code 868 = .ok (.iconst 1, 1) := dgL_854.2.2.2.2.2.2.2.2.2.2.1
theorem dL_869 : decode code 869 = .ok (.iadd, 1) := dgL_854.2.2.2.2.2.2.2.2.2.2.2.1
theorem dgL_870 : (decode code 870 = .ok (.iaload, 1)) ∧ (decode code 871 = .ok (.invokevirtual 118, 3)) ∧ (decode code 874 = .ok (.pop, 1)) ∧ (decode code 875 = .ok (.aload_n 2, 1)) ∧ (decode code 876 = .ok (.aload_n 0, 1)) ∧ (decode code 877 = .ok (.iload_n 3, 1)) ∧ (decode code 878 = .ok (.iconst 1, 1)) ∧ (decode code 879 = .ok (.iadd, 1)) ∧ (decode code 880 = .ok (.iaload, 1)) ∧ (decode code 881 = .ok (.invokevirtual 121, 3)) ∧ (decode code 884 = .ok (.pop, 1)) ∧ (decode code 885 = .ok (.goto 174, 3)) ∧ True := dkW [(870, .iaload, 1), (871, .invokevirtual 118, 3), (874, .pop, 1), (875, .aload_n 2, 1), (876, .aload_n 0, 1), (877, .iload_n 3, 1), (878, .iconst 1, 1), (879, .iadd, 1), (880, .iaload, 1), (881, .invokevirtual 121, 3), (884, .pop, 1), (885, .goto 174, 3)] 870 (by decide +kernel)
theorem dL_870 : decode code 870 = .ok (.iaload, 1) := dgL_870.1
theorem dL_871 : decode code 871 = .ok (.invokevirtual 118, 3) := dgL_870.2.1
theorem dL_874 : decode code 874 = .ok (.pop, 1) := dgL_870.2.2.1
theorem dL_875 : decode code 875 = .ok (.aload_n 2, 1) := dgL_870.2.2.2.1
theorem dL_876 : decode code 876 = .ok (.aload_n 0, 1) := dgL_870.2.2.2.2.1
theorem dL_877 : decode code 877 = .ok (.iload_n 3, 1) := dgL_870.2.2.2.2.2.1
theorem dL_878 : decode code 878 = .ok (.iconst 1, 1) := dgL_870.2.2.2.2.2.2.1
theorem dL_879 : decode code 879 = .ok (.iadd, 1) := dgL_870.2.2.2.2.2.2.2.1
theorem dL_880 : decode code 880 = .ok (.iaload, 1) := dgL_870.2.2.2.2.2.2.2.2.1
theorem dL_881 : decode code 881 = .ok (.invokevirtual 121, 3) := dgL_870.2.2.2.2.2.2.2.2.2.1
theorem dL_884 : decode code 884 = .ok (.pop, 1) := dgL_870.2.2.2.2.2.2.2.2.2.2.1
theorem dL_885 : decode code 885 = .ok (.goto 174, 3) := dgL_870.2.2.2.2.2.2.2.2.2.2.2.1
theorem dgL_888 : (decode code 888 = .ok (.aload_n 1, 1)) ∧ (decode code 889 = .ok (.aload_n 0, 1)) ∧ (decode code 890 = .ok (.iload_n 3, 1)) ∧ (decode code 891 = .ok (.iconst 1, 1)) ∧ (decode code 892 = .ok (.iadd, 1)) ∧ (decode code 893 = .ok (.iaload, 1)) ∧ (decode code 894 = .ok (.invokevirtual 122, 3)) ∧ (decode code 897 = .ok (.pop, 1)) ∧ (decode code 898 = .ok (.aload_n 2, 1)) ∧ (decode code 899 = .ok (.aload_n 0, 1)) ∧ (decode code 900 = .ok (.iload_n 3, 1)) ∧ (decode code 901 = .ok (.iconst 1, 1)) ∧ True := dkW [(888, .aload_n 1, 1), (889, .aload_n 0, 1), (890, .iload_n 3, 1), (891, .iconst 1, 1), (892, .iadd, 1), (893, .iaload, 1), (894, .invokevirtual 122, 3), (897, .pop, 1), (898, .aload_n 2, 1), (899, .aload_n 0, 1), (900, .iload_n 3, 1), (901, .iconst 1, 1)] 888 (by decide +kernel)
theorem dL_888 : decode code 888 = .ok (.aload_n 1, 1) := dgL_888.1
theorem dL_889 : decode code 889 = .ok (.aload_n 0, 1) := dgL_888.2.1
theorem dL_890 : decode code 890 = .ok (.iload_n 3, 1) := dgL_888.2.2.1
theorem dL_891 : decode code 891 = .ok (.iconst 1, 1) := dgL_888.2.2.2.1
theorem dL_892 : decode code 892 = .ok (.iadd, 1) := dgL_888.2.2.2.2.1
theorem dL_893 : decode code 893 = .ok (.iaload, 1) := dgL_888.2.2.2.2.2.1
theorem dL_894 : decode code 894 = .ok (.invokevirtual 122, 3) := dgL_888.2.2.2.2.2.2.1
theorem dL_897 : decode code 897 = .ok (.pop, 1) := dgL_888.2.2.2.2.2.2.2.1
theorem dL_898 : decode code 898 = .ok (.aload_n 2, 1) := dgL_888.2.2.2.2.2.2.2.2.1
theorem dL_899 : decode code 899 = .ok (.aload_n 0, 1) := dgL_888.2.2.2.2.2.2.2.2.2.1
theorem dL_900 : decode code 900 = .ok (.iload_n 3, 1) := dgL_888.2.2.2.2.2.2.2.2.2.2.1
theorem dL_901 : decode code 901 = .ok (.iconst 1, 1) := dgL_888.2.2.2.2.2.2.2.2.2.2.2.1
theorem dgL_902 : (decode code 902 = .ok (.iadd, 1)) ∧ (decode code 903 = .ok (.iaload, 1)) ∧ (decode code 904 = .ok (.invokevirtual 125, 3)) ∧ (decode code 907 = .ok (.pop, 1)) ∧ (decode code 908 = .ok (.goto 151, 3)) ∧ (decode code 911 = .ok (.aload_n 1, 1)) ∧ (decode code 912 = .ok (.aload_n 0, 1)) ∧ (decode code 913 = .ok (.iload_n 3, 1)) ∧ (decode code 914 = .ok (.iconst 1, 1)) ∧ (decode code 915 = .ok (.iadd, 1)) ∧ (decode code 916 = .ok (.iaload, 1)) ∧ (decode code 917 = .ok (.invokevirtual 126, 3)) ∧ True := dkW [(902, .iadd, 1), (903, .iaload, 1), (904, .invokevirtual 125, 3), (907, .pop, 1), (908, .goto 151, 3), (911, .aload_n 1, 1), (912, .aload_n 0, 1), (913, .iload_n 3, 1), (914, .iconst 1, 1), (915, .iadd, 1), (916, .iaload, 1), (917, .invokevirtual 126, 3)] 902 (by decide +kernel)
theorem dL_902 : decode code 902 = .ok (.iadd, 1) := dgL_902.1
theorem dL_903 : decode code 903 = .ok (.iaload, 1) := dgL_902.2.1
theorem dL_904 : decode code 904 = .ok (.invokevirtual 125, 3) := dgL_902.2.2.1
theorem dL_907 : decode code 907 = .ok (.pop, 1) := dgL_902.2.2.2.1
theorem dL_908 : decode code 908 = .ok (.goto 151, 3) := dgL_902.2.2.2.2.1
theorem dL_911 : decode code 911 = .ok (.aload_n 1, 1) := dgL_902.2.2.2.2.2.1
theorem dL_912 : decode code 912 = .ok (.aload_n 0, 1) := dgL_902.2.2.2.2.2.2.1
theorem dL_913 : decode code 913 = .ok (.iload_n 3, 1) := dgL_902.2.2.2.2.2.2.2.1
theorem dL_914 : decode code 914 = .ok (.iconst 1, 1) := dgL_902.2.2.2.2.2.2.2.2.1
theorem dL_915 : decode code 915 = .ok (.iadd, 1) := dgL_902.2.2.2.2.2.2.2.2.2.1
theorem dL_916 : decode code 916 = .ok (.iaload, 1) := dgL_902.2.2.2.2.2.2.2.2.2.2.1
theorem dL_917 : decode code 917 = .ok (.invokevirtual 126, 3) := dgL_902.2.2.2.2.2.2.2.2.2.2.2.1
theorem dgL_920 : (decode code 920 = .ok (.pop, 1)) ∧ (decode code 921 = .ok (.aload_n 2, 1)) ∧ (decode code 922 = .ok (.aload_n 0, 1)) ∧ (decode code 923 = .ok (.iload_n 3, 1)) ∧ (decode code 924 = .ok (.iconst 1, 1)) ∧ (decode code 925 = .ok (.iadd, 1)) ∧ (decode code 926 = .ok (.iaload, 1)) ∧ (decode code 927 = .ok (.invokevirtual 129, 3)) ∧ (decode code 930 = .ok (.pop, 1)) ∧ (decode code 931 = .ok (.goto 128, 3)) ∧ (decode code 934 = .ok (.aload_n 1, 1)) ∧ (decode code 935 = .ok (.aload_n 0, 1)) ∧ True := dkW [(920, .pop, 1), (921, .aload_n 2, 1), (922, .aload_n 0, 1), (923, .iload_n 3, 1), (924, .iconst 1, 1), (925, .iadd, 1), (926, .iaload, 1), (927, .invokevirtual 129, 3), (930, .pop, 1), (931, .goto 128, 3), (934, .aload_n 1, 1), (935, .aload_n 0, 1)] 920 (by decide +kernel)
theorem dL_920 : decode code 920 = .ok (.pop, 1) := dgL_920.1
theorem dL_921 : decode code 921 = .ok (.aload_n 2, 1) := dgL_920.2.1
theorem dL_922 : decode code 922 = .ok (.aload_n 0, 1) := dgL_920.2.2.1
theorem dL_923 : decode code 923 = .ok (.iload_n 3, 1) := dgL_920.2.2.2.1
theorem dL_924 : decode code 924 = .ok (.iconst 1, 1) := dgL_920.2.2.2.2.1
theorem dL_925 : decode code 925 = .ok (.iadd, 1) := dgL_920.2.2.2.2.2.1
theorem dL_926 : decode code 926 = .ok (.iaload, 1) := dgL_920.2.2.2.2.2.2.1
theorem dL_927 : decode code 927 = .ok (.invokevirtual 129, 3) := dgL_920.2.2.2.2.2.2.2.1
theorem dL_930 : decode code 930 = .ok (.pop, 1) := dgL_920.2.2.2.2.2.2.2.2.1
theorem dL_931 : decode code 931 = .ok (.goto 128, 3) := dgL_920.2.2.2.2.2.2.2.2.2.1
theorem dL_934 : decode code 934 = .ok (.aload_n 1, 1) := dgL_920.2.2.2.2.2.2.2.2.2.2.1
theorem dL_935 : decode code 935 = .ok (.aload_n 0, 1) := dgL_920.2.2.2.2.2.2.2.2.2.2.2.1
theorem dgL_936 : (decode code 936 = .ok (.iload_n 3, 1)) ∧ (decode code 937 = .ok (.iconst 1, 1)) ∧ (decode code 938 = .ok (.iadd, 1)) ∧ (decode code 939 = .ok (.iaload, 1)) ∧ (decode code 940 = .ok (.aload_n 0, 1)) ∧ (decode code 941 = .ok (.iload_n 3, 1)) ∧ (decode code 942 = .ok (.iconst 2, 1)) ∧ (decode code 943 = .ok (.iadd, 1)) ∧ (decode code 944 = .ok (.iaload, 1)) ∧ (decode code 945 = .ok (.invokevirtual 130, 3)) ∧ (decode code 948 = .ok (.pop, 1)) ∧ (decode code 949 = .ok (.aload_n 2, 1)) ∧ True := dkW [(936, .iload_n 3, 1), (937, .iconst 1, 1), (938, .iadd, 1), (939, .iaload, 1), (940, .aload_n 0, 1), (941, .iload_n 3, 1), (942, .iconst 2, 1), (943, .iadd, 1), (944, .iaload, 1), (945, .invokevirtual 130, 3), (948, .pop, 1), (949, .aload_n 2, 1)] 936 (by decide +kernel)
theorem dL_936 : decode code 936 = .ok (.iload_n 3, 1) := dgL_936.1
theorem dL_937 : decode code 937 = .ok (.iconst 1, 1) := dgL_936.2.1
theorem dL_938 : decode code 938 = .ok (.iadd, 1) := dgL_936.2.2.1
theorem dL_939 : decode code 939 = .ok (.iaload, 1) := dgL_936.2.2.2.1
theorem dL_940 : decode code 940 = .ok (.aload_n 0, 1) := dgL_936.2.2.2.2.1
theorem dL_941 : decode code 941 = .ok (.iload_n 3, 1) := dgL_936.2.2.2.2.2.1
theorem dL_942 : decode code 942 = .ok (.iconst 2, 1) := dgL_936.2.2.2.2.2.2.1
theorem dL_943 : decode code 943 = .ok (.iadd, 1) := dgL_936.2.2.2.2.2.2.2.1
theorem dL_944 : decode code 944 = .ok (.iaload, 1) := dgL_936.2.2.2.2.2.2.2.2.1
theorem dL_945 : decode code 945 = .ok (.invokevirtual 130, 3) := dgL_936.2.2.2.2.2.2.2.2.2.1
theorem dL_948 : decode code 948 = .ok (.pop, 1) := dgL_936.2.2.2.2.2.2.2.2.2.2.1
theorem dL_949 : decode code 949 = .ok (.aload_n 2, 1) := dgL_936.2.2.2.2.2.2.2.2.2.2.2.1
theorem dgL_950 : (decode code 950 = .ok (.aload_n 0, 1)) ∧ (decode code 951 = .ok (.iload_n 3, 1)) ∧ (decode code 952 = .ok (.iconst 1, 1)) ∧ (decode code 953 = .ok (.iadd, 1)) ∧ (decode code 954 = .ok (.iaload, 1)) ∧ (decode code 955 = .ok (.aload_n 0, 1)) ∧ (decode code 956 = .ok (.iload_n 3, 1)) ∧ (decode code 957 = .ok (.iconst 2, 1)) ∧ (decode code 958 = .ok (.iadd, 1)) ∧ (decode code 959 = .ok (.iaload, 1)) ∧ (decode code 960 = .ok (.invokevirtual 133, 3)) ∧ (decode code 963 = .ok (.pop, 1)) ∧ True := dkW [(950, .aload_n 0, 1), (951, .iload_n 3, 1), (952, .iconst 1, 1), (953, .iadd, 1), (954, .iaload, 1), (955, .aload_n 0, 1), (956, .iload_n 3, 1), (957, .iconst 2, 1), (958, .iadd, 1), (959, .iaload, 1), (960, .invokevirtual 133, 3), (963, .pop, 1)] 950 (by decide +kernel)
theorem dL_950 : decode code 950 = .ok (.aload_n 0, 1) := dgL_950.1
theorem dL_951 : decode code 951 = .ok (.iload_n 3, 1) := dgL_950.2.1
theorem dL_952 : decode code 952 = .ok (.iconst 1, 1) := dgL_950.2.2.1
theorem dL_953 : decode code 953 = .ok (.iadd, 1) := dgL_950.2.2.2.1
theorem dL_954 : decode code 954 = .ok (.iaload, 1) := dgL_950.2.2.2.2.1
theorem dL_955 : decode code 955 = .ok (.aload_n 0, 1) := dgL_950.2.2.2.2.2.1
theorem dL_956 : decode code 956 = .ok (.iload_n 3, 1) := dgL_950.2.2.2.2.2.2.1
theorem dL_957 : decode code 957 = .ok (.iconst 2, 1) := dgL_950.2.2.2.2.2.2.2.1
theorem dL_958 : decode code 958 = .ok (.iadd, 1) := dgL_950.2.2.2.2.2.2.2.2.1
theorem dL_959 : decode code 959 = .ok (.iaload, 1) := dgL_950.2.2.2.2.2.2.2.2.2.1
theorem dL_960 : decode code 960 = .ok (.invokevirtual 133, 3) := dgL_950.2.2.2.2.2.2.2.2.2.2.1
theorem dL_963 : decode code 963 = .ok (.pop, 1) := dgL_950.2.2.2.2.2.2.2.2.2.2.2.1
theorem dgL_964 : (decode code 964 = .ok (.goto 95, 3)) ∧ (decode code 967 = .ok (.aload_n 1, 1)) ∧ (decode code 968 = .ok (.aload_n 0, 1)) ∧ (decode code 969 = .ok (.iload_n 3, 1)) ∧ (decode code 970 = .ok (.iconst 1, 1)) ∧ (decode code 971 = .ok (.iadd, 1)) ∧ (decode code 972 = .ok (.iaload, 1)) ∧ (decode code 973 = .ok (.aload_n 0, 1)) ∧ (decode code 974 = .ok (.iload_n 3, 1)) ∧ (decode code 975 = .ok (.iconst 2, 1)) ∧ (decode code 976 = .ok (.iadd, 1)) ∧ (decode code 977 = .ok (.iaload, 1)) ∧ True := dkW [(964, .goto 95, 3), (967, .aload_n 1, 1), (968, .aload_n 0, 1), (969, .iload_n 3, 1), (970, .iconst 1, 1), (971, .iadd, 1), (972, .iaload, 1), (973, .aload_n 0, 1), (974, .iload_n 3, 1), (975, .iconst 2, 1), (976, .iadd, 1), (977, .iaload, 1)] 964 (by decide +kernel)
theorem dL_964 : decode code 964 = .ok (.goto 95, 3) := dgL_964.1
theorem dL_967 : decode code 967 = .ok (.aload_n 1, 1) := dgL_964.2.1
theorem dL_968 : decode code 968 = .ok (.aload_n 0, 1) := dgL_964.2.2.1
theorem dL_969 : decode code 969 = .ok (.iload_n 3, 1) := dgL_964.2.2.2.1
theorem dL_970 : decode code 970 = .ok (.iconst 1, 1) := dgL_964.2.2.2.2.1
theorem dL_971 : decode code 971 = .ok (.iadd, 1) := dgL_964.2.2.2.2.2.1
theorem dL_972 : decode code 972 = .ok (.iaload, 1) := dgL_964.2.2.2.2.2.2.1
theorem dL_973 : decode code 973 = .ok (.aload_n 0, 1) := dgL_964.2.2.2.2.2.2.2.1
theorem dL_974 : decode code 974 = .ok (.iload_n 3, 1) := dgL_964.2.2.2.2.2.2.2.2.1
theorem dL_975 : decode code 975 = .ok (.iconst 2, 1) := dgL_964.2.2.2.2.2.2.2.2.2.1
theorem dL_976 : decode code 976 = .ok (.iadd, 1) := dgL_964.2.2.2.2.2.2.2.2.2.2.1
theorem dL_977 : decode code 977 = .ok (.iaload, 1) := dgL_964.2.2.2.2.2.2.2.2.2.2.2.1
theorem dgL_978 : (decode code 978 = .ok (.invokevirtual 134, 3)) ∧ (decode code 981 = .ok (.pop, 1)) ∧ (decode code 982 = .ok (.aload_n 2, 1)) ∧ (decode code 983 = .ok (.aload_n 0, 1)) ∧ (decode code 984 = .ok (.iload_n 3, 1)) ∧ (decode code 985 = .ok (.iconst 1, 1)) ∧ (decode code 986 = .ok (.iadd, 1)) ∧ (decode code 987 = .ok (.iaload, 1)) ∧ (decode code 988 = .ok (.aload_n 0, 1)) ∧ (decode code 989 = .ok (.iload_n 3, 1)) ∧ (decode code 990 = .ok (.iconst 2, 1)) ∧ (decode code 991 = .ok (.iadd, 1)) ∧ True := dkW [(978, .invokevirtual 134, 3), (981, .pop, 1), (982, .aload_n 2, 1), (983, .aload_n 0, 1), (984, .iload_n 3, 1), (985, .iconst 1, 1), (986, .iadd, 1), (987, .iaload, 1), (988, .aload_n 0, 1), (989, .iload_n 3, 1), (990, .iconst 2, 1), (991, .iadd, 1)] 978 (by decide +kernel)
theorem dL_978 : decode code 978 = .ok (.invokevirtual 134, 3) := dgL_978.1
theorem dL_981 : decode code 981 = .ok (.pop, 1) := dgL_978.2.1
theorem dL_982 : decode code 982 = .ok (.aload_n 2, 1) := dgL_978.2.2.1
theorem dL_983 : decode code 983 = .ok (.aload_n 0, 1) := dgL_978.2.2.2.1
theorem dL_984 : decode code 984 = .ok (.iload_n 3, 1) := dgL_978.2.2.2.2.1
theorem dL_985 : decode code 985 = .ok (.iconst 1, 1) := dgL_978.2.2.2.2.2.1
theorem dL_986 : decode code 986 = .ok (.iadd, 1) := dgL_978.2.2.2.2.2.2.1
theorem dL_987 : decode code 987 = .ok (.iaload, 1) := dgL_978.2.2.2.2.2.2.2.1
theorem dL_988 : decode code 988 = .ok (.aload_n 0, 1) := dgL_978.2.2.2.2.2.2.2.2.1
theorem dL_989 : decode code 989 = .ok (.iload_n 3, 1) := dgL_978.2.2.2.2.2.2.2.2.2.1
theorem dL_990 : decode code 990 = .ok (.iconst 2, 1) := dgL_978.2.2.2.2.2.2.2.2.2.2.1
theorem dL_991 : decode code 991 = .ok (.iadd, 1) := dgL_978.2.2.2.2.2.2.2.2.2.2.2.1
theorem dgL_992 : (decode code 992 = .ok (.iaload, 1)) ∧ (decode code 993 = .ok (.invokevirtual 137, 3)) ∧ (decode code 996 = .ok (.pop, 1)) ∧ (decode code 997 = .ok (.goto 62, 3)) ∧ (decode code 1000 = .ok (.aload_n 1, 1)) ∧ (decode code 1001 = .ok (.invokevirtual 138, 3)) ∧ (decode code 1004 = .ok (.pop, 1)) ∧ (decode code 1005 = .ok (.aload_n 2, 1)) ∧ (decode code 1006 = .ok (.invokevirtual 141, 3)) ∧ (decode code 1009 = .ok (.pop, 1)) ∧ (decode code 1010 = .ok (.goto 49, 3)) ∧ (decode code 1013 = .ok (.aload_n 1, 1)) ∧ True := dkW [(992, .iaload, 1), (993, .invokevirtual 137, 3), (996, .pop, 1), (997, .goto 62, 3), (1000, .aload_n 1, 1), (1001, .invokevirtual 138, 3), (1004, .pop, 1), (1005, .aload_n 2, 1), (1006, .invokevirtual 141, 3), (1009, .pop, 1), (1010, .goto 49, 3), (1013, .aload_n 1, 1)] 992 (by decide +kernel)
theorem dL_992 : decode code 992 = .ok (.iaload, 1) := dgL_992.1
theorem dL_993 : decode code 993 = .ok (.invokevirtual 137, 3) := dgL_992.2.1
theorem dL_996 : decode code 996 = .ok (.pop, 1) := dgL_992.2.2.1
theorem dL_997 : decode code 997 = .ok (.goto 62, 3) := dgL_992.2.2.2.1
theorem dL_1000 : decode code 1000 = .ok (.aload_n 1, 1) := dgL_992.2.2.2.2.1
theorem dL_1001 : decode code 1001 = .ok (.invokevirtual 138, 3) := dgL_992.2.2.2.2.2.1
theorem dL_1004 : decode code 1004 = .ok (.pop, 1) := dgL_992.2.2.2.2.2.2.1
theorem dL_1005 : decode code 1005 = .ok (.aload_n 2, 1) := dgL_992.2.2.2.2.2.2.2.1
theorem dL_1006 : decode code 1006 = .ok (.invokevirtual 141, 3) := dgL_992.2.2.2.2.2.2.2.2.1
theorem dL_1009 : decode code 1009 = .ok (.pop, 1) := dgL_992.2.2.2.2.2.2.2.2.2.1
theorem dL_1010 : decode code 1010 = .ok (.goto 49, 3) := dgL_992.2.2.2.2.2.2.2.2.2.2.1
theorem dL_1013 : decode code 1013 = .ok (.aload_n 1, 1) := dgL_992.2.2.2.2.2.2.2.2.2.2.2.1
theorem dgL_1014 : (decode code 1014 = .ok (.aload_n 0, 1)) ∧ (decode code 1015 = .ok (.iload_n 3, 1)) ∧ (decode code 1016 = .ok (.iconst 1, 1)) ∧ (decode code 1017 = .ok (.iadd, 1)) ∧ (decode code 1018 = .ok (.iaload, 1)) ∧ (decode code 1019 = .ok (.invokevirtual 142, 3)) ∧ (decode code 1022 = .ok (.pop, 1)) ∧ (decode code 1023 = .ok (.aload_n 2, 1)) ∧ (decode code 1024 = .ok (.aload_n 0, 1)) ∧ (decode code 1025 = .ok (.iload_n 3, 1)) ∧ (decode code 1026 = .ok (.iconst 1, 1)) ∧ (decode code 1027 = .ok (.iadd, 1)) ∧ True := dkW [(1014, .aload_n 0, 1), (1015, .iload_n 3, 1), (1016, .iconst 1, 1), (1017, .iadd, 1), (1018, .iaload, 1), (1019, .invokevirtual 142, 3), (1022, .pop, 1), (1023, .aload_n 2, 1), (1024, .aload_n 0, 1), (1025, .iload_n 3, 1), (1026, .iconst 1, 1), (1027, .iadd, 1)] 1014 (by decide +kernel)
theorem dL_1014 : decode code 1014 = .ok (.aload_n 0, 1) := dgL_1014.1
theorem dL_1015 : decode code 1015 = .ok (.iload_n 3, 1) := dgL_1014.2.1
theorem dL_1016 : decode code 1016 = .ok (.iconst 1, 1) := dgL_1014.2.2.1
theorem dL_1017 : decode code 1017 = .ok (.iadd, 1) := dgL_1014.2.2.2.1
theorem dL_1018 : decode code 1018 = .ok (.iaload, 1) := dgL_1014.2.2.2.2.1
theorem dL_1019 : decode code 1019 = .ok (.invokevirtual 142, 3) := dgL_1014.2.2.2.2.2.1
theorem dL_1022 : decode code 1022 = .ok (.pop, 1) := dgL_1014.2.2.2.2.2.2.1
theorem dL_1023 : decode code 1023 = .ok (.aload_n 2, 1) := dgL_1014.2.2.2.2.2.2.2.1
theorem dL_1024 : decode code 1024 = .ok (.aload_n 0, 1) := dgL_1014.2.2.2.2.2.2.2.2.1
theorem dL_1025 : decode code 1025 = .ok (.iload_n 3, 1) := dgL_1014.2.2.2.2.2.2.2.2.2.1
theorem dL_1026 : decode code 1026 = .ok (.iconst 1, 1) := dgL_1014.2.2.2.2.2.2.2.2.2.2.1
theorem dL_1027 : decode code 1027 = .ok (.iadd, 1) := dgL_1014.2.2.2.2.2.2.2.2.2.2.2.1
theorem dgL_1028 : (decode code 1028 = .ok (.iaload, 1)) ∧ (decode code 1029 = .ok (.invokevirtual 145, 3)) ∧ (decode code 1032 = .ok (.pop, 1)) ∧ (decode code 1033 = .ok (.goto 26, 3)) ∧ (decode code 1036 = .ok (.aload_n 1, 1)) ∧ (decode code 1037 = .ok (.aload_n 0, 1)) ∧ (decode code 1038 = .ok (.iload_n 3, 1)) ∧ (decode code 1039 = .ok (.iconst 1, 1)) ∧ (decode code 1040 = .ok (.iadd, 1)) ∧ (decode code 1041 = .ok (.iaload, 1)) ∧ (decode code 1042 = .ok (.invokevirtual 146, 3)) ∧ (decode code 1045 = .ok (.aload_n 2, 1)) ∧ True := dkW [(1028, .iaload, 1), (1029, .invokevirtual 145, 3), (1032, .pop, 1), (1033, .goto 26, 3), (1036, .aload_n 1, 1), (1037, .aload_n 0, 1), (1038, .iload_n 3, 1), (1039, .iconst 1, 1), (1040, .iadd, 1), (1041, .iaload, 1), (1042, .invokevirtual 146, 3), (1045, .aload_n 2, 1)] 1028 (by decide +kernel)
theorem dL_1028 : decode code 1028 = .ok (.iaload, 1) := dgL_1028.1
theorem dL_1029 : decode code 1029 = .ok (.invokevirtual 145, 3) := dgL_1028.2.1
theorem dL_1032 : decode code 1032 = .ok (.pop, 1) := dgL_1028.2.2.1
theorem dL_1033 : decode code 1033 = .ok (.goto 26, 3) := dgL_1028.2.2.2.1
theorem dL_1036 : decode code 1036 = .ok (.aload_n 1, 1) := dgL_1028.2.2.2.2.1
theorem dL_1037 : decode code 1037 = .ok (.aload_n 0, 1) := dgL_1028.2.2.2.2.2.1
theorem dL_1038 : decode code 1038 = .ok (.iload_n 3, 1) := dgL_1028.2.2.2.2.2.2.1
theorem dL_1039 : decode code 1039 = .ok (.iconst 1, 1) := dgL_1028.2.2.2.2.2.2.2.1
theorem dL_1040 : decode code 1040 = .ok (.iadd, 1) := dgL_1028.2.2.2.2.2.2.2.2.1
theorem dL_1041 : decode code 1041 = .ok (.iaload, 1) := dgL_1028.2.2.2.2.2.2.2.2.2.1
theorem dL_1042 : decode code 1042 = .ok (.invokevirtual 146, 3) := dgL_1028.2.2.2.2.2.2.2.2.2.2.1
theorem dL_1045 : decode code 1045 = .ok (.aload_n 2, 1) := dgL_1028.2.2.2.2.2.2.2.2.2.2.2.1
theorem dgL_1046 : (decode code 1046 = .ok (.aload_n 0, 1)) ∧ (decode code 1047 = .ok (.iload_n 3, 1)) ∧ (decode code 1048 = .ok (.iconst 1, 1)) ∧ (decode code 1049 = .ok (.iadd, 1)) ∧ (decode code 1050 = .ok (.iaload, 1)) ∧ (decode code 1051 = .ok (.invokevirtual 149, 3)) ∧ (decode code 1054 = .ok (.if_icmp .eq 5, 3)) ∧ (decode code 1057 = .ok (.iconst 0, 1)) ∧ (decode code 1058 = .ok (.ireturn, 1)) ∧ (decode code 1059 = .ok (.iinc 3 5, 3)) ∧ (decode code 1062 = .ok (.goto (-1044), 3)) ∧ (decode code 1065 = .ok (.iconst 1, 1)) ∧ True := dkW [(1046, .aload_n 0, 1), (1047, .iload_n 3, 1), (1048, .iconst 1, 1), (1049, .iadd, 1), (1050, .iaload, 1), (1051, .invokevirtual 149, 3), (1054, .if_icmp .eq 5, 3), (1057, .iconst 0, 1), (1058, .ireturn, 1), (1059, .iinc 3 5, 3), (1062, .goto (-1044), 3), (1065, .iconst 1, 1)] 1046 (by decide +kernel)
theorem dL_1046 : decode code 1046 = .ok (.aload_n 0, 1) := dgL_1046.1
theorem dL_1047 : decode code 1047 = .ok (.iload_n 3, 1) := dgL_1046.2.1
theorem dL_1048 : decode code 1048 = .ok (.iconst 1, 1) := dgL_1046.2.2.1
theorem dL_1049 : decode code 1049 = .ok (.iadd, 1) := dgL_1046.2.2.2.1
theorem dL_1050 : decode code 1050 = .ok (.iaload, 1) := dgL_1046.2.2.2.2.1
theorem dL_1051 : decode code 1051 = .ok (.invokevirtual 149, 3) := dgL_1046.2.2.2.2.2.1
theorem dL_1054 : decode code 1054 = .ok (.if_icmp .eq 5, 3) := dgL_1046.2.2.2.2.2.2.1
theorem dL_1057 : decode code 1057 = .ok (.iconst 0, 1) := dgL_1046.2.2.2.2.2.2.2.1
theorem dL_1058 : decode code 1058 = .ok (.ireturn, 1) := dgL_1046.2.2.2.2.2.2.2.2.1
theorem dL_1059 : decode code 1059 = .ok (.iinc 3 5, 3) := dgL_1046.2.2.2.2.2.2.2.2.2.1
theorem dL_1062 : decode code 1062 = .ok (.goto (-1044), 3) := dgL_1046.2.2.2.2.2.2.2.2.2.2.1
theorem dL_1065 : decode code 1065 = .ok (.iconst 1, 1) := dgL_1046.2.2.2.2.2.2.2.2.2.2.2.1
theorem dgL_1066 : (decode code 1066 = .ok (.ireturn, 1)) ∧ True := dkW [(1066, .ireturn, 1)] 1066 (by decide +kernel)
theorem dL_1066 : decode code 1066 = .ok (.ireturn, 1) := dgL_1066.1
