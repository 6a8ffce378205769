theorem dX11_laysRaid_0 : decode cX11_laysRaid 0 = .ok (.aload_n 0, 1) := by decide +kernel
theorem dX11_laysRaid_1 : decode cX11_laysRaid 1 = .ok (.bipush 28, 2) := by decide +kernel
theorem dX11_laysRaid_3 : decode cX11_laysRaid 3 = .ok (.invokevirtual 43, 3) := by decide +kernel
theorem dX11_laysRaid_6 : decode cX11_laysRaid 6 = .ok (.istore 5, 2) := by decide +kernel
theorem dX11_laysRaid_8 : decode cX11_laysRaid 8 = .ok (.iconst 1, 1) := by decide +kernel
theorem dX11_laysRaid_9 : decode cX11_laysRaid 9 = .ok (.iload 5, 2) := by decide +kernel
theorem dX11_laysRaid_11 : decode cX11_laysRaid 11 = .ok (.isub, 1) := by decide +kernel
theorem dX11_laysRaid_12 : decode cX11_laysRaid 12 = .ok (.istore 6, 2) := by decide +kernel
theorem dX11_laysRaid_14 : decode cX11_laysRaid 14 = .ok (.aload_n 0, 1) := by decide +kernel
theorem dX11_laysRaid_15 : decode cX11_laysRaid 15 = .ok (.iload 5, 2) := by decide +kernel
theorem dX11_laysRaid_17 : decode cX11_laysRaid 17 = .ok (.iload_n 1, 1) := by decide +kernel
theorem dX11_laysRaid_18 : decode cX11_laysRaid 18 = .ok (.invokevirtual 344, 3) := by decide +kernel
theorem dX11_laysRaid_21 : decode cX11_laysRaid 21 = .ok (.ifCond .eq 40, 3) := by decide +kernel
theorem dX11_laysRaid_24 : decode cX11_laysRaid 24 = .ok (.iload_n 2, 1) := by decide +kernel
theorem dX11_laysRaid_25 : decode cX11_laysRaid 25 = .ok (.i2l, 1) := by decide +kernel
theorem dX11_laysRaid_26 : decode cX11_laysRaid 26 = .ok (.lconst 0, 1) := by decide +kernel
theorem dX11_laysRaid_27 : decode cX11_laysRaid 27 = .ok (.ldc2_w 127, 3) := by decide +kernel
theorem dX11_laysRaid_30 : decode cX11_laysRaid 30 = .ok (.invokestatic 51, 3) := by decide +kernel
theorem dX11_laysRaid_33 : decode cX11_laysRaid 33 = .ok (.ifCond .eq 28, 3) := by decide +kernel
theorem dX11_laysRaid_36 : decode cX11_laysRaid 36 = .ok (.iload 4, 2) := by decide +kernel
theorem dX11_laysRaid_38 : decode cX11_laysRaid 38 = .ok (.i2l, 1) := by decide +kernel
theorem dX11_laysRaid_39 : decode cX11_laysRaid 39 = .ok (.lconst 0, 1) := by decide +kernel
theorem dX11_laysRaid_40 : decode cX11_laysRaid 40 = .ok (.iload_n 2, 1) := by decide +kernel
theorem dX11_laysRaid_41 : decode cX11_laysRaid 41 = .ok (.iconst 1, 1) := by decide +kernel
theorem dX11_laysRaid_42 : decode cX11_laysRaid 42 = .ok (.if_icmp .eq 8, 3) := by decide +kernel
theorem dX11_laysRaid_45 : decode cX11_laysRaid 45 = .ok (.iload_n 2, 1) := by decide +kernel
theorem dX11_laysRaid_46 : decode cX11_laysRaid 46 = .ok (.iconst 3, 1) := by decide +kernel
theorem dX11_laysRaid_47 : decode cX11_laysRaid 47 = .ok (.if_icmp .ne 7, 3) := by decide +kernel
theorem dX11_laysRaid_50 : decode cX11_laysRaid 50 = .ok (.lconst 1, 1) := by decide +kernel
theorem dX11_laysRaid_51 : decode cX11_laysRaid 51 = .ok (.goto 4, 3) := by decide +kernel
theorem dX11_laysRaid_54 : decode cX11_laysRaid 54 = .ok (.lconst 0, 1) := by decide +kernel
theorem dX11_laysRaid_55 : decode cX11_laysRaid 55 = .ok (.invokestatic 51, 3) := by decide +kernel
theorem dX11_laysRaid_58 : decode cX11_laysRaid 58 = .ok (.ifCond .ne 6, 3) := by decide +kernel
theorem dX11_laysRaid_61 : decode cX11_laysRaid 61 = .ok (.bipush (-2), 2) := by decide +kernel
theorem dX11_laysRaid_63 : decode cX11_laysRaid 63 = .ok (.ireturn, 1) := by decide +kernel
theorem dX11_laysRaid_64 : decode cX11_laysRaid 64 = .ok (.iload_n 2, 1) := by decide +kernel
theorem dX11_laysRaid_65 : decode cX11_laysRaid 65 = .ok (.iconst 1, 1) := by decide +kernel
theorem dX11_laysRaid_66 : decode cX11_laysRaid 66 = .ok (.if_icmp .ne 26, 3) := by decide +kernel
theorem dX11_laysRaid_69 : decode cX11_laysRaid 69 = .ok (.iload_n 3, 1) := by decide +kernel
theorem dX11_laysRaid_70 : decode cX11_laysRaid 70 = .ok (.i2l, 1) := by decide +kernel
theorem dX11_laysRaid_71 : decode cX11_laysRaid 71 = .ok (.lconst 1, 1) := by decide +kernel
theorem dX11_laysRaid_72 : decode cX11_laysRaid 72 = .ok (.iconst 1, 1) := by decide +kernel
theorem dX11_laysRaid_73 : decode cX11_laysRaid 73 = .ok (.aload_n 0, 1) := by decide +kernel
theorem dX11_laysRaid_74 : decode cX11_laysRaid 74 = .ok (.iload 6, 2) := by decide +kernel
theorem dX11_laysRaid_76 : decode cX11_laysRaid 76 = .ok (.invokevirtual 59, 3) := by decide +kernel
theorem dX11_laysRaid_79 : decode cX11_laysRaid 79 = .ok (.ishl, 1) := by decide +kernel
theorem dX11_laysRaid_80 : decode cX11_laysRaid 80 = .ok (.iconst 1, 1) := by decide +kernel
theorem dX11_laysRaid_81 : decode cX11_laysRaid 81 = .ok (.isub, 1) := by decide +kernel
theorem dX11_laysRaid_82 : decode cX11_laysRaid 82 = .ok (.i2l, 1) := by decide +kernel
theorem dX11_laysRaid_83 : decode cX11_laysRaid 83 = .ok (.invokestatic 51, 3) := by decide +kernel
theorem dX11_laysRaid_86 : decode cX11_laysRaid 86 = .ok (.ifCond .ne 31, 3) := by decide +kernel
theorem dX11_laysRaid_89 : decode cX11_laysRaid 89 = .ok (.goto 25, 3) := by decide +kernel
theorem dX11_laysRaid_92 : decode cX11_laysRaid 92 = .ok (.iload_n 2, 1) := by decide +kernel
theorem dX11_laysRaid_93 : decode cX11_laysRaid 93 = .ok (.iconst 3, 1) := by decide +kernel
theorem dX11_laysRaid_94 : decode cX11_laysRaid 94 = .ok (.if_icmp .ne 16, 3) := by decide +kernel
theorem dX11_laysRaid_97 : decode cX11_laysRaid 97 = .ok (.aload_n 0, 1) := by decide +kernel
theorem dX11_laysRaid_98 : decode cX11_laysRaid 98 = .ok (.iload 6, 2) := by decide +kernel
theorem dX11_laysRaid_100 : decode cX11_laysRaid 100 = .ok (.iload_n 3, 1) := by decide +kernel
theorem dX11_laysRaid_101 : decode cX11_laysRaid 101 = .ok (.invokevirtual 344, 3) := by decide +kernel
theorem dX11_laysRaid_104 : decode cX11_laysRaid 104 = .ok (.ifCond .ne 13, 3) := by decide +kernel
theorem dX11_laysRaid_107 : decode cX11_laysRaid 107 = .ok (.goto 7, 3) := by decide +kernel
theorem dX11_laysRaid_110 : decode cX11_laysRaid 110 = .ok (.iload_n 3, 1) := by decide +kernel
theorem dX11_laysRaid_111 : decode cX11_laysRaid 111 = .ok (.ifCond .eq 6, 3) := by decide +kernel
theorem dX11_laysRaid_114 : decode cX11_laysRaid 114 = .ok (.bipush (-2), 2) := by decide +kernel
theorem dX11_laysRaid_116 : decode cX11_laysRaid 116 = .ok (.ireturn, 1) := by decide +kernel
theorem dX11_laysRaid_117 : decode cX11_laysRaid 117 = .ok (.aload_n 0, 1) := by decide +kernel
theorem dX11_laysRaid_118 : decode cX11_laysRaid 118 = .ok (.invokevirtual 134, 3) := by decide +kernel
theorem dX11_laysRaid_121 : decode cX11_laysRaid 121 = .ok (.ifCond .ne 47, 3) := by decide +kernel
theorem dX11_laysRaid_124 : decode cX11_laysRaid 124 = .ok (.aload_n 0, 1) := by decide +kernel
theorem dX11_laysRaid_125 : decode cX11_laysRaid 125 = .ok (.getfield 16, 3) := by decide +kernel
theorem dX11_laysRaid_128 : decode cX11_laysRaid 128 = .ok (.bipush 25, 2) := by decide +kernel
theorem dX11_laysRaid_130 : decode cX11_laysRaid 130 = .ok (.laload, 1) := by decide +kernel
theorem dX11_laysRaid_131 : decode cX11_laysRaid 131 = .ok (.ldc2_w 282, 3) := by decide +kernel
theorem dX11_laysRaid_134 : decode cX11_laysRaid 134 = .ok (.lcmp, 1) := by decide +kernel
theorem dX11_laysRaid_135 : decode cX11_laysRaid 135 = .ok (.ifCond .eq 33, 3) := by decide +kernel
theorem dX11_laysRaid_138 : decode cX11_laysRaid 138 = .ok (.aload_n 0, 1) := by decide +kernel
theorem dX11_laysRaid_139 : decode cX11_laysRaid 139 = .ok (.iload 5, 2) := by decide +kernel
theorem dX11_laysRaid_141 : decode cX11_laysRaid 141 = .ok (.iload_n 1, 1) := by decide +kernel
theorem dX11_laysRaid_142 : decode cX11_laysRaid 142 = .ok (.invokevirtual 62, 3) := by decide +kernel
theorem dX11_laysRaid_145 : decode cX11_laysRaid 145 = .ok (.ifCond .ne 23, 3) := by decide +kernel
theorem dX11_laysRaid_148 : decode cX11_laysRaid 148 = .ok (.iload 4, 2) := by decide +kernel
theorem dX11_laysRaid_150 : decode cX11_laysRaid 150 = .ok (.iconst 1, 1) := by decide +kernel
theorem dX11_laysRaid_151 : decode cX11_laysRaid 151 = .ok (.if_icmp .eq 8, 3) := by decide +kernel
theorem dX11_laysRaid_154 : decode cX11_laysRaid 154 = .ok (.iload_n 2, 1) := by decide +kernel
theorem dX11_laysRaid_155 : decode cX11_laysRaid 155 = .ok (.iconst 2, 1) := by decide +kernel
theorem dX11_laysRaid_156 : decode cX11_laysRaid 156 = .ok (.if_icmp .ne 15, 3) := by decide +kernel
theorem dX11_laysRaid_159 : decode cX11_laysRaid 159 = .ok (.aload_n 0, 1) := by decide +kernel
theorem dX11_laysRaid_160 : decode cX11_laysRaid 160 = .ok (.invokevirtual 265, 3) := by decide +kernel
theorem dX11_laysRaid_163 : decode cX11_laysRaid 163 = .ok (.bipush 6, 2) := by decide +kernel
theorem dX11_laysRaid_165 : decode cX11_laysRaid 165 = .ok (.if_icmp .ge 6, 3) := by decide +kernel
theorem dX11_laysRaid_168 : decode cX11_laysRaid 168 = .ok (.bipush (-6), 2) := by decide +kernel
theorem dX11_laysRaid_170 : decode cX11_laysRaid 170 = .ok (.ireturn, 1) := by decide +kernel
theorem dX11_laysRaid_171 : decode cX11_laysRaid 171 = .ok (.iload_n 2, 1) := by decide +kernel
theorem dX11_laysRaid_172 : decode cX11_laysRaid 172 = .ok (.iconst 1, 1) := by decide +kernel
theorem dX11_laysRaid_173 : decode cX11_laysRaid 173 = .ok (.if_icmp .ne 17, 3) := by decide +kernel
theorem dX11_laysRaid_176 : decode cX11_laysRaid 176 = .ok (.iload_n 3, 1) := by decide +kernel
theorem dX11_laysRaid_177 : decode cX11_laysRaid 177 = .ok (.aload_n 0, 1) := by decide +kernel
theorem dX11_laysRaid_178 : decode cX11_laysRaid 178 = .ok (.iload 6, 2) := by decide +kernel
theorem dX11_laysRaid_180 : decode cX11_laysRaid 180 = .ok (.iconst 0, 1) := by decide +kernel
theorem dX11_laysRaid_181 : decode cX11_laysRaid 181 = .ok (.invokevirtual 72, 3) := by decide +kernel
theorem dX11_laysRaid_184 : decode cX11_laysRaid 184 = .ok (.iconst (-1), 1) := by decide +kernel
theorem dX11_laysRaid_185 : decode cX11_laysRaid 185 = .ok (.ixor, 1) := by decide +kernel
theorem dX11_laysRaid_186 : decode cX11_laysRaid 186 = .ok (.iand, 1) := by decide +kernel
theorem dX11_laysRaid_187 : decode cX11_laysRaid 187 = .ok (.ifCond .ne 18, 3) := by decide +kernel
theorem dX11_laysRaid_190 : decode cX11_laysRaid 190 = .ok (.iload_n 2, 1) := by decide +kernel
theorem dX11_laysRaid_191 : decode cX11_laysRaid 191 = .ok (.iconst 3, 1) := by decide +kernel
theorem dX11_laysRaid_192 : decode cX11_laysRaid 192 = .ok (.if_icmp .ne 16, 3) := by decide +kernel
theorem dX11_laysRaid_195 : decode cX11_laysRaid 195 = .ok (.aload_n 0, 1) := by decide +kernel
theorem dX11_laysRaid_196 : decode cX11_laysRaid 196 = .ok (.iload 6, 2) := by decide +kernel
theorem dX11_laysRaid_198 : decode cX11_laysRaid 198 = .ok (.iload_n 3, 1) := by decide +kernel
theorem dX11_laysRaid_199 : decode cX11_laysRaid 199 = .ok (.invokevirtual 62, 3) := by decide +kernel
theorem dX11_laysRaid_202 : decode cX11_laysRaid 202 = .ok (.ifCond .eq 6, 3) := by decide +kernel
theorem dX11_laysRaid_205 : decode cX11_laysRaid 205 = .ok (.bipush (-6), 2) := by decide +kernel
theorem dX11_laysRaid_207 : decode cX11_laysRaid 207 = .ok (.ireturn, 1) := by decide +kernel
theorem dX11_laysRaid_208 : decode cX11_laysRaid 208 = .ok (.aload_n 0, 1) := by decide +kernel
theorem dX11_laysRaid_209 : decode cX11_laysRaid 209 = .ok (.iload_n 1, 1) := by decide +kernel
theorem dX11_laysRaid_210 : decode cX11_laysRaid 210 = .ok (.putfield 96, 3) := by decide +kernel
theorem dX11_laysRaid_213 : decode cX11_laysRaid 213 = .ok (.aload_n 0, 1) := by decide +kernel
theorem dX11_laysRaid_214 : decode cX11_laysRaid 214 = .ok (.iload_n 2, 1) := by decide +kernel
theorem dX11_laysRaid_215 : decode cX11_laysRaid 215 = .ok (.putfield 93, 3) := by decide +kernel
theorem dX11_laysRaid_218 : decode cX11_laysRaid 218 = .ok (.aload_n 0, 1) := by decide +kernel
theorem dX11_laysRaid_219 : decode cX11_laysRaid 219 = .ok (.iload 4, 2) := by decide +kernel
theorem dX11_laysRaid_221 : decode cX11_laysRaid 221 = .ok (.iconst 1, 1) := by decide +kernel
theorem dX11_laysRaid_222 : decode cX11_laysRaid 222 = .ok (.if_icmp .ne 7, 3) := by decide +kernel
theorem dX11_laysRaid_225 : decode cX11_laysRaid 225 = .ok (.iconst 1, 1) := by decide +kernel
theorem dX11_laysRaid_226 : decode cX11_laysRaid 226 = .ok (.goto 4, 3) := by decide +kernel
theorem dX11_laysRaid_229 : decode cX11_laysRaid 229 = .ok (.iconst 0, 1) := by decide +kernel
theorem dX11_laysRaid_230 : decode cX11_laysRaid 230 = .ok (.putfield 108, 3) := by decide +kernel
theorem dX11_laysRaid_233 : decode cX11_laysRaid 233 = .ok (.aload_n 0, 1) := by decide +kernel
theorem dX11_laysRaid_234 : decode cX11_laysRaid 234 = .ok (.iload_n 2, 1) := by decide +kernel
theorem dX11_laysRaid_235 : decode cX11_laysRaid 235 = .ok (.iconst 3, 1) := by decide +kernel
theorem dX11_laysRaid_236 : decode cX11_laysRaid 236 = .ok (.if_icmp .ne 7, 3) := by decide +kernel
theorem dX11_laysRaid_239 : decode cX11_laysRaid 239 = .ok (.iload_n 3, 1) := by decide +kernel
theorem dX11_laysRaid_240 : decode cX11_laysRaid 240 = .ok (.goto 4, 3) := by decide +kernel
theorem dX11_laysRaid_243 : decode cX11_laysRaid 243 = .ok (.iconst (-1), 1) := by decide +kernel
theorem dX11_laysRaid_244 : decode cX11_laysRaid 244 = .ok (.putfield 99, 3) := by decide +kernel
theorem dX11_laysRaid_247 : decode cX11_laysRaid 247 = .ok (.aload_n 0, 1) := by decide +kernel
theorem dX11_laysRaid_248 : decode cX11_laysRaid 248 = .ok (.iconst 0, 1) := by decide +kernel
theorem dX11_laysRaid_249 : decode cX11_laysRaid 249 = .ok (.putfield 82, 3) := by decide +kernel
theorem dX11_laysRaid_252 : decode cX11_laysRaid 252 = .ok (.iconst 0, 1) := by decide +kernel
theorem dX11_laysRaid_253 : decode cX11_laysRaid 253 = .ok (.istore 7, 2) := by decide +kernel
theorem dX11_laysRaid_255 : decode cX11_laysRaid 255 = .ok (.iload 7, 2) := by decide +kernel
theorem dX11_laysRaid_257 : decode cX11_laysRaid 257 = .ok (.aload_n 0, 1) := by decide +kernel
theorem dX11_laysRaid_258 : decode cX11_laysRaid 258 = .ok (.iload 6, 2) := by decide +kernel
theorem dX11_laysRaid_260 : decode cX11_laysRaid 260 = .ok (.invokevirtual 59, 3) := by decide +kernel
theorem dX11_laysRaid_263 : decode cX11_laysRaid 263 = .ok (.if_icmp .ge 47, 3) := by decide +kernel
theorem dX11_laysRaid_266 : decode cX11_laysRaid 266 = .ok (.iload_n 2, 1) := by decide +kernel
theorem dX11_laysRaid_267 : decode cX11_laysRaid 267 = .ok (.iconst 1, 1) := by decide +kernel
theorem dX11_laysRaid_268 : decode cX11_laysRaid 268 = .ok (.if_icmp .ne 42, 3) := by decide +kernel
theorem dX11_laysRaid_271 : decode cX11_laysRaid 271 = .ok (.iload_n 3, 1) := by decide +kernel
theorem dX11_laysRaid_272 : decode cX11_laysRaid 272 = .ok (.iload 7, 2) := by decide +kernel
theorem dX11_laysRaid_274 : decode cX11_laysRaid 274 = .ok (.invokestatic 275, 3) := by decide +kernel
theorem dX11_laysRaid_277 : decode cX11_laysRaid 277 = .ok (.ifCond .ne 6, 3) := by decide +kernel
theorem dX11_laysRaid_280 : decode cX11_laysRaid 280 = .ok (.goto 24, 3) := by decide +kernel
theorem dX11_laysRaid_283 : decode cX11_laysRaid 283 = .ok (.aload_n 0, 1) := by decide +kernel
theorem dX11_laysRaid_284 : decode cX11_laysRaid 284 = .ok (.getfield 19, 3) := by decide +kernel
theorem dX11_laysRaid_287 : decode cX11_laysRaid 287 = .ok (.aload_n 0, 1) := by decide +kernel
theorem dX11_laysRaid_288 : decode cX11_laysRaid 288 = .ok (.getfield 82, 3) := by decide +kernel
theorem dX11_laysRaid_291 : decode cX11_laysRaid 291 = .ok (.iload 7, 2) := by decide +kernel
theorem dX11_laysRaid_293 : decode cX11_laysRaid 293 = .ok (.iastore, 1) := by decide +kernel
theorem dX11_laysRaid_294 : decode cX11_laysRaid 294 = .ok (.aload_n 0, 1) := by decide +kernel
theorem dX11_laysRaid_295 : decode cX11_laysRaid 295 = .ok (.dup, 1) := by decide +kernel
theorem dX11_laysRaid_296 : decode cX11_laysRaid 296 = .ok (.getfield 82, 3) := by decide +kernel
theorem dX11_laysRaid_299 : decode cX11_laysRaid 299 = .ok (.iconst 1, 1) := by decide +kernel
theorem dX11_laysRaid_300 : decode cX11_laysRaid 300 = .ok (.iadd, 1) := by decide +kernel
theorem dX11_laysRaid_301 : decode cX11_laysRaid 301 = .ok (.putfield 82, 3) := by decide +kernel
theorem dX11_laysRaid_304 : decode cX11_laysRaid 304 = .ok (.iinc 7 1, 3) := by decide +kernel
theorem dX11_laysRaid_307 : decode cX11_laysRaid 307 = .ok (.goto (-52), 3) := by decide +kernel
theorem dX11_laysRaid_310 : decode cX11_laysRaid 310 = .ok (.iconst 0, 1) := by decide +kernel
theorem dX11_laysRaid_311 : decode cX11_laysRaid 311 = .ok (.ireturn, 1) := by decide +kernel
def fX11_laysRaid_l255 (p0 : Nat) (p1 : Int32) (p2 : Int32) (p3 : Int32) (p4 : Int32) (p5 : Int32) (p6 : Int32) (K : Int32 → xMem → Option (Int32 × xMem)) : Nat → Int32 → xMem → Option (Int32 × xMem)
  | 0, _, _ => none
  | n + 1, v7, M => xBn (fX11_many p0 p6 M) fun r31 M32 => if r31 ≤ v7 then (K v7 M32) else (if p2 = (nI 1) then (xBn (fX11_has p3 v7 M32) fun r33 M34 => if r33 = 0 then (xLt (v7 + nI 1) fun x39 => fX11_laysRaid_l255 p0 p1 p2 p3 p4 p5 p6 K n x39 M34) else (xGb (M34.1 p0 8) (xln (xrf p0 7)) (xLt (xwI M34 (xrf p0 7) (Int32.toNatClampNeg (M34.1 p0 8)) v7) fun M36 => xLt (xwI M36 p0 8 ((M36.1 p0 8) + (nI 1))) fun M37 => xLt (v7 + nI 1) fun x38 => fX11_laysRaid_l255 p0 p1 p2 p3 p4 p5 p6 K n x38 M37))) else (K v7 M32))
def fX11_laysRaid (a0 : Nat) (a1 : Int32) (a2 : Int32) (a3 : Int32) (a4 : Int32) (M : xMem) : Option (Int32 × xMem) :=
  xBn (fX11_get a0 (nI 28) M) fun r1 M2 => xLt ((nI 1) - r1) fun x3 => xBn (fX11_isOne a0 r1 a1 M2) fun r4 M5 => if r4 = 0 then (some ((-2), M5)) else (xBn (fX11_in (Int32.toInt64 a2) (lN 0) (lN 4) M5) fun r6 M7 => if r6 = 0 then (some ((-2), M7)) else (xLt (fun (s8 : Int64) (M9 : xMem) => (xBn (fX11_in (Int32.toInt64 a4) (lN 0) s8 M9) fun r10 M11 => if r10 = 0 then (some ((-2), M11)) else (xLt (fun  (M12 : xMem) => (xBn (fX11_isOver a0 M12) fun r13 M14 => if r13 = 0 then (xGb (nI 25) (xln (xnw M14)) (if (lg_cmp (M14.2.1 (xnw M14) (Int32.toNatClampNeg (nI 25))) (lN 200)) = 0 then (some ((-6), M14)) else (xBn (fX11_isOf a0 r1 a1 M14) fun r16 M17 => if r16 = 0 then (xLt (fun  (M18 : xMem) => (xLt (fun  (M19 : xMem) => (xLt (fun  (M20 : xMem) => (xLt (xwI M20 a0 4 a1) fun M21 => xLt (xwI M21 a0 5 a2) fun M22 => xLt (fun (s23 : Int32) (M24 : xMem) => (xGd (s23 = 0 ∨ s23 = 1) (xLt (xwI M24 a0 6 s23) fun M26 => xLt (fun (s27 : Int32) (M28 : xMem) => (xLt (xwI M28 a0 9 s27) fun M29 => xLt (xwI M29 a0 8 (nI 0)) fun M30 => fX11_laysRaid_l255 a0 a1 a2 a3 a4 r1 x3 (fun (v40 : Int32) (M41 : xMem) => some ((nI 0), M41)) xFU (nI 0) M30 : Option (Int32 × xMem))) fun J244 => if a2 = (nI 3) then (J244 a3 M26) else (J244 (-1) M26)) : Option (Int32 × xMem))) fun J230 => if a4 = (nI 1) then (J230 (nI 1) M22) else (J230 (nI 0) M22) : Option (Int32 × xMem))) fun J208 => if a2 = (nI 3) then (xBn (fX11_isOf a0 x3 a3 M19) fun r42 M43 => if r42 = 0 then (J208  M43) else (some ((-6), M43))) else (J208  M19) : Option (Int32 × xMem))) fun J190 => if a2 = (nI 1) then (xBn (fX11_thoseOf a0 x3 (nI 0) M18) fun r44 M45 => if (a3 &&& (r44 ^^^ (-1))) = 0 then (J190  M45) else (some ((-6), M45))) else (J190  M18) : Option (Int32 × xMem))) fun J171 => xLt (fun  (M46 : xMem) => (xBn (fX11_standing a0 M46) fun r47 M48 => if (nI 6) ≤ r47 then (J171  M48) else (some ((-6), M48)) : Option (Int32 × xMem))) fun J159 => if a4 = (nI 1) then (J159  M17) else (if a2 = (nI 2) then (J159  M17) else (J171  M17))) else (some ((-6), M17))))) else (some ((-6), M14)) : Option (Int32 × xMem))) fun J117 => if a2 = (nI 1) then (xBn (fX11_many a0 x3 M11) fun r51 M52 => xBn (fX11_in (Int32.toInt64 a3) (lN 1) (Int32.toInt64 (((nI 1) <<< (r51 &&& 31)) - (nI 1))) M52) fun r53 M54 => if r53 = 0 then (some ((-2), M54)) else (J117  M54)) else (if a2 = (nI 3) then (xBn (fX11_isOne a0 x3 a3 M11) fun r49 M50 => if r49 = 0 then (some ((-2), M50)) else (J117  M50)) else (if a3 = 0 then (J117  M11) else (some ((-2), M11))))) : Option (Int32 × xMem))) fun J55 => xLt (fun  (M55 : xMem) => (J55 (lN 1) M55 : Option (Int32 × xMem))) fun J50 => if a2 = (nI 1) then (J50  M7) else (if a2 = (nI 3) then (J50  M7) else (J55 (lN 0) M7))))
set_option maxRecDepth 100000 in
set_option maxHeartbeats 4000000 in
theorem lX11_laysRaid_255 {X : xCX} {r : Int32} {M' : xMem} (C : xCk X cX11_laysRaid RX11 5) (R0 : xRk X (some .int) (some (.int r), M')) (hnL : X.2.2.2.2.2.2.2.2.2.2.2.2.2 = 8) (p0 : Nat) (hp0 : xkd p0 = 11) (p1 : Int32) (p2 : Int32) (p3 : Int32) (p4 : Int32) (p5 : Int32) (p6 : Int32) (K : Int32 → xMem → Option (Int32 × xMem)) (hK : ∀ (v7 : Int32) (M : xMem), K v7 M = some (r, M') → WW X 310 [some (vr X.1 p0), some (.int p1), some (.int p2), some (.int p3), some (.int p4), some (.int p5), some (.int p6), some (.int v7)] [] M) : ∀ (n : Nat) (v7 : Int32) (M : xMem), fX11_laysRaid_l255 p0 p1 p2 p3 p4 p5 p6 K n v7 M = some (r, M') → WW X 255 [some (vr X.1 p0), some (.int p1), some (.int p2), some (.int p3), some (.int p4), some (.int p5), some (.int p6), some (.int v7)] [] M := by
  have hn5 : 5 < X.2.2.2.2.2.2.2.2.2.2.2.2.2 := by rw [hnL]; decide
  have hn6 : 6 < X.2.2.2.2.2.2.2.2.2.2.2.2.2 := by rw [hnL]; decide
  have hn7 : 7 < X.2.2.2.2.2.2.2.2.2.2.2.2.2 := by rw [hnL]; decide
  intro n
  induction n with
  | zero =>
    intro v7 M h
    cases (show (none : Option (Int32 × xMem)) = some (r, M') from h)
  | succ n ih =>
    intro v7 M h
    rw [fX11_laysRaid_l255.eq_2] at h
    refine r_iload (pc := 255) C dX11_laysRaid_255 rfl ?_
    refine r_aload_n (pc := 257) C dX11_laysRaid_257 rfl rfl ?_
    refine r_iload (pc := 258) C dX11_laysRaid_258 rfl ?_
    refine r_vI1 (pc := 260) C (fun r M' e => zX11_many X.1 p0 hp0 p6 M r M' e) hp0 (by decide) rfl mX11_many lX11_59 (by decide) (Nat.le_of_ble_eq_true rfl) dX11_laysRaid_260 h (fun r31 M32 h => ?_)
    refine r_icmp_ge (pc := 263) (tgt := 310) C dX11_laysRaid_263 (by decide) h (fun _ h => ?_) (fun _ h => ?_)
    · exact hK v7 M32 h
    · refine r_iload_n (pc := 266) C dX11_laysRaid_266 rfl rfl ?_
      refine r_iconst (pc := 267) (v := (nI 1)) C dX11_laysRaid_267 (by decide) ?_
      refine r_icmp_ne (pc := 268) (tgt := 310) C dX11_laysRaid_268 (by decide) h (fun _ h => ?_) (fun _ h => ?_)
      · exact hK v7 M32 h
      · refine r_iload_n (pc := 271) C dX11_laysRaid_271 rfl rfl ?_
        refine r_iload (pc := 272) C dX11_laysRaid_272 rfl ?_
        refine r_sI2 (pc := 274) C (fun r M' e => zX11_has X.1 p3 v7 M32 r M' e) mX11_has lX11_275 (by decide) (Nat.le_of_ble_eq_true rfl) dX11_laysRaid_274 h (fun r33 M34 h => ?_)
        refine r_if_ne (pc := 277) (tgt := 283) C dX11_laysRaid_277 (by decide) h (fun _ h => ?_) (fun _ h => ?_)
        · refine r_aload_n (pc := 283) C dX11_laysRaid_283 rfl rfl ?_
          refine r_getR (pc := 284) C kX11_19 hp0 (by decide) dX11_laysRaid_284 ?_
          refine r_aload_n (pc := 287) C dX11_laysRaid_287 rfl rfl ?_
          refine r_getI (pc := 288) C kX11_82 hp0 dX11_laysRaid_288 ?_
          refine r_iload (pc := 291) C dX11_laysRaid_291 rfl ?_
          obtain ⟨g35, h⟩ := xGb_of h
          refine r_iast (pc := 293) C (xtk hp0 (by decide) rfl rfl) g35 dX11_laysRaid_293 ?_
          refine r_letM h (fun M36 h => ?_)
          refine r_aload_n (pc := 294) C dX11_laysRaid_294 rfl rfl ?_
          refine r_dup (pc := 295) C rfl dX11_laysRaid_295 ?_
          refine r_getI (pc := 296) C kX11_82 hp0 dX11_laysRaid_296 ?_
          refine r_iconst (pc := 299) (v := (nI 1)) C dX11_laysRaid_299 (by decide) ?_
          refine r_iadd (pc := 300) C dX11_laysRaid_300 ?_
          refine r_putI (pc := 301) C kX11_82 hp0 dX11_laysRaid_301 ?_
          refine r_letM h (fun M37 h => ?_)
          refine r_iincL (pc := 304) (c := nI 1) C dX11_laysRaid_304 rfl (by decide) hn7 h (fun x38 h => ?_)
          refine r_lvE (lv' := [_, _, _, _, _, _, _, _]) rfl ?_
          refine r_goto (pc := 307) (tgt := 255) C dX11_laysRaid_307 (by decide) ?_
          exact ih x38 M37 h
        · refine r_goto (pc := 280) (tgt := 304) C dX11_laysRaid_280 (by decide) ?_
          refine r_iincL (pc := 304) (c := nI 1) C dX11_laysRaid_304 rfl (by decide) hn7 h (fun x39 h => ?_)
          refine r_lvE (lv' := [_, _, _, _, _, _, _, _]) rfl ?_
          refine r_goto (pc := 307) (tgt := 255) C dX11_laysRaid_307 (by decide) ?_
          exact ih x39 M34 h
set_option maxRecDepth 100000 in
set_option maxHeartbeats 4000000 in
theorem zX11_laysRaid (G : xGX) (a0 : Nat) (h0 : xkd a0 = 11) (a1 : Int32) (a2 : Int32) (a3 : Int32) (a4 : Int32) (M : xMem) (r : Int32) (M' : xMem) (h : fX11_laysRaid a0 a1 a2 a3 a4 M = some (r, M')) : xCt G yX11_laysRaid cX11_laysRaid 8 (some .int) 5 [vr G a0, .int a1, .int a2, .int a3, .int a4] M (some (.int r), M') := by
  refine xMet (lv := [some (vr G a0), some (.int a1), some (.int a2), some (.int a3), some (.int a4), none, none, none]) (by decide) (Nat.le_of_ble_eq_true rfl) rfl ?_
  intro X hG hnL C R0
  subst hG
  have C : xCk X cX11_laysRaid RX11 5 := C
  have hn5 : 5 < X.2.2.2.2.2.2.2.2.2.2.2.2.2 := by rw [hnL]; decide
  have hn6 : 6 < X.2.2.2.2.2.2.2.2.2.2.2.2.2 := by rw [hnL]; decide
  have hn7 : 7 < X.2.2.2.2.2.2.2.2.2.2.2.2.2 := by rw [hnL]; decide
  unfold fX11_laysRaid at h
  refine r_aload_n (pc := 0) C dX11_laysRaid_0 rfl rfl ?_
  refine r_bipush (pc := 1) (v := (nI 28)) C dX11_laysRaid_1 (by decide) ?_
  refine r_vI1 (pc := 3) C (fun r M' e => zX11_get X.1 a0 h0 (nI 28) M r M' e) h0 (by decide) rfl mX11_get lX11_43 (by decide) (Nat.le_of_ble_eq_true rfl) dX11_laysRaid_3 h (fun r1 M2 h => ?_)
  refine r_istore (pc := 6) (lv' := [_, _, _, _, _, _, _, _]) C dX11_laysRaid_6 hn5 rfl ?_
  refine r_iconst (pc := 8) (v := (nI 1)) C dX11_laysRaid_8 (by decide) ?_
  refine r_iload (pc := 9) C dX11_laysRaid_9 rfl ?_
  refine r_isub (pc := 11) C dX11_laysRaid_11 ?_
  refine r_letI h (fun x3 h => ?_)
  refine r_istore (pc := 12) (lv' := [_, _, _, _, _, _, _, _]) C dX11_laysRaid_12 hn6 rfl ?_
  refine r_aload_n (pc := 14) C dX11_laysRaid_14 rfl rfl ?_
  refine r_iload (pc := 15) C dX11_laysRaid_15 rfl ?_
  refine r_iload_n (pc := 17) C dX11_laysRaid_17 rfl rfl ?_
  refine r_vI2 (pc := 18) C (fun r M' e => zX11_isOne X.1 a0 h0 r1 a1 M2 r M' e) h0 (by decide) rfl mX11_isOne lX11_344 (by decide) (Nat.le_of_ble_eq_true rfl) dX11_laysRaid_18 h (fun r4 M5 h => ?_)
  refine r_if_eq (pc := 21) (tgt := 61) C dX11_laysRaid_21 (by decide) h (fun _ h => ?_) (fun _ h => ?_)
  · refine r_bipush (pc := 61) (v := (-2)) C dX11_laysRaid_61 (by decide) ?_
    exact r_iret (pc := 63) C R0 h dX11_laysRaid_63
  · refine r_iload_n (pc := 24) C dX11_laysRaid_24 rfl rfl ?_
    refine r_i2l (pc := 25) C dX11_laysRaid_25 ?_
    refine r_lconst (pc := 26) (v := lN 0) C dX11_laysRaid_26 rfl ?_
    refine r_ldc2 (pc := 27) C nX11_127 dX11_laysRaid_27 ?_
    refine r_sI3 (pc := 30) C (fun r M' e => zX11_in X.1 (Int32.toInt64 a2) (lN 0) (lN 4) M5 r M' e) mX11_in lX11_51 (by decide) (Nat.le_of_ble_eq_true rfl) dX11_laysRaid_30 h (fun r6 M7 h => ?_)
    refine r_if_eq (pc := 33) (tgt := 61) C dX11_laysRaid_33 (by decide) h (fun _ h => ?_) (fun _ h => ?_)
    · refine r_bipush (pc := 61) (v := (-2)) C dX11_laysRaid_61 (by decide) ?_
      exact r_iret (pc := 63) C R0 h dX11_laysRaid_63
    · refine r_iload (pc := 36) C dX11_laysRaid_36 rfl ?_
      refine r_i2l (pc := 38) C dX11_laysRaid_38 ?_
      refine r_lconst (pc := 39) (v := lN 0) C dX11_laysRaid_39 rfl ?_
      refine r_iload_n (pc := 40) C dX11_laysRaid_40 rfl rfl ?_
      refine r_iconst (pc := 41) (v := (nI 1)) C dX11_laysRaid_41 (by decide) ?_
      refine r_jn (fun J => ∀ (s8 : Int64) (M9 : xMem) , J s8 M9 = some (r, M') → WW X 55 [some (vr X.1 a0), some (.int a1), some (.int a2), some (.int a3), some (.int a4), some (.int r1), some (.int x3), none] [.long s8, .long (lN 0), .long (Int32.toInt64 a4)] M9) h (fun s8 M9  h => ?_) (fun J55 hJ55 h => ?_)
      · refine r_sI3 (pc := 55) C (fun r M' e => zX11_in X.1 (Int32.toInt64 a4) (lN 0) s8 M9 r M' e) mX11_in lX11_51 (by decide) (Nat.le_of_ble_eq_true rfl) dX11_laysRaid_55 h (fun r10 M11 h => ?_)
        refine r_if_ne (pc := 58) (tgt := 64) C dX11_laysRaid_58 (by decide) h (fun _ h => ?_) (fun _ h => ?_)
        · refine r_iload_n (pc := 64) C dX11_laysRaid_64 rfl rfl ?_
          refine r_iconst (pc := 65) (v := (nI 1)) C dX11_laysRaid_65 (by decide) ?_
          refine r_jn (fun J => ∀  (M12 : xMem) , J  M12 = some (r, M') → WW X 117 [some (vr X.1 a0), some (.int a1), some (.int a2), some (.int a3), some (.int a4), some (.int r1), some (.int x3), none] [] M12) h (fun  M12  h => ?_) (fun J117 hJ117 h => ?_)
          · refine r_aload_n (pc := 117) C dX11_laysRaid_117 rfl rfl ?_
            refine r_vI0 (pc := 118) C (fun r M' e => zX11_isOver X.1 a0 h0 M12 r M' e) h0 (by decide) rfl mX11_isOver lX11_134 (by decide) (Nat.le_of_ble_eq_true rfl) dX11_laysRaid_118 h (fun r13 M14 h => ?_)
            refine r_if_ne (pc := 121) (tgt := 168) C dX11_laysRaid_121 (by decide) h (fun _ h => ?_) (fun _ h => ?_)
            · refine r_bipush (pc := 168) (v := (-6)) C dX11_laysRaid_168 (by decide) ?_
              exact r_iret (pc := 170) C R0 h dX11_laysRaid_170
            · refine r_aload_n (pc := 124) C dX11_laysRaid_124 rfl rfl ?_
              refine r_getW (pc := 125) C kX11_16 h0 dX11_laysRaid_125 ?_
              refine r_bipush (pc := 128) (v := (nI 25)) C dX11_laysRaid_128 (by decide) ?_
              obtain ⟨g15, h⟩ := xGb_of h
              refine r_lald (pc := 130) C (xknw M14) g15 dX11_laysRaid_130 ?_
              refine r_ldc2 (pc := 131) C nX11_282 dX11_laysRaid_131 ?_
              refine r_lcmp (pc := 134) C dX11_laysRaid_134 ?_
              refine r_if_eq (pc := 135) (tgt := 168) C dX11_laysRaid_135 (by decide) h (fun _ h => ?_) (fun _ h => ?_)
              · refine r_bipush (pc := 168) (v := (-6)) C dX11_laysRaid_168 (by decide) ?_
                exact r_iret (pc := 170) C R0 h dX11_laysRaid_170
              · refine r_aload_n (pc := 138) C dX11_laysRaid_138 rfl rfl ?_
                refine r_iload (pc := 139) C dX11_laysRaid_139 rfl ?_
                refine r_iload_n (pc := 141) C dX11_laysRaid_141 rfl rfl ?_
                refine r_vI2 (pc := 142) C (fun r M' e => zX11_isOf X.1 a0 h0 r1 a1 M14 r M' e) h0 (by decide) rfl mX11_isOf lX11_62 (by decide) (Nat.le_of_ble_eq_true rfl) dX11_laysRaid_142 h (fun r16 M17 h => ?_)
                refine r_if_ne (pc := 145) (tgt := 168) C dX11_laysRaid_145 (by decide) h (fun _ h => ?_) (fun _ h => ?_)
                · refine r_bipush (pc := 168) (v := (-6)) C dX11_laysRaid_168 (by decide) ?_
                  exact r_iret (pc := 170) C R0 h dX11_laysRaid_170
                · refine r_iload (pc := 148) C dX11_laysRaid_148 rfl ?_
                  refine r_iconst (pc := 150) (v := (nI 1)) C dX11_laysRaid_150 (by decide) ?_
                  refine r_jn (fun J => ∀  (M18 : xMem) , J  M18 = some (r, M') → WW X 171 [some (vr X.1 a0), some (.int a1), some (.int a2), some (.int a3), some (.int a4), some (.int r1), some (.int x3), none] [] M18) h (fun  M18  h => ?_) (fun J171 hJ171 h => ?_)
                  · refine r_iload_n (pc := 171) C dX11_laysRaid_171 rfl rfl ?_
                    refine r_iconst (pc := 172) (v := (nI 1)) C dX11_laysRaid_172 (by decide) ?_
                    refine r_jn (fun J => ∀  (M19 : xMem) , J  M19 = some (r, M') → WW X 190 [some (vr X.1 a0), some (.int a1), some (.int a2), some (.int a3), some (.int a4), some (.int r1), some (.int x3), none] [] M19) h (fun  M19  h => ?_) (fun J190 hJ190 h => ?_)
                    · refine r_iload_n (pc := 190) C dX11_laysRaid_190 rfl rfl ?_
                      refine r_iconst (pc := 191) (v := (nI 3)) C dX11_laysRaid_191 (by decide) ?_
                      refine r_jn (fun J => ∀  (M20 : xMem) , J  M20 = some (r, M') → WW X 208 [some (vr X.1 a0), some (.int a1), some (.int a2), some (.int a3), some (.int a4), some (.int r1), some (.int x3), none] [] M20) h (fun  M20  h => ?_) (fun J208 hJ208 h => ?_)
                      · refine r_aload_n (pc := 208) C dX11_laysRaid_208 rfl rfl ?_
                        refine r_iload_n (pc := 209) C dX11_laysRaid_209 rfl rfl ?_
                        refine r_putI (pc := 210) C kX11_96 h0 dX11_laysRaid_210 ?_
                        refine r_letM h (fun M21 h => ?_)
                        refine r_aload_n (pc := 213) C dX11_laysRaid_213 rfl rfl ?_
                        refine r_iload_n (pc := 214) C dX11_laysRaid_214 rfl rfl ?_
                        refine r_putI (pc := 215) C kX11_93 h0 dX11_laysRaid_215 ?_
                        refine r_letM h (fun M22 h => ?_)
                        refine r_aload_n (pc := 218) C dX11_laysRaid_218 rfl rfl ?_
                        refine r_iload (pc := 219) C dX11_laysRaid_219 rfl ?_
                        refine r_iconst (pc := 221) (v := (nI 1)) C dX11_laysRaid_221 (by decide) ?_
                        refine r_jn (fun J => ∀ (s23 : Int32) (M24 : xMem) , J s23 M24 = some (r, M') → WW X 230 [some (vr X.1 a0), some (.int a1), some (.int a2), some (.int a3), some (.int a4), some (.int r1), some (.int x3), none] [.int s23, vr X.1 a0] M24) h (fun s23 M24  h => ?_) (fun J230 hJ230 h => ?_)
                        · obtain ⟨g25, h⟩ := xGd_of h
                          refine r_putZ (pc := 230) C kX11_108 h0 g25 dX11_laysRaid_230 ?_
                          refine r_letM h (fun M26 h => ?_)
                          refine r_aload_n (pc := 233) C dX11_laysRaid_233 rfl rfl ?_
                          refine r_iload_n (pc := 234) C dX11_laysRaid_234 rfl rfl ?_
                          refine r_iconst (pc := 235) (v := (nI 3)) C dX11_laysRaid_235 (by decide) ?_
                          refine r_jn (fun J => ∀ (s27 : Int32) (M28 : xMem) , J s27 M28 = some (r, M') → WW X 244 [some (vr X.1 a0), some (.int a1), some (.int a2), some (.int a3), some (.int a4), some (.int r1), some (.int x3), none] [.int s27, vr X.1 a0] M28) h (fun s27 M28  h => ?_) (fun J244 hJ244 h => ?_)
                          · refine r_putI (pc := 244) C kX11_99 h0 dX11_laysRaid_244 ?_
                            refine r_letM h (fun M29 h => ?_)
                            refine r_aload_n (pc := 247) C dX11_laysRaid_247 rfl rfl ?_
                            refine r_iconst (pc := 248) (v := (nI 0)) C dX11_laysRaid_248 (by decide) ?_
                            refine r_putI (pc := 249) C kX11_82 h0 dX11_laysRaid_249 ?_
                            refine r_letM h (fun M30 h => ?_)
                            refine r_iconst (pc := 252) (v := (nI 0)) C dX11_laysRaid_252 (by decide) ?_
                            refine r_istore (pc := 253) (lv' := [_, _, _, _, _, _, _, _]) C dX11_laysRaid_253 hn7 rfl ?_
                            refine lX11_laysRaid_255 C R0 hnL a0 h0 a1 a2 a3 a4 r1 x3 _ (fun v40 M41 h => ?_) _ _ _ h
                            refine r_iconst (pc := 310) (v := (nI 0)) C dX11_laysRaid_310 (by decide) ?_
                            exact r_iret (pc := 311) C R0 h dX11_laysRaid_311
                          refine r_icmp_ne (pc := 236) (tgt := 243) C dX11_laysRaid_236 (by decide) h (fun _ h => ?_) (fun _ h => ?_)
                          · refine r_iconst (pc := 243) (v := (-1)) C dX11_laysRaid_243 (by decide) ?_
                            exact hJ244 (-1) M26  h
                          · refine r_iload_n (pc := 239) C dX11_laysRaid_239 rfl rfl ?_
                            refine r_goto (pc := 240) (tgt := 244) C dX11_laysRaid_240 (by decide) ?_
                            exact hJ244 a3 M26  h
                        refine r_icmp_ne (pc := 222) (tgt := 229) C dX11_laysRaid_222 (by decide) h (fun _ h => ?_) (fun _ h => ?_)
                        · refine r_iconst (pc := 229) (v := (nI 0)) C dX11_laysRaid_229 (by decide) ?_
                          exact hJ230 (nI 0) M22  h
                        · refine r_iconst (pc := 225) (v := (nI 1)) C dX11_laysRaid_225 (by decide) ?_
                          refine r_goto (pc := 226) (tgt := 230) C dX11_laysRaid_226 (by decide) ?_
                          exact hJ230 (nI 1) M22  h
                      refine r_icmp_ne (pc := 192) (tgt := 208) C dX11_laysRaid_192 (by decide) h (fun _ h => ?_) (fun _ h => ?_)
                      · exact hJ208  M19  h
                      · refine r_aload_n (pc := 195) C dX11_laysRaid_195 rfl rfl ?_
                        refine r_iload (pc := 196) C dX11_laysRaid_196 rfl ?_
                        refine r_iload_n (pc := 198) C dX11_laysRaid_198 rfl rfl ?_
                        refine r_vI2 (pc := 199) C (fun r M' e => zX11_isOf X.1 a0 h0 x3 a3 M19 r M' e) h0 (by decide) rfl mX11_isOf lX11_62 (by decide) (Nat.le_of_ble_eq_true rfl) dX11_laysRaid_199 h (fun r42 M43 h => ?_)
                        refine r_if_eq (pc := 202) (tgt := 208) C dX11_laysRaid_202 (by decide) h (fun _ h => ?_) (fun _ h => ?_)
                        · exact hJ208  M43  h
                        · refine r_bipush (pc := 205) (v := (-6)) C dX11_laysRaid_205 (by decide) ?_
                          exact r_iret (pc := 207) C R0 h dX11_laysRaid_207
                    refine r_icmp_ne (pc := 173) (tgt := 190) C dX11_laysRaid_173 (by decide) h (fun _ h => ?_) (fun _ h => ?_)
                    · exact hJ190  M18  h
                    · refine r_iload_n (pc := 176) C dX11_laysRaid_176 rfl rfl ?_
                      refine r_aload_n (pc := 177) C dX11_laysRaid_177 rfl rfl ?_
                      refine r_iload (pc := 178) C dX11_laysRaid_178 rfl ?_
                      refine r_iconst (pc := 180) (v := (nI 0)) C dX11_laysRaid_180 (by decide) ?_
                      refine r_vI2 (pc := 181) C (fun r M' e => zX11_thoseOf X.1 a0 h0 x3 (nI 0) M18 r M' e) h0 (by decide) rfl mX11_thoseOf lX11_72 (by decide) (Nat.le_of_ble_eq_true rfl) dX11_laysRaid_181 h (fun r44 M45 h => ?_)
                      refine r_iconst (pc := 184) (v := (-1)) C dX11_laysRaid_184 (by decide) ?_
                      refine r_ixor (pc := 185) C dX11_laysRaid_185 ?_
                      refine r_iand (pc := 186) C dX11_laysRaid_186 ?_
                      refine r_if_ne (pc := 187) (tgt := 205) C dX11_laysRaid_187 (by decide) h (fun _ h => ?_) (fun _ h => ?_)
                      · refine r_bipush (pc := 205) (v := (-6)) C dX11_laysRaid_205 (by decide) ?_
                        exact r_iret (pc := 207) C R0 h dX11_laysRaid_207
                      · exact hJ190  M45  h
                  refine r_jn (fun J => ∀  (M46 : xMem) , J  M46 = some (r, M') → WW X 159 [some (vr X.1 a0), some (.int a1), some (.int a2), some (.int a3), some (.int a4), some (.int r1), some (.int x3), none] [] M46) h (fun  M46  h => ?_) (fun J159 hJ159 h => ?_)
                  · refine r_aload_n (pc := 159) C dX11_laysRaid_159 rfl rfl ?_
                    refine r_vI0 (pc := 160) C (fun r M' e => zX11_standing X.1 a0 h0 M46 r M' e) h0 (by decide) rfl mX11_standing lX11_265 (by decide) (Nat.le_of_ble_eq_true rfl) dX11_laysRaid_160 h (fun r47 M48 h => ?_)
                    refine r_bipush (pc := 163) (v := (nI 6)) C dX11_laysRaid_163 (by decide) ?_
                    refine r_icmp_ge (pc := 165) (tgt := 171) C dX11_laysRaid_165 (by decide) h (fun _ h => ?_) (fun _ h => ?_)
                    · exact hJ171  M48  h
                    · refine r_bipush (pc := 168) (v := (-6)) C dX11_laysRaid_168 (by decide) ?_
                      exact r_iret (pc := 170) C R0 h dX11_laysRaid_170
                  refine r_icmp_eq (pc := 151) (tgt := 159) C dX11_laysRaid_151 (by decide) h (fun _ h => ?_) (fun _ h => ?_)
                  · exact hJ159  M17  h
                  · refine r_iload_n (pc := 154) C dX11_laysRaid_154 rfl rfl ?_
                    refine r_iconst (pc := 155) (v := (nI 2)) C dX11_laysRaid_155 (by decide) ?_
                    refine r_icmp_ne (pc := 156) (tgt := 171) C dX11_laysRaid_156 (by decide) h (fun _ h => ?_) (fun _ h => ?_)
                    · exact hJ171  M17  h
                    · exact hJ159  M17  h
          refine r_icmp_ne (pc := 66) (tgt := 92) C dX11_laysRaid_66 (by decide) h (fun _ h => ?_) (fun _ h => ?_)
          · refine r_iload_n (pc := 92) C dX11_laysRaid_92 rfl rfl ?_
            refine r_iconst (pc := 93) (v := (nI 3)) C dX11_laysRaid_93 (by decide) ?_
            refine r_icmp_ne (pc := 94) (tgt := 110) C dX11_laysRaid_94 (by decide) h (fun _ h => ?_) (fun _ h => ?_)
            · refine r_iload_n (pc := 110) C dX11_laysRaid_110 rfl rfl ?_
              refine r_if_eq (pc := 111) (tgt := 117) C dX11_laysRaid_111 (by decide) h (fun _ h => ?_) (fun _ h => ?_)
              · exact hJ117  M11  h
              · refine r_bipush (pc := 114) (v := (-2)) C dX11_laysRaid_114 (by decide) ?_
                exact r_iret (pc := 116) C R0 h dX11_laysRaid_116
            · refine r_aload_n (pc := 97) C dX11_laysRaid_97 rfl rfl ?_
              refine r_iload (pc := 98) C dX11_laysRaid_98 rfl ?_
              refine r_iload_n (pc := 100) C dX11_laysRaid_100 rfl rfl ?_
              refine r_vI2 (pc := 101) C (fun r M' e => zX11_isOne X.1 a0 h0 x3 a3 M11 r M' e) h0 (by decide) rfl mX11_isOne lX11_344 (by decide) (Nat.le_of_ble_eq_true rfl) dX11_laysRaid_101 h (fun r49 M50 h => ?_)
              refine r_if_ne (pc := 104) (tgt := 117) C dX11_laysRaid_104 (by decide) h (fun _ h => ?_) (fun _ h => ?_)
              · exact hJ117  M50  h
              · refine r_goto (pc := 107) (tgt := 114) C dX11_laysRaid_107 (by decide) ?_
                refine r_bipush (pc := 114) (v := (-2)) C dX11_laysRaid_114 (by decide) ?_
                exact r_iret (pc := 116) C R0 h dX11_laysRaid_116
          · refine r_iload_n (pc := 69) C dX11_laysRaid_69 rfl rfl ?_
            refine r_i2l (pc := 70) C dX11_laysRaid_70 ?_
            refine r_lconst (pc := 71) (v := lN 1) C dX11_laysRaid_71 rfl ?_
            refine r_iconst (pc := 72) (v := (nI 1)) C dX11_laysRaid_72 (by decide) ?_
            refine r_aload_n (pc := 73) C dX11_laysRaid_73 rfl rfl ?_
            refine r_iload (pc := 74) C dX11_laysRaid_74 rfl ?_
            refine r_vI1 (pc := 76) C (fun r M' e => zX11_many X.1 a0 h0 x3 M11 r M' e) h0 (by decide) rfl mX11_many lX11_59 (by decide) (Nat.le_of_ble_eq_true rfl) dX11_laysRaid_76 h (fun r51 M52 h => ?_)
            refine r_ishl (pc := 79) C dX11_laysRaid_79 ?_
            refine r_iconst (pc := 80) (v := (nI 1)) C dX11_laysRaid_80 (by decide) ?_
            refine r_isub (pc := 81) C dX11_laysRaid_81 ?_
            refine r_i2l (pc := 82) C dX11_laysRaid_82 ?_
            refine r_sI3 (pc := 83) C (fun r M' e => zX11_in X.1 (Int32.toInt64 a3) (lN 1) (Int32.toInt64 (((nI 1) <<< (r51 &&& 31)) - (nI 1))) M52 r M' e) mX11_in lX11_51 (by decide) (Nat.le_of_ble_eq_true rfl) dX11_laysRaid_83 h (fun r53 M54 h => ?_)
            refine r_if_ne (pc := 86) (tgt := 117) C dX11_laysRaid_86 (by decide) h (fun _ h => ?_) (fun _ h => ?_)
            · exact hJ117  M54  h
            · refine r_goto (pc := 89) (tgt := 114) C dX11_laysRaid_89 (by decide) ?_
              refine r_bipush (pc := 114) (v := (-2)) C dX11_laysRaid_114 (by decide) ?_
              exact r_iret (pc := 116) C R0 h dX11_laysRaid_116
        · refine r_bipush (pc := 61) (v := (-2)) C dX11_laysRaid_61 (by decide) ?_
          exact r_iret (pc := 63) C R0 h dX11_laysRaid_63
      refine r_jn (fun J => ∀  (M55 : xMem) , J  M55 = some (r, M') → WW X 50 [some (vr X.1 a0), some (.int a1), some (.int a2), some (.int a3), some (.int a4), some (.int r1), some (.int x3), none] [.long (lN 0), .long (Int32.toInt64 a4)] M55) h (fun  M55  h => ?_) (fun J50 hJ50 h => ?_)
      · refine r_lconst (pc := 50) (v := lN 1) C dX11_laysRaid_50 rfl ?_
        refine r_goto (pc := 51) (tgt := 55) C dX11_laysRaid_51 (by decide) ?_
        exact hJ55 (lN 1) M55  h
      refine r_icmp_eq (pc := 42) (tgt := 50) C dX11_laysRaid_42 (by decide) h (fun _ h => ?_) (fun _ h => ?_)
      · exact hJ50  M7  h
      · refine r_iload_n (pc := 45) C dX11_laysRaid_45 rfl rfl ?_
        refine r_iconst (pc := 46) (v := (nI 3)) C dX11_laysRaid_46 (by decide) ?_
        refine r_icmp_ne (pc := 47) (tgt := 54) C dX11_laysRaid_47 (by decide) h (fun _ h => ?_) (fun _ h => ?_)
        · refine r_lconst (pc := 54) (v := lN 0) C dX11_laysRaid_54 rfl ?_
          exact hJ55 (lN 0) M7  h
        · exact hJ50  M7  h
theorem dX11_raid_0 : decode cX11_raid 0 = .ok (.aload_n 0, 1) := by decide +kernel
theorem dX11_raid_1 : decode cX11_raid 1 = .ok (.invokevirtual 47, 3) := by decide +kernel
theorem dX11_raid_4 : decode cX11_raid 4 = .ok (.ifCond .ne 6, 3) := by decide +kernel
theorem dX11_raid_7 : decode cX11_raid 7 = .ok (.bipush (-2), 2) := by decide +kernel
theorem dX11_raid_9 : decode cX11_raid 9 = .ok (.ireturn, 1) := by decide +kernel
theorem dX11_raid_10 : decode cX11_raid 10 = .ok (.aload_n 0, 1) := by decide +kernel
theorem dX11_raid_11 : decode cX11_raid 11 = .ok (.iload_n 1, 1) := by decide +kernel
theorem dX11_raid_12 : decode cX11_raid 12 = .ok (.iload_n 2, 1) := by decide +kernel
theorem dX11_raid_13 : decode cX11_raid 13 = .ok (.iload_n 3, 1) := by decide +kernel
theorem dX11_raid_14 : decode cX11_raid 14 = .ok (.iload 4, 2) := by decide +kernel
theorem dX11_raid_16 : decode cX11_raid 16 = .ok (.invokevirtual 397, 3) := by decide +kernel
theorem dX11_raid_19 : decode cX11_raid 19 = .ok (.istore 5, 2) := by decide +kernel
theorem dX11_raid_21 : decode cX11_raid 21 = .ok (.iload 5, 2) := by decide +kernel
theorem dX11_raid_23 : decode cX11_raid 23 = .ok (.ifCond .ge 6, 3) := by decide +kernel
theorem dX11_raid_26 : decode cX11_raid 26 = .ok (.iload 5, 2) := by decide +kernel
theorem dX11_raid_28 : decode cX11_raid 28 = .ok (.ireturn, 1) := by decide +kernel
theorem dX11_raid_29 : decode cX11_raid 29 = .ok (.aload_n 0, 1) := by decide +kernel
theorem dX11_raid_30 : decode cX11_raid 30 = .ok (.invokevirtual 335, 3) := by decide +kernel
theorem dX11_raid_33 : decode cX11_raid 33 = .ok (.aload_n 0, 1) := by decide +kernel
theorem dX11_raid_34 : decode cX11_raid 34 = .ok (.invokevirtual 287, 3) := by decide +kernel
theorem dX11_raid_37 : decode cX11_raid 37 = .ok (.aload_n 0, 1) := by decide +kernel
theorem dX11_raid_38 : decode cX11_raid 38 = .ok (.aload_n 0, 1) := by decide +kernel
theorem dX11_raid_39 : decode cX11_raid 39 = .ok (.bipush 25, 2) := by decide +kernel
theorem dX11_raid_41 : decode cX11_raid 41 = .ok (.invokevirtual 43, 3) := by decide +kernel
theorem dX11_raid_44 : decode cX11_raid 44 = .ok (.iconst 1, 1) := by decide +kernel
theorem dX11_raid_45 : decode cX11_raid 45 = .ok (.isub, 1) := by decide +kernel
theorem dX11_raid_46 : decode cX11_raid 46 = .ok (.iconst 3, 1) := by decide +kernel
theorem dX11_raid_47 : decode cX11_raid 47 = .ok (.invokevirtual 347, 3) := by decide +kernel
theorem dX11_raid_50 : decode cX11_raid 50 = .ok (.ireturn, 1) := by decide +kernel
def fX11_raid (a0 : Nat) (a1 : Int32) (a2 : Int32) (a3 : Int32) (a4 : Int32) (M : xMem) : Option (Int32 × xMem) :=
  xBn (fX11_isThere a0 M) fun r1 M2 => if r1 = 0 then (some ((-2), M2)) else (xBn (fX11_laysRaid a0 a1 a2 a3 a4 M2) fun r3 M4 => if 0 ≤ r3 then (xBv (fX11_keeps a0 M4) fun M5 => xBv (fX11_raids a0 M5) fun M6 => xBn (fX11_get a0 (nI 25) M6) fun r7 M8 => xBn (fX11_rec a0 (r7 - (nI 1)) (nI 3) M8) fun r9 M10 => some (r9, M10)) else (some (r3, M4)))
set_option maxRecDepth 100000 in
set_option maxHeartbeats 4000000 in
theorem zX11_raid (G : xGX) (a0 : Nat) (h0 : xkd a0 = 11) (a1 : Int32) (a2 : Int32) (a3 : Int32) (a4 : Int32) (M : xMem) (r : Int32) (M' : xMem) (h : fX11_raid a0 a1 a2 a3 a4 M = some (r, M')) : xCt G yX11_raid cX11_raid 6 (some .int) 6 [vr G a0, .int a1, .int a2, .int a3, .int a4] M (some (.int r), M') := by
  refine xMet (lv := [some (vr G a0), some (.int a1), some (.int a2), some (.int a3), some (.int a4), none]) (by decide) (Nat.le_of_ble_eq_true rfl) rfl ?_
  intro X hG hnL C R0
  subst hG
  have C : xCk X cX11_raid RX11 6 := C
  have hn5 : 5 < X.2.2.2.2.2.2.2.2.2.2.2.2.2 := by rw [hnL]; decide
  unfold fX11_raid at h
  refine r_aload_n (pc := 0) C dX11_raid_0 rfl rfl ?_
  refine r_vI0 (pc := 1) C (fun r M' e => zX11_isThere X.1 a0 h0 M r M' e) h0 (by decide) rfl mX11_isThere lX11_47 (by decide) (Nat.le_of_ble_eq_true rfl) dX11_raid_1 h (fun r1 M2 h => ?_)
  refine r_if_ne (pc := 4) (tgt := 10) C dX11_raid_4 (by decide) h (fun _ h => ?_) (fun _ h => ?_)
  · refine r_aload_n (pc := 10) C dX11_raid_10 rfl rfl ?_
    refine r_iload_n (pc := 11) C dX11_raid_11 rfl rfl ?_
    refine r_iload_n (pc := 12) C dX11_raid_12 rfl rfl ?_
    refine r_iload_n (pc := 13) C dX11_raid_13 rfl rfl ?_
    refine r_iload (pc := 14) C dX11_raid_14 rfl ?_
    refine r_vI4 (pc := 16) C (fun r M' e => zX11_laysRaid X.1 a0 h0 a1 a2 a3 a4 M2 r M' e) h0 (by decide) rfl mX11_laysRaid lX11_397 (by decide) (Nat.le_of_ble_eq_true rfl) dX11_raid_16 h (fun r3 M4 h => ?_)
    refine r_istore (pc := 19) (lv' := [_, _, _, _, _, _]) C dX11_raid_19 hn5 rfl ?_
    refine r_iload (pc := 21) C dX11_raid_21 rfl ?_
    refine r_if_ge (pc := 23) (tgt := 29) C dX11_raid_23 (by decide) h (fun _ h => ?_) (fun _ h => ?_)
    · refine r_aload_n (pc := 29) C dX11_raid_29 rfl rfl ?_
      refine r_vV0 (pc := 30) C (fun M' e => zX11_keeps X.1 a0 h0 M4 M' e) h0 (by decide) rfl mX11_keeps lX11_335 (by decide) (Nat.le_of_ble_eq_true rfl) dX11_raid_30 h (fun M5 h => ?_)
      refine r_aload_n (pc := 33) C dX11_raid_33 rfl rfl ?_
      refine r_vV0 (pc := 34) C (fun M' e => zX11_raids X.1 a0 h0 M5 M' e) h0 (by decide) rfl mX11_raids lX11_287 (by decide) (Nat.le_of_ble_eq_true rfl) dX11_raid_34 h (fun M6 h => ?_)
      refine r_aload_n (pc := 37) C dX11_raid_37 rfl rfl ?_
      refine r_aload_n (pc := 38) C dX11_raid_38 rfl rfl ?_
      refine r_bipush (pc := 39) (v := (nI 25)) C dX11_raid_39 (by decide) ?_
      refine r_vI1 (pc := 41) C (fun r M' e => zX11_get X.1 a0 h0 (nI 25) M6 r M' e) h0 (by decide) rfl mX11_get lX11_43 (by decide) (Nat.le_of_ble_eq_true rfl) dX11_raid_41 h (fun r7 M8 h => ?_)
      refine r_iconst (pc := 44) (v := (nI 1)) C dX11_raid_44 (by decide) ?_
      refine r_isub (pc := 45) C dX11_raid_45 ?_
      refine r_iconst (pc := 46) (v := (nI 3)) C dX11_raid_46 (by decide) ?_
      refine r_vI2 (pc := 47) C (fun r M' e => zX11_rec X.1 a0 h0 (r7 - (nI 1)) (nI 3) M8 r M' e) h0 (by decide) rfl mX11_rec lX11_347 (by decide) (Nat.le_of_ble_eq_true rfl) dX11_raid_47 h (fun r9 M10 h => ?_)
      exact r_iret (pc := 50) C R0 h dX11_raid_50
    · refine r_iload (pc := 26) C dX11_raid_26 rfl ?_
      exact r_iret (pc := 28) C R0 h dX11_raid_28
  · refine r_bipush (pc := 7) (v := (-2)) C dX11_raid_7 (by decide) ?_
    exact r_iret (pc := 9) C R0 h dX11_raid_9
theorem dX11_copies_0 : decode cX11_copies 0 = .ok (.iconst 0, 1) := by decide +kernel
theorem dX11_copies_1 : decode cX11_copies 1 = .ok (.istore_n 1, 1) := by decide +kernel
theorem dX11_copies_2 : decode cX11_copies 2 = .ok (.iload_n 1, 1) := by decide +kernel
theorem dX11_copies_3 : decode cX11_copies 3 = .ok (.sipush 3235, 3) := by decide +kernel
theorem dX11_copies_6 : decode cX11_copies 6 = .ok (.if_icmp .ge 21, 3) := by decide +kernel
theorem dX11_copies_9 : decode cX11_copies 9 = .ok (.aload_n 0, 1) := by decide +kernel
theorem dX11_copies_10 : decode cX11_copies 10 = .ok (.getfield 13, 3) := by decide +kernel
theorem dX11_copies_13 : decode cX11_copies 13 = .ok (.iload_n 1, 1) := by decide +kernel
theorem dX11_copies_14 : decode cX11_copies 14 = .ok (.aload_n 0, 1) := by decide +kernel
theorem dX11_copies_15 : decode cX11_copies 15 = .ok (.getfield 9, 3) := by decide +kernel
theorem dX11_copies_18 : decode cX11_copies 18 = .ok (.iload_n 1, 1) := by decide +kernel
theorem dX11_copies_19 : decode cX11_copies 19 = .ok (.laload, 1) := by decide +kernel
theorem dX11_copies_20 : decode cX11_copies 20 = .ok (.lastore, 1) := by decide +kernel
theorem dX11_copies_21 : decode cX11_copies 21 = .ok (.iinc 1 1, 3) := by decide +kernel
theorem dX11_copies_24 : decode cX11_copies 24 = .ok (.goto (-22), 3) := by decide +kernel
theorem dX11_copies_27 : decode cX11_copies 27 = .ok (.aload_n 0, 1) := by decide +kernel
theorem dX11_copies_28 : decode cX11_copies 28 = .ok (.aload_n 0, 1) := by decide +kernel
theorem dX11_copies_29 : decode cX11_copies 29 = .ok (.getfield 13, 3) := by decide +kernel
theorem dX11_copies_32 : decode cX11_copies 32 = .ok (.putfield 16, 3) := by decide +kernel
theorem dX11_copies_35 : decode cX11_copies 35 = .ok (.return_, 1) := by decide +kernel
def fX11_copies_l2 (p0 : Nat) (K : Int32 → xMem → Option (xMem)) : Nat → Int32 → xMem → Option (xMem)
  | 0, _, _ => none
  | n + 1, v1, M => if (nI 3235) ≤ v1 then (K v1 M) else (xGb v1 (xln (xrf p0 1)) (xGb v1 (xln (xrf p0 2)) (xLt (xwL M (xrf p0 2) (Int32.toNatClampNeg v1) (M.2.1 (xrf p0 1) (Int32.toNatClampNeg v1))) fun M3 => xLt (v1 + nI 1) fun x4 => fX11_copies_l2 p0 K n x4 M3)))
def fX11_copies (a0 : Nat) (M : xMem) : Option (xMem) :=
  fX11_copies_l2 a0 (fun (v5 : Int32) (M6 : xMem) => xLt (xwW M6 true) fun M7 => some M7) xFU (nI 0) M
set_option maxRecDepth 100000 in
set_option maxHeartbeats 4000000 in
theorem lX11_copies_2 {X : xCX} {M' : xMem} (C : xCk X cX11_copies RX11 1) (R0 : xRk X none (none, M')) (hnL : X.2.2.2.2.2.2.2.2.2.2.2.2.2 = 2) (p0 : Nat) (hp0 : xkd p0 = 11) (K : Int32 → xMem → Option (xMem)) (hK : ∀ (v1 : Int32) (M : xMem), K v1 M = some M' → WW X 27 [some (vr X.1 p0), some (.int v1)] [] M) : ∀ (n : Nat) (v1 : Int32) (M : xMem), fX11_copies_l2 p0 K n v1 M = some M' → WW X 2 [some (vr X.1 p0), some (.int v1)] [] M := by
  have hn1 : 1 < X.2.2.2.2.2.2.2.2.2.2.2.2.2 := by rw [hnL]; decide
  intro n
  induction n with
  | zero =>
    intro v1 M h
    cases (show (none : Option (xMem)) = some M' from h)
  | succ n ih =>
    intro v1 M h
    rw [fX11_copies_l2.eq_2] at h
    refine r_iload_n (pc := 2) C dX11_copies_2 rfl rfl ?_
    refine r_sipush (pc := 3) (v := (nI 3235)) C dX11_copies_3 (by decide) ?_
    refine r_icmp_ge (pc := 6) (tgt := 27) C dX11_copies_6 (by decide) h (fun _ h => ?_) (fun _ h => ?_)
    · exact hK v1 M h
    · refine r_aload_n (pc := 9) C dX11_copies_9 rfl rfl ?_
      refine r_getR (pc := 10) C kX11_13 hp0 (by decide) dX11_copies_10 ?_
      refine r_iload_n (pc := 13) C dX11_copies_13 rfl rfl ?_
      refine r_aload_n (pc := 14) C dX11_copies_14 rfl rfl ?_
      refine r_getR (pc := 15) C kX11_9 hp0 (by decide) dX11_copies_15 ?_
      refine r_iload_n (pc := 18) C dX11_copies_18 rfl rfl ?_
      obtain ⟨g1, h⟩ := xGb_of h
      refine r_lald (pc := 19) C (xtk hp0 (by decide) rfl rfl) g1 dX11_copies_19 ?_
      obtain ⟨g2, h⟩ := xGb_of h
      refine r_last (pc := 20) C (xtk hp0 (by decide) rfl rfl) g2 dX11_copies_20 ?_
      refine r_letM h (fun M3 h => ?_)
      refine r_iincL (pc := 21) (c := nI 1) C dX11_copies_21 rfl (by decide) hn1 h (fun x4 h => ?_)
      refine r_lvE (lv' := [_, _]) rfl ?_
      refine r_goto (pc := 24) (tgt := 2) C dX11_copies_24 (by decide) ?_
      exact ih x4 M3 h
set_option maxRecDepth 100000 in
set_option maxHeartbeats 4000000 in
theorem zX11_copies (G : xGX) (a0 : Nat) (h0 : xkd a0 = 11) (M : xMem) (M' : xMem) (h : fX11_copies a0 M = some M') : xCt G yX11_copies cX11_copies 2 none 1 [vr G a0] M (none, M') := by
  refine xMet (lv := [some (vr G a0), none]) (by decide) (Nat.le_of_ble_eq_true rfl) rfl ?_
  intro X hG hnL C R0
  subst hG
  have C : xCk X cX11_copies RX11 1 := C
  have hn1 : 1 < X.2.2.2.2.2.2.2.2.2.2.2.2.2 := by rw [hnL]; decide
  unfold fX11_copies at h
  refine r_iconst (pc := 0) (v := (nI 0)) C dX11_copies_0 (by decide) ?_
  refine r_istore_n (pc := 1) (lv' := [_, _]) C dX11_copies_1 rfl hn1 rfl ?_
  refine lX11_copies_2 C R0 hnL a0 h0 _ (fun v5 M6 h => ?_) _ _ _ h
  refine r_aload_n (pc := 27) C dX11_copies_27 rfl rfl ?_
  refine r_aload_n (pc := 28) C dX11_copies_28 rfl rfl ?_
  refine r_getR (pc := 29) C kX11_13 h0 (by decide) dX11_copies_29 ?_
  refine r_putW_aside (pc := 32) C kX11_16 h0 (fun _ => rfl) (fun _ => rfl) dX11_copies_32 ?_
  refine r_letM h (fun M7 h => ?_)
  exact r_vret (pc := 35) C R0 h dX11_copies_35
theorem dX11_would_0 : decode cX11_would 0 = .ok (.aload_n 0, 1) := by decide +kernel
theorem dX11_would_1 : decode cX11_would 1 = .ok (.invokevirtual 47, 3) := by decide +kernel
theorem dX11_would_4 : decode cX11_would 4 = .ok (.ifCond .eq 16, 3) := by decide +kernel
theorem dX11_would_7 : decode cX11_would 7 = .ok (.iload 5, 2) := by decide +kernel
theorem dX11_would_9 : decode cX11_would 9 = .ok (.i2l, 1) := by decide +kernel
theorem dX11_would_10 : decode cX11_would 10 = .ok (.lconst 0, 1) := by decide +kernel
theorem dX11_would_11 : decode cX11_would 11 = .ok (.ldc2_w 125, 3) := by decide +kernel
theorem dX11_would_14 : decode cX11_would 14 = .ok (.invokestatic 51, 3) := by decide +kernel
theorem dX11_would_17 : decode cX11_would 17 = .ok (.ifCond .ne 6, 3) := by decide +kernel
theorem dX11_would_20 : decode cX11_would 20 = .ok (.bipush (-2), 2) := by decide +kernel
theorem dX11_would_22 : decode cX11_would 22 = .ok (.ireturn, 1) := by decide +kernel
theorem dX11_would_23 : decode cX11_would 23 = .ok (.aload_n 0, 1) := by decide +kernel
theorem dX11_would_24 : decode cX11_would 24 = .ok (.iload_n 1, 1) := by decide +kernel
theorem dX11_would_25 : decode cX11_would 25 = .ok (.iload_n 2, 1) := by decide +kernel
theorem dX11_would_26 : decode cX11_would 26 = .ok (.iload_n 3, 1) := by decide +kernel
theorem dX11_would_27 : decode cX11_would 27 = .ok (.iload 4, 2) := by decide +kernel
theorem dX11_would_29 : decode cX11_would 29 = .ok (.invokevirtual 397, 3) := by decide +kernel
theorem dX11_would_32 : decode cX11_would 32 = .ok (.istore 6, 2) := by decide +kernel
theorem dX11_would_34 : decode cX11_would 34 = .ok (.iload 6, 2) := by decide +kernel
theorem dX11_would_36 : decode cX11_would 36 = .ok (.ifCond .ge 6, 3) := by decide +kernel
theorem dX11_would_39 : decode cX11_would 39 = .ok (.iload 6, 2) := by decide +kernel
theorem dX11_would_41 : decode cX11_would 41 = .ok (.ireturn, 1) := by decide +kernel
theorem dX11_would_42 : decode cX11_would 42 = .ok (.aload_n 0, 1) := by decide +kernel
theorem dX11_would_43 : decode cX11_would 43 = .ok (.bipush 28, 2) := by decide +kernel
theorem dX11_would_45 : decode cX11_would 45 = .ok (.invokevirtual 43, 3) := by decide +kernel
theorem dX11_would_48 : decode cX11_would 48 = .ok (.istore 7, 2) := by decide +kernel
theorem dX11_would_50 : decode cX11_would 50 = .ok (.aload_n 0, 1) := by decide +kernel
theorem dX11_would_51 : decode cX11_would 51 = .ok (.invokevirtual 400, 3) := by decide +kernel
theorem dX11_would_54 : decode cX11_would 54 = .ok (.aload_n 0, 1) := by decide +kernel
theorem dX11_would_55 : decode cX11_would 55 = .ok (.invokevirtual 287, 3) := by decide +kernel
theorem dX11_would_58 : decode cX11_would 58 = .ok (.aload_n 0, 1) := by decide +kernel
theorem dX11_would_59 : decode cX11_would 59 = .ok (.bipush 25, 2) := by decide +kernel
theorem dX11_would_61 : decode cX11_would 61 = .ok (.invokevirtual 43, 3) := by decide +kernel
theorem dX11_would_64 : decode cX11_would 64 = .ok (.iconst 1, 1) := by decide +kernel
theorem dX11_would_65 : decode cX11_would 65 = .ok (.isub, 1) := by decide +kernel
theorem dX11_would_66 : decode cX11_would 66 = .ok (.istore 8, 2) := by decide +kernel
theorem dX11_would_68 : decode cX11_would 68 = .ok (.iload 5, 2) := by decide +kernel
theorem dX11_would_70 : decode cX11_would 70 = .ok (.iconst 2, 1) := by decide +kernel
theorem dX11_would_71 : decode cX11_would 71 = .ok (.if_icmp .ge 16, 3) := by decide +kernel
theorem dX11_would_74 : decode cX11_would 74 = .ok (.aload_n 0, 1) := by decide +kernel
theorem dX11_would_75 : decode cX11_would 75 = .ok (.iload 8, 2) := by decide +kernel
theorem dX11_would_77 : decode cX11_would 77 = .ok (.iconst 3, 1) := by decide +kernel
theorem dX11_would_78 : decode cX11_would 78 = .ok (.iload 5, 2) := by decide +kernel
theorem dX11_would_80 : decode cX11_would 80 = .ok (.iadd, 1) := by decide +kernel
theorem dX11_would_81 : decode cX11_would 81 = .ok (.invokevirtual 347, 3) := by decide +kernel
theorem dX11_would_84 : decode cX11_would 84 = .ok (.goto 26, 3) := by decide +kernel
theorem dX11_would_87 : decode cX11_would 87 = .ok (.aload_n 0, 1) := by decide +kernel
theorem dX11_would_88 : decode cX11_would 88 = .ok (.iload 5, 2) := by decide +kernel
theorem dX11_would_90 : decode cX11_would 90 = .ok (.iconst 2, 1) := by decide +kernel
theorem dX11_would_91 : decode cX11_would 91 = .ok (.if_icmp .ne 8, 3) := by decide +kernel
theorem dX11_would_94 : decode cX11_would 94 = .ok (.iload 7, 2) := by decide +kernel
theorem dX11_would_96 : decode cX11_would 96 = .ok (.goto 7, 3) := by decide +kernel
theorem dX11_would_99 : decode cX11_would 99 = .ok (.iconst 1, 1) := by decide +kernel
theorem dX11_would_100 : decode cX11_would 100 = .ok (.iload 7, 2) := by decide +kernel
theorem dX11_would_102 : decode cX11_would 102 = .ok (.isub, 1) := by decide +kernel
theorem dX11_would_103 : decode cX11_would 103 = .ok (.iconst 0, 1) := by decide +kernel
theorem dX11_would_104 : decode cX11_would 104 = .ok (.invokevirtual 72, 3) := by decide +kernel
theorem dX11_would_107 : decode cX11_would 107 = .ok (.invokestatic 87, 3) := by decide +kernel
theorem dX11_would_110 : decode cX11_would 110 = .ok (.istore 9, 2) := by decide +kernel
theorem dX11_would_112 : decode cX11_would 112 = .ok (.aload_n 0, 1) := by decide +kernel
theorem dX11_would_113 : decode cX11_would 113 = .ok (.aload_n 0, 1) := by decide +kernel
theorem dX11_would_114 : decode cX11_would 114 = .ok (.getfield 9, 3) := by decide +kernel
theorem dX11_would_117 : decode cX11_would 117 = .ok (.putfield 16, 3) := by decide +kernel
theorem dX11_would_120 : decode cX11_would 120 = .ok (.iload 9, 2) := by decide +kernel
theorem dX11_would_122 : decode cX11_would 122 = .ok (.ireturn, 1) := by decide +kernel
def fX11_would (a0 : Nat) (a1 : Int32) (a2 : Int32) (a3 : Int32) (a4 : Int32) (a5 : Int32) (M : xMem) : Option (Int32 × xMem) :=
  xBn (fX11_isThere a0 M) fun r1 M2 => if r1 = 0 then (some ((-2), M2)) else (xBn (fX11_in (Int32.toInt64 a5) (lN 0) (lN 3) M2) fun r3 M4 => if r3 = 0 then (some ((-2), M4)) else (xBn (fX11_laysRaid a0 a1 a2 a3 a4 M4) fun r5 M6 => if 0 ≤ r5 then (xBn (fX11_get a0 (nI 28) M6) fun r7 M8 => xBv (fX11_copies a0 M8) fun M9 => xBv (fX11_raids a0 M9) fun M10 => xBn (fX11_get a0 (nI 25) M10) fun r11 M12 => xLt (r11 - (nI 1)) fun x13 => xLt (fun (s14 : Int32) (M15 : xMem) => (xLt (xwW M15 false) fun M16 => some (s14, M16) : Option (Int32 × xMem))) fun J110 => if (nI 2) ≤ a5 then (xLt (fun (s17 : Int32) (M18 : xMem) => (xBn (fX11_thoseOf a0 s17 (nI 0) M18) fun r19 M20 => xBn (fX11_bits r19 M20) fun r21 M22 => J110 r21 M22 : Option (Int32 × xMem))) fun J103 => if a5 = (nI 2) then (J103 r7 M12) else (J103 ((nI 1) - r7) M12)) else (xBn (fX11_rec a0 x13 ((nI 3) + a5) M12) fun r23 M24 => J110 r23 M24)) else (some (r5, M6))))
set_option maxRecDepth 100000 in
set_option maxHeartbeats 4000000 in
theorem zX11_would (G : xGX) (a0 : Nat) (h0 : xkd a0 = 11) (a1 : Int32) (a2 : Int32) (a3 : Int32) (a4 : Int32) (a5 : Int32) (M : xMem) (r : Int32) (M' : xMem) (h : fX11_would a0 a1 a2 a3 a4 a5 M = some (r, M')) : xCt G yX11_would cX11_would 10 (some .int) 6 [vr G a0, .int a1, .int a2, .int a3, .int a4, .int a5] M (some (.int r), M') := by
  refine xMet (lv := [some (vr G a0), some (.int a1), some (.int a2), some (.int a3), some (.int a4), some (.int a5), none, none, none, none]) (by decide) (Nat.le_of_ble_eq_true rfl) rfl ?_
  intro X hG hnL C R0
  subst hG
  have C : xCk X cX11_would RX11 6 := C
  have hn6 : 6 < X.2.2.2.2.2.2.2.2.2.2.2.2.2 := by rw [hnL]; decide
  have hn7 : 7 < X.2.2.2.2.2.2.2.2.2.2.2.2.2 := by rw [hnL]; decide
  have hn8 : 8 < X.2.2.2.2.2.2.2.2.2.2.2.2.2 := by rw [hnL]; decide
  have hn9 : 9 < X.2.2.2.2.2.2.2.2.2.2.2.2.2 := by rw [hnL]; decide
  unfold fX11_would at h
  refine r_aload_n (pc := 0) C dX11_would_0 rfl rfl ?_
  refine r_vI0 (pc := 1) C (fun r M' e => zX11_isThere X.1 a0 h0 M r M' e) h0 (by decide) rfl mX11_isThere lX11_47 (by decide) (Nat.le_of_ble_eq_true rfl) dX11_would_1 h (fun r1 M2 h => ?_)
  refine r_if_eq (pc := 4) (tgt := 20) C dX11_would_4 (by decide) h (fun _ h => ?_) (fun _ h => ?_)
  · refine r_bipush (pc := 20) (v := (-2)) C dX11_would_20 (by decide) ?_
    exact r_iret (pc := 22) C R0 h dX11_would_22
  · refine r_iload (pc := 7) C dX11_would_7 rfl ?_
    refine r_i2l (pc := 9) C dX11_would_9 ?_
    refine r_lconst (pc := 10) (v := lN 0) C dX11_would_10 rfl ?_
    refine r_ldc2 (pc := 11) C nX11_125 dX11_would_11 ?_
    refine r_sI3 (pc := 14) C (fun r M' e => zX11_in X.1 (Int32.toInt64 a5) (lN 0) (lN 3) M2 r M' e) mX11_in lX11_51 (by decide) (Nat.le_of_ble_eq_true rfl) dX11_would_14 h (fun r3 M4 h => ?_)
    refine r_if_ne (pc := 17) (tgt := 23) C dX11_would_17 (by decide) h (fun _ h => ?_) (fun _ h => ?_)
    · refine r_aload_n (pc := 23) C dX11_would_23 rfl rfl ?_
      refine r_iload_n (pc := 24) C dX11_would_24 rfl rfl ?_
      refine r_iload_n (pc := 25) C dX11_would_25 rfl rfl ?_
      refine r_iload_n (pc := 26) C dX11_would_26 rfl rfl ?_
      refine r_iload (pc := 27) C dX11_would_27 rfl ?_
      refine r_vI4 (pc := 29) C (fun r M' e => zX11_laysRaid X.1 a0 h0 a1 a2 a3 a4 M4 r M' e) h0 (by decide) rfl mX11_laysRaid lX11_397 (by decide) (Nat.le_of_ble_eq_true rfl) dX11_would_29 h (fun r5 M6 h => ?_)
      refine r_istore (pc := 32) (lv' := [_, _, _, _, _, _, _, _, _, _]) C dX11_would_32 hn6 rfl ?_
      refine r_iload (pc := 34) C dX11_would_34 rfl ?_
      refine r_if_ge (pc := 36) (tgt := 42) C dX11_would_36 (by decide) h (fun _ h => ?_) (fun _ h => ?_)
      · refine r_aload_n (pc := 42) C dX11_would_42 rfl rfl ?_
        refine r_bipush (pc := 43) (v := (nI 28)) C dX11_would_43 (by decide) ?_
        refine r_vI1 (pc := 45) C (fun r M' e => zX11_get X.1 a0 h0 (nI 28) M6 r M' e) h0 (by decide) rfl mX11_get lX11_43 (by decide) (Nat.le_of_ble_eq_true rfl) dX11_would_45 h (fun r7 M8 h => ?_)
        refine r_istore (pc := 48) (lv' := [_, _, _, _, _, _, _, _, _, _]) C dX11_would_48 hn7 rfl ?_
        refine r_aload_n (pc := 50) C dX11_would_50 rfl rfl ?_
        refine r_vV0 (pc := 51) C (fun M' e => zX11_copies X.1 a0 h0 M8 M' e) h0 (by decide) rfl mX11_copies lX11_400 (by decide) (Nat.le_of_ble_eq_true rfl) dX11_would_51 h (fun M9 h => ?_)
        refine r_aload_n (pc := 54) C dX11_would_54 rfl rfl ?_
        refine r_vV0 (pc := 55) C (fun M' e => zX11_raids X.1 a0 h0 M9 M' e) h0 (by decide) rfl mX11_raids lX11_287 (by decide) (Nat.le_of_ble_eq_true rfl) dX11_would_55 h (fun M10 h => ?_)
        refine r_aload_n (pc := 58) C dX11_would_58 rfl rfl ?_
        refine r_bipush (pc := 59) (v := (nI 25)) C dX11_would_59 (by decide) ?_
        refine r_vI1 (pc := 61) C (fun r M' e => zX11_get X.1 a0 h0 (nI 25) M10 r M' e) h0 (by decide) rfl mX11_get lX11_43 (by decide) (Nat.le_of_ble_eq_true rfl) dX11_would_61 h (fun r11 M12 h => ?_)
        refine r_iconst (pc := 64) (v := (nI 1)) C dX11_would_64 (by decide) ?_
        refine r_isub (pc := 65) C dX11_would_65 ?_
        refine r_letI h (fun x13 h => ?_)
        refine r_istore (pc := 66) (lv' := [_, _, _, _, _, _, _, _, _, _]) C dX11_would_66 hn8 rfl ?_
        refine r_iload (pc := 68) C dX11_would_68 rfl ?_
        refine r_iconst (pc := 70) (v := (nI 2)) C dX11_would_70 (by decide) ?_
        refine r_jn (fun J => ∀ (s14 : Int32) (M15 : xMem) , J s14 M15 = some (r, M') → WW X 110 [some (vr X.1 a0), some (.int a1), some (.int a2), some (.int a3), some (.int a4), some (.int a5), some (.int r5), some (.int r7), some (.int x13), none] [.int s14] M15) h (fun s14 M15  h => ?_) (fun J110 hJ110 h => ?_)
        · refine r_istore (pc := 110) (lv' := [_, _, _, _, _, _, _, _, _, _]) C dX11_would_110 hn9 rfl ?_
          refine r_aload_n (pc := 112) C dX11_would_112 rfl rfl ?_
          refine r_aload_n (pc := 113) C dX11_would_113 rfl rfl ?_
          refine r_getR (pc := 114) C kX11_9 h0 (by decide) dX11_would_114 ?_
          refine r_putW_told (pc := 117) C kX11_16 h0 (fun _ => rfl) (fun _ => rfl) dX11_would_117 ?_
          refine r_letM h (fun M16 h => ?_)
          refine r_iload (pc := 120) C dX11_would_120 rfl ?_
          exact r_iret (pc := 122) C R0 h dX11_would_122
        refine r_icmp_ge (pc := 71) (tgt := 87) C dX11_would_71 (by decide) h (fun _ h => ?_) (fun _ h => ?_)
        · refine r_aload_n (pc := 87) C dX11_would_87 rfl rfl ?_
          refine r_iload (pc := 88) C dX11_would_88 rfl ?_
          refine r_iconst (pc := 90) (v := (nI 2)) C dX11_would_90 (by decide) ?_
          refine r_jn (fun J => ∀ (s17 : Int32) (M18 : xMem) , J s17 M18 = some (r, M') → WW X 103 [some (vr X.1 a0), some (.int a1), some (.int a2), some (.int a3), some (.int a4), some (.int a5), some (.int r5), some (.int r7), some (.int x13), none] [.int s17, vr X.1 a0] M18) h (fun s17 M18  h => ?_) (fun J103 hJ103 h => ?_)
          · refine r_iconst (pc := 103) (v := (nI 0)) C dX11_would_103 (by decide) ?_
            refine r_vI2 (pc := 104) C (fun r M' e => zX11_thoseOf X.1 a0 h0 s17 (nI 0) M18 r M' e) h0 (by decide) rfl mX11_thoseOf lX11_72 (by decide) (Nat.le_of_ble_eq_true rfl) dX11_would_104 h (fun r19 M20 h => ?_)
            refine r_sI1 (pc := 107) C (fun r M' e => zX11_bits X.1 r19 M20 r M' e) mX11_bits lX11_87 (by decide) (Nat.le_of_ble_eq_true rfl) dX11_would_107 h (fun r21 M22 h => ?_)
            exact hJ110 r21 M22  h
          refine r_icmp_ne (pc := 91) (tgt := 99) C dX11_would_91 (by decide) h (fun _ h => ?_) (fun _ h => ?_)
          · refine r_iconst (pc := 99) (v := (nI 1)) C dX11_would_99 (by decide) ?_
            refine r_iload (pc := 100) C dX11_would_100 rfl ?_
            refine r_isub (pc := 102) C dX11_would_102 ?_
            exact hJ103 ((nI 1) - r7) M12  h
          · refine r_iload (pc := 94) C dX11_would_94 rfl ?_
            refine r_goto (pc := 96) (tgt := 103) C dX11_would_96 (by decide) ?_
            exact hJ103 r7 M12  h
        · refine r_aload_n (pc := 74) C dX11_would_74 rfl rfl ?_
          refine r_iload (pc := 75) C dX11_would_75 rfl ?_
          refine r_iconst (pc := 77) (v := (nI 3)) C dX11_would_77 (by decide) ?_
          refine r_iload (pc := 78) C dX11_would_78 rfl ?_
          refine r_iadd (pc := 80) C dX11_would_80 ?_
          refine r_vI2 (pc := 81) C (fun r M' e => zX11_rec X.1 a0 h0 x13 ((nI 3) + a5) M12 r M' e) h0 (by decide) rfl mX11_rec lX11_347 (by decide) (Nat.le_of_ble_eq_true rfl) dX11_would_81 h (fun r23 M24 h => ?_)
          refine r_goto (pc := 84) (tgt := 110) C dX11_would_84 (by decide) ?_
          exact hJ110 r23 M24  h
      · refine r_iload (pc := 39) C dX11_would_39 rfl ?_
        exact r_iret (pc := 41) C R0 h dX11_would_41
    · refine r_bipush (pc := 20) (v := (-2)) C dX11_would_20 (by decide) ?_
      exact r_iret (pc := 22) C R0 h dX11_would_22
theorem dX11_firstOn_0 : decode cX11_firstOn 0 = .ok (.iconst 0, 1) := by decide +kernel
theorem dX11_firstOn_1 : decode cX11_firstOn 1 = .ok (.istore_n 2, 1) := by decide +kernel
theorem dX11_firstOn_2 : decode cX11_firstOn 2 = .ok (.iload_n 2, 1) := by decide +kernel
theorem dX11_firstOn_3 : decode cX11_firstOn 3 = .ok (.aload_n 0, 1) := by decide +kernel
theorem dX11_firstOn_4 : decode cX11_firstOn 4 = .ok (.iload_n 1, 1) := by decide +kernel
theorem dX11_firstOn_5 : decode cX11_firstOn 5 = .ok (.invokevirtual 59, 3) := by decide +kernel
theorem dX11_firstOn_8 : decode cX11_firstOn 8 = .ok (.if_icmp .ge 20, 3) := by decide +kernel
theorem dX11_firstOn_11 : decode cX11_firstOn 11 = .ok (.aload_n 0, 1) := by decide +kernel
theorem dX11_firstOn_12 : decode cX11_firstOn 12 = .ok (.iload_n 1, 1) := by decide +kernel
theorem dX11_firstOn_13 : decode cX11_firstOn 13 = .ok (.iload_n 2, 1) := by decide +kernel
theorem dX11_firstOn_14 : decode cX11_firstOn 14 = .ok (.invokevirtual 62, 3) := by decide +kernel
theorem dX11_firstOn_17 : decode cX11_firstOn 17 = .ok (.ifCond .ne 5, 3) := by decide +kernel
theorem dX11_firstOn_20 : decode cX11_firstOn 20 = .ok (.iload_n 2, 1) := by decide +kernel
theorem dX11_firstOn_21 : decode cX11_firstOn 21 = .ok (.ireturn, 1) := by decide +kernel
theorem dX11_firstOn_22 : decode cX11_firstOn 22 = .ok (.iinc 2 1, 3) := by decide +kernel
theorem dX11_firstOn_25 : decode cX11_firstOn 25 = .ok (.goto (-23), 3) := by decide +kernel
theorem dX11_firstOn_28 : decode cX11_firstOn 28 = .ok (.iconst (-1), 1) := by decide +kernel
theorem dX11_firstOn_29 : decode cX11_firstOn 29 = .ok (.ireturn, 1) := by decide +kernel
def fX11_firstOn_l2 (p0 : Nat) (p1 : Int32) (K : Int32 → xMem → Option (Int32 × xMem)) : Nat → Int32 → xMem → Option (Int32 × xMem)
  | 0, _, _ => none
  | n + 1, v2, M => xBn (fX11_many p0 p1 M) fun r1 M2 => if r1 ≤ v2 then (K v2 M2) else (xBn (fX11_isOf p0 p1 v2 M2) fun r3 M4 => if r3 = 0 then (some (v2, M4)) else (xLt (v2 + nI 1) fun x5 => fX11_firstOn_l2 p0 p1 K n x5 M4))
def fX11_firstOn (a0 : Nat) (a1 : Int32) (M : xMem) : Option (Int32 × xMem) :=
  fX11_firstOn_l2 a0 a1 (fun (v6 : Int32) (M7 : xMem) => some ((-1), M7)) xFU (nI 0) M
set_option maxRecDepth 100000 in
set_option maxHeartbeats 4000000 in
theorem lX11_firstOn_2 {X : xCX} {r : Int32} {M' : xMem} (C : xCk X cX11_firstOn RX11 3) (R0 : xRk X (some .int) (some (.int r), M')) (hnL : X.2.2.2.2.2.2.2.2.2.2.2.2.2 = 3) (p0 : Nat) (hp0 : xkd p0 = 11) (p1 : Int32) (K : Int32 → xMem → Option (Int32 × xMem)) (hK : ∀ (v2 : Int32) (M : xMem), K v2 M = some (r, M') → WW X 28 [some (vr X.1 p0), some (.int p1), some (.int v2)] [] M) : ∀ (n : Nat) (v2 : Int32) (M : xMem), fX11_firstOn_l2 p0 p1 K n v2 M = some (r, M') → WW X 2 [some (vr X.1 p0), some (.int p1), some (.int v2)] [] M := by
  have hn2 : 2 < X.2.2.2.2.2.2.2.2.2.2.2.2.2 := by rw [hnL]; decide
  intro n
  induction n with
  | zero =>
    intro v2 M h
    cases (show (none : Option (Int32 × xMem)) = some (r, M') from h)
  | succ n ih =>
    intro v2 M h
    rw [fX11_firstOn_l2.eq_2] at h
    refine r_iload_n (pc := 2) C dX11_firstOn_2 rfl rfl ?_
    refine r_aload_n (pc := 3) C dX11_firstOn_3 rfl rfl ?_
    refine r_iload_n (pc := 4) C dX11_firstOn_4 rfl rfl ?_
    refine r_vI1 (pc := 5) C (fun r M' e => zX11_many X.1 p0 hp0 p1 M r M' e) hp0 (by decide) rfl mX11_many lX11_59 (by decide) (Nat.le_of_ble_eq_true rfl) dX11_firstOn_5 h (fun r1 M2 h => ?_)
    refine r_icmp_ge (pc := 8) (tgt := 28) C dX11_firstOn_8 (by decide) h (fun _ h => ?_) (fun _ h => ?_)
    · exact hK v2 M2 h
    · refine r_aload_n (pc := 11) C dX11_firstOn_11 rfl rfl ?_
      refine r_iload_n (pc := 12) C dX11_firstOn_12 rfl rfl ?_
      refine r_iload_n (pc := 13) C dX11_firstOn_13 rfl rfl ?_
      refine r_vI2 (pc := 14) C (fun r M' e => zX11_isOf X.1 p0 hp0 p1 v2 M2 r M' e) hp0 (by decide) rfl mX11_isOf lX11_62 (by decide) (Nat.le_of_ble_eq_true rfl) dX11_firstOn_14 h (fun r3 M4 h => ?_)
      refine r_if_ne (pc := 17) (tgt := 22) C dX11_firstOn_17 (by decide) h (fun _ h => ?_) (fun _ h => ?_)
      · refine r_iincL (pc := 22) (c := nI 1) C dX11_firstOn_22 rfl (by decide) hn2 h (fun x5 h => ?_)
        refine r_lvE (lv' := [_, _, _]) rfl ?_
        refine r_goto (pc := 25) (tgt := 2) C dX11_firstOn_25 (by decide) ?_
        exact ih x5 M4 h
      · refine r_iload_n (pc := 20) C dX11_firstOn_20 rfl rfl ?_
        exact r_iret (pc := 21) C R0 h dX11_firstOn_21
set_option maxRecDepth 100000 in
set_option maxHeartbeats 4000000 in
theorem zX11_firstOn (G : xGX) (a0 : Nat) (h0 : xkd a0 = 11) (a1 : Int32) (M : xMem) (r : Int32) (M' : xMem) (h : fX11_firstOn a0 a1 M = some (r, M')) : xCt G yX11_firstOn cX11_firstOn 3 (some .int) 3 [vr G a0, .int a1] M (some (.int r), M') := by
  refine xMet (lv := [some (vr G a0), some (.int a1), none]) (by decide) (Nat.le_of_ble_eq_true rfl) rfl ?_
  intro X hG hnL C R0
  subst hG
  have C : xCk X cX11_firstOn RX11 3 := C
  have hn2 : 2 < X.2.2.2.2.2.2.2.2.2.2.2.2.2 := by rw [hnL]; decide
  unfold fX11_firstOn at h
  refine r_iconst (pc := 0) (v := (nI 0)) C dX11_firstOn_0 (by decide) ?_
  refine r_istore_n (pc := 1) (lv' := [_, _, _]) C dX11_firstOn_1 rfl hn2 rfl ?_
  refine lX11_firstOn_2 C R0 hnL a0 h0 a1 _ (fun v6 M7 h => ?_) _ _ _ h
  refine r_iconst (pc := 28) (v := (-1)) C dX11_firstOn_28 (by decide) ?_
  exact r_iret (pc := 29) C R0 h dX11_firstOn_29
theorem dX11_greatest_0 : decode cX11_greatest 0 = .ok (.iconst 1, 1) := by decide +kernel
theorem dX11_greatest_1 : decode cX11_greatest 1 = .ok (.aload_n 0, 1) := by decide +kernel
theorem dX11_greatest_2 : decode cX11_greatest 2 = .ok (.bipush 28, 2) := by decide +kernel
theorem dX11_greatest_4 : decode cX11_greatest 4 = .ok (.invokevirtual 43, 3) := by decide +kernel
theorem dX11_greatest_7 : decode cX11_greatest 7 = .ok (.isub, 1) := by decide +kernel
theorem dX11_greatest_8 : decode cX11_greatest 8 = .ok (.istore_n 2, 1) := by decide +kernel
theorem dX11_greatest_9 : decode cX11_greatest 9 = .ok (.aload_n 0, 1) := by decide +kernel
theorem dX11_greatest_10 : decode cX11_greatest 10 = .ok (.aload_n 0, 1) := by decide +kernel
theorem dX11_greatest_11 : decode cX11_greatest 11 = .ok (.aload_n 0, 1) := by decide +kernel
theorem dX11_greatest_12 : decode cX11_greatest 12 = .ok (.bipush 28, 2) := by decide +kernel
theorem dX11_greatest_14 : decode cX11_greatest 14 = .ok (.invokevirtual 43, 3) := by decide +kernel
theorem dX11_greatest_17 : decode cX11_greatest 17 = .ok (.invokevirtual 403, 3) := by decide +kernel
theorem dX11_greatest_20 : decode cX11_greatest 20 = .ok (.putfield 96, 3) := by decide +kernel
theorem dX11_greatest_23 : decode cX11_greatest 23 = .ok (.aload_n 0, 1) := by decide +kernel
theorem dX11_greatest_24 : decode cX11_greatest 24 = .ok (.iconst 0, 1) := by decide +kernel
theorem dX11_greatest_25 : decode cX11_greatest 25 = .ok (.putfield 82, 3) := by decide +kernel
theorem dX11_greatest_28 : decode cX11_greatest 28 = .ok (.iconst 0, 1) := by decide +kernel
theorem dX11_greatest_29 : decode cX11_greatest 29 = .ok (.istore_n 3, 1) := by decide +kernel
theorem dX11_greatest_30 : decode cX11_greatest 30 = .ok (.iload_n 3, 1) := by decide +kernel
theorem dX11_greatest_31 : decode cX11_greatest 31 = .ok (.aload_n 0, 1) := by decide +kernel
theorem dX11_greatest_32 : decode cX11_greatest 32 = .ok (.iload_n 2, 1) := by decide +kernel
theorem dX11_greatest_33 : decode cX11_greatest 33 = .ok (.invokevirtual 59, 3) := by decide +kernel
theorem dX11_greatest_36 : decode cX11_greatest 36 = .ok (.if_icmp .ge 45, 3) := by decide +kernel
theorem dX11_greatest_39 : decode cX11_greatest 39 = .ok (.iload_n 1, 1) := by decide +kernel
theorem dX11_greatest_40 : decode cX11_greatest 40 = .ok (.ifCond .eq 41, 3) := by decide +kernel
theorem dX11_greatest_43 : decode cX11_greatest 43 = .ok (.aload_n 0, 1) := by decide +kernel
theorem dX11_greatest_44 : decode cX11_greatest 44 = .ok (.iload_n 2, 1) := by decide +kernel
theorem dX11_greatest_45 : decode cX11_greatest 45 = .ok (.iload_n 3, 1) := by decide +kernel
theorem dX11_greatest_46 : decode cX11_greatest 46 = .ok (.invokevirtual 62, 3) := by decide +kernel
theorem dX11_greatest_49 : decode cX11_greatest 49 = .ok (.ifCond .eq 6, 3) := by decide +kernel
theorem dX11_greatest_52 : decode cX11_greatest 52 = .ok (.goto 23, 3) := by decide +kernel
theorem dX11_greatest_55 : decode cX11_greatest 55 = .ok (.aload_n 0, 1) := by decide +kernel
theorem dX11_greatest_56 : decode cX11_greatest 56 = .ok (.getfield 19, 3) := by decide +kernel
theorem dX11_greatest_59 : decode cX11_greatest 59 = .ok (.aload_n 0, 1) := by decide +kernel
theorem dX11_greatest_60 : decode cX11_greatest 60 = .ok (.getfield 82, 3) := by decide +kernel
theorem dX11_greatest_63 : decode cX11_greatest 63 = .ok (.iload_n 3, 1) := by decide +kernel
theorem dX11_greatest_64 : decode cX11_greatest 64 = .ok (.iastore, 1) := by decide +kernel
theorem dX11_greatest_65 : decode cX11_greatest 65 = .ok (.aload_n 0, 1) := by decide +kernel
theorem dX11_greatest_66 : decode cX11_greatest 66 = .ok (.dup, 1) := by decide +kernel
theorem dX11_greatest_67 : decode cX11_greatest 67 = .ok (.getfield 82, 3) := by decide +kernel
theorem dX11_greatest_70 : decode cX11_greatest 70 = .ok (.iconst 1, 1) := by decide +kernel
theorem dX11_greatest_71 : decode cX11_greatest 71 = .ok (.iadd, 1) := by decide +kernel
theorem dX11_greatest_72 : decode cX11_greatest 72 = .ok (.putfield 82, 3) := by decide +kernel
theorem dX11_greatest_75 : decode cX11_greatest 75 = .ok (.iinc 3 1, 3) := by decide +kernel
theorem dX11_greatest_78 : decode cX11_greatest 78 = .ok (.goto (-48), 3) := by decide +kernel
theorem dX11_greatest_81 : decode cX11_greatest 81 = .ok (.aload_n 0, 1) := by decide +kernel
theorem dX11_greatest_82 : decode cX11_greatest 82 = .ok (.aload_n 0, 1) := by decide +kernel
theorem dX11_greatest_83 : decode cX11_greatest 83 = .ok (.getfield 82, 3) := by decide +kernel
theorem dX11_greatest_86 : decode cX11_greatest 86 = .ok (.ifCond .le 7, 3) := by decide +kernel
theorem dX11_greatest_89 : decode cX11_greatest 89 = .ok (.iconst 1, 1) := by decide +kernel
theorem dX11_greatest_90 : decode cX11_greatest 90 = .ok (.goto 4, 3) := by decide +kernel
theorem dX11_greatest_93 : decode cX11_greatest 93 = .ok (.iconst 0, 1) := by decide +kernel
theorem dX11_greatest_94 : decode cX11_greatest 94 = .ok (.putfield 93, 3) := by decide +kernel
theorem dX11_greatest_97 : decode cX11_greatest 97 = .ok (.aload_n 0, 1) := by decide +kernel
theorem dX11_greatest_98 : decode cX11_greatest 98 = .ok (.aload_n 0, 1) := by decide +kernel
theorem dX11_greatest_99 : decode cX11_greatest 99 = .ok (.getfield 82, 3) := by decide +kernel
theorem dX11_greatest_102 : decode cX11_greatest 102 = .ok (.bipush 6, 2) := by decide +kernel
theorem dX11_greatest_104 : decode cX11_greatest 104 = .ok (.if_icmp .lt 7, 3) := by decide +kernel
theorem dX11_greatest_107 : decode cX11_greatest 107 = .ok (.iconst 1, 1) := by decide +kernel
theorem dX11_greatest_108 : decode cX11_greatest 108 = .ok (.goto 4, 3) := by decide +kernel
theorem dX11_greatest_111 : decode cX11_greatest 111 = .ok (.iconst 0, 1) := by decide +kernel
theorem dX11_greatest_112 : decode cX11_greatest 112 = .ok (.putfield 108, 3) := by decide +kernel
theorem dX11_greatest_115 : decode cX11_greatest 115 = .ok (.aload_n 0, 1) := by decide +kernel
theorem dX11_greatest_116 : decode cX11_greatest 116 = .ok (.iconst (-1), 1) := by decide +kernel
theorem dX11_greatest_117 : decode cX11_greatest 117 = .ok (.putfield 99, 3) := by decide +kernel
theorem dX11_greatest_120 : decode cX11_greatest 120 = .ok (.aload_n 0, 1) := by decide +kernel
theorem dX11_greatest_121 : decode cX11_greatest 121 = .ok (.invokevirtual 287, 3) := by decide +kernel
theorem dX11_greatest_124 : decode cX11_greatest 124 = .ok (.return_, 1) := by decide +kernel
def fX11_greatest_l30 (p0 : Nat) (p1 : Int32) (p2 : Int32) (K : Int32 → xMem → Option (xMem)) : Nat → Int32 → xMem → Option (xMem)
  | 0, _, _ => none
  | n + 1, v3, M => xBn (fX11_many p0 p2 M) fun r10 M11 => if r10 ≤ v3 then (K v3 M11) else (if p1 = 0 then (K v3 M11) else (xBn (fX11_isOf p0 p2 v3 M11) fun r12 M13 => if r12 = 0 then (xGb (M13.1 p0 8) (xln (xrf p0 7)) (xLt (xwI M13 (xrf p0 7) (Int32.toNatClampNeg (M13.1 p0 8)) v3) fun M15 => xLt (xwI M15 p0 8 ((M15.1 p0 8) + (nI 1))) fun M16 => xLt (v3 + nI 1) fun x17 => fX11_greatest_l30 p0 p1 p2 K n x17 M16)) else (xLt (v3 + nI 1) fun x18 => fX11_greatest_l30 p0 p1 p2 K n x18 M13)))
def fX11_greatest (a0 : Nat) (a1 : Int32) (M : xMem) : Option (xMem) :=
  xBn (fX11_get a0 (nI 28) M) fun r1 M2 => xLt ((nI 1) - r1) fun x3 => xBn (fX11_get a0 (nI 28) M2) fun r4 M5 => xBn (fX11_firstOn a0 r4 M5) fun r6 M7 => xLt (xwI M7 a0 4 r6) fun M8 => xLt (xwI M8 a0 8 (nI 0)) fun M9 => fX11_greatest_l30 a0 a1 x3 (fun (v19 : Int32) (M20 : xMem) => xLt (fun (s21 : Int32) (M22 : xMem) => (xLt (xwI M22 a0 5 s21) fun M23 => xLt (fun (s24 : Int32) (M25 : xMem) => (xGd (s24 = 0 ∨ s24 = 1) (xLt (xwI M25 a0 6 s24) fun M27 => xLt (xwI M27 a0 9 (-1)) fun M28 => xBv (fX11_raids a0 M28) fun M29 => some M29) : Option (xMem))) fun J112 => if (M23.1 a0 8) < (nI 6) then (J112 (nI 0) M23) else (J112 (nI 1) M23) : Option (xMem))) fun J94 => if (M20.1 a0 8) ≤ 0 then (J94 (nI 0) M20) else (J94 (nI 1) M20)) xFU (nI 0) M9
set_option maxRecDepth 100000 in
set_option maxHeartbeats 4000000 in
theorem lX11_greatest_30 {X : xCX} {M' : xMem} (C : xCk X cX11_greatest RX11 6) (R0 : xRk X none (none, M')) (hnL : X.2.2.2.2.2.2.2.2.2.2.2.2.2 = 4) (p0 : Nat) (hp0 : xkd p0 = 11) (p1 : Int32) (p2 : Int32) (K : Int32 → xMem → Option (xMem)) (hK : ∀ (v3 : Int32) (M : xMem), K v3 M = some M' → WW X 81 [some (vr X.1 p0), some (.int p1), some (.int p2), some (.int v3)] [] M) : ∀ (n : Nat) (v3 : Int32) (M : xMem), fX11_greatest_l30 p0 p1 p2 K n v3 M = some M' → WW X 30 [some (vr X.1 p0), some (.int p1), some (.int p2), some (.int v3)] [] M := by
  have hn2 : 2 < X.2.2.2.2.2.2.2.2.2.2.2.2.2 := by rw [hnL]; decide
  have hn3 : 3 < X.2.2.2.2.2.2.2.2.2.2.2.2.2 := by rw [hnL]; decide
  intro n
  induction n with
  | zero =>
    intro v3 M h
    cases (show (none : Option (xMem)) = some M' from h)
  | succ n ih =>
    intro v3 M h
    rw [fX11_greatest_l30.eq_2] at h
    refine r_iload_n (pc := 30) C dX11_greatest_30 rfl rfl ?_
    refine r_aload_n (pc := 31) C dX11_greatest_31 rfl rfl ?_
    refine r_iload_n (pc := 32) C dX11_greatest_32 rfl rfl ?_
    refine r_vI1 (pc := 33) C (fun r M' e => zX11_many X.1 p0 hp0 p2 M r M' e) hp0 (by decide) rfl mX11_many lX11_59 (by decide) (Nat.le_of_ble_eq_true rfl) dX11_greatest_33 h (fun r10 M11 h => ?_)
    refine r_icmp_ge (pc := 36) (tgt := 81) C dX11_greatest_36 (by decide) h (fun _ h => ?_) (fun _ h => ?_)
    · exact hK v3 M11 h
    · refine r_iload_n (pc := 39) C dX11_greatest_39 rfl rfl ?_
      refine r_if_eq (pc := 40) (tgt := 81) C dX11_greatest_40 (by decide) h (fun _ h => ?_) (fun _ h => ?_)
      · exact hK v3 M11 h
      · refine r_aload_n (pc := 43) C dX11_greatest_43 rfl rfl ?_
        refine r_iload_n (pc := 44) C dX11_greatest_44 rfl rfl ?_
        refine r_iload_n (pc := 45) C dX11_greatest_45 rfl rfl ?_
        refine r_vI2 (pc := 46) C (fun r M' e => zX11_isOf X.1 p0 hp0 p2 v3 M11 r M' e) hp0 (by decide) rfl mX11_isOf lX11_62 (by decide) (Nat.le_of_ble_eq_true rfl) dX11_greatest_46 h (fun r12 M13 h => ?_)
        refine r_if_eq (pc := 49) (tgt := 55) C dX11_greatest_49 (by decide) h (fun _ h => ?_) (fun _ h => ?_)
        · refine r_aload_n (pc := 55) C dX11_greatest_55 rfl rfl ?_
          refine r_getR (pc := 56) C kX11_19 hp0 (by decide) dX11_greatest_56 ?_
          refine r_aload_n (pc := 59) C dX11_greatest_59 rfl rfl ?_
          refine r_getI (pc := 60) C kX11_82 hp0 dX11_greatest_60 ?_
          refine r_iload_n (pc := 63) C dX11_greatest_63 rfl rfl ?_
          obtain ⟨g14, h⟩ := xGb_of h
          refine r_iast (pc := 64) C (xtk hp0 (by decide) rfl rfl) g14 dX11_greatest_64 ?_
          refine r_letM h (fun M15 h => ?_)
          refine r_aload_n (pc := 65) C dX11_greatest_65 rfl rfl ?_
          refine r_dup (pc := 66) C rfl dX11_greatest_66 ?_
          refine r_getI (pc := 67) C kX11_82 hp0 dX11_greatest_67 ?_
          refine r_iconst (pc := 70) (v := (nI 1)) C dX11_greatest_70 (by decide) ?_
          refine r_iadd (pc := 71) C dX11_greatest_71 ?_
          refine r_putI (pc := 72) C kX11_82 hp0 dX11_greatest_72 ?_
          refine r_letM h (fun M16 h => ?_)
          refine r_iincL (pc := 75) (c := nI 1) C dX11_greatest_75 rfl (by decide) hn3 h (fun x17 h => ?_)
          refine r_lvE (lv' := [_, _, _, _]) rfl ?_
          refine r_goto (pc := 78) (tgt := 30) C dX11_greatest_78 (by decide) ?_
          exact ih x17 M16 h
        · refine r_goto (pc := 52) (tgt := 75) C dX11_greatest_52 (by decide) ?_
          refine r_iincL (pc := 75) (c := nI 1) C dX11_greatest_75 rfl (by decide) hn3 h (fun x18 h => ?_)
          refine r_lvE (lv' := [_, _, _, _]) rfl ?_
          refine r_goto (pc := 78) (tgt := 30) C dX11_greatest_78 (by decide) ?_
          exact ih x18 M13 h
set_option maxRecDepth 100000 in
set_option maxHeartbeats 4000000 in
theorem zX11_greatest (G : xGX) (a0 : Nat) (h0 : xkd a0 = 11) (a1 : Int32) (M : xMem) (M' : xMem) (h : fX11_greatest a0 a1 M = some M') : xCt G yX11_greatest cX11_greatest 4 none 6 [vr G a0, .int a1] M (none, M') := by
  refine xMet (lv := [some (vr G a0), some (.int a1), none, none]) (by decide) (Nat.le_of_ble_eq_true rfl) rfl ?_
  intro X hG hnL C R0
  subst hG
  have C : xCk X cX11_greatest RX11 6 := C
  have hn2 : 2 < X.2.2.2.2.2.2.2.2.2.2.2.2.2 := by rw [hnL]; decide
  have hn3 : 3 < X.2.2.2.2.2.2.2.2.2.2.2.2.2 := by rw [hnL]; decide
  unfold fX11_greatest at h
  refine r_iconst (pc := 0) (v := (nI 1)) C dX11_greatest_0 (by decide) ?_
  refine r_aload_n (pc := 1) C dX11_greatest_1 rfl rfl ?_
  refine r_bipush (pc := 2) (v := (nI 28)) C dX11_greatest_2 (by decide) ?_
  refine r_vI1 (pc := 4) C (fun r M' e => zX11_get X.1 a0 h0 (nI 28) M r M' e) h0 (by decide) rfl mX11_get lX11_43 (by decide) (Nat.le_of_ble_eq_true rfl) dX11_greatest_4 h (fun r1 M2 h => ?_)
  refine r_isub (pc := 7) C dX11_greatest_7 ?_
  refine r_letI h (fun x3 h => ?_)
  refine r_istore_n (pc := 8) (lv' := [_, _, _, _]) C dX11_greatest_8 rfl hn2 rfl ?_
  refine r_aload_n (pc := 9) C dX11_greatest_9 rfl rfl ?_
  refine r_aload_n (pc := 10) C dX11_greatest_10 rfl rfl ?_
  refine r_aload_n (pc := 11) C dX11_greatest_11 rfl rfl ?_
  refine r_bipush (pc := 12) (v := (nI 28)) C dX11_greatest_12 (by decide) ?_
  refine r_vI1 (pc := 14) C (fun r M' e => zX11_get X.1 a0 h0 (nI 28) M2 r M' e) h0 (by decide) rfl mX11_get lX11_43 (by decide) (Nat.le_of_ble_eq_true rfl) dX11_greatest_14 h (fun r4 M5 h => ?_)
  refine r_vI1 (pc := 17) C (fun r M' e => zX11_firstOn X.1 a0 h0 r4 M5 r M' e) h0 (by decide) rfl mX11_firstOn lX11_403 (by decide) (Nat.le_of_ble_eq_true rfl) dX11_greatest_17 h (fun r6 M7 h => ?_)
  refine r_putI (pc := 20) C kX11_96 h0 dX11_greatest_20 ?_
  refine r_letM h (fun M8 h => ?_)
  refine r_aload_n (pc := 23) C dX11_greatest_23 rfl rfl ?_
  refine r_iconst (pc := 24) (v := (nI 0)) C dX11_greatest_24 (by decide) ?_
  refine r_putI (pc := 25) C kX11_82 h0 dX11_greatest_25 ?_
  refine r_letM h (fun M9 h => ?_)
  refine r_iconst (pc := 28) (v := (nI 0)) C dX11_greatest_28 (by decide) ?_
  refine r_istore_n (pc := 29) (lv' := [_, _, _, _]) C dX11_greatest_29 rfl hn3 rfl ?_
  refine lX11_greatest_30 C R0 hnL a0 h0 a1 x3 _ (fun v19 M20 h => ?_) _ _ _ h
  refine r_aload_n (pc := 81) C dX11_greatest_81 rfl rfl ?_
  refine r_aload_n (pc := 82) C dX11_greatest_82 rfl rfl ?_
  refine r_getI (pc := 83) C kX11_82 h0 dX11_greatest_83 ?_
  refine r_jn (fun J => ∀ (s21 : Int32) (M22 : xMem) , J s21 M22 = some M' → WW X 94 [some (vr X.1 a0), some (.int a1), some (.int x3), some (.int v19)] [.int s21, vr X.1 a0] M22) h (fun s21 M22  h => ?_) (fun J94 hJ94 h => ?_)
  · refine r_putI (pc := 94) C kX11_93 h0 dX11_greatest_94 ?_
    refine r_letM h (fun M23 h => ?_)
    refine r_aload_n (pc := 97) C dX11_greatest_97 rfl rfl ?_
    refine r_aload_n (pc := 98) C dX11_greatest_98 rfl rfl ?_
    refine r_getI (pc := 99) C kX11_82 h0 dX11_greatest_99 ?_
    refine r_bipush (pc := 102) (v := (nI 6)) C dX11_greatest_102 (by decide) ?_
    refine r_jn (fun J => ∀ (s24 : Int32) (M25 : xMem) , J s24 M25 = some M' → WW X 112 [some (vr X.1 a0), some (.int a1), some (.int x3), some (.int v19)] [.int s24, vr X.1 a0] M25) h (fun s24 M25  h => ?_) (fun J112 hJ112 h => ?_)
    · obtain ⟨g26, h⟩ := xGd_of h
      refine r_putZ (pc := 112) C kX11_108 h0 g26 dX11_greatest_112 ?_
      refine r_letM h (fun M27 h => ?_)
      refine r_aload_n (pc := 115) C dX11_greatest_115 rfl rfl ?_
      refine r_iconst (pc := 116) (v := (-1)) C dX11_greatest_116 (by decide) ?_
      refine r_putI (pc := 117) C kX11_99 h0 dX11_greatest_117 ?_
      refine r_letM h (fun M28 h => ?_)
      refine r_aload_n (pc := 120) C dX11_greatest_120 rfl rfl ?_
      refine r_vV0 (pc := 121) C (fun M' e => zX11_raids X.1 a0 h0 M28 M' e) h0 (by decide) rfl mX11_raids lX11_287 (by decide) (Nat.le_of_ble_eq_true rfl) dX11_greatest_121 h (fun M29 h => ?_)
      exact r_vret (pc := 124) C R0 h dX11_greatest_124
    refine r_icmp_lt (pc := 104) (tgt := 111) C dX11_greatest_104 (by decide) h (fun _ h => ?_) (fun _ h => ?_)
    · refine r_iconst (pc := 111) (v := (nI 0)) C dX11_greatest_111 (by decide) ?_
      exact hJ112 (nI 0) M23  h
    · refine r_iconst (pc := 107) (v := (nI 1)) C dX11_greatest_107 (by decide) ?_
      refine r_goto (pc := 108) (tgt := 112) C dX11_greatest_108 (by decide) ?_
      exact hJ112 (nI 1) M23  h
  refine r_if_le (pc := 86) (tgt := 93) C dX11_greatest_86 (by decide) h (fun _ h => ?_) (fun _ h => ?_)
  · refine r_iconst (pc := 93) (v := (nI 0)) C dX11_greatest_93 (by decide) ?_
    exact hJ94 (nI 0) M20  h
  · refine r_iconst (pc := 89) (v := (nI 1)) C dX11_greatest_89 (by decide) ?_
    refine r_goto (pc := 90) (tgt := 94) C dX11_greatest_90 (by decide) ?_
    exact hJ94 (nI 1) M20  h
theorem dX11_most_0 : decode cX11_most 0 = .ok (.aload_n 0, 1) := by decide +kernel
theorem dX11_most_1 : decode cX11_most 1 = .ok (.invokevirtual 47, 3) := by decide +kernel
theorem dX11_most_4 : decode cX11_most 4 = .ok (.ifCond .ne 6, 3) := by decide +kernel
theorem dX11_most_7 : decode cX11_most 7 = .ok (.bipush (-2), 2) := by decide +kernel
theorem dX11_most_9 : decode cX11_most 9 = .ok (.ireturn, 1) := by decide +kernel
theorem dX11_most_10 : decode cX11_most 10 = .ok (.aload_n 0, 1) := by decide +kernel
theorem dX11_most_11 : decode cX11_most 11 = .ok (.invokevirtual 134, 3) := by decide +kernel
theorem dX11_most_14 : decode cX11_most 14 = .ok (.ifCond .ne 31, 3) := by decide +kernel
theorem dX11_most_17 : decode cX11_most 17 = .ok (.aload_n 0, 1) := by decide +kernel
theorem dX11_most_18 : decode cX11_most 18 = .ok (.getfield 16, 3) := by decide +kernel
theorem dX11_most_21 : decode cX11_most 21 = .ok (.bipush 25, 2) := by decide +kernel
theorem dX11_most_23 : decode cX11_most 23 = .ok (.laload, 1) := by decide +kernel
theorem dX11_most_24 : decode cX11_most 24 = .ok (.ldc2_w 282, 3) := by decide +kernel
theorem dX11_most_27 : decode cX11_most 27 = .ok (.lcmp, 1) := by decide +kernel
theorem dX11_most_28 : decode cX11_most 28 = .ok (.ifCond .eq 17, 3) := by decide +kernel
theorem dX11_most_31 : decode cX11_most 31 = .ok (.aload_n 0, 1) := by decide +kernel
theorem dX11_most_32 : decode cX11_most 32 = .ok (.aload_n 0, 1) := by decide +kernel
theorem dX11_most_33 : decode cX11_most 33 = .ok (.bipush 28, 2) := by decide +kernel
theorem dX11_most_35 : decode cX11_most 35 = .ok (.invokevirtual 43, 3) := by decide +kernel
theorem dX11_most_38 : decode cX11_most 38 = .ok (.invokevirtual 403, 3) := by decide +kernel
theorem dX11_most_41 : decode cX11_most 41 = .ok (.iconst (-1), 1) := by decide +kernel
theorem dX11_most_42 : decode cX11_most 42 = .ok (.if_icmp .ne 5, 3) := by decide +kernel
theorem dX11_most_45 : decode cX11_most 45 = .ok (.iconst (-1), 1) := by decide +kernel
theorem dX11_most_46 : decode cX11_most 46 = .ok (.ireturn, 1) := by decide +kernel
theorem dX11_most_47 : decode cX11_most 47 = .ok (.aload_n 0, 1) := by decide +kernel
theorem dX11_most_48 : decode cX11_most 48 = .ok (.invokevirtual 265, 3) := by decide +kernel
theorem dX11_most_51 : decode cX11_most 51 = .ok (.ifCond .ne 5, 3) := by decide +kernel
theorem dX11_most_54 : decode cX11_most 54 = .ok (.iconst 0, 1) := by decide +kernel
theorem dX11_most_55 : decode cX11_most 55 = .ok (.ireturn, 1) := by decide +kernel
theorem dX11_most_56 : decode cX11_most 56 = .ok (.aload_n 0, 1) := by decide +kernel
theorem dX11_most_57 : decode cX11_most 57 = .ok (.invokevirtual 400, 3) := by decide +kernel
theorem dX11_most_60 : decode cX11_most 60 = .ok (.aload_n 0, 1) := by decide +kernel
theorem dX11_most_61 : decode cX11_most 61 = .ok (.iconst 1, 1) := by decide +kernel
theorem dX11_most_62 : decode cX11_most 62 = .ok (.invokevirtual 406, 3) := by decide +kernel
theorem dX11_most_65 : decode cX11_most 65 = .ok (.aload_n 0, 1) := by decide +kernel
theorem dX11_most_66 : decode cX11_most 66 = .ok (.aload_n 0, 1) := by decide +kernel
theorem dX11_most_67 : decode cX11_most 67 = .ok (.bipush 25, 2) := by decide +kernel
theorem dX11_most_69 : decode cX11_most 69 = .ok (.invokevirtual 43, 3) := by decide +kernel
theorem dX11_most_72 : decode cX11_most 72 = .ok (.iconst 1, 1) := by decide +kernel
theorem dX11_most_73 : decode cX11_most 73 = .ok (.isub, 1) := by decide +kernel
theorem dX11_most_74 : decode cX11_most 74 = .ok (.iconst 3, 1) := by decide +kernel
theorem dX11_most_75 : decode cX11_most 75 = .ok (.invokevirtual 347, 3) := by decide +kernel
theorem dX11_most_78 : decode cX11_most 78 = .ok (.istore_n 1, 1) := by decide +kernel
theorem dX11_most_79 : decode cX11_most 79 = .ok (.aload_n 0, 1) := by decide +kernel
theorem dX11_most_80 : decode cX11_most 80 = .ok (.aload_n 0, 1) := by decide +kernel
theorem dX11_most_81 : decode cX11_most 81 = .ok (.getfield 9, 3) := by decide +kernel
theorem dX11_most_84 : decode cX11_most 84 = .ok (.putfield 16, 3) := by decide +kernel
theorem dX11_most_87 : decode cX11_most 87 = .ok (.iload_n 1, 1) := by decide +kernel
theorem dX11_most_88 : decode cX11_most 88 = .ok (.ireturn, 1) := by decide +kernel
def fX11_most (a0 : Nat) (M : xMem) : Option (Int32 × xMem) :=
  xBn (fX11_isThere a0 M) fun r1 M2 => if r1 = 0 then (some ((-2), M2)) else (xBn (fX11_isOver a0 M2) fun r3 M4 => if r3 = 0 then (xGb (nI 25) (xln (xnw M4)) (if (lg_cmp (M4.2.1 (xnw M4) (Int32.toNatClampNeg (nI 25))) (lN 200)) = 0 then (some ((-1), M4)) else (xBn (fX11_get a0 (nI 28) M4) fun r6 M7 => xBn (fX11_firstOn a0 r6 M7) fun r8 M9 => if r8 = (-1) then (some ((-1), M9)) else (xBn (fX11_standing a0 M9) fun r10 M11 => if r10 = 0 then (some ((nI 0), M11)) else (xBv (fX11_copies a0 M11) fun M12 => xBv (fX11_greatest a0 (nI 1) M12) fun M13 => xBn (fX11_get a0 (nI 25) M13) fun r14 M15 => xBn (fX11_rec a0 (r14 - (nI 1)) (nI 3) M15) fun r16 M17 => xLt (xwW M17 false) fun M18 => some (r16, M18)))))) else (some ((-1), M4)))
set_option maxRecDepth 100000 in
set_option maxHeartbeats 4000000 in
theorem zX11_most (G : xGX) (a0 : Nat) (h0 : xkd a0 = 11) (M : xMem) (r : Int32) (M' : xMem) (h : fX11_most a0 M = some (r, M')) : xCt G yX11_most cX11_most 2 (some .int) 7 [vr G a0] M (some (.int r), M') := by
  refine xMet (lv := [some (vr G a0), none]) (by decide) (Nat.le_of_ble_eq_true rfl) rfl ?_
  intro X hG hnL C R0
  subst hG
  have C : xCk X cX11_most RX11 7 := C
  have hn1 : 1 < X.2.2.2.2.2.2.2.2.2.2.2.2.2 := by rw [hnL]; decide
  unfold fX11_most at h
  refine r_aload_n (pc := 0) C dX11_most_0 rfl rfl ?_
  refine r_vI0 (pc := 1) C (fun r M' e => zX11_isThere X.1 a0 h0 M r M' e) h0 (by decide) rfl mX11_isThere lX11_47 (by decide) (Nat.le_of_ble_eq_true rfl) dX11_most_1 h (fun r1 M2 h => ?_)
  refine r_if_ne (pc := 4) (tgt := 10) C dX11_most_4 (by decide) h (fun _ h => ?_) (fun _ h => ?_)
  · refine r_aload_n (pc := 10) C dX11_most_10 rfl rfl ?_
    refine r_vI0 (pc := 11) C (fun r M' e => zX11_isOver X.1 a0 h0 M2 r M' e) h0 (by decide) rfl mX11_isOver lX11_134 (by decide) (Nat.le_of_ble_eq_true rfl) dX11_most_11 h (fun r3 M4 h => ?_)
    refine r_if_ne (pc := 14) (tgt := 45) C dX11_most_14 (by decide) h (fun _ h => ?_) (fun _ h => ?_)
    · refine r_iconst (pc := 45) (v := (-1)) C dX11_most_45 (by decide) ?_
      exact r_iret (pc := 46) C R0 h dX11_most_46
    · refine r_aload_n (pc := 17) C dX11_most_17 rfl rfl ?_
      refine r_getW (pc := 18) C kX11_16 h0 dX11_most_18 ?_
      refine r_bipush (pc := 21) (v := (nI 25)) C dX11_most_21 (by decide) ?_
      obtain ⟨g5, h⟩ := xGb_of h
      refine r_lald (pc := 23) C (xknw M4) g5 dX11_most_23 ?_
      refine r_ldc2 (pc := 24) C nX11_282 dX11_most_24 ?_
      refine r_lcmp (pc := 27) C dX11_most_27 ?_
      refine r_if_eq (pc := 28) (tgt := 45) C dX11_most_28 (by decide) h (fun _ h => ?_) (fun _ h => ?_)
      · refine r_iconst (pc := 45) (v := (-1)) C dX11_most_45 (by decide) ?_
        exact r_iret (pc := 46) C R0 h dX11_most_46
      · refine r_aload_n (pc := 31) C dX11_most_31 rfl rfl ?_
        refine r_aload_n (pc := 32) C dX11_most_32 rfl rfl ?_
        refine r_bipush (pc := 33) (v := (nI 28)) C dX11_most_33 (by decide) ?_
        refine r_vI1 (pc := 35) C (fun r M' e => zX11_get X.1 a0 h0 (nI 28) M4 r M' e) h0 (by decide) rfl mX11_get lX11_43 (by decide) (Nat.le_of_ble_eq_true rfl) dX11_most_35 h (fun r6 M7 h => ?_)
        refine r_vI1 (pc := 38) C (fun r M' e => zX11_firstOn X.1 a0 h0 r6 M7 r M' e) h0 (by decide) rfl mX11_firstOn lX11_403 (by decide) (Nat.le_of_ble_eq_true rfl) dX11_most_38 h (fun r8 M9 h => ?_)
        refine r_iconst (pc := 41) (v := (-1)) C dX11_most_41 (by decide) ?_
        refine r_icmp_ne (pc := 42) (tgt := 47) C dX11_most_42 (by decide) h (fun _ h => ?_) (fun _ h => ?_)
        · refine r_aload_n (pc := 47) C dX11_most_47 rfl rfl ?_
          refine r_vI0 (pc := 48) C (fun r M' e => zX11_standing X.1 a0 h0 M9 r M' e) h0 (by decide) rfl mX11_standing lX11_265 (by decide) (Nat.le_of_ble_eq_true rfl) dX11_most_48 h (fun r10 M11 h => ?_)
          refine r_if_ne (pc := 51) (tgt := 56) C dX11_most_51 (by decide) h (fun _ h => ?_) (fun _ h => ?_)
          · refine r_aload_n (pc := 56) C dX11_most_56 rfl rfl ?_
            refine r_vV0 (pc := 57) C (fun M' e => zX11_copies X.1 a0 h0 M11 M' e) h0 (by decide) rfl mX11_copies lX11_400 (by decide) (Nat.le_of_ble_eq_true rfl) dX11_most_57 h (fun M12 h => ?_)
            refine r_aload_n (pc := 60) C dX11_most_60 rfl rfl ?_
            refine r_iconst (pc := 61) (v := (nI 1)) C dX11_most_61 (by decide) ?_
            refine r_vV1 (pc := 62) C (fun M' e => zX11_greatest X.1 a0 h0 (nI 1) M12 M' e) h0 (by decide) rfl mX11_greatest lX11_406 (by decide) (Nat.le_of_ble_eq_true rfl) dX11_most_62 h (fun M13 h => ?_)
            refine r_aload_n (pc := 65) C dX11_most_65 rfl rfl ?_
            refine r_aload_n (pc := 66) C dX11_most_66 rfl rfl ?_
            refine r_bipush (pc := 67) (v := (nI 25)) C dX11_most_67 (by decide) ?_
            refine r_vI1 (pc := 69) C (fun r M' e => zX11_get X.1 a0 h0 (nI 25) M13 r M' e) h0 (by decide) rfl mX11_get lX11_43 (by decide) (Nat.le_of_ble_eq_true rfl) dX11_most_69 h (fun r14 M15 h => ?_)
            refine r_iconst (pc := 72) (v := (nI 1)) C dX11_most_72 (by decide) ?_
            refine r_isub (pc := 73) C dX11_most_73 ?_
            refine r_iconst (pc := 74) (v := (nI 3)) C dX11_most_74 (by decide) ?_
            refine r_vI2 (pc := 75) C (fun r M' e => zX11_rec X.1 a0 h0 (r14 - (nI 1)) (nI 3) M15 r M' e) h0 (by decide) rfl mX11_rec lX11_347 (by decide) (Nat.le_of_ble_eq_true rfl) dX11_most_75 h (fun r16 M17 h => ?_)
            refine r_istore_n (pc := 78) (lv' := [_, _]) C dX11_most_78 rfl hn1 rfl ?_
            refine r_aload_n (pc := 79) C dX11_most_79 rfl rfl ?_
            refine r_aload_n (pc := 80) C dX11_most_80 rfl rfl ?_
            refine r_getR (pc := 81) C kX11_9 h0 (by decide) dX11_most_81 ?_
            refine r_putW_told (pc := 84) C kX11_16 h0 (fun _ => rfl) (fun _ => rfl) dX11_most_84 ?_
            refine r_letM h (fun M18 h => ?_)
            refine r_iload_n (pc := 87) C dX11_most_87 rfl rfl ?_
            exact r_iret (pc := 88) C R0 h dX11_most_88
          · refine r_iconst (pc := 54) (v := (nI 0)) C dX11_most_54 (by decide) ?_
            exact r_iret (pc := 55) C R0 h dX11_most_55
        · refine r_iconst (pc := 45) (v := (-1)) C dX11_most_45 (by decide) ?_
          exact r_iret (pc := 46) C R0 h dX11_most_46
  · refine r_bipush (pc := 7) (v := (-2)) C dX11_most_7 (by decide) ?_
    exact r_iret (pc := 9) C R0 h dX11_most_9
theorem dX11_needed_0 : decode cX11_needed 0 = .ok (.iconst 0, 1) := by decide +kernel
theorem dX11_needed_1 : decode cX11_needed 1 = .ok (.istore_n 2, 1) := by decide +kernel
theorem dX11_needed_2 : decode cX11_needed 2 = .ok (.aload_n 0, 1) := by decide +kernel
theorem dX11_needed_3 : decode cX11_needed 3 = .ok (.getfield 16, 3) := by decide +kernel
theorem dX11_needed_6 : decode cX11_needed 6 = .ok (.bipush 25, 2) := by decide +kernel
theorem dX11_needed_8 : decode cX11_needed 8 = .ok (.lconst 0, 1) := by decide +kernel
theorem dX11_needed_9 : decode cX11_needed 9 = .ok (.lastore, 1) := by decide +kernel
theorem dX11_needed_10 : decode cX11_needed 10 = .ok (.aload_n 0, 1) := by decide +kernel
theorem dX11_needed_11 : decode cX11_needed 11 = .ok (.iload_n 1, 1) := by decide +kernel
theorem dX11_needed_12 : decode cX11_needed 12 = .ok (.invokevirtual 90, 3) := by decide +kernel
theorem dX11_needed_15 : decode cX11_needed 15 = .ok (.aload_n 0, 1) := by decide +kernel
theorem dX11_needed_16 : decode cX11_needed 16 = .ok (.iconst 1, 1) := by decide +kernel
theorem dX11_needed_17 : decode cX11_needed 17 = .ok (.iload_n 1, 1) := by decide +kernel
theorem dX11_needed_18 : decode cX11_needed 18 = .ok (.isub, 1) := by decide +kernel
theorem dX11_needed_19 : decode cX11_needed 19 = .ok (.invokevirtual 90, 3) := by decide +kernel
theorem dX11_needed_22 : decode cX11_needed 22 = .ok (.if_icmp .gt 78, 3) := by decide +kernel
theorem dX11_needed_25 : decode cX11_needed 25 = .ok (.aload_n 0, 1) := by decide +kernel
theorem dX11_needed_26 : decode cX11_needed 26 = .ok (.aload_n 0, 1) := by decide +kernel
theorem dX11_needed_27 : decode cX11_needed 27 = .ok (.bipush 28, 2) := by decide +kernel
theorem dX11_needed_29 : decode cX11_needed 29 = .ok (.invokevirtual 43, 3) := by decide +kernel
theorem dX11_needed_32 : decode cX11_needed 32 = .ok (.invokevirtual 403, 3) := by decide +kernel
theorem dX11_needed_35 : decode cX11_needed 35 = .ok (.iconst (-1), 1) := by decide +kernel
theorem dX11_needed_36 : decode cX11_needed 36 = .ok (.if_icmp .ne 5, 3) := by decide +kernel
theorem dX11_needed_39 : decode cX11_needed 39 = .ok (.iconst (-1), 1) := by decide +kernel
theorem dX11_needed_40 : decode cX11_needed 40 = .ok (.ireturn, 1) := by decide +kernel
theorem dX11_needed_41 : decode cX11_needed 41 = .ok (.aload_n 0, 1) := by decide +kernel
theorem dX11_needed_42 : decode cX11_needed 42 = .ok (.getfield 16, 3) := by decide +kernel
theorem dX11_needed_45 : decode cX11_needed 45 = .ok (.bipush 28, 2) := by decide +kernel
theorem dX11_needed_47 : decode cX11_needed 47 = .ok (.laload, 1) := by decide +kernel
theorem dX11_needed_48 : decode cX11_needed 48 = .ok (.iload_n 1, 1) := by decide +kernel
theorem dX11_needed_49 : decode cX11_needed 49 = .ok (.i2l, 1) := by decide +kernel
theorem dX11_needed_50 : decode cX11_needed 50 = .ok (.lcmp, 1) := by decide +kernel
theorem dX11_needed_51 : decode cX11_needed 51 = .ok (.ifCond .ne 7, 3) := by decide +kernel
theorem dX11_needed_54 : decode cX11_needed 54 = .ok (.iconst 1, 1) := by decide +kernel
theorem dX11_needed_55 : decode cX11_needed 55 = .ok (.goto 4, 3) := by decide +kernel
theorem dX11_needed_58 : decode cX11_needed 58 = .ok (.iconst 0, 1) := by decide +kernel
theorem dX11_needed_59 : decode cX11_needed 59 = .ok (.istore_n 3, 1) := by decide +kernel
theorem dX11_needed_60 : decode cX11_needed 60 = .ok (.iload_n 3, 1) := by decide +kernel
theorem dX11_needed_61 : decode cX11_needed 61 = .ok (.ifCond .eq 11, 3) := by decide +kernel
theorem dX11_needed_64 : decode cX11_needed 64 = .ok (.iload_n 2, 1) := by decide +kernel
theorem dX11_needed_65 : decode cX11_needed 65 = .ok (.bipush 50, 2) := by decide +kernel
theorem dX11_needed_67 : decode cX11_needed 67 = .ok (.if_icmp .ne 5, 3) := by decide +kernel
theorem dX11_needed_70 : decode cX11_needed 70 = .ok (.iconst (-1), 1) := by decide +kernel
theorem dX11_needed_71 : decode cX11_needed 71 = .ok (.ireturn, 1) := by decide +kernel
theorem dX11_needed_72 : decode cX11_needed 72 = .ok (.iload_n 2, 1) := by decide +kernel
theorem dX11_needed_73 : decode cX11_needed 73 = .ok (.iload_n 3, 1) := by decide +kernel
theorem dX11_needed_74 : decode cX11_needed 74 = .ok (.ifCond .eq 7, 3) := by decide +kernel
theorem dX11_needed_77 : decode cX11_needed 77 = .ok (.iconst 1, 1) := by decide +kernel
theorem dX11_needed_78 : decode cX11_needed 78 = .ok (.goto 4, 3) := by decide +kernel
theorem dX11_needed_81 : decode cX11_needed 81 = .ok (.iconst 0, 1) := by decide +kernel
theorem dX11_needed_82 : decode cX11_needed 82 = .ok (.iadd, 1) := by decide +kernel
theorem dX11_needed_83 : decode cX11_needed 83 = .ok (.istore_n 2, 1) := by decide +kernel
theorem dX11_needed_84 : decode cX11_needed 84 = .ok (.aload_n 0, 1) := by decide +kernel
theorem dX11_needed_85 : decode cX11_needed 85 = .ok (.iload_n 3, 1) := by decide +kernel
theorem dX11_needed_86 : decode cX11_needed 86 = .ok (.invokevirtual 406, 3) := by decide +kernel
theorem dX11_needed_89 : decode cX11_needed 89 = .ok (.aload_n 0, 1) := by decide +kernel
theorem dX11_needed_90 : decode cX11_needed 90 = .ok (.getfield 16, 3) := by decide +kernel
theorem dX11_needed_93 : decode cX11_needed 93 = .ok (.bipush 25, 2) := by decide +kernel
theorem dX11_needed_95 : decode cX11_needed 95 = .ok (.lconst 0, 1) := by decide +kernel
theorem dX11_needed_96 : decode cX11_needed 96 = .ok (.lastore, 1) := by decide +kernel
theorem dX11_needed_97 : decode cX11_needed 97 = .ok (.goto (-87), 3) := by decide +kernel
theorem dX11_needed_100 : decode cX11_needed 100 = .ok (.iload_n 2, 1) := by decide +kernel
theorem dX11_needed_101 : decode cX11_needed 101 = .ok (.ireturn, 1) := by decide +kernel
def fX11_needed_l10 (p0 : Nat) (p1 : Int32) (K : Int32 → xMem → Option (Int32 × xMem)) : Nat → Int32 → xMem → Option (Int32 × xMem)
  | 0, _, _ => none
  | n + 1, v2, M => xBn (fX11_scoreOf p0 p1 M) fun r3 M4 => xBn (fX11_scoreOf p0 ((nI 1) - p1) M4) fun r5 M6 => if r5 < r3 then (K v2 M6) else (xBn (fX11_get p0 (nI 28) M6) fun r7 M8 => xBn (fX11_firstOn p0 r7 M8) fun r9 M10 => if r9 = (-1) then (some ((-1), M10)) else (xGb (nI 28) (xln (xnw M10)) (xLt (fun (s12 : Int32) (M13 : xMem) => (xLt (fun  (M14 : xMem) => (xLt (fun (s15 : Int32) (M16 : xMem) => (xLt (v2 + s15) fun x17 => xBv (fX11_greatest p0 s12 M16) fun M18 => xGb (nI 25) (xln (xnw M18)) (xLt (xwL M18 (xnw M18) (Int32.toNatClampNeg (nI 25)) (lN 0)) fun M20 => fX11_needed_l10 p0 p1 K n x17 M20) : Option (Int32 × xMem))) fun J82 => if s12 = 0 then (J82 (nI 0) M14) else (J82 (nI 1) M14) : Option (Int32 × xMem))) fun J72 => if s12 = 0 then (J72  M13) else (if v2 = (nI 50) then (some ((-1), M13)) else (J72  M13)) : Option (Int32 × xMem))) fun J59 => if (lg_cmp (M10.2.1 (xnw M10) (Int32.toNatClampNeg (nI 28))) (Int32.toInt64 p1)) = 0 then (J59 (nI 1) M10) else (J59 (nI 0) M10))))
def fX11_needed (a0 : Nat) (a1 : Int32) (M : xMem) : Option (Int32 × xMem) :=
  xGb (nI 25) (xln (xnw M)) (xLt (xwL M (xnw M) (Int32.toNatClampNeg (nI 25)) (lN 0)) fun M2 => fX11_needed_l10 a0 a1 (fun (v21 : Int32) (M22 : xMem) => some (v21, M22)) xFU (nI 0) M2)
set_option maxRecDepth 100000 in
set_option maxHeartbeats 4000000 in
theorem lX11_needed_10 {X : xCX} {r : Int32} {M' : xMem} (C : xCk X cX11_needed RX11 7) (R0 : xRk X (some .int) (some (.int r), M')) (hnL : X.2.2.2.2.2.2.2.2.2.2.2.2.2 = 4) (p0 : Nat) (hp0 : xkd p0 = 11) (p1 : Int32) (K : Int32 → xMem → Option (Int32 × xMem)) (hK : ∀ (v2 : Int32) (M : xMem), K v2 M = some (r, M') → WW X 100 [some (vr X.1 p0), some (.int p1), some (.int v2), none] [] M) : ∀ (n : Nat) (v2 : Int32) (M : xMem), fX11_needed_l10 p0 p1 K n v2 M = some (r, M') → WW X 10 [some (vr X.1 p0), some (.int p1), some (.int v2), none] [] M := by
  have hn2 : 2 < X.2.2.2.2.2.2.2.2.2.2.2.2.2 := by rw [hnL]; decide
  have hn3 : 3 < X.2.2.2.2.2.2.2.2.2.2.2.2.2 := by rw [hnL]; decide
  intro n
  induction n with
  | zero =>
    intro v2 M h
    cases (show (none : Option (Int32 × xMem)) = some (r, M') from h)
  | succ n ih =>
    intro v2 M h
    rw [fX11_needed_l10.eq_2] at h
    refine r_aload_n (pc := 10) C dX11_needed_10 rfl rfl ?_
    refine r_iload_n (pc := 11) C dX11_needed_11 rfl rfl ?_
    refine r_vI1 (pc := 12) C (fun r M' e => zX11_scoreOf X.1 p0 hp0 p1 M r M' e) hp0 (by decide) rfl mX11_scoreOf lX11_90 (by decide) (Nat.le_of_ble_eq_true rfl) dX11_needed_12 h (fun r3 M4 h => ?_)
    refine r_aload_n (pc := 15) C dX11_needed_15 rfl rfl ?_
    refine r_iconst (pc := 16) (v := (nI 1)) C dX11_needed_16 (by decide) ?_
    refine r_iload_n (pc := 17) C dX11_needed_17 rfl rfl ?_
    refine r_isub (pc := 18) C dX11_needed_18 ?_
    refine r_vI1 (pc := 19) C (fun r M' e => zX11_scoreOf X.1 p0 hp0 ((nI 1) - p1) M4 r M' e) hp0 (by decide) rfl mX11_scoreOf lX11_90 (by decide) (Nat.le_of_ble_eq_true rfl) dX11_needed_19 h (fun r5 M6 h => ?_)
    refine r_icmp_gt (pc := 22) (tgt := 100) C dX11_needed_22 (by decide) h (fun _ h => ?_) (fun _ h => ?_)
    · exact hK v2 M6 h
    · refine r_aload_n (pc := 25) C dX11_needed_25 rfl rfl ?_
      refine r_aload_n (pc := 26) C dX11_needed_26 rfl rfl ?_
      refine r_bipush (pc := 27) (v := (nI 28)) C dX11_needed_27 (by decide) ?_
      refine r_vI1 (pc := 29) C (fun r M' e => zX11_get X.1 p0 hp0 (nI 28) M6 r M' e) hp0 (by decide) rfl mX11_get lX11_43 (by decide) (Nat.le_of_ble_eq_true rfl) dX11_needed_29 h (fun r7 M8 h => ?_)
      refine r_vI1 (pc := 32) C (fun r M' e => zX11_firstOn X.1 p0 hp0 r7 M8 r M' e) hp0 (by decide) rfl mX11_firstOn lX11_403 (by decide) (Nat.le_of_ble_eq_true rfl) dX11_needed_32 h (fun r9 M10 h => ?_)
      refine r_iconst (pc := 35) (v := (-1)) C dX11_needed_35 (by decide) ?_
      refine r_icmp_ne (pc := 36) (tgt := 41) C dX11_needed_36 (by decide) h (fun _ h => ?_) (fun _ h => ?_)
      · refine r_aload_n (pc := 41) C dX11_needed_41 rfl rfl ?_
        refine r_getW (pc := 42) C kX11_16 hp0 dX11_needed_42 ?_
        refine r_bipush (pc := 45) (v := (nI 28)) C dX11_needed_45 (by decide) ?_
        obtain ⟨g11, h⟩ := xGb_of h
        refine r_lald (pc := 47) C (xknw M10) g11 dX11_needed_47 ?_
        refine r_iload_n (pc := 48) C dX11_needed_48 rfl rfl ?_
        refine r_i2l (pc := 49) C dX11_needed_49 ?_
        refine r_lcmp (pc := 50) C dX11_needed_50 ?_
        refine r_jn (fun J => ∀ (s12 : Int32) (M13 : xMem) , J s12 M13 = some (r, M') → WW X 59 [some (vr X.1 p0), some (.int p1), some (.int v2), none] [.int s12] M13) h (fun s12 M13  h => ?_) (fun J59 hJ59 h => ?_)
        · refine r_istore_n (pc := 59) (lv' := [_, _, _, _]) C dX11_needed_59 rfl hn3 rfl ?_
          refine r_iload_n (pc := 60) C dX11_needed_60 rfl rfl ?_
          refine r_jn (fun J => ∀  (M14 : xMem) , J  M14 = some (r, M') → WW X 72 [some (vr X.1 p0), some (.int p1), some (.int v2), some (.int s12)] [] M14) h (fun  M14  h => ?_) (fun J72 hJ72 h => ?_)
          · refine r_iload_n (pc := 72) C dX11_needed_72 rfl rfl ?_
            refine r_iload_n (pc := 73) C dX11_needed_73 rfl rfl ?_
            refine r_jn (fun J => ∀ (s15 : Int32) (M16 : xMem) , J s15 M16 = some (r, M') → WW X 82 [some (vr X.1 p0), some (.int p1), some (.int v2), some (.int s12)] [.int s15, .int v2] M16) h (fun s15 M16  h => ?_) (fun J82 hJ82 h => ?_)
            · refine r_iadd (pc := 82) C dX11_needed_82 ?_
              refine r_letI h (fun x17 h => ?_)
              refine r_istore_n (pc := 83) (lv' := [_, _, _, _]) C dX11_needed_83 rfl hn2 rfl ?_
              refine r_aload_n (pc := 84) C dX11_needed_84 rfl rfl ?_
              refine r_iload_n (pc := 85) C dX11_needed_85 rfl rfl ?_
              refine r_vV1 (pc := 86) C (fun M' e => zX11_greatest X.1 p0 hp0 s12 M16 M' e) hp0 (by decide) rfl mX11_greatest lX11_406 (by decide) (Nat.le_of_ble_eq_true rfl) dX11_needed_86 h (fun M18 h => ?_)
              refine r_aload_n (pc := 89) C dX11_needed_89 rfl rfl ?_
              refine r_getW (pc := 90) C kX11_16 hp0 dX11_needed_90 ?_
              refine r_bipush (pc := 93) (v := (nI 25)) C dX11_needed_93 (by decide) ?_
              refine r_lconst (pc := 95) (v := lN 0) C dX11_needed_95 rfl ?_
              obtain ⟨g19, h⟩ := xGb_of h
              refine r_last (pc := 96) C (xknw M18) g19 dX11_needed_96 ?_
              refine r_letM h (fun M20 h => ?_)
              refine r_goto (pc := 97) (tgt := 10) C dX11_needed_97 (by decide) ?_
              exact r_lv (xle_at (xle_some rfl (xle_some rfl (xle_some rfl (xle_none xle_nil))))) (ih x17 M20 h)
            refine r_if_eq (pc := 74) (tgt := 81) C dX11_needed_74 (by decide) h (fun _ h => ?_) (fun _ h => ?_)
            · refine r_iconst (pc := 81) (v := (nI 0)) C dX11_needed_81 (by decide) ?_
              exact hJ82 (nI 0) M14  h
            · refine r_iconst (pc := 77) (v := (nI 1)) C dX11_needed_77 (by decide) ?_
              refine r_goto (pc := 78) (tgt := 82) C dX11_needed_78 (by decide) ?_
              exact hJ82 (nI 1) M14  h
          refine r_if_eq (pc := 61) (tgt := 72) C dX11_needed_61 (by decide) h (fun _ h => ?_) (fun _ h => ?_)
          · exact hJ72  M13  h
          · refine r_iload_n (pc := 64) C dX11_needed_64 rfl rfl ?_
            refine r_bipush (pc := 65) (v := (nI 50)) C dX11_needed_65 (by decide) ?_
            refine r_icmp_ne (pc := 67) (tgt := 72) C dX11_needed_67 (by decide) h (fun _ h => ?_) (fun _ h => ?_)
            · exact hJ72  M13  h
            · refine r_iconst (pc := 70) (v := (-1)) C dX11_needed_70 (by decide) ?_
              exact r_iret (pc := 71) C R0 h dX11_needed_71
        refine r_if_ne (pc := 51) (tgt := 58) C dX11_needed_51 (by decide) h (fun _ h => ?_) (fun _ h => ?_)
        · refine r_iconst (pc := 58) (v := (nI 0)) C dX11_needed_58 (by decide) ?_
          exact hJ59 (nI 0) M10  h
        · refine r_iconst (pc := 54) (v := (nI 1)) C dX11_needed_54 (by decide) ?_
          refine r_goto (pc := 55) (tgt := 59) C dX11_needed_55 (by decide) ?_
          exact hJ59 (nI 1) M10  h
      · refine r_iconst (pc := 39) (v := (-1)) C dX11_needed_39 (by decide) ?_
        exact r_iret (pc := 40) C R0 h dX11_needed_40
set_option maxRecDepth 100000 in
set_option maxHeartbeats 4000000 in
theorem zX11_needed (G : xGX) (a0 : Nat) (h0 : xkd a0 = 11) (a1 : Int32) (M : xMem) (r : Int32) (M' : xMem) (h : fX11_needed a0 a1 M = some (r, M')) : xCt G yX11_needed cX11_needed 4 (some .int) 7 [vr G a0, .int a1] M (some (.int r), M') := by
  refine xMet (lv := [some (vr G a0), some (.int a1), none, none]) (by decide) (Nat.le_of_ble_eq_true rfl) rfl ?_
  intro X hG hnL C R0
  subst hG
  have C : xCk X cX11_needed RX11 7 := C
  have hn2 : 2 < X.2.2.2.2.2.2.2.2.2.2.2.2.2 := by rw [hnL]; decide
  have hn3 : 3 < X.2.2.2.2.2.2.2.2.2.2.2.2.2 := by rw [hnL]; decide
  unfold fX11_needed at h
  refine r_iconst (pc := 0) (v := (nI 0)) C dX11_needed_0 (by decide) ?_
  refine r_istore_n (pc := 1) (lv' := [_, _, _, _]) C dX11_needed_1 rfl hn2 rfl ?_
  refine r_aload_n (pc := 2) C dX11_needed_2 rfl rfl ?_
  refine r_getW (pc := 3) C kX11_16 h0 dX11_needed_3 ?_
  refine r_bipush (pc := 6) (v := (nI 25)) C dX11_needed_6 (by decide) ?_
  refine r_lconst (pc := 8) (v := lN 0) C dX11_needed_8 rfl ?_
  obtain ⟨g1, h⟩ := xGb_of h
  refine r_last (pc := 9) C (xknw M) g1 dX11_needed_9 ?_
  refine r_letM h (fun M2 h => ?_)
  refine lX11_needed_10 C R0 hnL a0 h0 a1 _ (fun v21 M22 h => ?_) _ _ _ h
  refine r_iload_n (pc := 100) C dX11_needed_100 rfl rfl ?_
  exact r_iret (pc := 101) C R0 h dX11_needed_101
theorem dX11_needs_0 : decode cX11_needs 0 = .ok (.aload_n 0, 1) := by decide +kernel
theorem dX11_needs_1 : decode cX11_needs 1 = .ok (.iload_n 1, 1) := by decide +kernel
theorem dX11_needs_2 : decode cX11_needs 2 = .ok (.invokevirtual 55, 3) := by decide +kernel
theorem dX11_needs_5 : decode cX11_needs 5 = .ok (.ifCond .ne 6, 3) := by decide +kernel
theorem dX11_needs_8 : decode cX11_needs 8 = .ok (.bipush (-2), 2) := by decide +kernel
theorem dX11_needs_10 : decode cX11_needs 10 = .ok (.ireturn, 1) := by decide +kernel
theorem dX11_needs_11 : decode cX11_needs 11 = .ok (.aload_n 0, 1) := by decide +kernel
theorem dX11_needs_12 : decode cX11_needs 12 = .ok (.iload_n 1, 1) := by decide +kernel
theorem dX11_needs_13 : decode cX11_needs 13 = .ok (.invokevirtual 90, 3) := by decide +kernel
theorem dX11_needs_16 : decode cX11_needs 16 = .ok (.aload_n 0, 1) := by decide +kernel
theorem dX11_needs_17 : decode cX11_needs 17 = .ok (.iconst 1, 1) := by decide +kernel
theorem dX11_needs_18 : decode cX11_needs 18 = .ok (.iload_n 1, 1) := by decide +kernel
theorem dX11_needs_19 : decode cX11_needs 19 = .ok (.isub, 1) := by decide +kernel
theorem dX11_needs_20 : decode cX11_needs 20 = .ok (.invokevirtual 90, 3) := by decide +kernel
theorem dX11_needs_23 : decode cX11_needs 23 = .ok (.if_icmp .le 5, 3) := by decide +kernel
theorem dX11_needs_26 : decode cX11_needs 26 = .ok (.iconst 0, 1) := by decide +kernel
theorem dX11_needs_27 : decode cX11_needs 27 = .ok (.ireturn, 1) := by decide +kernel
theorem dX11_needs_28 : decode cX11_needs 28 = .ok (.aload_n 0, 1) := by decide +kernel
theorem dX11_needs_29 : decode cX11_needs 29 = .ok (.invokevirtual 134, 3) := by decide +kernel
theorem dX11_needs_32 : decode cX11_needs 32 = .ok (.ifCond .eq 5, 3) := by decide +kernel
theorem dX11_needs_35 : decode cX11_needs 35 = .ok (.iconst (-1), 1) := by decide +kernel
theorem dX11_needs_36 : decode cX11_needs 36 = .ok (.ireturn, 1) := by decide +kernel
theorem dX11_needs_37 : decode cX11_needs 37 = .ok (.aload_n 0, 1) := by decide +kernel
theorem dX11_needs_38 : decode cX11_needs 38 = .ok (.invokevirtual 400, 3) := by decide +kernel
theorem dX11_needs_41 : decode cX11_needs 41 = .ok (.aload_n 0, 1) := by decide +kernel
theorem dX11_needs_42 : decode cX11_needs 42 = .ok (.iload_n 1, 1) := by decide +kernel
theorem dX11_needs_43 : decode cX11_needs 43 = .ok (.invokevirtual 409, 3) := by decide +kernel
theorem dX11_needs_46 : decode cX11_needs 46 = .ok (.istore_n 2, 1) := by decide +kernel
theorem dX11_needs_47 : decode cX11_needs 47 = .ok (.aload_n 0, 1) := by decide +kernel
theorem dX11_needs_48 : decode cX11_needs 48 = .ok (.aload_n 0, 1) := by decide +kernel
theorem dX11_needs_49 : decode cX11_needs 49 = .ok (.getfield 9, 3) := by decide +kernel
theorem dX11_needs_52 : decode cX11_needs 52 = .ok (.putfield 16, 3) := by decide +kernel
theorem dX11_needs_55 : decode cX11_needs 55 = .ok (.iload_n 2, 1) := by decide +kernel
theorem dX11_needs_56 : decode cX11_needs 56 = .ok (.ireturn, 1) := by decide +kernel
def fX11_needs (a0 : Nat) (a1 : Int32) (M : xMem) : Option (Int32 × xMem) :=
  xBn (fX11_isTeam a0 a1 M) fun r1 M2 => if r1 = 0 then (some ((-2), M2)) else (xBn (fX11_scoreOf a0 a1 M2) fun r3 M4 => xBn (fX11_scoreOf a0 ((nI 1) - a1) M4) fun r5 M6 => if r3 ≤ r5 then (xBn (fX11_isOver a0 M6) fun r7 M8 => if r7 = 0 then (xBv (fX11_copies a0 M8) fun M9 => xBn (fX11_needed a0 a1 M9) fun r10 M11 => xLt (xwW M11 false) fun M12 => some (r10, M12)) else (some ((-1), M8))) else (some ((nI 0), M6)))
set_option maxRecDepth 100000 in
set_option maxHeartbeats 4000000 in
theorem zX11_needs (G : xGX) (a0 : Nat) (h0 : xkd a0 = 11) (a1 : Int32) (M : xMem) (r : Int32) (M' : xMem) (h : fX11_needs a0 a1 M = some (r, M')) : xCt G yX11_needs cX11_needs 3 (some .int) 8 [vr G a0, .int a1] M (some (.int r), M') := by
  refine xMet (lv := [some (vr G a0), some (.int a1), none]) (by decide) (Nat.le_of_ble_eq_true rfl) rfl ?_
  intro X hG hnL C R0
  subst hG
  have C : xCk X cX11_needs RX11 8 := C
  have hn2 : 2 < X.2.2.2.2.2.2.2.2.2.2.2.2.2 := by rw [hnL]; decide
  unfold fX11_needs at h
  refine r_aload_n (pc := 0) C dX11_needs_0 rfl rfl ?_
  refine r_iload_n (pc := 1) C dX11_needs_1 rfl rfl ?_
  refine r_vI1 (pc := 2) C (fun r M' e => zX11_isTeam X.1 a0 h0 a1 M r M' e) h0 (by decide) rfl mX11_isTeam lX11_55 (by decide) (Nat.le_of_ble_eq_true rfl) dX11_needs_2 h (fun r1 M2 h => ?_)
  refine r_if_ne (pc := 5) (tgt := 11) C dX11_needs_5 (by decide) h (fun _ h => ?_) (fun _ h => ?_)
  · refine r_aload_n (pc := 11) C dX11_needs_11 rfl rfl ?_
    refine r_iload_n (pc := 12) C dX11_needs_12 rfl rfl ?_
    refine r_vI1 (pc := 13) C (fun r M' e => zX11_scoreOf X.1 a0 h0 a1 M2 r M' e) h0 (by decide) rfl mX11_scoreOf lX11_90 (by decide) (Nat.le_of_ble_eq_true rfl) dX11_needs_13 h (fun r3 M4 h => ?_)
    refine r_aload_n (pc := 16) C dX11_needs_16 rfl rfl ?_
    refine r_iconst (pc := 17) (v := (nI 1)) C dX11_needs_17 (by decide) ?_
    refine r_iload_n (pc := 18) C dX11_needs_18 rfl rfl ?_
    refine r_isub (pc := 19) C dX11_needs_19 ?_
    refine r_vI1 (pc := 20) C (fun r M' e => zX11_scoreOf X.1 a0 h0 ((nI 1) - a1) M4 r M' e) h0 (by decide) rfl mX11_scoreOf lX11_90 (by decide) (Nat.le_of_ble_eq_true rfl) dX11_needs_20 h (fun r5 M6 h => ?_)
    refine r_icmp_le (pc := 23) (tgt := 28) C dX11_needs_23 (by decide) h (fun _ h => ?_) (fun _ h => ?_)
    · refine r_aload_n (pc := 28) C dX11_needs_28 rfl rfl ?_
      refine r_vI0 (pc := 29) C (fun r M' e => zX11_isOver X.1 a0 h0 M6 r M' e) h0 (by decide) rfl mX11_isOver lX11_134 (by decide) (Nat.le_of_ble_eq_true rfl) dX11_needs_29 h (fun r7 M8 h => ?_)
      refine r_if_eq (pc := 32) (tgt := 37) C dX11_needs_32 (by decide) h (fun _ h => ?_) (fun _ h => ?_)
      · refine r_aload_n (pc := 37) C dX11_needs_37 rfl rfl ?_
        refine r_vV0 (pc := 38) C (fun M' e => zX11_copies X.1 a0 h0 M8 M' e) h0 (by decide) rfl mX11_copies lX11_400 (by decide) (Nat.le_of_ble_eq_true rfl) dX11_needs_38 h (fun M9 h => ?_)
        refine r_aload_n (pc := 41) C dX11_needs_41 rfl rfl ?_
        refine r_iload_n (pc := 42) C dX11_needs_42 rfl rfl ?_
        refine r_vI1 (pc := 43) C (fun r M' e => zX11_needed X.1 a0 h0 a1 M9 r M' e) h0 (by decide) rfl mX11_needed lX11_409 (by decide) (Nat.le_of_ble_eq_true rfl) dX11_needs_43 h (fun r10 M11 h => ?_)
        refine r_istore_n (pc := 46) (lv' := [_, _, _]) C dX11_needs_46 rfl hn2 rfl ?_
        refine r_aload_n (pc := 47) C dX11_needs_47 rfl rfl ?_
        refine r_aload_n (pc := 48) C dX11_needs_48 rfl rfl ?_
        refine r_getR (pc := 49) C kX11_9 h0 (by decide) dX11_needs_49 ?_
        refine r_putW_told (pc := 52) C kX11_16 h0 (fun _ => rfl) (fun _ => rfl) dX11_needs_52 ?_
        refine r_letM h (fun M12 h => ?_)
        refine r_iload_n (pc := 55) C dX11_needs_55 rfl rfl ?_
        exact r_iret (pc := 56) C R0 h dX11_needs_56
      · refine r_iconst (pc := 35) (v := (-1)) C dX11_needs_35 (by decide) ?_
        exact r_iret (pc := 36) C R0 h dX11_needs_36
    · refine r_iconst (pc := 26) (v := (nI 0)) C dX11_needs_26 (by decide) ?_
      exact r_iret (pc := 27) C R0 h dX11_needs_27
  · refine r_bipush (pc := 8) (v := (-2)) C dX11_needs_8 (by decide) ?_
    exact r_iret (pc := 10) C R0 h dX11_needs_10
theorem dX11_mayLine_0 : decode cX11_mayLine 0 = .ok (.aload_n 0, 1) := by decide +kernel
theorem dX11_mayLine_1 : decode cX11_mayLine 1 = .ok (.invokevirtual 134, 3) := by decide +kernel
theorem dX11_mayLine_4 : decode cX11_mayLine 4 = .ok (.ifCond .ne 21, 3) := by decide +kernel
theorem dX11_mayLine_7 : decode cX11_mayLine 7 = .ok (.aload_n 0, 1) := by decide +kernel
theorem dX11_mayLine_8 : decode cX11_mayLine 8 = .ok (.getfield 16, 3) := by decide +kernel
theorem dX11_mayLine_11 : decode cX11_mayLine 11 = .ok (.bipush 26, 2) := by decide +kernel
theorem dX11_mayLine_13 : decode cX11_mayLine 13 = .ok (.laload, 1) := by decide +kernel
theorem dX11_mayLine_14 : decode cX11_mayLine 14 = .ok (.ldc2_w 137, 3) := by decide +kernel
theorem dX11_mayLine_17 : decode cX11_mayLine 17 = .ok (.lcmp, 1) := by decide +kernel
theorem dX11_mayLine_18 : decode cX11_mayLine 18 = .ok (.ifCond .ge 7, 3) := by decide +kernel
theorem dX11_mayLine_21 : decode cX11_mayLine 21 = .ok (.iconst 1, 1) := by decide +kernel
theorem dX11_mayLine_22 : decode cX11_mayLine 22 = .ok (.goto 4, 3) := by decide +kernel
theorem dX11_mayLine_25 : decode cX11_mayLine 25 = .ok (.iconst 0, 1) := by decide +kernel
theorem dX11_mayLine_26 : decode cX11_mayLine 26 = .ok (.ireturn, 1) := by decide +kernel
def fX11_mayLine (a0 : Nat) (M : xMem) : Option (Int32 × xMem) :=
  xBn (fX11_isOver a0 M) fun r1 M2 => if r1 = 0 then (xGb (nI 26) (xln (xnw M2)) (if 0 ≤ (lg_cmp (M2.2.1 (xnw M2) (Int32.toNatClampNeg (nI 26))) (lN 40)) then (some ((nI 0), M2)) else (some ((nI 1), M2)))) else (some ((nI 0), M2))
set_option maxRecDepth 100000 in
set_option maxHeartbeats 4000000 in
theorem zX11_mayLine (G : xGX) (a0 : Nat) (h0 : xkd a0 = 11) (M : xMem) (r : Int32) (M' : xMem) (h : fX11_mayLine a0 M = some (r, M')) : xCt G yX11_mayLine cX11_mayLine 1 (some .boolean) 2 [vr G a0] M (some (.int r), M') := by
  refine xMet (lv := [some (vr G a0)]) (by decide) (Nat.le_of_ble_eq_true rfl) rfl ?_
  intro X hG hnL C R0
  subst hG
  have C : xCk X cX11_mayLine RX11 2 := C
  unfold fX11_mayLine at h
  refine r_aload_n (pc := 0) C dX11_mayLine_0 rfl rfl ?_
  refine r_vI0 (pc := 1) C (fun r M' e => zX11_isOver X.1 a0 h0 M r M' e) h0 (by decide) rfl mX11_isOver lX11_134 (by decide) (Nat.le_of_ble_eq_true rfl) dX11_mayLine_1 h (fun r1 M2 h => ?_)
  refine r_if_ne (pc := 4) (tgt := 25) C dX11_mayLine_4 (by decide) h (fun _ h => ?_) (fun _ h => ?_)
  · refine r_iconst (pc := 25) (v := (nI 0)) C dX11_mayLine_25 (by decide) ?_
    exact r_zret (pc := 26) (Or.inl (by decide)) C R0 h dX11_mayLine_26
  · refine r_aload_n (pc := 7) C dX11_mayLine_7 rfl rfl ?_
    refine r_getW (pc := 8) C kX11_16 h0 dX11_mayLine_8 ?_
    refine r_bipush (pc := 11) (v := (nI 26)) C dX11_mayLine_11 (by decide) ?_
    obtain ⟨g3, h⟩ := xGb_of h
    refine r_lald (pc := 13) C (xknw M2) g3 dX11_mayLine_13 ?_
    refine r_ldc2 (pc := 14) C nX11_137 dX11_mayLine_14 ?_
    refine r_lcmp (pc := 17) C dX11_mayLine_17 ?_
    refine r_if_ge (pc := 18) (tgt := 25) C dX11_mayLine_18 (by decide) h (fun _ h => ?_) (fun _ h => ?_)
    · refine r_iconst (pc := 25) (v := (nI 0)) C dX11_mayLine_25 (by decide) ?_
      exact r_zret (pc := 26) (Or.inl (by decide)) C R0 h dX11_mayLine_26
    · refine r_iconst (pc := 21) (v := (nI 1)) C dX11_mayLine_21 (by decide) ?_
      refine r_goto (pc := 22) (tgt := 26) C dX11_mayLine_22 (by decide) ?_
      exact r_zret (pc := 26) (Or.inr (by decide)) C R0 h dX11_mayLine_26
theorem dX11_card_0 : decode cX11_card 0 = .ok (.aload_n 0, 1) := by decide +kernel
theorem dX11_card_1 : decode cX11_card 1 = .ok (.iload_n 1, 1) := by decide +kernel
theorem dX11_card_2 : decode cX11_card 2 = .ok (.iload_n 2, 1) := by decide +kernel
theorem dX11_card_3 : decode cX11_card 3 = .ok (.invokevirtual 344, 3) := by decide +kernel
theorem dX11_card_6 : decode cX11_card 6 = .ok (.ifCond .eq 15, 3) := by decide +kernel
theorem dX11_card_9 : decode cX11_card 9 = .ok (.iload_n 3, 1) := by decide +kernel
theorem dX11_card_10 : decode cX11_card 10 = .ok (.i2l, 1) := by decide +kernel
theorem dX11_card_11 : decode cX11_card 11 = .ok (.lconst 0, 1) := by decide +kernel
theorem dX11_card_12 : decode cX11_card 12 = .ok (.ldc2_w 66, 3) := by decide +kernel
theorem dX11_card_15 : decode cX11_card 15 = .ok (.invokestatic 51, 3) := by decide +kernel
theorem dX11_card_18 : decode cX11_card 18 = .ok (.ifCond .ne 6, 3) := by decide +kernel
theorem dX11_card_21 : decode cX11_card 21 = .ok (.bipush (-2), 2) := by decide +kernel
theorem dX11_card_23 : decode cX11_card 23 = .ok (.ireturn, 1) := by decide +kernel
theorem dX11_card_24 : decode cX11_card 24 = .ok (.aload_n 0, 1) := by decide +kernel
theorem dX11_card_25 : decode cX11_card 25 = .ok (.invokevirtual 412, 3) := by decide +kernel
theorem dX11_card_28 : decode cX11_card 28 = .ok (.ifCond .eq 13, 3) := by decide +kernel
theorem dX11_card_31 : decode cX11_card 31 = .ok (.aload_n 0, 1) := by decide +kernel
theorem dX11_card_32 : decode cX11_card 32 = .ok (.iload_n 1, 1) := by decide +kernel
theorem dX11_card_33 : decode cX11_card 33 = .ok (.iload_n 2, 1) := by decide +kernel
theorem dX11_card_34 : decode cX11_card 34 = .ok (.iload_n 3, 1) := by decide +kernel
theorem dX11_card_35 : decode cX11_card 35 = .ok (.invokevirtual 415, 3) := by decide +kernel
theorem dX11_card_38 : decode cX11_card 38 = .ok (.ifCond .ne 6, 3) := by decide +kernel
theorem dX11_card_41 : decode cX11_card 41 = .ok (.bipush (-6), 2) := by decide +kernel
theorem dX11_card_43 : decode cX11_card 43 = .ok (.ireturn, 1) := by decide +kernel
theorem dX11_card_44 : decode cX11_card 44 = .ok (.aload_n 0, 1) := by decide +kernel
theorem dX11_card_45 : decode cX11_card 45 = .ok (.invokevirtual 335, 3) := by decide +kernel
theorem dX11_card_48 : decode cX11_card 48 = .ok (.aload_n 0, 1) := by decide +kernel
theorem dX11_card_49 : decode cX11_card 49 = .ok (.iload_n 1, 1) := by decide +kernel
theorem dX11_card_50 : decode cX11_card 50 = .ok (.iload_n 2, 1) := by decide +kernel
theorem dX11_card_51 : decode cX11_card 51 = .ok (.iload_n 3, 1) := by decide +kernel
theorem dX11_card_52 : decode cX11_card 52 = .ok (.invokevirtual 293, 3) := by decide +kernel
theorem dX11_card_55 : decode cX11_card 55 = .ok (.aload_n 0, 1) := by decide +kernel
theorem dX11_card_56 : decode cX11_card 56 = .ok (.iload_n 1, 1) := by decide +kernel
theorem dX11_card_57 : decode cX11_card 57 = .ok (.iload_n 2, 1) := by decide +kernel
theorem dX11_card_58 : decode cX11_card 58 = .ok (.invokevirtual 62, 3) := by decide +kernel
theorem dX11_card_61 : decode cX11_card 61 = .ok (.ireturn, 1) := by decide +kernel
def fX11_card (a0 : Nat) (a1 : Int32) (a2 : Int32) (a3 : Int32) (M : xMem) : Option (Int32 × xMem) :=
  xBn (fX11_isOne a0 a1 a2 M) fun r1 M2 => if r1 = 0 then (some ((-2), M2)) else (xBn (fX11_in (Int32.toInt64 a3) (lN 0) (lN 2) M2) fun r3 M4 => if r3 = 0 then (some ((-2), M4)) else (xBn (fX11_mayLine a0 M4) fun r5 M6 => if r5 = 0 then (some ((-6), M6)) else (xBn (fX11_canCard a0 a1 a2 a3 M6) fun r7 M8 => if r7 = 0 then (some ((-6), M8)) else (xBv (fX11_keeps a0 M8) fun M9 => xBv (fX11_cards a0 a1 a2 a3 M9) fun M10 => xBn (fX11_isOf a0 a1 a2 M10) fun r11 M12 => some (r11, M12)))))
set_option maxRecDepth 100000 in
set_option maxHeartbeats 4000000 in
theorem zX11_card (G : xGX) (a0 : Nat) (h0 : xkd a0 = 11) (a1 : Int32) (a2 : Int32) (a3 : Int32) (M : xMem) (r : Int32) (M' : xMem) (h : fX11_card a0 a1 a2 a3 M = some (r, M')) : xCt G yX11_card cX11_card 4 (some .int) 6 [vr G a0, .int a1, .int a2, .int a3] M (some (.int r), M') := by
  refine xMet (lv := [some (vr G a0), some (.int a1), some (.int a2), some (.int a3)]) (by decide) (Nat.le_of_ble_eq_true rfl) rfl ?_
  intro X hG hnL C R0
  subst hG
  have C : xCk X cX11_card RX11 6 := C
  unfold fX11_card at h
  refine r_aload_n (pc := 0) C dX11_card_0 rfl rfl ?_
  refine r_iload_n (pc := 1) C dX11_card_1 rfl rfl ?_
  refine r_iload_n (pc := 2) C dX11_card_2 rfl rfl ?_
  refine r_vI2 (pc := 3) C (fun r M' e => zX11_isOne X.1 a0 h0 a1 a2 M r M' e) h0 (by decide) rfl mX11_isOne lX11_344 (by decide) (Nat.le_of_ble_eq_true rfl) dX11_card_3 h (fun r1 M2 h => ?_)
  refine r_if_eq (pc := 6) (tgt := 21) C dX11_card_6 (by decide) h (fun _ h => ?_) (fun _ h => ?_)
  · refine r_bipush (pc := 21) (v := (-2)) C dX11_card_21 (by decide) ?_
    exact r_iret (pc := 23) C R0 h dX11_card_23
  · refine r_iload_n (pc := 9) C dX11_card_9 rfl rfl ?_
    refine r_i2l (pc := 10) C dX11_card_10 ?_
    refine r_lconst (pc := 11) (v := lN 0) C dX11_card_11 rfl ?_
    refine r_ldc2 (pc := 12) C nX11_66 dX11_card_12 ?_
    refine r_sI3 (pc := 15) C (fun r M' e => zX11_in X.1 (Int32.toInt64 a3) (lN 0) (lN 2) M2 r M' e) mX11_in lX11_51 (by decide) (Nat.le_of_ble_eq_true rfl) dX11_card_15 h (fun r3 M4 h => ?_)
    refine r_if_ne (pc := 18) (tgt := 24) C dX11_card_18 (by decide) h (fun _ h => ?_) (fun _ h => ?_)
    · refine r_aload_n (pc := 24) C dX11_card_24 rfl rfl ?_
      refine r_vI0 (pc := 25) C (fun r M' e => zX11_mayLine X.1 a0 h0 M4 r M' e) h0 (by decide) rfl mX11_mayLine lX11_412 (by decide) (Nat.le_of_ble_eq_true rfl) dX11_card_25 h (fun r5 M6 h => ?_)
      refine r_if_eq (pc := 28) (tgt := 41) C dX11_card_28 (by decide) h (fun _ h => ?_) (fun _ h => ?_)
      · refine r_bipush (pc := 41) (v := (-6)) C dX11_card_41 (by decide) ?_
        exact r_iret (pc := 43) C R0 h dX11_card_43
      · refine r_aload_n (pc := 31) C dX11_card_31 rfl rfl ?_
        refine r_iload_n (pc := 32) C dX11_card_32 rfl rfl ?_
        refine r_iload_n (pc := 33) C dX11_card_33 rfl rfl ?_
        refine r_iload_n (pc := 34) C dX11_card_34 rfl rfl ?_
        refine r_vI3 (pc := 35) C (fun r M' e => zX11_canCard X.1 a0 h0 a1 a2 a3 M6 r M' e) h0 (by decide) rfl mX11_canCard lX11_415 (by decide) (Nat.le_of_ble_eq_true rfl) dX11_card_35 h (fun r7 M8 h => ?_)
        refine r_if_ne (pc := 38) (tgt := 44) C dX11_card_38 (by decide) h (fun _ h => ?_) (fun _ h => ?_)
        · refine r_aload_n (pc := 44) C dX11_card_44 rfl rfl ?_
          refine r_vV0 (pc := 45) C (fun M' e => zX11_keeps X.1 a0 h0 M8 M' e) h0 (by decide) rfl mX11_keeps lX11_335 (by decide) (Nat.le_of_ble_eq_true rfl) dX11_card_45 h (fun M9 h => ?_)
          refine r_aload_n (pc := 48) C dX11_card_48 rfl rfl ?_
          refine r_iload_n (pc := 49) C dX11_card_49 rfl rfl ?_
          refine r_iload_n (pc := 50) C dX11_card_50 rfl rfl ?_
          refine r_iload_n (pc := 51) C dX11_card_51 rfl rfl ?_
          refine r_vV3 (pc := 52) C (fun M' e => zX11_cards X.1 a0 h0 a1 a2 a3 M9 M' e) h0 (by decide) rfl mX11_cards lX11_293 (by decide) (Nat.le_of_ble_eq_true rfl) dX11_card_52 h (fun M10 h => ?_)
          refine r_aload_n (pc := 55) C dX11_card_55 rfl rfl ?_
          refine r_iload_n (pc := 56) C dX11_card_56 rfl rfl ?_
          refine r_iload_n (pc := 57) C dX11_card_57 rfl rfl ?_
          refine r_vI2 (pc := 58) C (fun r M' e => zX11_isOf X.1 a0 h0 a1 a2 M10 r M' e) h0 (by decide) rfl mX11_isOf lX11_62 (by decide) (Nat.le_of_ble_eq_true rfl) dX11_card_58 h (fun r11 M12 h => ?_)
          exact r_iret (pc := 61) C R0 h dX11_card_61
        · refine r_bipush (pc := 41) (v := (-6)) C dX11_card_41 (by decide) ?_
          exact r_iret (pc := 43) C R0 h dX11_card_43
    · refine r_bipush (pc := 21) (v := (-2)) C dX11_card_21 (by decide) ?_
      exact r_iret (pc := 23) C R0 h dX11_card_23
theorem dX11_change_0 : decode cX11_change 0 = .ok (.aload_n 0, 1) := by decide +kernel
theorem dX11_change_1 : decode cX11_change 1 = .ok (.iload_n 1, 1) := by decide +kernel
theorem dX11_change_2 : decode cX11_change 2 = .ok (.iload_n 2, 1) := by decide +kernel
theorem dX11_change_3 : decode cX11_change 3 = .ok (.invokevirtual 344, 3) := by decide +kernel
theorem dX11_change_6 : decode cX11_change 6 = .ok (.ifCond .eq 12, 3) := by decide +kernel
theorem dX11_change_9 : decode cX11_change 9 = .ok (.aload_n 0, 1) := by decide +kernel
theorem dX11_change_10 : decode cX11_change 10 = .ok (.iload_n 1, 1) := by decide +kernel
theorem dX11_change_11 : decode cX11_change 11 = .ok (.iload_n 3, 1) := by decide +kernel
theorem dX11_change_12 : decode cX11_change 12 = .ok (.invokevirtual 344, 3) := by decide +kernel
theorem dX11_change_15 : decode cX11_change 15 = .ok (.ifCond .ne 6, 3) := by decide +kernel
theorem dX11_change_18 : decode cX11_change 18 = .ok (.bipush (-2), 2) := by decide +kernel
theorem dX11_change_20 : decode cX11_change 20 = .ok (.ireturn, 1) := by decide +kernel
theorem dX11_change_21 : decode cX11_change 21 = .ok (.aload_n 0, 1) := by decide +kernel
theorem dX11_change_22 : decode cX11_change 22 = .ok (.invokevirtual 412, 3) := by decide +kernel
theorem dX11_change_25 : decode cX11_change 25 = .ok (.ifCond .eq 38, 3) := by decide +kernel
theorem dX11_change_28 : decode cX11_change 28 = .ok (.aload_n 0, 1) := by decide +kernel
theorem dX11_change_29 : decode cX11_change 29 = .ok (.iload_n 1, 1) := by decide +kernel
theorem dX11_change_30 : decode cX11_change 30 = .ok (.iload_n 2, 1) := by decide +kernel
theorem dX11_change_31 : decode cX11_change 31 = .ok (.invokevirtual 62, 3) := by decide +kernel
theorem dX11_change_34 : decode cX11_change 34 = .ok (.ifCond .ne 29, 3) := by decide +kernel
theorem dX11_change_37 : decode cX11_change 37 = .ok (.aload_n 0, 1) := by decide +kernel
theorem dX11_change_38 : decode cX11_change 38 = .ok (.iload_n 1, 1) := by decide +kernel
theorem dX11_change_39 : decode cX11_change 39 = .ok (.iload_n 3, 1) := by decide +kernel
theorem dX11_change_40 : decode cX11_change 40 = .ok (.invokevirtual 62, 3) := by decide +kernel
theorem dX11_change_43 : decode cX11_change 43 = .ok (.iconst 2, 1) := by decide +kernel
theorem dX11_change_44 : decode cX11_change 44 = .ok (.if_icmp .ne 19, 3) := by decide +kernel
theorem dX11_change_47 : decode cX11_change 47 = .ok (.aload_n 0, 1) := by decide +kernel
theorem dX11_change_48 : decode cX11_change 48 = .ok (.getfield 16, 3) := by decide +kernel
theorem dX11_change_51 : decode cX11_change 51 = .ok (.bipush 32, 2) := by decide +kernel
theorem dX11_change_53 : decode cX11_change 53 = .ok (.iload_n 1, 1) := by decide +kernel
theorem dX11_change_54 : decode cX11_change 54 = .ok (.iadd, 1) := by decide +kernel
theorem dX11_change_55 : decode cX11_change 55 = .ok (.laload, 1) := by decide +kernel
theorem dX11_change_56 : decode cX11_change 56 = .ok (.ldc2_w 296, 3) := by decide +kernel
theorem dX11_change_59 : decode cX11_change 59 = .ok (.lcmp, 1) := by decide +kernel
theorem dX11_change_60 : decode cX11_change 60 = .ok (.ifCond .ne 6, 3) := by decide +kernel
theorem dX11_change_63 : decode cX11_change 63 = .ok (.bipush (-6), 2) := by decide +kernel
theorem dX11_change_65 : decode cX11_change 65 = .ok (.ireturn, 1) := by decide +kernel
theorem dX11_change_66 : decode cX11_change 66 = .ok (.aload_n 0, 1) := by decide +kernel
theorem dX11_change_67 : decode cX11_change 67 = .ok (.invokevirtual 335, 3) := by decide +kernel
theorem dX11_change_70 : decode cX11_change 70 = .ok (.aload_n 0, 1) := by decide +kernel
theorem dX11_change_71 : decode cX11_change 71 = .ok (.iload_n 1, 1) := by decide +kernel
theorem dX11_change_72 : decode cX11_change 72 = .ok (.iload_n 2, 1) := by decide +kernel
theorem dX11_change_73 : decode cX11_change 73 = .ok (.iload_n 3, 1) := by decide +kernel
theorem dX11_change_74 : decode cX11_change 74 = .ok (.invokevirtual 298, 3) := by decide +kernel
theorem dX11_change_77 : decode cX11_change 77 = .ok (.aload_n 0, 1) := by decide +kernel
theorem dX11_change_78 : decode cX11_change 78 = .ok (.bipush 32, 2) := by decide +kernel
theorem dX11_change_80 : decode cX11_change 80 = .ok (.iload_n 1, 1) := by decide +kernel
theorem dX11_change_81 : decode cX11_change 81 = .ok (.iadd, 1) := by decide +kernel
theorem dX11_change_82 : decode cX11_change 82 = .ok (.invokevirtual 43, 3) := by decide +kernel
theorem dX11_change_85 : decode cX11_change 85 = .ok (.ireturn, 1) := by decide +kernel
def fX11_change (a0 : Nat) (a1 : Int32) (a2 : Int32) (a3 : Int32) (M : xMem) : Option (Int32 × xMem) :=
  xBn (fX11_isOne a0 a1 a2 M) fun r1 M2 => if r1 = 0 then (some ((-2), M2)) else (xBn (fX11_isOne a0 a1 a3 M2) fun r3 M4 => if r3 = 0 then (some ((-2), M4)) else (xBn (fX11_mayLine a0 M4) fun r5 M6 => if r5 = 0 then (some ((-6), M6)) else (xBn (fX11_isOf a0 a1 a2 M6) fun r7 M8 => if r7 = 0 then (xBn (fX11_isOf a0 a1 a3 M8) fun r9 M10 => if r9 = (nI 2) then (xGb ((nI 32) + a1) (xln (xnw M10)) (if (lg_cmp (M10.2.1 (xnw M10) (Int32.toNatClampNeg ((nI 32) + a1))) (lN 5)) = 0 then (some ((-6), M10)) else (xBv (fX11_keeps a0 M10) fun M12 => xBv (fX11_changesOver a0 a1 a2 a3 M12) fun M13 => xBn (fX11_get a0 ((nI 32) + a1) M13) fun r14 M15 => some (r14, M15)))) else (some ((-6), M10))) else (some ((-6), M8)))))
set_option maxRecDepth 100000 in
set_option maxHeartbeats 4000000 in
theorem zX11_change (G : xGX) (a0 : Nat) (h0 : xkd a0 = 11) (a1 : Int32) (a2 : Int32) (a3 : Int32) (M : xMem) (r : Int32) (M' : xMem) (h : fX11_change a0 a1 a2 a3 M = some (r, M')) : xCt G yX11_change cX11_change 4 (some .int) 4 [vr G a0, .int a1, .int a2, .int a3] M (some (.int r), M') := by
  refine xMet (lv := [some (vr G a0), some (.int a1), some (.int a2), some (.int a3)]) (by decide) (Nat.le_of_ble_eq_true rfl) rfl ?_
  intro X hG hnL C R0
  subst hG
  have C : xCk X cX11_change RX11 4 := C
  unfold fX11_change at h
  refine r_aload_n (pc := 0) C dX11_change_0 rfl rfl ?_
  refine r_iload_n (pc := 1) C dX11_change_1 rfl rfl ?_
  refine r_iload_n (pc := 2) C dX11_change_2 rfl rfl ?_
  refine r_vI2 (pc := 3) C (fun r M' e => zX11_isOne X.1 a0 h0 a1 a2 M r M' e) h0 (by decide) rfl mX11_isOne lX11_344 (by decide) (Nat.le_of_ble_eq_true rfl) dX11_change_3 h (fun r1 M2 h => ?_)
  refine r_if_eq (pc := 6) (tgt := 18) C dX11_change_6 (by decide) h (fun _ h => ?_) (fun _ h => ?_)
  · refine r_bipush (pc := 18) (v := (-2)) C dX11_change_18 (by decide) ?_
    exact r_iret (pc := 20) C R0 h dX11_change_20
  · refine r_aload_n (pc := 9) C dX11_change_9 rfl rfl ?_
    refine r_iload_n (pc := 10) C dX11_change_10 rfl rfl ?_
    refine r_iload_n (pc := 11) C dX11_change_11 rfl rfl ?_
    refine r_vI2 (pc := 12) C (fun r M' e => zX11_isOne X.1 a0 h0 a1 a3 M2 r M' e) h0 (by decide) rfl mX11_isOne lX11_344 (by decide) (Nat.le_of_ble_eq_true rfl) dX11_change_12 h (fun r3 M4 h => ?_)
    refine r_if_ne (pc := 15) (tgt := 21) C dX11_change_15 (by decide) h (fun _ h => ?_) (fun _ h => ?_)
    · refine r_aload_n (pc := 21) C dX11_change_21 rfl rfl ?_
      refine r_vI0 (pc := 22) C (fun r M' e => zX11_mayLine X.1 a0 h0 M4 r M' e) h0 (by decide) rfl mX11_mayLine lX11_412 (by decide) (Nat.le_of_ble_eq_true rfl) dX11_change_22 h (fun r5 M6 h => ?_)
      refine r_if_eq (pc := 25) (tgt := 63) C dX11_change_25 (by decide) h (fun _ h => ?_) (fun _ h => ?_)
      · refine r_bipush (pc := 63) (v := (-6)) C dX11_change_63 (by decide) ?_
        exact r_iret (pc := 65) C R0 h dX11_change_65
      · refine r_aload_n (pc := 28) C dX11_change_28 rfl rfl ?_
        refine r_iload_n (pc := 29) C dX11_change_29 rfl rfl ?_
        refine r_iload_n (pc := 30) C dX11_change_30 rfl rfl ?_
        refine r_vI2 (pc := 31) C (fun r M' e => zX11_isOf X.1 a0 h0 a1 a2 M6 r M' e) h0 (by decide) rfl mX11_isOf lX11_62 (by decide) (Nat.le_of_ble_eq_true rfl) dX11_change_31 h (fun r7 M8 h => ?_)
        refine r_if_ne (pc := 34) (tgt := 63) C dX11_change_34 (by decide) h (fun _ h => ?_) (fun _ h => ?_)
        · refine r_bipush (pc := 63) (v := (-6)) C dX11_change_63 (by decide) ?_
          exact r_iret (pc := 65) C R0 h dX11_change_65
        · refine r_aload_n (pc := 37) C dX11_change_37 rfl rfl ?_
          refine r_iload_n (pc := 38) C dX11_change_38 rfl rfl ?_
          refine r_iload_n (pc := 39) C dX11_change_39 rfl rfl ?_
          refine r_vI2 (pc := 40) C (fun r M' e => zX11_isOf X.1 a0 h0 a1 a3 M8 r M' e) h0 (by decide) rfl mX11_isOf lX11_62 (by decide) (Nat.le_of_ble_eq_true rfl) dX11_change_40 h (fun r9 M10 h => ?_)
          refine r_iconst (pc := 43) (v := (nI 2)) C dX11_change_43 (by decide) ?_
          refine r_icmp_ne (pc := 44) (tgt := 63) C dX11_change_44 (by decide) h (fun _ h => ?_) (fun _ h => ?_)
          · refine r_bipush (pc := 63) (v := (-6)) C dX11_change_63 (by decide) ?_
            exact r_iret (pc := 65) C R0 h dX11_change_65
          · refine r_aload_n (pc := 47) C dX11_change_47 rfl rfl ?_
            refine r_getW (pc := 48) C kX11_16 h0 dX11_change_48 ?_
            refine r_bipush (pc := 51) (v := (nI 32)) C dX11_change_51 (by decide) ?_
            refine r_iload_n (pc := 53) C dX11_change_53 rfl rfl ?_
            refine r_iadd (pc := 54) C dX11_change_54 ?_
            obtain ⟨g11, h⟩ := xGb_of h
            refine r_lald (pc := 55) C (xknw M10) g11 dX11_change_55 ?_
            refine r_ldc2 (pc := 56) C nX11_296 dX11_change_56 ?_
            refine r_lcmp (pc := 59) C dX11_change_59 ?_
            refine r_if_ne (pc := 60) (tgt := 66) C dX11_change_60 (by decide) h (fun _ h => ?_) (fun _ h => ?_)
            · refine r_aload_n (pc := 66) C dX11_change_66 rfl rfl ?_
              refine r_vV0 (pc := 67) C (fun M' e => zX11_keeps X.1 a0 h0 M10 M' e) h0 (by decide) rfl mX11_keeps lX11_335 (by decide) (Nat.le_of_ble_eq_true rfl) dX11_change_67 h (fun M12 h => ?_)
              refine r_aload_n (pc := 70) C dX11_change_70 rfl rfl ?_
              refine r_iload_n (pc := 71) C dX11_change_71 rfl rfl ?_
              refine r_iload_n (pc := 72) C dX11_change_72 rfl rfl ?_
              refine r_iload_n (pc := 73) C dX11_change_73 rfl rfl ?_
              refine r_vV3 (pc := 74) C (fun M' e => zX11_changesOver X.1 a0 h0 a1 a2 a3 M12 M' e) h0 (by decide) rfl mX11_changesOver lX11_298 (by decide) (Nat.le_of_ble_eq_true rfl) dX11_change_74 h (fun M13 h => ?_)
              refine r_aload_n (pc := 77) C dX11_change_77 rfl rfl ?_
              refine r_bipush (pc := 78) (v := (nI 32)) C dX11_change_78 (by decide) ?_
              refine r_iload_n (pc := 80) C dX11_change_80 rfl rfl ?_
              refine r_iadd (pc := 81) C dX11_change_81 ?_
              refine r_vI1 (pc := 82) C (fun r M' e => zX11_get X.1 a0 h0 ((nI 32) + a1) M13 r M' e) h0 (by decide) rfl mX11_get lX11_43 (by decide) (Nat.le_of_ble_eq_true rfl) dX11_change_82 h (fun r14 M15 h => ?_)
              exact r_iret (pc := 85) C R0 h dX11_change_85
            · refine r_bipush (pc := 63) (v := (-6)) C dX11_change_63 (by decide) ?_
              exact r_iret (pc := 65) C R0 h dX11_change_65
    · refine r_bipush (pc := 18) (v := (-2)) C dX11_change_18 (by decide) ?_
      exact r_iret (pc := 20) C R0 h dX11_change_20
theorem dX11_half_0 : decode cX11_half 0 = .ok (.aload_n 0, 1) := by decide +kernel
theorem dX11_half_1 : decode cX11_half 1 = .ok (.invokevirtual 47, 3) := by decide +kernel
theorem dX11_half_4 : decode cX11_half 4 = .ok (.ifCond .ne 6, 3) := by decide +kernel
theorem dX11_half_7 : decode cX11_half 7 = .ok (.bipush (-2), 2) := by decide +kernel
theorem dX11_half_9 : decode cX11_half 9 = .ok (.ireturn, 1) := by decide +kernel
theorem dX11_half_10 : decode cX11_half 10 = .ok (.aload_n 0, 1) := by decide +kernel
theorem dX11_half_11 : decode cX11_half 11 = .ok (.invokevirtual 412, 3) := by decide +kernel
theorem dX11_half_14 : decode cX11_half 14 = .ok (.ifCond .ne 6, 3) := by decide +kernel
theorem dX11_half_17 : decode cX11_half 17 = .ok (.bipush (-6), 2) := by decide +kernel
theorem dX11_half_19 : decode cX11_half 19 = .ok (.ireturn, 1) := by decide +kernel
theorem dX11_half_20 : decode cX11_half 20 = .ok (.aload_n 0, 1) := by decide +kernel
theorem dX11_half_21 : decode cX11_half 21 = .ok (.invokevirtual 335, 3) := by decide +kernel
theorem dX11_half_24 : decode cX11_half 24 = .ok (.aload_n 0, 1) := by decide +kernel
theorem dX11_half_25 : decode cX11_half 25 = .ok (.invokevirtual 308, 3) := by decide +kernel
theorem dX11_half_28 : decode cX11_half 28 = .ok (.aload_n 0, 1) := by decide +kernel
theorem dX11_half_29 : decode cX11_half 29 = .ok (.bipush 27, 2) := by decide +kernel
theorem dX11_half_31 : decode cX11_half 31 = .ok (.invokevirtual 43, 3) := by decide +kernel
theorem dX11_half_34 : decode cX11_half 34 = .ok (.ireturn, 1) := by decide +kernel
def fX11_half (a0 : Nat) (M : xMem) : Option (Int32 × xMem) :=
  xBn (fX11_isThere a0 M) fun r1 M2 => if r1 = 0 then (some ((-2), M2)) else (xBn (fX11_mayLine a0 M2) fun r3 M4 => if r3 = 0 then (some ((-6), M4)) else (xBv (fX11_keeps a0 M4) fun M5 => xBv (fX11_halves a0 M5) fun M6 => xBn (fX11_get a0 (nI 27) M6) fun r7 M8 => some (r7, M8)))
set_option maxRecDepth 100000 in
set_option maxHeartbeats 4000000 in
theorem zX11_half (G : xGX) (a0 : Nat) (h0 : xkd a0 = 11) (M : xMem) (r : Int32) (M' : xMem) (h : fX11_half a0 M = some (r, M')) : xCt G yX11_half cX11_half 1 (some .int) 3 [vr G a0] M (some (.int r), M') := by
  refine xMet (lv := [some (vr G a0)]) (by decide) (Nat.le_of_ble_eq_true rfl) rfl ?_
  intro X hG hnL C R0
  subst hG
  have C : xCk X cX11_half RX11 3 := C
  unfold fX11_half at h
  refine r_aload_n (pc := 0) C dX11_half_0 rfl rfl ?_
  refine r_vI0 (pc := 1) C (fun r M' e => zX11_isThere X.1 a0 h0 M r M' e) h0 (by decide) rfl mX11_isThere lX11_47 (by decide) (Nat.le_of_ble_eq_true rfl) dX11_half_1 h (fun r1 M2 h => ?_)
  refine r_if_ne (pc := 4) (tgt := 10) C dX11_half_4 (by decide) h (fun _ h => ?_) (fun _ h => ?_)
  · refine r_aload_n (pc := 10) C dX11_half_10 rfl rfl ?_
    refine r_vI0 (pc := 11) C (fun r M' e => zX11_mayLine X.1 a0 h0 M2 r M' e) h0 (by decide) rfl mX11_mayLine lX11_412 (by decide) (Nat.le_of_ble_eq_true rfl) dX11_half_11 h (fun r3 M4 h => ?_)
    refine r_if_ne (pc := 14) (tgt := 20) C dX11_half_14 (by decide) h (fun _ h => ?_) (fun _ h => ?_)
    · refine r_aload_n (pc := 20) C dX11_half_20 rfl rfl ?_
      refine r_vV0 (pc := 21) C (fun M' e => zX11_keeps X.1 a0 h0 M4 M' e) h0 (by decide) rfl mX11_keeps lX11_335 (by decide) (Nat.le_of_ble_eq_true rfl) dX11_half_21 h (fun M5 h => ?_)
      refine r_aload_n (pc := 24) C dX11_half_24 rfl rfl ?_
      refine r_vV0 (pc := 25) C (fun M' e => zX11_halves X.1 a0 h0 M5 M' e) h0 (by decide) rfl mX11_halves lX11_308 (by decide) (Nat.le_of_ble_eq_true rfl) dX11_half_25 h (fun M6 h => ?_)
      refine r_aload_n (pc := 28) C dX11_half_28 rfl rfl ?_
      refine r_bipush (pc := 29) (v := (nI 27)) C dX11_half_29 (by decide) ?_
      refine r_vI1 (pc := 31) C (fun r M' e => zX11_get X.1 a0 h0 (nI 27) M6 r M' e) h0 (by decide) rfl mX11_get lX11_43 (by decide) (Nat.le_of_ble_eq_true rfl) dX11_half_31 h (fun r7 M8 h => ?_)
      exact r_iret (pc := 34) C R0 h dX11_half_34
    · refine r_bipush (pc := 17) (v := (-6)) C dX11_half_17 (by decide) ?_
      exact r_iret (pc := 19) C R0 h dX11_half_19
  · refine r_bipush (pc := 7) (v := (-2)) C dX11_half_7 (by decide) ?_
    exact r_iret (pc := 9) C R0 h dX11_half_9
theorem dX11_review_0 : decode cX11_review 0 = .ok (.aload_n 0, 1) := by decide +kernel
theorem dX11_review_1 : decode cX11_review 1 = .ok (.iload_n 1, 1) := by decide +kernel
theorem dX11_review_2 : decode cX11_review 2 = .ok (.invokevirtual 55, 3) := by decide +kernel
theorem dX11_review_5 : decode cX11_review 5 = .ok (.ifCond .eq 13, 3) := by decide +kernel
theorem dX11_review_8 : decode cX11_review 8 = .ok (.iload_n 2, 1) := by decide +kernel
theorem dX11_review_9 : decode cX11_review 9 = .ok (.i2l, 1) := by decide +kernel
theorem dX11_review_10 : decode cX11_review 10 = .ok (.lconst 0, 1) := by decide +kernel
theorem dX11_review_11 : decode cX11_review 11 = .ok (.lconst 1, 1) := by decide +kernel
theorem dX11_review_12 : decode cX11_review 12 = .ok (.invokestatic 51, 3) := by decide +kernel
theorem dX11_review_15 : decode cX11_review 15 = .ok (.ifCond .ne 6, 3) := by decide +kernel
theorem dX11_review_18 : decode cX11_review 18 = .ok (.bipush (-2), 2) := by decide +kernel
theorem dX11_review_20 : decode cX11_review 20 = .ok (.ireturn, 1) := by decide +kernel
theorem dX11_review_21 : decode cX11_review 21 = .ok (.aload_n 0, 1) := by decide +kernel
theorem dX11_review_22 : decode cX11_review 22 = .ok (.iload_n 1, 1) := by decide +kernel
theorem dX11_review_23 : decode cX11_review 23 = .ok (.invokevirtual 301, 3) := by decide +kernel
theorem dX11_review_26 : decode cX11_review 26 = .ok (.ifCond .ne 6, 3) := by decide +kernel
theorem dX11_review_29 : decode cX11_review 29 = .ok (.bipush (-6), 2) := by decide +kernel
theorem dX11_review_31 : decode cX11_review 31 = .ok (.ireturn, 1) := by decide +kernel
theorem dX11_review_32 : decode cX11_review 32 = .ok (.aload_n 0, 1) := by decide +kernel
theorem dX11_review_33 : decode cX11_review 33 = .ok (.invokevirtual 335, 3) := by decide +kernel
theorem dX11_review_36 : decode cX11_review 36 = .ok (.aload_n 0, 1) := by decide +kernel
theorem dX11_review_37 : decode cX11_review 37 = .ok (.iload_n 1, 1) := by decide +kernel
theorem dX11_review_38 : decode cX11_review 38 = .ok (.iload_n 2, 1) := by decide +kernel
theorem dX11_review_39 : decode cX11_review 39 = .ok (.iconst 1, 1) := by decide +kernel
theorem dX11_review_40 : decode cX11_review 40 = .ok (.if_icmp .ne 7, 3) := by decide +kernel
theorem dX11_review_43 : decode cX11_review 43 = .ok (.iconst 1, 1) := by decide +kernel
theorem dX11_review_44 : decode cX11_review 44 = .ok (.goto 4, 3) := by decide +kernel
theorem dX11_review_47 : decode cX11_review 47 = .ok (.iconst 0, 1) := by decide +kernel
theorem dX11_review_48 : decode cX11_review 48 = .ok (.invokevirtual 304, 3) := by decide +kernel
theorem dX11_review_51 : decode cX11_review 51 = .ok (.aload_n 0, 1) := by decide +kernel
theorem dX11_review_52 : decode cX11_review 52 = .ok (.bipush 25, 2) := by decide +kernel
theorem dX11_review_54 : decode cX11_review 54 = .ok (.invokevirtual 43, 3) := by decide +kernel
theorem dX11_review_57 : decode cX11_review 57 = .ok (.ireturn, 1) := by decide +kernel
def fX11_review (a0 : Nat) (a1 : Int32) (a2 : Int32) (M : xMem) : Option (Int32 × xMem) :=
  xBn (fX11_isTeam a0 a1 M) fun r1 M2 => if r1 = 0 then (some ((-2), M2)) else (xBn (fX11_in (Int32.toInt64 a2) (lN 0) (lN 1) M2) fun r3 M4 => if r3 = 0 then (some ((-2), M4)) else (xBn (fX11_canReview a0 a1 M4) fun r5 M6 => if r5 = 0 then (some ((-6), M6)) else (xBv (fX11_keeps a0 M6) fun M7 => xLt (fun (s8 : Int32) (M9 : xMem) => (xBv (fX11_reviews a0 a1 s8 M9) fun M10 => xBn (fX11_get a0 (nI 25) M10) fun r11 M12 => some (r11, M12) : Option (Int32 × xMem))) fun J48 => if a2 = (nI 1) then (J48 (nI 1) M7) else (J48 (nI 0) M7))))
set_option maxRecDepth 100000 in
set_option maxHeartbeats 4000000 in
theorem zX11_review (G : xGX) (a0 : Nat) (h0 : xkd a0 = 11) (a1 : Int32) (a2 : Int32) (M : xMem) (r : Int32) (M' : xMem) (h : fX11_review a0 a1 a2 M = some (r, M')) : xCt G yX11_review cX11_review 3 (some .int) 3 [vr G a0, .int a1, .int a2] M (some (.int r), M') := by
  refine xMet (lv := [some (vr G a0), some (.int a1), some (.int a2)]) (by decide) (Nat.le_of_ble_eq_true rfl) rfl ?_
  intro X hG hnL C R0
  subst hG
  have C : xCk X cX11_review RX11 3 := C
  unfold fX11_review at h
  refine r_aload_n (pc := 0) C dX11_review_0 rfl rfl ?_
  refine r_iload_n (pc := 1) C dX11_review_1 rfl rfl ?_
  refine r_vI1 (pc := 2) C (fun r M' e => zX11_isTeam X.1 a0 h0 a1 M r M' e) h0 (by decide) rfl mX11_isTeam lX11_55 (by decide) (Nat.le_of_ble_eq_true rfl) dX11_review_2 h (fun r1 M2 h => ?_)
  refine r_if_eq (pc := 5) (tgt := 18) C dX11_review_5 (by decide) h (fun _ h => ?_) (fun _ h => ?_)
  · refine r_bipush (pc := 18) (v := (-2)) C dX11_review_18 (by decide) ?_
    exact r_iret (pc := 20) C R0 h dX11_review_20
  · refine r_iload_n (pc := 8) C dX11_review_8 rfl rfl ?_
    refine r_i2l (pc := 9) C dX11_review_9 ?_
    refine r_lconst (pc := 10) (v := lN 0) C dX11_review_10 rfl ?_
    refine r_lconst (pc := 11) (v := lN 1) C dX11_review_11 rfl ?_
    refine r_sI3 (pc := 12) C (fun r M' e => zX11_in X.1 (Int32.toInt64 a2) (lN 0) (lN 1) M2 r M' e) mX11_in lX11_51 (by decide) (Nat.le_of_ble_eq_true rfl) dX11_review_12 h (fun r3 M4 h => ?_)
    refine r_if_ne (pc := 15) (tgt := 21) C dX11_review_15 (by decide) h (fun _ h => ?_) (fun _ h => ?_)
    · refine r_aload_n (pc := 21) C dX11_review_21 rfl rfl ?_
      refine r_iload_n (pc := 22) C dX11_review_22 rfl rfl ?_
      refine r_vI1 (pc := 23) C (fun r M' e => zX11_canReview X.1 a0 h0 a1 M4 r M' e) h0 (by decide) rfl mX11_canReview lX11_301 (by decide) (Nat.le_of_ble_eq_true rfl) dX11_review_23 h (fun r5 M6 h => ?_)
      refine r_if_ne (pc := 26) (tgt := 32) C dX11_review_26 (by decide) h (fun _ h => ?_) (fun _ h => ?_)
      · refine r_aload_n (pc := 32) C dX11_review_32 rfl rfl ?_
        refine r_vV0 (pc := 33) C (fun M' e => zX11_keeps X.1 a0 h0 M6 M' e) h0 (by decide) rfl mX11_keeps lX11_335 (by decide) (Nat.le_of_ble_eq_true rfl) dX11_review_33 h (fun M7 h => ?_)
        refine r_aload_n (pc := 36) C dX11_review_36 rfl rfl ?_
        refine r_iload_n (pc := 37) C dX11_review_37 rfl rfl ?_
        refine r_iload_n (pc := 38) C dX11_review_38 rfl rfl ?_
        refine r_iconst (pc := 39) (v := (nI 1)) C dX11_review_39 (by decide) ?_
        refine r_jn (fun J => ∀ (s8 : Int32) (M9 : xMem) , J s8 M9 = some (r, M') → WW X 48 [some (vr X.1 a0), some (.int a1), some (.int a2)] [.int s8, .int a1, vr X.1 a0] M9) h (fun s8 M9  h => ?_) (fun J48 hJ48 h => ?_)
        · refine r_vV2 (pc := 48) C (fun M' e => zX11_reviews X.1 a0 h0 a1 s8 M9 M' e) h0 (by decide) rfl mX11_reviews lX11_304 (by decide) (Nat.le_of_ble_eq_true rfl) dX11_review_48 h (fun M10 h => ?_)
          refine r_aload_n (pc := 51) C dX11_review_51 rfl rfl ?_
          refine r_bipush (pc := 52) (v := (nI 25)) C dX11_review_52 (by decide) ?_
          refine r_vI1 (pc := 54) C (fun r M' e => zX11_get X.1 a0 h0 (nI 25) M10 r M' e) h0 (by decide) rfl mX11_get lX11_43 (by decide) (Nat.le_of_ble_eq_true rfl) dX11_review_54 h (fun r11 M12 h => ?_)
          exact r_iret (pc := 57) C R0 h dX11_review_57
        refine r_icmp_ne (pc := 40) (tgt := 47) C dX11_review_40 (by decide) h (fun _ h => ?_) (fun _ h => ?_)
        · refine r_iconst (pc := 47) (v := (nI 0)) C dX11_review_47 (by decide) ?_
          exact hJ48 (nI 0) M7  h
        · refine r_iconst (pc := 43) (v := (nI 1)) C dX11_review_43 (by decide) ?_
          refine r_goto (pc := 44) (tgt := 48) C dX11_review_44 (by decide) ?_
          exact hJ48 (nI 1) M7  h
      · refine r_bipush (pc := 29) (v := (-6)) C dX11_review_29 (by decide) ?_
        exact r_iret (pc := 31) C R0 h dX11_review_31
    · refine r_bipush (pc := 18) (v := (-2)) C dX11_review_18 (by decide) ?_
      exact r_iret (pc := 20) C R0 h dX11_review_20
theorem dX11_may_0 : decode cX11_may 0 = .ok (.aload_n 0, 1) := by decide +kernel
theorem dX11_may_1 : decode cX11_may 1 = .ok (.iload_n 1, 1) := by decide +kernel
theorem dX11_may_2 : decode cX11_may 2 = .ok (.invokevirtual 55, 3) := by decide +kernel
theorem dX11_may_5 : decode cX11_may 5 = .ok (.ifCond .ne 6, 3) := by decide +kernel
theorem dX11_may_8 : decode cX11_may 8 = .ok (.bipush (-2), 2) := by decide +kernel
theorem dX11_may_10 : decode cX11_may 10 = .ok (.ireturn, 1) := by decide +kernel
theorem dX11_may_11 : decode cX11_may 11 = .ok (.aload_n 0, 1) := by decide +kernel
theorem dX11_may_12 : decode cX11_may 12 = .ok (.iload_n 1, 1) := by decide +kernel
theorem dX11_may_13 : decode cX11_may 13 = .ok (.invokevirtual 301, 3) := by decide +kernel
theorem dX11_may_16 : decode cX11_may 16 = .ok (.ifCond .eq 7, 3) := by decide +kernel
theorem dX11_may_19 : decode cX11_may 19 = .ok (.iconst 1, 1) := by decide +kernel
theorem dX11_may_20 : decode cX11_may 20 = .ok (.goto 4, 3) := by decide +kernel
theorem dX11_may_23 : decode cX11_may 23 = .ok (.iconst 0, 1) := by decide +kernel
theorem dX11_may_24 : decode cX11_may 24 = .ok (.ireturn, 1) := by decide +kernel
def fX11_may (a0 : Nat) (a1 : Int32) (M : xMem) : Option (Int32 × xMem) :=
  xBn (fX11_isTeam a0 a1 M) fun r1 M2 => if r1 = 0 then (some ((-2), M2)) else (xBn (fX11_canReview a0 a1 M2) fun r3 M4 => if r3 = 0 then (some ((nI 0), M4)) else (some ((nI 1), M4)))
set_option maxRecDepth 100000 in
set_option maxHeartbeats 4000000 in
theorem zX11_may (G : xGX) (a0 : Nat) (h0 : xkd a0 = 11) (a1 : Int32) (M : xMem) (r : Int32) (M' : xMem) (h : fX11_may a0 a1 M = some (r, M')) : xCt G yX11_may cX11_may 2 (some .int) 3 [vr G a0, .int a1] M (some (.int r), M') := by
  refine xMet (lv := [some (vr G a0), some (.int a1)]) (by decide) (Nat.le_of_ble_eq_true rfl) rfl ?_
  intro X hG hnL C R0
  subst hG
  have C : xCk X cX11_may RX11 3 := C
  unfold fX11_may at h
  refine r_aload_n (pc := 0) C dX11_may_0 rfl rfl ?_
  refine r_iload_n (pc := 1) C dX11_may_1 rfl rfl ?_
  refine r_vI1 (pc := 2) C (fun r M' e => zX11_isTeam X.1 a0 h0 a1 M r M' e) h0 (by decide) rfl mX11_isTeam lX11_55 (by decide) (Nat.le_of_ble_eq_true rfl) dX11_may_2 h (fun r1 M2 h => ?_)
  refine r_if_ne (pc := 5) (tgt := 11) C dX11_may_5 (by decide) h (fun _ h => ?_) (fun _ h => ?_)
  · refine r_aload_n (pc := 11) C dX11_may_11 rfl rfl ?_
    refine r_iload_n (pc := 12) C dX11_may_12 rfl rfl ?_
    refine r_vI1 (pc := 13) C (fun r M' e => zX11_canReview X.1 a0 h0 a1 M2 r M' e) h0 (by decide) rfl mX11_canReview lX11_301 (by decide) (Nat.le_of_ble_eq_true rfl) dX11_may_13 h (fun r3 M4 h => ?_)
    refine r_if_eq (pc := 16) (tgt := 23) C dX11_may_16 (by decide) h (fun _ h => ?_) (fun _ h => ?_)
    · refine r_iconst (pc := 23) (v := (nI 0)) C dX11_may_23 (by decide) ?_
      exact r_iret (pc := 24) C R0 h dX11_may_24
    · refine r_iconst (pc := 19) (v := (nI 1)) C dX11_may_19 (by decide) ?_
      refine r_goto (pc := 20) (tgt := 24) C dX11_may_20 (by decide) ?_
      exact r_iret (pc := 24) C R0 h dX11_may_24
  · refine r_bipush (pc := 8) (v := (-2)) C dX11_may_8 (by decide) ?_
    exact r_iret (pc := 10) C R0 h dX11_may_10
theorem dX11_says_0 : decode cX11_says 0 = .ok (.aload_n 0, 1) := by decide +kernel
theorem dX11_says_1 : decode cX11_says 1 = .ok (.getfield 37, 3) := by decide +kernel
theorem dX11_says_4 : decode cX11_says 4 = .ok (.aload_n 0, 1) := by decide +kernel
theorem dX11_says_5 : decode cX11_says 5 = .ok (.getfield 418, 3) := by decide +kernel
theorem dX11_says_8 : decode cX11_says 8 = .ok (.iload_n 1, 1) := by decide +kernel
theorem dX11_says_9 : decode cX11_says 9 = .ok (.i2b, 1) := by decide +kernel
theorem dX11_says_10 : decode cX11_says 10 = .ok (.bastore, 1) := by decide +kernel
theorem dX11_says_11 : decode cX11_says 11 = .ok (.aload_n 0, 1) := by decide +kernel
theorem dX11_says_12 : decode cX11_says 12 = .ok (.dup, 1) := by decide +kernel
theorem dX11_says_13 : decode cX11_says 13 = .ok (.getfield 418, 3) := by decide +kernel
theorem dX11_says_16 : decode cX11_says 16 = .ok (.iconst 1, 1) := by decide +kernel
theorem dX11_says_17 : decode cX11_says 17 = .ok (.iadd, 1) := by decide +kernel
theorem dX11_says_18 : decode cX11_says 18 = .ok (.putfield 418, 3) := by decide +kernel
theorem dX11_says_21 : decode cX11_says 21 = .ok (.return_, 1) := by decide +kernel
def fX11_says (a0 : Nat) (a1 : Int32) (M : xMem) : Option (xMem) :=
  xGb (M.1 a0 24) (xln (xrf a0 23)) (xLt (xwI M (xrf a0 23) (Int32.toNatClampNeg (M.1 a0 24)) (vp_nar .byte ((Int32.toInt8 a1).toInt32))) fun M2 => xLt (xwI M2 a0 24 ((M2.1 a0 24) + (nI 1))) fun M3 => some M3)
set_option maxRecDepth 100000 in
set_option maxHeartbeats 4000000 in
theorem zX11_says (G : xGX) (a0 : Nat) (h0 : xkd a0 = 11) (a1 : Int32) (M : xMem) (M' : xMem) (h : fX11_says a0 a1 M = some M') : xCt G yX11_says cX11_says 2 none 1 [vr G a0, .int a1] M (none, M') := by
  refine xMet (lv := [some (vr G a0), some (.int a1)]) (by decide) (Nat.le_of_ble_eq_true rfl) rfl ?_
  intro X hG hnL C R0
  subst hG
  have C : xCk X cX11_says RX11 1 := C
  unfold fX11_says at h
  refine r_aload_n (pc := 0) C dX11_says_0 rfl rfl ?_
  refine r_getR (pc := 1) C kX11_37 h0 (by decide) dX11_says_1 ?_
  refine r_aload_n (pc := 4) C dX11_says_4 rfl rfl ?_
  refine r_getI (pc := 5) C kX11_418 h0 dX11_says_5 ?_
  refine r_iload_n (pc := 8) C dX11_says_8 rfl rfl ?_
  refine r_i2b (pc := 9) C dX11_says_9 ?_
  obtain ⟨g1, h⟩ := xGb_of h
  refine r_bast (pc := 10) C (xtk h0 (by decide) rfl rfl) g1 dX11_says_10 ?_
  refine r_letM h (fun M2 h => ?_)
  refine r_aload_n (pc := 11) C dX11_says_11 rfl rfl ?_
  refine r_dup (pc := 12) C rfl dX11_says_12 ?_
  refine r_getI (pc := 13) C kX11_418 h0 dX11_says_13 ?_
  refine r_iconst (pc := 16) (v := (nI 1)) C dX11_says_16 (by decide) ?_
  refine r_iadd (pc := 17) C dX11_says_17 ?_
  refine r_putI (pc := 18) C kX11_418 h0 dX11_says_18 ?_
  refine r_letM h (fun M3 h => ?_)
  exact r_vret (pc := 21) C R0 h dX11_says_21
theorem dX11_saysText_0 : decode cX11_saysText 0 = .ok (.iconst 0, 1) := by decide +kernel
theorem dX11_saysText_1 : decode cX11_saysText 1 = .ok (.istore_n 2, 1) := by decide +kernel
theorem dX11_saysText_2 : decode cX11_saysText 2 = .ok (.iload_n 2, 1) := by decide +kernel
theorem dX11_saysText_3 : decode cX11_saysText 3 = .ok (.aload_n 1, 1) := by decide +kernel
theorem dX11_saysText_4 : decode cX11_saysText 4 = .ok (.invokevirtual 183, 3) := by decide +kernel
theorem dX11_saysText_7 : decode cX11_saysText 7 = .ok (.if_icmp .ge 18, 3) := by decide +kernel
theorem dX11_saysText_10 : decode cX11_saysText 10 = .ok (.aload_n 0, 1) := by decide +kernel
theorem dX11_saysText_11 : decode cX11_saysText 11 = .ok (.aload_n 1, 1) := by decide +kernel
theorem dX11_saysText_12 : decode cX11_saysText 12 = .ok (.iload_n 2, 1) := by decide +kernel
theorem dX11_saysText_13 : decode cX11_saysText 13 = .ok (.invokevirtual 188, 3) := by decide +kernel
theorem dX11_saysText_16 : decode cX11_saysText 16 = .ok (.invokevirtual 421, 3) := by decide +kernel
theorem dX11_saysText_19 : decode cX11_saysText 19 = .ok (.iinc 2 1, 3) := by decide +kernel
theorem dX11_saysText_22 : decode cX11_saysText 22 = .ok (.goto (-20), 3) := by decide +kernel
theorem dX11_saysText_25 : decode cX11_saysText 25 = .ok (.return_, 1) := by decide +kernel
def fX11_saysText_l2 (p0 : Nat) (p1 : Nat) (K : Int32 → xMem → Option (xMem)) : Nat → Int32 → xMem → Option (xMem)
  | 0, _, _ => none
  | n + 1, v2, M => if (nI (xsn p1)) ≤ v2 then (K v2 M) else (xGb v2 (xsn p1) (xBv (fX11_says p0 (xsc p1 (Int32.toNatClampNeg v2)) M) fun M2 => xLt (v2 + nI 1) fun x3 => fX11_saysText_l2 p0 p1 K n x3 M2))
def fX11_saysText (a0 : Nat) (a1 : Nat) (M : xMem) : Option (xMem) :=
  fX11_saysText_l2 a0 a1 (fun (v4 : Int32) (M5 : xMem) => some M5) xFU (nI 0) M
set_option maxRecDepth 100000 in
set_option maxHeartbeats 4000000 in
theorem lX11_saysText_2 {X : xCX} {M' : xMem} (C : xCk X cX11_saysText RX11 5) (R0 : xRk X none (none, M')) (hnL : X.2.2.2.2.2.2.2.2.2.2.2.2.2 = 3) (p0 : Nat) (hp0 : xkd p0 = 11) (p1 : Nat) (hp1 : p1 < 30) (K : Int32 → xMem → Option (xMem)) (hK : ∀ (v2 : Int32) (M : xMem), K v2 M = some M' → WW X 25 [some (vr X.1 p0), some (vs X.1 p1), some (.int v2)] [] M) : ∀ (n : Nat) (v2 : Int32) (M : xMem), fX11_saysText_l2 p0 p1 K n v2 M = some M' → WW X 2 [some (vr X.1 p0), some (vs X.1 p1), some (.int v2)] [] M := by
  have hn2 : 2 < X.2.2.2.2.2.2.2.2.2.2.2.2.2 := by rw [hnL]; decide
  intro n
  induction n with
  | zero =>
    intro v2 M h
    cases (show (none : Option (xMem)) = some M' from h)
  | succ n ih =>
    intro v2 M h
    rw [fX11_saysText_l2.eq_2] at h
    refine r_iload_n (pc := 2) C dX11_saysText_2 rfl rfl ?_
    refine r_sload_n (pc := 3) C dX11_saysText_3 rfl rfl ?_
    refine r_slen (pc := 4) C hp1 lX11_183 (by decide) (Nat.le_of_ble_eq_true rfl) dX11_saysText_4 ?_
    refine r_icmp_ge (pc := 7) (tgt := 25) C dX11_saysText_7 (by decide) h (fun _ h => ?_) (fun _ h => ?_)
    · exact hK v2 M h
    · refine r_aload_n (pc := 10) C dX11_saysText_10 rfl rfl ?_
      refine r_sload_n (pc := 11) C dX11_saysText_11 rfl rfl ?_
      refine r_iload_n (pc := 12) C dX11_saysText_12 rfl rfl ?_
      obtain ⟨g1, h⟩ := xGb_of h
      refine r_schar (pc := 13) C hp1 g1 lX11_188 (by decide) (Nat.le_of_ble_eq_true rfl) dX11_saysText_13 ?_
      refine r_vV1 (pc := 16) C (fun M' e => zX11_says X.1 p0 hp0 (xsc p1 (Int32.toNatClampNeg v2)) M M' e) hp0 (by decide) rfl mX11_says lX11_421 (by decide) (Nat.le_of_ble_eq_true rfl) dX11_saysText_16 h (fun M2 h => ?_)
      refine r_iincL (pc := 19) (c := nI 1) C dX11_saysText_19 rfl (by decide) hn2 h (fun x3 h => ?_)
      refine r_lvE (lv' := [_, _, _]) rfl ?_
      refine r_goto (pc := 22) (tgt := 2) C dX11_saysText_22 (by decide) ?_
      exact ih x3 M2 h
set_option maxRecDepth 100000 in
set_option maxHeartbeats 4000000 in
theorem zX11_saysText (G : xGX) (a0 : Nat) (h0 : xkd a0 = 11) (a1 : Nat) (h1 : a1 < 30) (M : xMem) (M' : xMem) (h : fX11_saysText a0 a1 M = some M') : xCt G yX11_saysText cX11_saysText 3 none 5 [vr G a0, vs G a1] M (none, M') := by
  refine xMet (lv := [some (vr G a0), some (vs G a1), none]) (by decide) (Nat.le_of_ble_eq_true rfl) rfl ?_
  intro X hG hnL C R0
  subst hG
  have C : xCk X cX11_saysText RX11 5 := C
  have hn2 : 2 < X.2.2.2.2.2.2.2.2.2.2.2.2.2 := by rw [hnL]; decide
  unfold fX11_saysText at h
  refine r_iconst (pc := 0) (v := (nI 0)) C dX11_saysText_0 (by decide) ?_
  refine r_istore_n (pc := 1) (lv' := [_, _, _]) C dX11_saysText_1 rfl hn2 rfl ?_
  refine lX11_saysText_2 C R0 hnL a0 h0 a1 h1 _ (fun v4 M5 h => ?_) _ _ _ h
  exact r_vret (pc := 25) C R0 h dX11_saysText_25
theorem dX11_saysShirt_0 : decode cX11_saysShirt 0 = .ok (.aload_n 0, 1) := by decide +kernel
theorem dX11_saysShirt_1 : decode cX11_saysShirt 1 = .ok (.iconst 5, 1) := by decide +kernel
theorem dX11_saysShirt_2 : decode cX11_saysShirt 2 = .ok (.bipush 10, 2) := by decide +kernel
theorem dX11_saysShirt_4 : decode cX11_saysShirt 4 = .ok (.iload_n 1, 1) := by decide +kernel
theorem dX11_saysShirt_5 : decode cX11_saysShirt 5 = .ok (.imul, 1) := by decide +kernel
theorem dX11_saysShirt_6 : decode cX11_saysShirt 6 = .ok (.iadd, 1) := by decide +kernel
theorem dX11_saysShirt_7 : decode cX11_saysShirt 7 = .ok (.iload_n 2, 1) := by decide +kernel
theorem dX11_saysShirt_8 : decode cX11_saysShirt 8 = .ok (.iadd, 1) := by decide +kernel
theorem dX11_saysShirt_9 : decode cX11_saysShirt 9 = .ok (.invokevirtual 43, 3) := by decide +kernel
theorem dX11_saysShirt_12 : decode cX11_saysShirt 12 = .ok (.istore_n 3, 1) := by decide +kernel
theorem dX11_saysShirt_13 : decode cX11_saysShirt 13 = .ok (.iload_n 3, 1) := by decide +kernel
theorem dX11_saysShirt_14 : decode cX11_saysShirt 14 = .ok (.bipush 10, 2) := by decide +kernel
theorem dX11_saysShirt_16 : decode cX11_saysShirt 16 = .ok (.if_icmp .lt 14, 3) := by decide +kernel
theorem dX11_saysShirt_19 : decode cX11_saysShirt 19 = .ok (.aload_n 0, 1) := by decide +kernel
theorem dX11_saysShirt_20 : decode cX11_saysShirt 20 = .ok (.bipush 48, 2) := by decide +kernel
theorem dX11_saysShirt_22 : decode cX11_saysShirt 22 = .ok (.iload_n 3, 1) := by decide +kernel
theorem dX11_saysShirt_23 : decode cX11_saysShirt 23 = .ok (.bipush 10, 2) := by decide +kernel
theorem dX11_saysShirt_25 : decode cX11_saysShirt 25 = .ok (.idiv, 1) := by decide +kernel
theorem dX11_saysShirt_26 : decode cX11_saysShirt 26 = .ok (.iadd, 1) := by decide +kernel
theorem dX11_saysShirt_27 : decode cX11_saysShirt 27 = .ok (.invokevirtual 421, 3) := by decide +kernel
theorem dX11_saysShirt_30 : decode cX11_saysShirt 30 = .ok (.aload_n 0, 1) := by decide +kernel
theorem dX11_saysShirt_31 : decode cX11_saysShirt 31 = .ok (.bipush 48, 2) := by decide +kernel
theorem dX11_saysShirt_33 : decode cX11_saysShirt 33 = .ok (.iload_n 3, 1) := by decide +kernel
theorem dX11_saysShirt_34 : decode cX11_saysShirt 34 = .ok (.bipush 10, 2) := by decide +kernel
theorem dX11_saysShirt_36 : decode cX11_saysShirt 36 = .ok (.irem, 1) := by decide +kernel
theorem dX11_saysShirt_37 : decode cX11_saysShirt 37 = .ok (.iadd, 1) := by decide +kernel
theorem dX11_saysShirt_38 : decode cX11_saysShirt 38 = .ok (.invokevirtual 421, 3) := by decide +kernel
theorem dX11_saysShirt_41 : decode cX11_saysShirt 41 = .ok (.return_, 1) := by decide +kernel
def fX11_saysShirt (a0 : Nat) (a1 : Int32) (a2 : Int32) (M : xMem) : Option (xMem) :=
  xBn (fX11_get a0 (((nI 5) + ((nI 10) * a1)) + a2) M) fun r1 M2 => xLt (fun  (M3 : xMem) => (xBv (fX11_says a0 ((nI 48) + (r1 - r1 / (nI 10) * (nI 10))) M3) fun M4 => some M4 : Option (xMem))) fun J30 => if r1 < (nI 10) then (J30  M2) else (xBv (fX11_says a0 ((nI 48) + (r1 / (nI 10))) M2) fun M5 => J30  M5)
set_option maxRecDepth 100000 in
set_option maxHeartbeats 4000000 in
theorem zX11_saysShirt (G : xGX) (a0 : Nat) (h0 : xkd a0 = 11) (a1 : Int32) (a2 : Int32) (M : xMem) (M' : xMem) (h : fX11_saysShirt a0 a1 a2 M = some M') : xCt G yX11_saysShirt cX11_saysShirt 4 none 2 [vr G a0, .int a1, .int a2] M (none, M') := by
  refine xMet (lv := [some (vr G a0), some (.int a1), some (.int a2), none]) (by decide) (Nat.le_of_ble_eq_true rfl) rfl ?_
  intro X hG hnL C R0
  subst hG
  have C : xCk X cX11_saysShirt RX11 2 := C
  have hn3 : 3 < X.2.2.2.2.2.2.2.2.2.2.2.2.2 := by rw [hnL]; decide
  unfold fX11_saysShirt at h
  refine r_aload_n (pc := 0) C dX11_saysShirt_0 rfl rfl ?_
  refine r_iconst (pc := 1) (v := (nI 5)) C dX11_saysShirt_1 (by decide) ?_
  refine r_bipush (pc := 2) (v := (nI 10)) C dX11_saysShirt_2 (by decide) ?_
  refine r_iload_n (pc := 4) C dX11_saysShirt_4 rfl rfl ?_
  refine r_imul (pc := 5) C dX11_saysShirt_5 ?_
  refine r_iadd (pc := 6) C dX11_saysShirt_6 ?_
  refine r_iload_n (pc := 7) C dX11_saysShirt_7 rfl rfl ?_
  refine r_iadd (pc := 8) C dX11_saysShirt_8 ?_
  refine r_vI1 (pc := 9) C (fun r M' e => zX11_get X.1 a0 h0 (((nI 5) + ((nI 10) * a1)) + a2) M r M' e) h0 (by decide) rfl mX11_get lX11_43 (by decide) (Nat.le_of_ble_eq_true rfl) dX11_saysShirt_9 h (fun r1 M2 h => ?_)
  refine r_istore_n (pc := 12) (lv' := [_, _, _, _]) C dX11_saysShirt_12 rfl hn3 rfl ?_
  refine r_iload_n (pc := 13) C dX11_saysShirt_13 rfl rfl ?_
  refine r_bipush (pc := 14) (v := (nI 10)) C dX11_saysShirt_14 (by decide) ?_
  refine r_jn (fun J => ∀  (M3 : xMem) , J  M3 = some M' → WW X 30 [some (vr X.1 a0), some (.int a1), some (.int a2), some (.int r1)] [] M3) h (fun  M3  h => ?_) (fun J30 hJ30 h => ?_)
  · refine r_aload_n (pc := 30) C dX11_saysShirt_30 rfl rfl ?_
    refine r_bipush (pc := 31) (v := (nI 48)) C dX11_saysShirt_31 (by decide) ?_
    refine r_iload_n (pc := 33) C dX11_saysShirt_33 rfl rfl ?_
    refine r_bipush (pc := 34) (v := (nI 10)) C dX11_saysShirt_34 (by decide) ?_
    refine r_irem (pc := 36) C (by decide) dX11_saysShirt_36 ?_
    refine r_iadd (pc := 37) C dX11_saysShirt_37 ?_
    refine r_vV1 (pc := 38) C (fun M' e => zX11_says X.1 a0 h0 ((nI 48) + (r1 - r1 / (nI 10) * (nI 10))) M3 M' e) h0 (by decide) rfl mX11_says lX11_421 (by decide) (Nat.le_of_ble_eq_true rfl) dX11_saysShirt_38 h (fun M4 h => ?_)
    exact r_vret (pc := 41) C R0 h dX11_saysShirt_41
  refine r_icmp_lt (pc := 16) (tgt := 30) C dX11_saysShirt_16 (by decide) h (fun _ h => ?_) (fun _ h => ?_)
  · exact hJ30  M2  h
  · refine r_aload_n (pc := 19) C dX11_saysShirt_19 rfl rfl ?_
    refine r_bipush (pc := 20) (v := (nI 48)) C dX11_saysShirt_20 (by decide) ?_
    refine r_iload_n (pc := 22) C dX11_saysShirt_22 rfl rfl ?_
    refine r_bipush (pc := 23) (v := (nI 10)) C dX11_saysShirt_23 (by decide) ?_
    refine r_idiv (pc := 25) C (by decide) dX11_saysShirt_25 ?_
    refine r_iadd (pc := 26) C dX11_saysShirt_26 ?_
    refine r_vV1 (pc := 27) C (fun M' e => zX11_says X.1 a0 h0 ((nI 48) + (r1 / (nI 10))) M2 M' e) h0 (by decide) rfl mX11_says lX11_421 (by decide) (Nat.le_of_ble_eq_true rfl) dX11_saysShirt_27 h (fun M5 h => ?_)
    exact hJ30  M5  h
theorem dX11_saysTouched_0 : decode cX11_saysTouched 0 = .ok (.lconst 1, 1) := by decide +kernel
theorem dX11_saysTouched_1 : decode cX11_saysTouched 1 = .ok (.lstore 4, 2) := by decide +kernel
theorem dX11_saysTouched_3 : decode cX11_saysTouched 3 = .ok (.lload_n 2, 1) := by decide +kernel
theorem dX11_saysTouched_4 : decode cX11_saysTouched 4 = .ok (.lload 4, 2) := by decide +kernel
theorem dX11_saysTouched_6 : decode cX11_saysTouched 6 = .ok (.ldiv, 1) := by decide +kernel
theorem dX11_saysTouched_7 : decode cX11_saysTouched 7 = .ok (.ldc2_w 85, 3) := by decide +kernel
theorem dX11_saysTouched_10 : decode cX11_saysTouched 10 = .ok (.lcmp, 1) := by decide +kernel
theorem dX11_saysTouched_11 : decode cX11_saysTouched 11 = .ok (.ifCond .lt 14, 3) := by decide +kernel
theorem dX11_saysTouched_14 : decode cX11_saysTouched 14 = .ok (.lload 4, 2) := by decide +kernel
theorem dX11_saysTouched_16 : decode cX11_saysTouched 16 = .ok (.ldc2_w 85, 3) := by decide +kernel
theorem dX11_saysTouched_19 : decode cX11_saysTouched 19 = .ok (.lmul, 1) := by decide +kernel
theorem dX11_saysTouched_20 : decode cX11_saysTouched 20 = .ok (.lstore 4, 2) := by decide +kernel
theorem dX11_saysTouched_22 : decode cX11_saysTouched 22 = .ok (.goto (-19), 3) := by decide +kernel
theorem dX11_saysTouched_25 : decode cX11_saysTouched 25 = .ok (.lload 4, 2) := by decide +kernel
theorem dX11_saysTouched_27 : decode cX11_saysTouched 27 = .ok (.lstore 6, 2) := by decide +kernel
theorem dX11_saysTouched_29 : decode cX11_saysTouched 29 = .ok (.lload 6, 2) := by decide +kernel
theorem dX11_saysTouched_31 : decode cX11_saysTouched 31 = .ok (.lconst 0, 1) := by decide +kernel
theorem dX11_saysTouched_32 : decode cX11_saysTouched 32 = .ok (.lcmp, 1) := by decide +kernel
theorem dX11_saysTouched_33 : decode cX11_saysTouched 33 = .ok (.ifCond .le 44, 3) := by decide +kernel
theorem dX11_saysTouched_36 : decode cX11_saysTouched 36 = .ok (.lload 6, 2) := by decide +kernel
theorem dX11_saysTouched_38 : decode cX11_saysTouched 38 = .ok (.lload 4, 2) := by decide +kernel
theorem dX11_saysTouched_40 : decode cX11_saysTouched 40 = .ok (.lcmp, 1) := by decide +kernel
theorem dX11_saysTouched_41 : decode cX11_saysTouched 41 = .ok (.ifCond .ge 9, 3) := by decide +kernel
theorem dX11_saysTouched_44 : decode cX11_saysTouched 44 = .ok (.aload_n 0, 1) := by decide +kernel
theorem dX11_saysTouched_45 : decode cX11_saysTouched 45 = .ok (.bipush 44, 2) := by decide +kernel
theorem dX11_saysTouched_47 : decode cX11_saysTouched 47 = .ok (.invokevirtual 421, 3) := by decide +kernel
theorem dX11_saysTouched_50 : decode cX11_saysTouched 50 = .ok (.aload_n 0, 1) := by decide +kernel
theorem dX11_saysTouched_51 : decode cX11_saysTouched 51 = .ok (.iload_n 1, 1) := by decide +kernel
theorem dX11_saysTouched_52 : decode cX11_saysTouched 52 = .ok (.lload_n 2, 1) := by decide +kernel
theorem dX11_saysTouched_53 : decode cX11_saysTouched 53 = .ok (.lload 6, 2) := by decide +kernel
theorem dX11_saysTouched_55 : decode cX11_saysTouched 55 = .ok (.ldiv, 1) := by decide +kernel
theorem dX11_saysTouched_56 : decode cX11_saysTouched 56 = .ok (.ldc2_w 85, 3) := by decide +kernel
theorem dX11_saysTouched_59 : decode cX11_saysTouched 59 = .ok (.lrem, 1) := by decide +kernel
theorem dX11_saysTouched_60 : decode cX11_saysTouched 60 = .ok (.l2i, 1) := by decide +kernel
theorem dX11_saysTouched_61 : decode cX11_saysTouched 61 = .ok (.iconst 1, 1) := by decide +kernel
theorem dX11_saysTouched_62 : decode cX11_saysTouched 62 = .ok (.isub, 1) := by decide +kernel
theorem dX11_saysTouched_63 : decode cX11_saysTouched 63 = .ok (.invokevirtual 424, 3) := by decide +kernel
theorem dX11_saysTouched_66 : decode cX11_saysTouched 66 = .ok (.lload 6, 2) := by decide +kernel
theorem dX11_saysTouched_68 : decode cX11_saysTouched 68 = .ok (.ldc2_w 85, 3) := by decide +kernel
theorem dX11_saysTouched_71 : decode cX11_saysTouched 71 = .ok (.ldiv, 1) := by decide +kernel
theorem dX11_saysTouched_72 : decode cX11_saysTouched 72 = .ok (.lstore 6, 2) := by decide +kernel
theorem dX11_saysTouched_74 : decode cX11_saysTouched 74 = .ok (.goto (-45), 3) := by decide +kernel
theorem dX11_saysTouched_77 : decode cX11_saysTouched 77 = .ok (.return_, 1) := by decide +kernel
def fX11_saysTouched_l3 (p0 : Nat) (p1 : Int32) (p2 : Int64) (K : Int64 → xMem → Option (xMem)) : Nat → Int64 → xMem → Option (xMem)
  | 0, _, _ => none
  | n + 1, v4, M => xGd (¬ v4 = 0) (if (lg_cmp (p2 / v4) (lN 11)) < 0 then (K v4 M) else (xLt (v4 * (lN 11)) fun x2 => fX11_saysTouched_l3 p0 p1 p2 K n x2 M))
def fX11_saysTouched_l29 (p0 : Nat) (p1 : Int32) (p2 : Int64) (p4 : Int64) (K : Int64 → xMem → Option (xMem)) : Nat → Int64 → xMem → Option (xMem)
  | 0, _, _ => none
  | n + 1, v6, M => if (lg_cmp v6 (lN 0)) ≤ 0 then (K v6 M) else (xLt (fun  (M5 : xMem) => (xGd (¬ v6 = 0) (xBv (fX11_saysShirt p0 p1 ((Int64.toInt32 ((p2 / v6) - (p2 / v6) / (lN 11) * (lN 11))) - (nI 1)) M5) fun M7 => xLt (v6 / (lN 11)) fun x8 => fX11_saysTouched_l29 p0 p1 p2 p4 K n x8 M7) : Option (xMem))) fun J50 => if 0 ≤ (lg_cmp v6 p4) then (J50  M) else (xBv (fX11_says p0 (nI 44) M) fun M9 => J50  M9))
def fX11_saysTouched (a0 : Nat) (a1 : Int32) (a2 : Int64) (M : xMem) : Option (xMem) :=
  fX11_saysTouched_l3 a0 a1 a2 (fun (v3 : Int64) (M4 : xMem) => fX11_saysTouched_l29 a0 a1 a2 v3 (fun (v10 : Int64) (M11 : xMem) => some M11) xFU v3 M4) xFU (lN 1) M
set_option maxRecDepth 100000 in
set_option maxHeartbeats 4000000 in
theorem lX11_saysTouched_3 {X : xCX} {M' : xMem} (C : xCk X cX11_saysTouched RX11 3) (R0 : xRk X none (none, M')) (hnL : X.2.2.2.2.2.2.2.2.2.2.2.2.2 = 8) (p0 : Nat) (hp0 : xkd p0 = 11) (p1 : Int32) (p2 : Int64) (K : Int64 → xMem → Option (xMem)) (hK : ∀ (v4 : Int64) (M : xMem), K v4 M = some M' → WW X 25 [some (vr X.1 p0), some (.int p1), some (.long p2), none, some (.long v4), none, none, none] [] M) : ∀ (n : Nat) (v4 : Int64) (M : xMem), fX11_saysTouched_l3 p0 p1 p2 K n v4 M = some M' → WW X 3 [some (vr X.1 p0), some (.int p1), some (.long p2), none, some (.long v4), none, none, none] [] M := by
  have hn4 : 4 + 1 < X.2.2.2.2.2.2.2.2.2.2.2.2.2 := by rw [hnL]; decide
  have hn6 : 6 + 1 < X.2.2.2.2.2.2.2.2.2.2.2.2.2 := by rw [hnL]; decide
  intro n
  induction n with
  | zero =>
    intro v4 M h
    cases (show (none : Option (xMem)) = some M' from h)
  | succ n ih =>
    intro v4 M h
    rw [fX11_saysTouched_l3.eq_2] at h
    refine r_lload_n (pc := 3) C dX11_saysTouched_3 rfl rfl ?_
    refine r_lload (pc := 4) C dX11_saysTouched_4 rfl ?_
    obtain ⟨g1, h⟩ := xGd_of h
    refine r_ldiv (pc := 6) C g1 dX11_saysTouched_6 ?_
    refine r_ldc2 (pc := 7) C nX11_85 dX11_saysTouched_7 ?_
    refine r_lcmp (pc := 10) C dX11_saysTouched_10 ?_
    refine r_if_lt (pc := 11) (tgt := 25) C dX11_saysTouched_11 (by decide) h (fun _ h => ?_) (fun _ h => ?_)
    · exact hK v4 M h
    · refine r_lload (pc := 14) C dX11_saysTouched_14 rfl ?_
      refine r_ldc2 (pc := 16) C nX11_85 dX11_saysTouched_16 ?_
      refine r_lmul (pc := 19) C dX11_saysTouched_19 ?_
      refine r_letL h (fun x2 h => ?_)
      refine r_lstore (pc := 20) (lv' := [_, _, _, _, _, _, _, _]) C dX11_saysTouched_20 hn4 rfl ?_
      refine r_goto (pc := 22) (tgt := 3) C dX11_saysTouched_22 (by decide) ?_
      exact ih x2 M h
set_option maxRecDepth 100000 in
set_option maxHeartbeats 4000000 in
theorem lX11_saysTouched_29 {X : xCX} {M' : xMem} (C : xCk X cX11_saysTouched RX11 3) (R0 : xRk X none (none, M')) (hnL : X.2.2.2.2.2.2.2.2.2.2.2.2.2 = 8) (p0 : Nat) (hp0 : xkd p0 = 11) (p1 : Int32) (p2 : Int64) (p4 : Int64) (K : Int64 → xMem → Option (xMem)) (hK : ∀ (v6 : Int64) (M : xMem), K v6 M = some M' → WW X 77 [some (vr X.1 p0), some (.int p1), some (.long p2), none, some (.long p4), none, some (.long v6), none] [] M) : ∀ (n : Nat) (v6 : Int64) (M : xMem), fX11_saysTouched_l29 p0 p1 p2 p4 K n v6 M = some M' → WW X 29 [some (vr X.1 p0), some (.int p1), some (.long p2), none, some (.long p4), none, some (.long v6), none] [] M := by
  have hn4 : 4 + 1 < X.2.2.2.2.2.2.2.2.2.2.2.2.2 := by rw [hnL]; decide
  have hn6 : 6 + 1 < X.2.2.2.2.2.2.2.2.2.2.2.2.2 := by rw [hnL]; decide
  intro n
  induction n with
  | zero =>
    intro v6 M h
    cases (show (none : Option (xMem)) = some M' from h)
  | succ n ih =>
    intro v6 M h
    rw [fX11_saysTouched_l29.eq_2] at h
    refine r_lload (pc := 29) C dX11_saysTouched_29 rfl ?_
    refine r_lconst (pc := 31) (v := lN 0) C dX11_saysTouched_31 rfl ?_
    refine r_lcmp (pc := 32) C dX11_saysTouched_32 ?_
    refine r_if_le (pc := 33) (tgt := 77) C dX11_saysTouched_33 (by decide) h (fun _ h => ?_) (fun _ h => ?_)
    · exact hK v6 M h
    · refine r_lload (pc := 36) C dX11_saysTouched_36 rfl ?_
      refine r_lload (pc := 38) C dX11_saysTouched_38 rfl ?_
      refine r_lcmp (pc := 40) C dX11_saysTouched_40 ?_
      refine r_jn (fun J => ∀  (M5 : xMem) , J  M5 = some M' → WW X 50 [some (vr X.1 p0), some (.int p1), some (.long p2), none, some (.long p4), none, some (.long v6), none] [] M5) h (fun  M5  h => ?_) (fun J50 hJ50 h => ?_)
      · refine r_aload_n (pc := 50) C dX11_saysTouched_50 rfl rfl ?_
        refine r_iload_n (pc := 51) C dX11_saysTouched_51 rfl rfl ?_
        refine r_lload_n (pc := 52) C dX11_saysTouched_52 rfl rfl ?_
        refine r_lload (pc := 53) C dX11_saysTouched_53 rfl ?_
        obtain ⟨g6, h⟩ := xGd_of h
        refine r_ldiv (pc := 55) C g6 dX11_saysTouched_55 ?_
        refine r_ldc2 (pc := 56) C nX11_85 dX11_saysTouched_56 ?_
        refine r_lrem (pc := 59) C (by decide) dX11_saysTouched_59 ?_
        refine r_l2i (pc := 60) C dX11_saysTouched_60 ?_
        refine r_iconst (pc := 61) (v := (nI 1)) C dX11_saysTouched_61 (by decide) ?_
        refine r_isub (pc := 62) C dX11_saysTouched_62 ?_
        refine r_vV2 (pc := 63) C (fun M' e => zX11_saysShirt X.1 p0 hp0 p1 ((Int64.toInt32 ((p2 / v6) - (p2 / v6) / (lN 11) * (lN 11))) - (nI 1)) M5 M' e) hp0 (by decide) rfl mX11_saysShirt lX11_424 (by decide) (Nat.le_of_ble_eq_true rfl) dX11_saysTouched_63 h (fun M7 h => ?_)
        refine r_lload (pc := 66) C dX11_saysTouched_66 rfl ?_
        refine r_ldc2 (pc := 68) C nX11_85 dX11_saysTouched_68 ?_
        refine r_ldiv (pc := 71) C (by decide) dX11_saysTouched_71 ?_
        refine r_letL h (fun x8 h => ?_)
        refine r_lstore (pc := 72) (lv' := [_, _, _, _, _, _, _, _]) C dX11_saysTouched_72 hn6 rfl ?_
        refine r_goto (pc := 74) (tgt := 29) C dX11_saysTouched_74 (by decide) ?_
        exact ih x8 M7 h
      refine r_if_ge (pc := 41) (tgt := 50) C dX11_saysTouched_41 (by decide) h (fun _ h => ?_) (fun _ h => ?_)
      · exact hJ50  M  h
      · refine r_aload_n (pc := 44) C dX11_saysTouched_44 rfl rfl ?_
        refine r_bipush (pc := 45) (v := (nI 44)) C dX11_saysTouched_45 (by decide) ?_
        refine r_vV1 (pc := 47) C (fun M' e => zX11_says X.1 p0 hp0 (nI 44) M M' e) hp0 (by decide) rfl mX11_says lX11_421 (by decide) (Nat.le_of_ble_eq_true rfl) dX11_saysTouched_47 h (fun M9 h => ?_)
        exact hJ50  M9  h
set_option maxRecDepth 100000 in
set_option maxHeartbeats 4000000 in
theorem zX11_saysTouched (G : xGX) (a0 : Nat) (h0 : xkd a0 = 11) (a1 : Int32) (a2 : Int64) (M : xMem) (M' : xMem) (h : fX11_saysTouched a0 a1 a2 M = some M') : xCt G yX11_saysTouched cX11_saysTouched 8 none 3 [vr G a0, .int a1, .long a2] M (none, M') := by
  refine xMet (lv := [some (vr G a0), some (.int a1), some (.long a2), none, none, none, none, none]) (by decide) (Nat.le_of_ble_eq_true rfl) rfl ?_
  intro X hG hnL C R0
  subst hG
  have C : xCk X cX11_saysTouched RX11 3 := C
  have hn4 : 4 + 1 < X.2.2.2.2.2.2.2.2.2.2.2.2.2 := by rw [hnL]; decide
  have hn6 : 6 + 1 < X.2.2.2.2.2.2.2.2.2.2.2.2.2 := by rw [hnL]; decide
  unfold fX11_saysTouched at h
  refine r_lconst (pc := 0) (v := lN 1) C dX11_saysTouched_0 rfl ?_
  refine r_lstore (pc := 1) (lv' := [_, _, _, _, _, _, _, _]) C dX11_saysTouched_1 hn4 rfl ?_
  refine lX11_saysTouched_3 C R0 hnL a0 h0 a1 a2 _ (fun v3 M4 h => ?_) _ _ _ h
  refine r_lload (pc := 25) C dX11_saysTouched_25 rfl ?_
  refine r_lstore (pc := 27) (lv' := [_, _, _, _, _, _, _, _]) C dX11_saysTouched_27 hn6 rfl ?_
  refine lX11_saysTouched_29 C R0 hnL a0 h0 a1 a2 v3 _ (fun v10 M11 h => ?_) _ _ _ h
  exact r_vret (pc := 77) C R0 h dX11_saysTouched_77
theorem dX11_tellsRaid_0 : decode cX11_tellsRaid 0 = .ok (.aload_n 0, 1) := by decide +kernel
theorem dX11_tellsRaid_1 : decode cX11_tellsRaid 1 = .ok (.iload_n 1, 1) := by decide +kernel
theorem dX11_tellsRaid_2 : decode cX11_tellsRaid 2 = .ok (.iconst 0, 1) := by decide +kernel
theorem dX11_tellsRaid_3 : decode cX11_tellsRaid 3 = .ok (.invokevirtual 347, 3) := by decide +kernel
theorem dX11_tellsRaid_6 : decode cX11_tellsRaid 6 = .ok (.istore_n 2, 1) := by decide +kernel
theorem dX11_tellsRaid_7 : decode cX11_tellsRaid 7 = .ok (.aload_n 0, 1) := by decide +kernel
theorem dX11_tellsRaid_8 : decode cX11_tellsRaid 8 = .ok (.iconst 0, 1) := by decide +kernel
theorem dX11_tellsRaid_9 : decode cX11_tellsRaid 9 = .ok (.putfield 418, 3) := by decide +kernel
theorem dX11_tellsRaid_12 : decode cX11_tellsRaid 12 = .ok (.aload_n 0, 1) := by decide +kernel
theorem dX11_tellsRaid_13 : decode cX11_tellsRaid 13 = .ok (.ldc_w 427, 3) := by decide +kernel
theorem dX11_tellsRaid_16 : decode cX11_tellsRaid 16 = .ok (.invokevirtual 429, 3) := by decide +kernel
theorem dX11_tellsRaid_19 : decode cX11_tellsRaid 19 = .ok (.aload_n 0, 1) := by decide +kernel
theorem dX11_tellsRaid_20 : decode cX11_tellsRaid 20 = .ok (.iload_n 2, 1) := by decide +kernel
theorem dX11_tellsRaid_21 : decode cX11_tellsRaid 21 = .ok (.aload_n 0, 1) := by decide +kernel
theorem dX11_tellsRaid_22 : decode cX11_tellsRaid 22 = .ok (.iload_n 1, 1) := by decide +kernel
theorem dX11_tellsRaid_23 : decode cX11_tellsRaid 23 = .ok (.iconst 1, 1) := by decide +kernel
theorem dX11_tellsRaid_24 : decode cX11_tellsRaid 24 = .ok (.invokevirtual 347, 3) := by decide +kernel
theorem dX11_tellsRaid_27 : decode cX11_tellsRaid 27 = .ok (.invokevirtual 424, 3) := by decide +kernel
theorem dX11_tellsRaid_30 : decode cX11_tellsRaid 30 = .ok (.aload_n 0, 1) := by decide +kernel
theorem dX11_tellsRaid_31 : decode cX11_tellsRaid 31 = .ok (.iload_n 1, 1) := by decide +kernel
theorem dX11_tellsRaid_32 : decode cX11_tellsRaid 32 = .ok (.iconst 2, 1) := by decide +kernel
theorem dX11_tellsRaid_33 : decode cX11_tellsRaid 33 = .ok (.invokevirtual 347, 3) := by decide +kernel
theorem dX11_tellsRaid_36 : decode cX11_tellsRaid 36 = .ok (.istore_n 3, 1) := by decide +kernel
theorem dX11_tellsRaid_37 : decode cX11_tellsRaid 37 = .ok (.aload_n 0, 1) := by decide +kernel
theorem dX11_tellsRaid_38 : decode cX11_tellsRaid 38 = .ok (.iload_n 3, 1) := by decide +kernel
theorem dX11_tellsRaid_39 : decode cX11_tellsRaid 39 = .ok (.ifCond .ne 9, 3) := by decide +kernel
theorem dX11_tellsRaid_42 : decode cX11_tellsRaid 42 = .ok (.ldc_w 432, 3) := by decide +kernel
theorem dX11_tellsRaid_45 : decode cX11_tellsRaid 45 = .ok (.goto 39, 3) := by decide +kernel
theorem dX11_tellsRaid_48 : decode cX11_tellsRaid 48 = .ok (.iload_n 3, 1) := by decide +kernel
theorem dX11_tellsRaid_49 : decode cX11_tellsRaid 49 = .ok (.iconst 1, 1) := by decide +kernel
theorem dX11_tellsRaid_50 : decode cX11_tellsRaid 50 = .ok (.if_icmp .ne 9, 3) := by decide +kernel
theorem dX11_tellsRaid_53 : decode cX11_tellsRaid 53 = .ok (.ldc_w 434, 3) := by decide +kernel
theorem dX11_tellsRaid_56 : decode cX11_tellsRaid 56 = .ok (.goto 28, 3) := by decide +kernel
theorem dX11_tellsRaid_59 : decode cX11_tellsRaid 59 = .ok (.iload_n 3, 1) := by decide +kernel
theorem dX11_tellsRaid_60 : decode cX11_tellsRaid 60 = .ok (.iconst 2, 1) := by decide +kernel
theorem dX11_tellsRaid_61 : decode cX11_tellsRaid 61 = .ok (.if_icmp .ne 9, 3) := by decide +kernel
theorem dX11_tellsRaid_64 : decode cX11_tellsRaid 64 = .ok (.ldc_w 436, 3) := by decide +kernel
theorem dX11_tellsRaid_67 : decode cX11_tellsRaid 67 = .ok (.goto 17, 3) := by decide +kernel
theorem dX11_tellsRaid_70 : decode cX11_tellsRaid 70 = .ok (.iload_n 3, 1) := by decide +kernel
theorem dX11_tellsRaid_71 : decode cX11_tellsRaid 71 = .ok (.iconst 3, 1) := by decide +kernel
theorem dX11_tellsRaid_72 : decode cX11_tellsRaid 72 = .ok (.if_icmp .ne 9, 3) := by decide +kernel
theorem dX11_tellsRaid_75 : decode cX11_tellsRaid 75 = .ok (.ldc_w 438, 3) := by decide +kernel
theorem dX11_tellsRaid_78 : decode cX11_tellsRaid 78 = .ok (.goto 6, 3) := by decide +kernel
theorem dX11_tellsRaid_81 : decode cX11_tellsRaid 81 = .ok (.ldc_w 440, 3) := by decide +kernel
theorem dX11_tellsRaid_84 : decode cX11_tellsRaid 84 = .ok (.invokevirtual 429, 3) := by decide +kernel
theorem dX11_tellsRaid_87 : decode cX11_tellsRaid 87 = .ok (.iload_n 3, 1) := by decide +kernel
theorem dX11_tellsRaid_88 : decode cX11_tellsRaid 88 = .ok (.iconst 3, 1) := by decide +kernel
theorem dX11_tellsRaid_89 : decode cX11_tellsRaid 89 = .ok (.if_icmp .ne 16, 3) := by decide +kernel
theorem dX11_tellsRaid_92 : decode cX11_tellsRaid 92 = .ok (.aload_n 0, 1) := by decide +kernel
theorem dX11_tellsRaid_93 : decode cX11_tellsRaid 93 = .ok (.iconst 1, 1) := by decide +kernel
theorem dX11_tellsRaid_94 : decode cX11_tellsRaid 94 = .ok (.iload_n 2, 1) := by decide +kernel
theorem dX11_tellsRaid_95 : decode cX11_tellsRaid 95 = .ok (.isub, 1) := by decide +kernel
theorem dX11_tellsRaid_96 : decode cX11_tellsRaid 96 = .ok (.aload_n 0, 1) := by decide +kernel
theorem dX11_tellsRaid_97 : decode cX11_tellsRaid 97 = .ok (.iload_n 1, 1) := by decide +kernel
theorem dX11_tellsRaid_98 : decode cX11_tellsRaid 98 = .ok (.iconst 5, 1) := by decide +kernel
theorem dX11_tellsRaid_99 : decode cX11_tellsRaid 99 = .ok (.invokevirtual 347, 3) := by decide +kernel
theorem dX11_tellsRaid_102 : decode cX11_tellsRaid 102 = .ok (.invokevirtual 424, 3) := by decide +kernel
theorem dX11_tellsRaid_105 : decode cX11_tellsRaid 105 = .ok (.iload_n 3, 1) := by decide +kernel
theorem dX11_tellsRaid_106 : decode cX11_tellsRaid 106 = .ok (.iconst 1, 1) := by decide +kernel
theorem dX11_tellsRaid_107 : decode cX11_tellsRaid 107 = .ok (.if_icmp .ne 26, 3) := by decide +kernel
theorem dX11_tellsRaid_110 : decode cX11_tellsRaid 110 = .ok (.aload_n 0, 1) := by decide +kernel
theorem dX11_tellsRaid_111 : decode cX11_tellsRaid 111 = .ok (.iconst 1, 1) := by decide +kernel
theorem dX11_tellsRaid_112 : decode cX11_tellsRaid 112 = .ok (.iload_n 2, 1) := by decide +kernel
theorem dX11_tellsRaid_113 : decode cX11_tellsRaid 113 = .ok (.isub, 1) := by decide +kernel
theorem dX11_tellsRaid_114 : decode cX11_tellsRaid 114 = .ok (.aload_n 0, 1) := by decide +kernel
theorem dX11_tellsRaid_115 : decode cX11_tellsRaid 115 = .ok (.getfield 16, 3) := by decide +kernel
theorem dX11_tellsRaid_118 : decode cX11_tellsRaid 118 = .ok (.sipush 235, 3) := by decide +kernel
theorem dX11_tellsRaid_121 : decode cX11_tellsRaid 121 = .ok (.bipush 15, 2) := by decide +kernel
theorem dX11_tellsRaid_123 : decode cX11_tellsRaid 123 = .ok (.iload_n 1, 1) := by decide +kernel
theorem dX11_tellsRaid_124 : decode cX11_tellsRaid 124 = .ok (.imul, 1) := by decide +kernel
theorem dX11_tellsRaid_125 : decode cX11_tellsRaid 125 = .ok (.iadd, 1) := by decide +kernel
theorem dX11_tellsRaid_126 : decode cX11_tellsRaid 126 = .ok (.bipush 12, 2) := by decide +kernel
theorem dX11_tellsRaid_128 : decode cX11_tellsRaid 128 = .ok (.iadd, 1) := by decide +kernel
theorem dX11_tellsRaid_129 : decode cX11_tellsRaid 129 = .ok (.laload, 1) := by decide +kernel
theorem dX11_tellsRaid_130 : decode cX11_tellsRaid 130 = .ok (.invokevirtual 442, 3) := by decide +kernel
theorem dX11_tellsRaid_133 : decode cX11_tellsRaid 133 = .ok (.aload_n 0, 1) := by decide +kernel
theorem dX11_tellsRaid_134 : decode cX11_tellsRaid 134 = .ok (.iload_n 1, 1) := by decide +kernel
theorem dX11_tellsRaid_135 : decode cX11_tellsRaid 135 = .ok (.bipush 6, 2) := by decide +kernel
theorem dX11_tellsRaid_137 : decode cX11_tellsRaid 137 = .ok (.invokevirtual 347, 3) := by decide +kernel
theorem dX11_tellsRaid_140 : decode cX11_tellsRaid 140 = .ok (.iconst 1, 1) := by decide +kernel
theorem dX11_tellsRaid_141 : decode cX11_tellsRaid 141 = .ok (.if_icmp .ne 10, 3) := by decide +kernel
theorem dX11_tellsRaid_144 : decode cX11_tellsRaid 144 = .ok (.aload_n 0, 1) := by decide +kernel
theorem dX11_tellsRaid_145 : decode cX11_tellsRaid 145 = .ok (.ldc_w 436, 3) := by decide +kernel
theorem dX11_tellsRaid_148 : decode cX11_tellsRaid 148 = .ok (.invokevirtual 429, 3) := by decide +kernel
theorem dX11_tellsRaid_151 : decode cX11_tellsRaid 151 = .ok (.aload_n 0, 1) := by decide +kernel
theorem dX11_tellsRaid_152 : decode cX11_tellsRaid 152 = .ok (.bipush 59, 2) := by decide +kernel
theorem dX11_tellsRaid_154 : decode cX11_tellsRaid 154 = .ok (.invokevirtual 421, 3) := by decide +kernel
theorem dX11_tellsRaid_157 : decode cX11_tellsRaid 157 = .ok (.return_, 1) := by decide +kernel
def fX11_tellsRaid (a0 : Nat) (a1 : Int32) (M : xMem) : Option (xMem) :=
  xBn (fX11_rec a0 a1 (nI 0) M) fun r1 M2 => xLt (xwI M2 a0 24 (nI 0)) fun M3 => xBv (fX11_saysText a0 24 M3) fun M4 => xBn (fX11_rec a0 a1 (nI 1) M4) fun r5 M6 => xBv (fX11_saysShirt a0 r1 r5 M6) fun M7 => xBn (fX11_rec a0 a1 (nI 2) M7) fun r8 M9 => xLt (fun (s10 : Nat) (M11 : xMem) => (xBv (fX11_saysText a0 s10 M11) fun M12 => xLt (fun  (M13 : xMem) => (xLt (fun  (M14 : xMem) => (xBn (fX11_rec a0 a1 (nI 6) M14) fun r15 M16 => xLt (fun  (M17 : xMem) => (xBv (fX11_says a0 (nI 59) M17) fun M18 => some M18 : Option (xMem))) fun J151 => if r15 = (nI 1) then (xBv (fX11_saysText a0 27 M16) fun M19 => J151  M19) else (J151  M16) : Option (xMem))) fun J133 => if r8 = (nI 1) then (xGb (((nI 235) + ((nI 15) * a1)) + (nI 12)) (xln (xnw M13)) (xBv (fX11_saysTouched a0 ((nI 1) - r1) (M13.2.1 (xnw M13) (Int32.toNatClampNeg (((nI 235) + ((nI 15) * a1)) + (nI 12)))) M13) fun M21 => J133  M21)) else (J133  M13) : Option (xMem))) fun J105 => if r8 = (nI 3) then (xBn (fX11_rec a0 a1 (nI 5) M12) fun r22 M23 => xBv (fX11_saysShirt a0 ((nI 1) - r1) r22 M23) fun M24 => J105  M24) else (J105  M12) : Option (xMem))) fun J84 => if r8 = 0 then (J84 25 M9) else (if r8 = (nI 1) then (J84 26 M9) else (if r8 = (nI 2) then (J84 27 M9) else (if r8 = (nI 3) then (J84 28 M9) else (J84 29 M9))))
set_option maxRecDepth 100000 in
set_option maxHeartbeats 4000000 in
theorem zX11_tellsRaid (G : xGX) (a0 : Nat) (h0 : xkd a0 = 11) (a1 : Int32) (M : xMem) (M' : xMem) (h : fX11_tellsRaid a0 a1 M = some M') : xCt G yX11_tellsRaid cX11_tellsRaid 4 none 6 [vr G a0, .int a1] M (none, M') := by
  refine xMet (lv := [some (vr G a0), some (.int a1), none, none]) (by decide) (Nat.le_of_ble_eq_true rfl) rfl ?_
  intro X hG hnL C R0
  subst hG
  have C : xCk X cX11_tellsRaid RX11 6 := C
  have hn2 : 2 < X.2.2.2.2.2.2.2.2.2.2.2.2.2 := by rw [hnL]; decide
  have hn3 : 3 < X.2.2.2.2.2.2.2.2.2.2.2.2.2 := by rw [hnL]; decide
  unfold fX11_tellsRaid at h
  refine r_aload_n (pc := 0) C dX11_tellsRaid_0 rfl rfl ?_
  refine r_iload_n (pc := 1) C dX11_tellsRaid_1 rfl rfl ?_
  refine r_iconst (pc := 2) (v := (nI 0)) C dX11_tellsRaid_2 (by decide) ?_
  refine r_vI2 (pc := 3) C (fun r M' e => zX11_rec X.1 a0 h0 a1 (nI 0) M r M' e) h0 (by decide) rfl mX11_rec lX11_347 (by decide) (Nat.le_of_ble_eq_true rfl) dX11_tellsRaid_3 h (fun r1 M2 h => ?_)
  refine r_istore_n (pc := 6) (lv' := [_, _, _, _]) C dX11_tellsRaid_6 rfl hn2 rfl ?_
  refine r_aload_n (pc := 7) C dX11_tellsRaid_7 rfl rfl ?_
  refine r_iconst (pc := 8) (v := (nI 0)) C dX11_tellsRaid_8 (by decide) ?_
  refine r_putI (pc := 9) C kX11_418 h0 dX11_tellsRaid_9 ?_
  refine r_letM h (fun M3 h => ?_)
  refine r_aload_n (pc := 12) C dX11_tellsRaid_12 rfl rfl ?_
  refine r_ldcwS (pc := 13) (i := 24) C (by decide) rfl dX11_tellsRaid_13 ?_
  refine r_vV1 (pc := 16) C (fun M' e => zX11_saysText X.1 a0 h0 24 (by decide) M3 M' e) h0 (by decide) rfl mX11_saysText lX11_429 (by decide) (Nat.le_of_ble_eq_true rfl) dX11_tellsRaid_16 h (fun M4 h => ?_)
  refine r_aload_n (pc := 19) C dX11_tellsRaid_19 rfl rfl ?_
  refine r_iload_n (pc := 20) C dX11_tellsRaid_20 rfl rfl ?_
  refine r_aload_n (pc := 21) C dX11_tellsRaid_21 rfl rfl ?_
  refine r_iload_n (pc := 22) C dX11_tellsRaid_22 rfl rfl ?_
  refine r_iconst (pc := 23) (v := (nI 1)) C dX11_tellsRaid_23 (by decide) ?_
  refine r_vI2 (pc := 24) C (fun r M' e => zX11_rec X.1 a0 h0 a1 (nI 1) M4 r M' e) h0 (by decide) rfl mX11_rec lX11_347 (by decide) (Nat.le_of_ble_eq_true rfl) dX11_tellsRaid_24 h (fun r5 M6 h => ?_)
  refine r_vV2 (pc := 27) C (fun M' e => zX11_saysShirt X.1 a0 h0 r1 r5 M6 M' e) h0 (by decide) rfl mX11_saysShirt lX11_424 (by decide) (Nat.le_of_ble_eq_true rfl) dX11_tellsRaid_27 h (fun M7 h => ?_)
  refine r_aload_n (pc := 30) C dX11_tellsRaid_30 rfl rfl ?_
  refine r_iload_n (pc := 31) C dX11_tellsRaid_31 rfl rfl ?_
  refine r_iconst (pc := 32) (v := (nI 2)) C dX11_tellsRaid_32 (by decide) ?_
  refine r_vI2 (pc := 33) C (fun r M' e => zX11_rec X.1 a0 h0 a1 (nI 2) M7 r M' e) h0 (by decide) rfl mX11_rec lX11_347 (by decide) (Nat.le_of_ble_eq_true rfl) dX11_tellsRaid_33 h (fun r8 M9 h => ?_)
  refine r_istore_n (pc := 36) (lv' := [_, _, _, _]) C dX11_tellsRaid_36 rfl hn3 rfl ?_
  refine r_aload_n (pc := 37) C dX11_tellsRaid_37 rfl rfl ?_
  refine r_iload_n (pc := 38) C dX11_tellsRaid_38 rfl rfl ?_
  refine r_jn (fun J => ∀ (s10 : Nat) (M11 : xMem) (hs10 : s10 < 30), J s10 M11 = some M' → WW X 84 [some (vr X.1 a0), some (.int a1), some (.int r1), some (.int r8)] [vs X.1 s10, vr X.1 a0] M11) h (fun s10 M11 hs10 h => ?_) (fun J84 hJ84 h => ?_)
  · refine r_vV1 (pc := 84) C (fun M' e => zX11_saysText X.1 a0 h0 s10 hs10 M11 M' e) h0 (by decide) rfl mX11_saysText lX11_429 (by decide) (Nat.le_of_ble_eq_true rfl) dX11_tellsRaid_84 h (fun M12 h => ?_)
    refine r_iload_n (pc := 87) C dX11_tellsRaid_87 rfl rfl ?_
    refine r_iconst (pc := 88) (v := (nI 3)) C dX11_tellsRaid_88 (by decide) ?_
    refine r_jn (fun J => ∀  (M13 : xMem) , J  M13 = some M' → WW X 105 [some (vr X.1 a0), some (.int a1), some (.int r1), some (.int r8)] [] M13) h (fun  M13  h => ?_) (fun J105 hJ105 h => ?_)
    · refine r_iload_n (pc := 105) C dX11_tellsRaid_105 rfl rfl ?_
      refine r_iconst (pc := 106) (v := (nI 1)) C dX11_tellsRaid_106 (by decide) ?_
      refine r_jn (fun J => ∀  (M14 : xMem) , J  M14 = some M' → WW X 133 [some (vr X.1 a0), some (.int a1), some (.int r1), some (.int r8)] [] M14) h (fun  M14  h => ?_) (fun J133 hJ133 h => ?_)
      · refine r_aload_n (pc := 133) C dX11_tellsRaid_133 rfl rfl ?_
        refine r_iload_n (pc := 134) C dX11_tellsRaid_134 rfl rfl ?_
        refine r_bipush (pc := 135) (v := (nI 6)) C dX11_tellsRaid_135 (by decide) ?_
        refine r_vI2 (pc := 137) C (fun r M' e => zX11_rec X.1 a0 h0 a1 (nI 6) M14 r M' e) h0 (by decide) rfl mX11_rec lX11_347 (by decide) (Nat.le_of_ble_eq_true rfl) dX11_tellsRaid_137 h (fun r15 M16 h => ?_)
        refine r_iconst (pc := 140) (v := (nI 1)) C dX11_tellsRaid_140 (by decide) ?_
        refine r_jn (fun J => ∀  (M17 : xMem) , J  M17 = some M' → WW X 151 [some (vr X.1 a0), some (.int a1), some (.int r1), some (.int r8)] [] M17) h (fun  M17  h => ?_) (fun J151 hJ151 h => ?_)
        · refine r_aload_n (pc := 151) C dX11_tellsRaid_151 rfl rfl ?_
          refine r_bipush (pc := 152) (v := (nI 59)) C dX11_tellsRaid_152 (by decide) ?_
          refine r_vV1 (pc := 154) C (fun M' e => zX11_says X.1 a0 h0 (nI 59) M17 M' e) h0 (by decide) rfl mX11_says lX11_421 (by decide) (Nat.le_of_ble_eq_true rfl) dX11_tellsRaid_154 h (fun M18 h => ?_)
          exact r_vret (pc := 157) C R0 h dX11_tellsRaid_157
        refine r_icmp_ne (pc := 141) (tgt := 151) C dX11_tellsRaid_141 (by decide) h (fun _ h => ?_) (fun _ h => ?_)
        · exact hJ151  M16  h
        · refine r_aload_n (pc := 144) C dX11_tellsRaid_144 rfl rfl ?_
          refine r_ldcwS (pc := 145) (i := 27) C (by decide) rfl dX11_tellsRaid_145 ?_
          refine r_vV1 (pc := 148) C (fun M' e => zX11_saysText X.1 a0 h0 27 (by decide) M16 M' e) h0 (by decide) rfl mX11_saysText lX11_429 (by decide) (Nat.le_of_ble_eq_true rfl) dX11_tellsRaid_148 h (fun M19 h => ?_)
          exact hJ151  M19  h
      refine r_icmp_ne (pc := 107) (tgt := 133) C dX11_tellsRaid_107 (by decide) h (fun _ h => ?_) (fun _ h => ?_)
      · exact hJ133  M13  h
      · refine r_aload_n (pc := 110) C dX11_tellsRaid_110 rfl rfl ?_
        refine r_iconst (pc := 111) (v := (nI 1)) C dX11_tellsRaid_111 (by decide) ?_
        refine r_iload_n (pc := 112) C dX11_tellsRaid_112 rfl rfl ?_
        refine r_isub (pc := 113) C dX11_tellsRaid_113 ?_
        refine r_aload_n (pc := 114) C dX11_tellsRaid_114 rfl rfl ?_
        refine r_getW (pc := 115) C kX11_16 h0 dX11_tellsRaid_115 ?_
        refine r_sipush (pc := 118) (v := (nI 235)) C dX11_tellsRaid_118 (by decide) ?_
        refine r_bipush (pc := 121) (v := (nI 15)) C dX11_tellsRaid_121 (by decide) ?_
        refine r_iload_n (pc := 123) C dX11_tellsRaid_123 rfl rfl ?_
        refine r_imul (pc := 124) C dX11_tellsRaid_124 ?_
        refine r_iadd (pc := 125) C dX11_tellsRaid_125 ?_
        refine r_bipush (pc := 126) (v := (nI 12)) C dX11_tellsRaid_126 (by decide) ?_
        refine r_iadd (pc := 128) C dX11_tellsRaid_128 ?_
        obtain ⟨g20, h⟩ := xGb_of h
        refine r_lald (pc := 129) C (xknw M13) g20 dX11_tellsRaid_129 ?_
        refine r_vV2 (pc := 130) C (fun M' e => zX11_saysTouched X.1 a0 h0 ((nI 1) - r1) (M13.2.1 (xnw M13) (Int32.toNatClampNeg (((nI 235) + ((nI 15) * a1)) + (nI 12)))) M13 M' e) h0 (by decide) rfl mX11_saysTouched lX11_442 (by decide) (Nat.le_of_ble_eq_true rfl) dX11_tellsRaid_130 h (fun M21 h => ?_)
        exact hJ133  M21  h
    refine r_icmp_ne (pc := 89) (tgt := 105) C dX11_tellsRaid_89 (by decide) h (fun _ h => ?_) (fun _ h => ?_)
    · exact hJ105  M12  h
    · refine r_aload_n (pc := 92) C dX11_tellsRaid_92 rfl rfl ?_
      refine r_iconst (pc := 93) (v := (nI 1)) C dX11_tellsRaid_93 (by decide) ?_
      refine r_iload_n (pc := 94) C dX11_tellsRaid_94 rfl rfl ?_
      refine r_isub (pc := 95) C dX11_tellsRaid_95 ?_
      refine r_aload_n (pc := 96) C dX11_tellsRaid_96 rfl rfl ?_
      refine r_iload_n (pc := 97) C dX11_tellsRaid_97 rfl rfl ?_
      refine r_iconst (pc := 98) (v := (nI 5)) C dX11_tellsRaid_98 (by decide) ?_
      refine r_vI2 (pc := 99) C (fun r M' e => zX11_rec X.1 a0 h0 a1 (nI 5) M12 r M' e) h0 (by decide) rfl mX11_rec lX11_347 (by decide) (Nat.le_of_ble_eq_true rfl) dX11_tellsRaid_99 h (fun r22 M23 h => ?_)
      refine r_vV2 (pc := 102) C (fun M' e => zX11_saysShirt X.1 a0 h0 ((nI 1) - r1) r22 M23 M' e) h0 (by decide) rfl mX11_saysShirt lX11_424 (by decide) (Nat.le_of_ble_eq_true rfl) dX11_tellsRaid_102 h (fun M24 h => ?_)
      exact hJ105  M24  h
  refine r_if_ne (pc := 39) (tgt := 48) C dX11_tellsRaid_39 (by decide) h (fun _ h => ?_) (fun _ h => ?_)
  · refine r_iload_n (pc := 48) C dX11_tellsRaid_48 rfl rfl ?_
    refine r_iconst (pc := 49) (v := (nI 1)) C dX11_tellsRaid_49 (by decide) ?_
    refine r_icmp_ne (pc := 50) (tgt := 59) C dX11_tellsRaid_50 (by decide) h (fun _ h => ?_) (fun _ h => ?_)
    · refine r_iload_n (pc := 59) C dX11_tellsRaid_59 rfl rfl ?_
      refine r_iconst (pc := 60) (v := (nI 2)) C dX11_tellsRaid_60 (by decide) ?_
      refine r_icmp_ne (pc := 61) (tgt := 70) C dX11_tellsRaid_61 (by decide) h (fun _ h => ?_) (fun _ h => ?_)
      · refine r_iload_n (pc := 70) C dX11_tellsRaid_70 rfl rfl ?_
        refine r_iconst (pc := 71) (v := (nI 3)) C dX11_tellsRaid_71 (by decide) ?_
        refine r_icmp_ne (pc := 72) (tgt := 81) C dX11_tellsRaid_72 (by decide) h (fun _ h => ?_) (fun _ h => ?_)
        · refine r_ldcwS (pc := 81) (i := 29) C (by decide) rfl dX11_tellsRaid_81 ?_
          exact hJ84 29 M9 (by decide) h
        · refine r_ldcwS (pc := 75) (i := 28) C (by decide) rfl dX11_tellsRaid_75 ?_
          refine r_goto (pc := 78) (tgt := 84) C dX11_tellsRaid_78 (by decide) ?_
          exact hJ84 28 M9 (by decide) h
      · refine r_ldcwS (pc := 64) (i := 27) C (by decide) rfl dX11_tellsRaid_64 ?_
        refine r_goto (pc := 67) (tgt := 84) C dX11_tellsRaid_67 (by decide) ?_
        exact hJ84 27 M9 (by decide) h
    · refine r_ldcwS (pc := 53) (i := 26) C (by decide) rfl dX11_tellsRaid_53 ?_
      refine r_goto (pc := 56) (tgt := 84) C dX11_tellsRaid_56 (by decide) ?_
      exact hJ84 26 M9 (by decide) h
  · refine r_ldcwS (pc := 42) (i := 25) C (by decide) rfl dX11_tellsRaid_42 ?_
    refine r_goto (pc := 45) (tgt := 84) C dX11_tellsRaid_45 (by decide) ?_
    exact hJ84 25 M9 (by decide) h
