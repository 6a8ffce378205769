theorem dX11_readTeam_0 : decode cX11_readTeam 0 = .ok (.aload_n 0, 1) := by decide +kernel
theorem dX11_readTeam_1 : decode cX11_readTeam 1 = .ok (.ldc 208, 2) := by decide +kernel
theorem dX11_readTeam_3 : decode cX11_readTeam 3 = .ok (.invokevirtual 258, 3) := by decide +kernel
theorem dX11_readTeam_6 : decode cX11_readTeam 6 = .ok (.aload_n 0, 1) := by decide +kernel
theorem dX11_readTeam_7 : decode cX11_readTeam 7 = .ok (.invokevirtual 244, 3) := by decide +kernel
theorem dX11_readTeam_10 : decode cX11_readTeam 10 = .ok (.istore_n 2, 1) := by decide +kernel
theorem dX11_readTeam_11 : decode cX11_readTeam 11 = .ok (.aload_n 0, 1) := by decide +kernel
theorem dX11_readTeam_12 : decode cX11_readTeam 12 = .ok (.invokevirtual 149, 3) := by decide +kernel
theorem dX11_readTeam_15 : decode cX11_readTeam 15 = .ok (.ifCond .eq 29, 3) := by decide +kernel
theorem dX11_readTeam_18 : decode cX11_readTeam 18 = .ok (.iload_n 1, 1) := by decide +kernel
theorem dX11_readTeam_19 : decode cX11_readTeam 19 = .ok (.iconst 1, 1) := by decide +kernel
theorem dX11_readTeam_20 : decode cX11_readTeam 20 = .ok (.if_icmp .ne 24, 3) := by decide +kernel
theorem dX11_readTeam_23 : decode cX11_readTeam 23 = .ok (.aload_n 0, 1) := by decide +kernel
theorem dX11_readTeam_24 : decode cX11_readTeam 24 = .ok (.getfield 16, 3) := by decide +kernel
theorem dX11_readTeam_27 : decode cX11_readTeam 27 = .ok (.iconst 3, 1) := by decide +kernel
theorem dX11_readTeam_28 : decode cX11_readTeam 28 = .ok (.laload, 1) := by decide +kernel
theorem dX11_readTeam_29 : decode cX11_readTeam 29 = .ok (.iload_n 2, 1) := by decide +kernel
theorem dX11_readTeam_30 : decode cX11_readTeam 30 = .ok (.i2l, 1) := by decide +kernel
theorem dX11_readTeam_31 : decode cX11_readTeam 31 = .ok (.lcmp, 1) := by decide +kernel
theorem dX11_readTeam_32 : decode cX11_readTeam 32 = .ok (.ifCond .ne 12, 3) := by decide +kernel
theorem dX11_readTeam_35 : decode cX11_readTeam 35 = .ok (.aload_n 0, 1) := by decide +kernel
theorem dX11_readTeam_36 : decode cX11_readTeam 36 = .ok (.iconst 3, 1) := by decide +kernel
theorem dX11_readTeam_37 : decode cX11_readTeam 37 = .ok (.aload_n 0, 1) := by decide +kernel
theorem dX11_readTeam_38 : decode cX11_readTeam 38 = .ok (.getfield 161, 3) := by decide +kernel
theorem dX11_readTeam_41 : decode cX11_readTeam 41 = .ok (.invokevirtual 202, 3) := by decide +kernel
theorem dX11_readTeam_44 : decode cX11_readTeam 44 = .ok (.aload_n 0, 1) := by decide +kernel
theorem dX11_readTeam_45 : decode cX11_readTeam 45 = .ok (.getfield 16, 3) := by decide +kernel
theorem dX11_readTeam_48 : decode cX11_readTeam 48 = .ok (.iconst 3, 1) := by decide +kernel
theorem dX11_readTeam_49 : decode cX11_readTeam 49 = .ok (.iload_n 1, 1) := by decide +kernel
theorem dX11_readTeam_50 : decode cX11_readTeam 50 = .ok (.iadd, 1) := by decide +kernel
theorem dX11_readTeam_51 : decode cX11_readTeam 51 = .ok (.iload_n 2, 1) := by decide +kernel
theorem dX11_readTeam_52 : decode cX11_readTeam 52 = .ok (.i2l, 1) := by decide +kernel
theorem dX11_readTeam_53 : decode cX11_readTeam 53 = .ok (.lastore, 1) := by decide +kernel
theorem dX11_readTeam_54 : decode cX11_readTeam 54 = .ok (.aload_n 0, 1) := by decide +kernel
theorem dX11_readTeam_55 : decode cX11_readTeam 55 = .ok (.invokevirtual 149, 3) := by decide +kernel
theorem dX11_readTeam_58 : decode cX11_readTeam 58 = .ok (.ifCond .eq 7, 3) := by decide +kernel
theorem dX11_readTeam_61 : decode cX11_readTeam 61 = .ok (.aload_n 0, 1) := by decide +kernel
theorem dX11_readTeam_62 : decode cX11_readTeam 62 = .ok (.invokevirtual 196, 3) := by decide +kernel
theorem dX11_readTeam_65 : decode cX11_readTeam 65 = .ok (.aload_n 0, 1) := by decide +kernel
theorem dX11_readTeam_66 : decode cX11_readTeam 66 = .ok (.bipush 58, 2) := by decide +kernel
theorem dX11_readTeam_68 : decode cX11_readTeam 68 = .ok (.invokevirtual 262, 3) := by decide +kernel
theorem dX11_readTeam_71 : decode cX11_readTeam 71 = .ok (.aload_n 0, 1) := by decide +kernel
theorem dX11_readTeam_72 : decode cX11_readTeam 72 = .ok (.invokevirtual 252, 3) := by decide +kernel
theorem dX11_readTeam_75 : decode cX11_readTeam 75 = .ok (.istore_n 3, 1) := by decide +kernel
theorem dX11_readTeam_76 : decode cX11_readTeam 76 = .ok (.aload_n 0, 1) := by decide +kernel
theorem dX11_readTeam_77 : decode cX11_readTeam 77 = .ok (.invokevirtual 149, 3) := by decide +kernel
theorem dX11_readTeam_80 : decode cX11_readTeam 80 = .ok (.ifCond .eq 22, 3) := by decide +kernel
theorem dX11_readTeam_83 : decode cX11_readTeam 83 = .ok (.aload_n 0, 1) := by decide +kernel
theorem dX11_readTeam_84 : decode cX11_readTeam 84 = .ok (.iload_n 1, 1) := by decide +kernel
theorem dX11_readTeam_85 : decode cX11_readTeam 85 = .ok (.iload_n 3, 1) := by decide +kernel
theorem dX11_readTeam_86 : decode cX11_readTeam 86 = .ok (.invokevirtual 255, 3) := by decide +kernel
theorem dX11_readTeam_89 : decode cX11_readTeam 89 = .ok (.iconst (-1), 1) := by decide +kernel
theorem dX11_readTeam_90 : decode cX11_readTeam 90 = .ok (.if_icmp .eq 12, 3) := by decide +kernel
theorem dX11_readTeam_93 : decode cX11_readTeam 93 = .ok (.aload_n 0, 1) := by decide +kernel
theorem dX11_readTeam_94 : decode cX11_readTeam 94 = .ok (.iconst 3, 1) := by decide +kernel
theorem dX11_readTeam_95 : decode cX11_readTeam 95 = .ok (.aload_n 0, 1) := by decide +kernel
theorem dX11_readTeam_96 : decode cX11_readTeam 96 = .ok (.getfield 161, 3) := by decide +kernel
theorem dX11_readTeam_99 : decode cX11_readTeam 99 = .ok (.invokevirtual 202, 3) := by decide +kernel
theorem dX11_readTeam_102 : decode cX11_readTeam 102 = .ok (.aload_n 0, 1) := by decide +kernel
theorem dX11_readTeam_103 : decode cX11_readTeam 103 = .ok (.invokevirtual 149, 3) := by decide +kernel
theorem dX11_readTeam_106 : decode cX11_readTeam 106 = .ok (.ifCond .eq 23, 3) := by decide +kernel
theorem dX11_readTeam_109 : decode cX11_readTeam 109 = .ok (.aload_n 0, 1) := by decide +kernel
theorem dX11_readTeam_110 : decode cX11_readTeam 110 = .ok (.iload_n 1, 1) := by decide +kernel
theorem dX11_readTeam_111 : decode cX11_readTeam 111 = .ok (.invokevirtual 59, 3) := by decide +kernel
theorem dX11_readTeam_114 : decode cX11_readTeam 114 = .ok (.bipush 10, 2) := by decide +kernel
theorem dX11_readTeam_116 : decode cX11_readTeam 116 = .ok (.if_icmp .ne 13, 3) := by decide +kernel
theorem dX11_readTeam_119 : decode cX11_readTeam 119 = .ok (.aload_n 0, 1) := by decide +kernel
theorem dX11_readTeam_120 : decode cX11_readTeam 120 = .ok (.bipush 6, 2) := by decide +kernel
theorem dX11_readTeam_122 : decode cX11_readTeam 122 = .ok (.aload_n 0, 1) := by decide +kernel
theorem dX11_readTeam_123 : decode cX11_readTeam 123 = .ok (.getfield 161, 3) := by decide +kernel
theorem dX11_readTeam_126 : decode cX11_readTeam 126 = .ok (.invokevirtual 202, 3) := by decide +kernel
theorem dX11_readTeam_129 : decode cX11_readTeam 129 = .ok (.aload_n 0, 1) := by decide +kernel
theorem dX11_readTeam_130 : decode cX11_readTeam 130 = .ok (.invokevirtual 149, 3) := by decide +kernel
theorem dX11_readTeam_133 : decode cX11_readTeam 133 = .ok (.ifCond .ne 4, 3) := by decide +kernel
theorem dX11_readTeam_136 : decode cX11_readTeam 136 = .ok (.return_, 1) := by decide +kernel
theorem dX11_readTeam_137 : decode cX11_readTeam 137 = .ok (.aload_n 0, 1) := by decide +kernel
theorem dX11_readTeam_138 : decode cX11_readTeam 138 = .ok (.getfield 16, 3) := by decide +kernel
theorem dX11_readTeam_141 : decode cX11_readTeam 141 = .ok (.iconst 5, 1) := by decide +kernel
theorem dX11_readTeam_142 : decode cX11_readTeam 142 = .ok (.bipush 10, 2) := by decide +kernel
theorem dX11_readTeam_144 : decode cX11_readTeam 144 = .ok (.iload_n 1, 1) := by decide +kernel
theorem dX11_readTeam_145 : decode cX11_readTeam 145 = .ok (.imul, 1) := by decide +kernel
theorem dX11_readTeam_146 : decode cX11_readTeam 146 = .ok (.iadd, 1) := by decide +kernel
theorem dX11_readTeam_147 : decode cX11_readTeam 147 = .ok (.aload_n 0, 1) := by decide +kernel
theorem dX11_readTeam_148 : decode cX11_readTeam 148 = .ok (.iload_n 1, 1) := by decide +kernel
theorem dX11_readTeam_149 : decode cX11_readTeam 149 = .ok (.invokevirtual 59, 3) := by decide +kernel
theorem dX11_readTeam_152 : decode cX11_readTeam 152 = .ok (.iadd, 1) := by decide +kernel
theorem dX11_readTeam_153 : decode cX11_readTeam 153 = .ok (.iload_n 3, 1) := by decide +kernel
theorem dX11_readTeam_154 : decode cX11_readTeam 154 = .ok (.i2l, 1) := by decide +kernel
theorem dX11_readTeam_155 : decode cX11_readTeam 155 = .ok (.lastore, 1) := by decide +kernel
theorem dX11_readTeam_156 : decode cX11_readTeam 156 = .ok (.aload_n 0, 1) := by decide +kernel
theorem dX11_readTeam_157 : decode cX11_readTeam 157 = .ok (.getfield 16, 3) := by decide +kernel
theorem dX11_readTeam_160 : decode cX11_readTeam 160 = .ok (.bipush 48, 2) := by decide +kernel
theorem dX11_readTeam_162 : decode cX11_readTeam 162 = .ok (.bipush 10, 2) := by decide +kernel
theorem dX11_readTeam_164 : decode cX11_readTeam 164 = .ok (.iload_n 1, 1) := by decide +kernel
theorem dX11_readTeam_165 : decode cX11_readTeam 165 = .ok (.imul, 1) := by decide +kernel
theorem dX11_readTeam_166 : decode cX11_readTeam 166 = .ok (.iadd, 1) := by decide +kernel
theorem dX11_readTeam_167 : decode cX11_readTeam 167 = .ok (.aload_n 0, 1) := by decide +kernel
theorem dX11_readTeam_168 : decode cX11_readTeam 168 = .ok (.iload_n 1, 1) := by decide +kernel
theorem dX11_readTeam_169 : decode cX11_readTeam 169 = .ok (.invokevirtual 59, 3) := by decide +kernel
theorem dX11_readTeam_172 : decode cX11_readTeam 172 = .ok (.iadd, 1) := by decide +kernel
theorem dX11_readTeam_173 : decode cX11_readTeam 173 = .ok (.aload_n 0, 1) := by decide +kernel
theorem dX11_readTeam_174 : decode cX11_readTeam 174 = .ok (.iload_n 1, 1) := by decide +kernel
theorem dX11_readTeam_175 : decode cX11_readTeam 175 = .ok (.invokevirtual 59, 3) := by decide +kernel
theorem dX11_readTeam_178 : decode cX11_readTeam 178 = .ok (.bipush 7, 2) := by decide +kernel
theorem dX11_readTeam_180 : decode cX11_readTeam 180 = .ok (.if_icmp .ge 7, 3) := by decide +kernel
theorem dX11_readTeam_183 : decode cX11_readTeam 183 = .ok (.lconst 0, 1) := by decide +kernel
theorem dX11_readTeam_184 : decode cX11_readTeam 184 = .ok (.goto 6, 3) := by decide +kernel
theorem dX11_readTeam_187 : decode cX11_readTeam 187 = .ok (.ldc2_w 66, 3) := by decide +kernel
theorem dX11_readTeam_190 : decode cX11_readTeam 190 = .ok (.lastore, 1) := by decide +kernel
theorem dX11_readTeam_191 : decode cX11_readTeam 191 = .ok (.aload_n 0, 1) := by decide +kernel
theorem dX11_readTeam_192 : decode cX11_readTeam 192 = .ok (.getfield 16, 3) := by decide +kernel
theorem dX11_readTeam_195 : decode cX11_readTeam 195 = .ok (.iconst 1, 1) := by decide +kernel
theorem dX11_readTeam_196 : decode cX11_readTeam 196 = .ok (.iload_n 1, 1) := by decide +kernel
theorem dX11_readTeam_197 : decode cX11_readTeam 197 = .ok (.iadd, 1) := by decide +kernel
theorem dX11_readTeam_198 : decode cX11_readTeam 198 = .ok (.dup2, 1) := by decide +kernel
theorem dX11_readTeam_199 : decode cX11_readTeam 199 = .ok (.laload, 1) := by decide +kernel
theorem dX11_readTeam_200 : decode cX11_readTeam 200 = .ok (.lconst 1, 1) := by decide +kernel
theorem dX11_readTeam_201 : decode cX11_readTeam 201 = .ok (.ladd, 1) := by decide +kernel
theorem dX11_readTeam_202 : decode cX11_readTeam 202 = .ok (.lastore, 1) := by decide +kernel
theorem dX11_readTeam_203 : decode cX11_readTeam 203 = .ok (.aload_n 0, 1) := by decide +kernel
theorem dX11_readTeam_204 : decode cX11_readTeam 204 = .ok (.invokevirtual 196, 3) := by decide +kernel
theorem dX11_readTeam_207 : decode cX11_readTeam 207 = .ok (.aload_n 0, 1) := by decide +kernel
theorem dX11_readTeam_208 : decode cX11_readTeam 208 = .ok (.bipush 44, 2) := by decide +kernel
theorem dX11_readTeam_210 : decode cX11_readTeam 210 = .ok (.invokevirtual 205, 3) := by decide +kernel
theorem dX11_readTeam_213 : decode cX11_readTeam 213 = .ok (.ifCond .ne (-142), 3) := by decide +kernel
theorem dX11_readTeam_216 : decode cX11_readTeam 216 = .ok (.aload_n 0, 1) := by decide +kernel
theorem dX11_readTeam_217 : decode cX11_readTeam 217 = .ok (.invokevirtual 149, 3) := by decide +kernel
theorem dX11_readTeam_220 : decode cX11_readTeam 220 = .ok (.ifCond .eq 40, 3) := by decide +kernel
theorem dX11_readTeam_223 : decode cX11_readTeam 223 = .ok (.aload_n 0, 1) := by decide +kernel
theorem dX11_readTeam_224 : decode cX11_readTeam 224 = .ok (.getfield 164, 3) := by decide +kernel
theorem dX11_readTeam_227 : decode cX11_readTeam 227 = .ok (.iconst 3, 1) := by decide +kernel
theorem dX11_readTeam_228 : decode cX11_readTeam 228 = .ok (.if_icmp .ne 32, 3) := by decide +kernel
theorem dX11_readTeam_231 : decode cX11_readTeam 231 = .ok (.aload_n 0, 1) := by decide +kernel
theorem dX11_readTeam_232 : decode cX11_readTeam 232 = .ok (.getfield 175, 3) := by decide +kernel
theorem dX11_readTeam_235 : decode cX11_readTeam 235 = .ok (.bipush 59, 2) := by decide +kernel
theorem dX11_readTeam_237 : decode cX11_readTeam 237 = .ok (.if_icmp .ne 23, 3) := by decide +kernel
theorem dX11_readTeam_240 : decode cX11_readTeam 240 = .ok (.aload_n 0, 1) := by decide +kernel
theorem dX11_readTeam_241 : decode cX11_readTeam 241 = .ok (.iload_n 1, 1) := by decide +kernel
theorem dX11_readTeam_242 : decode cX11_readTeam 242 = .ok (.invokevirtual 59, 3) := by decide +kernel
theorem dX11_readTeam_245 : decode cX11_readTeam 245 = .ok (.bipush 7, 2) := by decide +kernel
theorem dX11_readTeam_247 : decode cX11_readTeam 247 = .ok (.if_icmp .ge 13, 3) := by decide +kernel
theorem dX11_readTeam_250 : decode cX11_readTeam 250 = .ok (.aload_n 0, 1) := by decide +kernel
theorem dX11_readTeam_251 : decode cX11_readTeam 251 = .ok (.bipush 6, 2) := by decide +kernel
theorem dX11_readTeam_253 : decode cX11_readTeam 253 = .ok (.aload_n 0, 1) := by decide +kernel
theorem dX11_readTeam_254 : decode cX11_readTeam 254 = .ok (.getfield 161, 3) := by decide +kernel
theorem dX11_readTeam_257 : decode cX11_readTeam 257 = .ok (.invokevirtual 202, 3) := by decide +kernel
theorem dX11_readTeam_260 : decode cX11_readTeam 260 = .ok (.aload_n 0, 1) := by decide +kernel
theorem dX11_readTeam_261 : decode cX11_readTeam 261 = .ok (.bipush 59, 2) := by decide +kernel
theorem dX11_readTeam_263 : decode cX11_readTeam 263 = .ok (.invokevirtual 262, 3) := by decide +kernel
theorem dX11_readTeam_266 : decode cX11_readTeam 266 = .ok (.return_, 1) := by decide +kernel
def fX11_readTeam_l71 (p0 : Nat) (p1 : Int32) (p2 : Int32) (K : xMem → Option (xMem)) : Nat → xMem → Option (xMem)
  | 0, _ => none
  | n + 1, M => xBn (fX11_shirtHere p0 M) fun r13 M14 => xBn (fX11_good p0 M14) fun r15 M16 => xLt (fun  (M17 : xMem) => (xBn (fX11_good p0 M17) fun r18 M19 => xLt (fun  (M20 : xMem) => (xBn (fX11_good p0 M20) fun r21 M22 => if r21 = 0 then (some M22) else (xBn (fX11_many p0 p1 M22) fun r23 M24 => xGb (((nI 5) + ((nI 10) * p1)) + r23) (xln (xnw M22)) (xLt (xwL M24 (xnw M22) (Int32.toNatClampNeg (((nI 5) + ((nI 10) * p1)) + r23)) (Int32.toInt64 r13)) fun M26 => xBn (fX11_many p0 p1 M26) fun r27 M28 => xBn (fX11_many p0 p1 M28) fun r29 M30 => xLt (fun (s31 : Int64) (M32 : xMem) => (xGb (((nI 48) + ((nI 10) * p1)) + r27) (xln (xnw M26)) (xLt (xwL M32 (xnw M26) (Int32.toNatClampNeg (((nI 48) + ((nI 10) * p1)) + r27)) s31) fun M34 => xGb ((nI 1) + p1) (xln (xnw M34)) (xGb ((nI 1) + p1) (xln (xnw M34)) (xLt (xwL M34 (xnw M34) (Int32.toNatClampNeg ((nI 1) + p1)) ((M34.2.1 (xnw M34) (Int32.toNatClampNeg ((nI 1) + p1))) + (lN 1))) fun M37 => xBv (fX11_advance p0 M37) fun M38 => xBn (fX11_eatsByte p0 (nI 44) M38) fun r39 M40 => if r39 = 0 then (K  M40) else (fX11_readTeam_l71 p0 p1 p2 K n  M40)))) : Option (xMem))) fun J190 => if (nI 7) ≤ r29 then (J190 (lN 2) M30) else (J190 (lN 0) M30))) : Option (xMem))) fun J129 => if r18 = 0 then (J129  M19) else (xBn (fX11_many p0 p1 M19) fun r41 M42 => if r41 = (nI 10) then (xBv (fX11_errs p0 (nI 6) (M42.1 p0 14) M42) fun M43 => J129  M43) else (J129  M42)) : Option (xMem))) fun J102 => if r15 = 0 then (J102  M16) else (xBn (fX11_findShirt p0 p1 r13 M16) fun r44 M45 => if r44 = (-1) then (J102  M45) else (xBv (fX11_errs p0 (nI 3) (M45.1 p0 14) M45) fun M46 => J102  M46))
def fX11_readTeam (a0 : Nat) (a1 : Int32) (M : xMem) : Option (xMem) :=
  xBv (fX11_passes a0 7 M) fun M1 => xBn (fX11_nameHere a0 M1) fun r2 M3 => xBn (fX11_good a0 M3) fun r4 M5 => xLt (fun  (M6 : xMem) => (xGb ((nI 3) + a1) (xln (xnw M6)) (xLt (xwL M6 (xnw M6) (Int32.toNatClampNeg ((nI 3) + a1)) (Int32.toInt64 r2)) fun M8 => xBn (fX11_good a0 M8) fun r9 M10 => xLt (fun  (M11 : xMem) => (xBv (fX11_passesByte a0 (nI 58) M11) fun M12 => fX11_readTeam_l71 a0 a1 r2 (fun  (M47 : xMem) => xBn (fX11_good a0 M47) fun r48 M49 => xLt (fun  (M50 : xMem) => (xBv (fX11_passesByte a0 (nI 59) M50) fun M51 => some M51 : Option (xMem))) fun J260 => if r48 = 0 then (J260  M49) else (if (M49.1 a0 15) = (nI 3) then (if (M49.1 a0 16) = (nI 59) then (xBn (fX11_many a0 a1 M49) fun r52 M53 => if (nI 7) ≤ r52 then (J260  M53) else (xBv (fX11_errs a0 (nI 6) (M53.1 a0 14) M53) fun M54 => J260  M54)) else (J260  M49)) else (J260  M49))) xFU  M12 : Option (xMem))) fun J65 => if r9 = 0 then (J65  M10) else (xBv (fX11_advance a0 M10) fun M55 => J65  M55)) : Option (xMem))) fun J44 => if r4 = 0 then (J44  M5) else (if a1 = (nI 1) then (xGb (nI 3) (xln (xnw M5)) (if (lg_cmp (M5.2.1 (xnw M5) (Int32.toNatClampNeg (nI 3))) (Int32.toInt64 r2)) = 0 then (xBv (fX11_errs a0 (nI 3) (M5.1 a0 14) M5) fun M57 => J44  M57) else (J44  M5))) else (J44  M5))
set_option maxRecDepth 100000 in
set_option maxHeartbeats 4000000 in
theorem lX11_readTeam_71 {X : xCX} {M' : xMem} (C : xCk X cX11_readTeam RX11 8) (R0 : xRk X none (none, M')) (hnL : X.2.2.2.2.2.2.2.2.2.2.2.2.2 = 4) (p0 : Nat) (hp0 : xkd p0 = 11) (p1 : Int32) (p2 : Int32) (K : xMem → Option (xMem)) (hK : ∀  (M : xMem), K  M = some M' → WW X 216 [some (vr X.1 p0), some (.int p1), some (.int p2), none] [] M) : ∀ (n : Nat)  (M : xMem), fX11_readTeam_l71 p0 p1 p2 K n  M = some M' → WW X 71 [some (vr X.1 p0), some (.int p1), some (.int p2), none] [] M := by
  have hn2 : 2 < X.2.2.2.2.2.2.2.2.2.2.2.2.2 := by rw [hnL]; decide
  have hn3 : 3 < X.2.2.2.2.2.2.2.2.2.2.2.2.2 := by rw [hnL]; decide
  intro n
  induction n with
  | zero =>
    intro  M h
    cases (show (none : Option (xMem)) = some M' from h)
  | succ n ih =>
    intro  M h
    rw [fX11_readTeam_l71.eq_2] at h
    refine r_aload_n (pc := 71) C dX11_readTeam_71 rfl rfl ?_
    refine r_vI0 (pc := 72) C (fun r M' e => zX11_shirtHere X.1 p0 hp0 M r M' e) hp0 (by decide) rfl mX11_shirtHere lX11_252 (by decide) (Nat.le_of_ble_eq_true rfl) dX11_readTeam_72 h (fun r13 M14 h => ?_)
    refine r_istore_n (pc := 75) (lv' := [_, _, _, _]) C dX11_readTeam_75 rfl hn3 rfl ?_
    refine r_aload_n (pc := 76) C dX11_readTeam_76 rfl rfl ?_
    refine r_vI0 (pc := 77) C (fun r M' e => zX11_good X.1 p0 hp0 M14 r M' e) hp0 (by decide) rfl mX11_good lX11_149 (by decide) (Nat.le_of_ble_eq_true rfl) dX11_readTeam_77 h (fun r15 M16 h => ?_)
    refine r_jn (fun J => ∀  (M17 : xMem) , J  M17 = some M' → WW X 102 [some (vr X.1 p0), some (.int p1), some (.int p2), some (.int r13)] [] M17) h (fun  M17  h => ?_) (fun J102 hJ102 h => ?_)
    · refine r_aload_n (pc := 102) C dX11_readTeam_102 rfl rfl ?_
      refine r_vI0 (pc := 103) C (fun r M' e => zX11_good X.1 p0 hp0 M17 r M' e) hp0 (by decide) rfl mX11_good lX11_149 (by decide) (Nat.le_of_ble_eq_true rfl) dX11_readTeam_103 h (fun r18 M19 h => ?_)
      refine r_jn (fun J => ∀  (M20 : xMem) , J  M20 = some M' → WW X 129 [some (vr X.1 p0), some (.int p1), some (.int p2), some (.int r13)] [] M20) h (fun  M20  h => ?_) (fun J129 hJ129 h => ?_)
      · refine r_aload_n (pc := 129) C dX11_readTeam_129 rfl rfl ?_
        refine r_vI0 (pc := 130) C (fun r M' e => zX11_good X.1 p0 hp0 M20 r M' e) hp0 (by decide) rfl mX11_good lX11_149 (by decide) (Nat.le_of_ble_eq_true rfl) dX11_readTeam_130 h (fun r21 M22 h => ?_)
        refine r_if_ne (pc := 133) (tgt := 137) C dX11_readTeam_133 (by decide) h (fun _ h => ?_) (fun _ h => ?_)
        · refine r_aload_n (pc := 137) C dX11_readTeam_137 rfl rfl ?_
          refine r_getW (pc := 138) C kX11_16 hp0 dX11_readTeam_138 ?_
          refine r_iconst (pc := 141) (v := (nI 5)) C dX11_readTeam_141 (by decide) ?_
          refine r_bipush (pc := 142) (v := (nI 10)) C dX11_readTeam_142 (by decide) ?_
          refine r_iload_n (pc := 144) C dX11_readTeam_144 rfl rfl ?_
          refine r_imul (pc := 145) C dX11_readTeam_145 ?_
          refine r_iadd (pc := 146) C dX11_readTeam_146 ?_
          refine r_aload_n (pc := 147) C dX11_readTeam_147 rfl rfl ?_
          refine r_iload_n (pc := 148) C dX11_readTeam_148 rfl rfl ?_
          refine r_vI1 (pc := 149) C (fun r M' e => zX11_many X.1 p0 hp0 p1 M22 r M' e) hp0 (by decide) rfl mX11_many lX11_59 (by decide) (Nat.le_of_ble_eq_true rfl) dX11_readTeam_149 h (fun r23 M24 h => ?_)
          refine r_iadd (pc := 152) C dX11_readTeam_152 ?_
          refine r_iload_n (pc := 153) C dX11_readTeam_153 rfl rfl ?_
          refine r_i2l (pc := 154) C dX11_readTeam_154 ?_
          obtain ⟨g25, h⟩ := xGb_of h
          refine r_last (pc := 155) C (xknw M22) g25 dX11_readTeam_155 ?_
          refine r_letM h (fun M26 h => ?_)
          refine r_aload_n (pc := 156) C dX11_readTeam_156 rfl rfl ?_
          refine r_getW (pc := 157) C kX11_16 hp0 dX11_readTeam_157 ?_
          refine r_bipush (pc := 160) (v := (nI 48)) C dX11_readTeam_160 (by decide) ?_
          refine r_bipush (pc := 162) (v := (nI 10)) C dX11_readTeam_162 (by decide) ?_
          refine r_iload_n (pc := 164) C dX11_readTeam_164 rfl rfl ?_
          refine r_imul (pc := 165) C dX11_readTeam_165 ?_
          refine r_iadd (pc := 166) C dX11_readTeam_166 ?_
          refine r_aload_n (pc := 167) C dX11_readTeam_167 rfl rfl ?_
          refine r_iload_n (pc := 168) C dX11_readTeam_168 rfl rfl ?_
          refine r_vI1 (pc := 169) C (fun r M' e => zX11_many X.1 p0 hp0 p1 M26 r M' e) hp0 (by decide) rfl mX11_many lX11_59 (by decide) (Nat.le_of_ble_eq_true rfl) dX11_readTeam_169 h (fun r27 M28 h => ?_)
          refine r_iadd (pc := 172) C dX11_readTeam_172 ?_
          refine r_aload_n (pc := 173) C dX11_readTeam_173 rfl rfl ?_
          refine r_iload_n (pc := 174) C dX11_readTeam_174 rfl rfl ?_
          refine r_vI1 (pc := 175) C (fun r M' e => zX11_many X.1 p0 hp0 p1 M28 r M' e) hp0 (by decide) rfl mX11_many lX11_59 (by decide) (Nat.le_of_ble_eq_true rfl) dX11_readTeam_175 h (fun r29 M30 h => ?_)
          refine r_bipush (pc := 178) (v := (nI 7)) C dX11_readTeam_178 (by decide) ?_
          refine r_jn (fun J => ∀ (s31 : Int64) (M32 : xMem) , J s31 M32 = some M' → WW X 190 [some (vr X.1 p0), some (.int p1), some (.int p2), some (.int r13)] [.long s31, .int (((nI 48) + ((nI 10) * p1)) + r27), vr X.1 (xnw M26)] M32) h (fun s31 M32  h => ?_) (fun J190 hJ190 h => ?_)
          · obtain ⟨g33, h⟩ := xGb_of h
            refine r_last (pc := 190) C (xknw M26) g33 dX11_readTeam_190 ?_
            refine r_letM h (fun M34 h => ?_)
            refine r_aload_n (pc := 191) C dX11_readTeam_191 rfl rfl ?_
            refine r_getW (pc := 192) C kX11_16 hp0 dX11_readTeam_192 ?_
            refine r_iconst (pc := 195) (v := (nI 1)) C dX11_readTeam_195 (by decide) ?_
            refine r_iload_n (pc := 196) C dX11_readTeam_196 rfl rfl ?_
            refine r_iadd (pc := 197) C dX11_readTeam_197 ?_
            refine r_dup2 (pc := 198) C rfl rfl dX11_readTeam_198 ?_
            obtain ⟨g35, h⟩ := xGb_of h
            refine r_lald (pc := 199) C (xknw M34) g35 dX11_readTeam_199 ?_
            refine r_lconst (pc := 200) (v := lN 1) C dX11_readTeam_200 rfl ?_
            refine r_ladd (pc := 201) C dX11_readTeam_201 ?_
            obtain ⟨g36, h⟩ := xGb_of h
            refine r_last (pc := 202) C (xknw M34) g36 dX11_readTeam_202 ?_
            refine r_letM h (fun M37 h => ?_)
            refine r_aload_n (pc := 203) C dX11_readTeam_203 rfl rfl ?_
            refine r_vV0 (pc := 204) C (fun M' e => zX11_advance X.1 p0 hp0 M37 M' e) hp0 (by decide) rfl mX11_advance lX11_196 (by decide) (Nat.le_of_ble_eq_true rfl) dX11_readTeam_204 h (fun M38 h => ?_)
            refine r_aload_n (pc := 207) C dX11_readTeam_207 rfl rfl ?_
            refine r_bipush (pc := 208) (v := (nI 44)) C dX11_readTeam_208 (by decide) ?_
            refine r_vI1 (pc := 210) C (fun r M' e => zX11_eatsByte X.1 p0 hp0 (nI 44) M38 r M' e) hp0 (by decide) rfl mX11_eatsByte lX11_205 (by decide) (Nat.le_of_ble_eq_true rfl) dX11_readTeam_210 h (fun r39 M40 h => ?_)
            refine r_if_ne (pc := 213) (tgt := 71) C dX11_readTeam_213 (by decide) h (fun _ h => ?_) (fun _ h => ?_)
            · exact r_lv (xle_at (xle_some rfl (xle_some rfl (xle_some rfl (xle_none xle_nil))))) (ih  M40 h)
            · exact r_lv (xle_at (xle_some rfl (xle_some rfl (xle_some rfl (xle_none xle_nil))))) (hK  M40 h)
          refine r_icmp_ge (pc := 180) (tgt := 187) C dX11_readTeam_180 (by decide) h (fun _ h => ?_) (fun _ h => ?_)
          · refine r_ldc2 (pc := 187) C nX11_66 dX11_readTeam_187 ?_
            exact hJ190 (lN 2) M30  h
          · refine r_lconst (pc := 183) (v := lN 0) C dX11_readTeam_183 rfl ?_
            refine r_goto (pc := 184) (tgt := 190) C dX11_readTeam_184 (by decide) ?_
            exact hJ190 (lN 0) M30  h
        · exact r_vret (pc := 136) C R0 h dX11_readTeam_136
      refine r_if_eq (pc := 106) (tgt := 129) C dX11_readTeam_106 (by decide) h (fun _ h => ?_) (fun _ h => ?_)
      · exact hJ129  M19  h
      · refine r_aload_n (pc := 109) C dX11_readTeam_109 rfl rfl ?_
        refine r_iload_n (pc := 110) C dX11_readTeam_110 rfl rfl ?_
        refine r_vI1 (pc := 111) C (fun r M' e => zX11_many X.1 p0 hp0 p1 M19 r M' e) hp0 (by decide) rfl mX11_many lX11_59 (by decide) (Nat.le_of_ble_eq_true rfl) dX11_readTeam_111 h (fun r41 M42 h => ?_)
        refine r_bipush (pc := 114) (v := (nI 10)) C dX11_readTeam_114 (by decide) ?_
        refine r_icmp_ne (pc := 116) (tgt := 129) C dX11_readTeam_116 (by decide) h (fun _ h => ?_) (fun _ h => ?_)
        · exact hJ129  M42  h
        · refine r_aload_n (pc := 119) C dX11_readTeam_119 rfl rfl ?_
          refine r_bipush (pc := 120) (v := (nI 6)) C dX11_readTeam_120 (by decide) ?_
          refine r_aload_n (pc := 122) C dX11_readTeam_122 rfl rfl ?_
          refine r_getI (pc := 123) C kX11_161 hp0 dX11_readTeam_123 ?_
          refine r_vV2 (pc := 126) C (fun M' e => zX11_errs X.1 p0 hp0 (nI 6) (M42.1 p0 14) M42 M' e) hp0 (by decide) rfl mX11_errs lX11_202 (by decide) (Nat.le_of_ble_eq_true rfl) dX11_readTeam_126 h (fun M43 h => ?_)
          exact hJ129  M43  h
    refine r_if_eq (pc := 80) (tgt := 102) C dX11_readTeam_80 (by decide) h (fun _ h => ?_) (fun _ h => ?_)
    · exact hJ102  M16  h
    · refine r_aload_n (pc := 83) C dX11_readTeam_83 rfl rfl ?_
      refine r_iload_n (pc := 84) C dX11_readTeam_84 rfl rfl ?_
      refine r_iload_n (pc := 85) C dX11_readTeam_85 rfl rfl ?_
      refine r_vI2 (pc := 86) C (fun r M' e => zX11_findShirt X.1 p0 hp0 p1 r13 M16 r M' e) hp0 (by decide) rfl mX11_findShirt lX11_255 (by decide) (Nat.le_of_ble_eq_true rfl) dX11_readTeam_86 h (fun r44 M45 h => ?_)
      refine r_iconst (pc := 89) (v := (-1)) C dX11_readTeam_89 (by decide) ?_
      refine r_icmp_eq (pc := 90) (tgt := 102) C dX11_readTeam_90 (by decide) h (fun _ h => ?_) (fun _ h => ?_)
      · exact hJ102  M45  h
      · refine r_aload_n (pc := 93) C dX11_readTeam_93 rfl rfl ?_
        refine r_iconst (pc := 94) (v := (nI 3)) C dX11_readTeam_94 (by decide) ?_
        refine r_aload_n (pc := 95) C dX11_readTeam_95 rfl rfl ?_
        refine r_getI (pc := 96) C kX11_161 hp0 dX11_readTeam_96 ?_
        refine r_vV2 (pc := 99) C (fun M' e => zX11_errs X.1 p0 hp0 (nI 3) (M45.1 p0 14) M45 M' e) hp0 (by decide) rfl mX11_errs lX11_202 (by decide) (Nat.le_of_ble_eq_true rfl) dX11_readTeam_99 h (fun M46 h => ?_)
        exact hJ102  M46  h
set_option maxRecDepth 100000 in
set_option maxHeartbeats 4000000 in
theorem zX11_readTeam (G : xGX) (a0 : Nat) (h0 : xkd a0 = 11) (a1 : Int32) (M : xMem) (M' : xMem) (h : fX11_readTeam a0 a1 M = some M') : xCt G yX11_readTeam cX11_readTeam 4 none 8 [vr G a0, .int a1] M (none, M') := by
  refine xMet (lv := [some (vr G a0), some (.int a1), none, none]) (by decide) (Nat.le_of_ble_eq_true rfl) rfl ?_
  intro X hG hnL C R0
  subst hG
  have C : xCk X cX11_readTeam RX11 8 := C
  have hn2 : 2 < X.2.2.2.2.2.2.2.2.2.2.2.2.2 := by rw [hnL]; decide
  have hn3 : 3 < X.2.2.2.2.2.2.2.2.2.2.2.2.2 := by rw [hnL]; decide
  unfold fX11_readTeam at h
  refine r_aload_n (pc := 0) C dX11_readTeam_0 rfl rfl ?_
  refine r_ldcS (pc := 1) (i := 7) C (by decide) rfl dX11_readTeam_1 ?_
  refine r_vV1 (pc := 3) C (fun M' e => zX11_passes X.1 a0 h0 7 (by decide) M M' e) h0 (by decide) rfl mX11_passes lX11_258 (by decide) (Nat.le_of_ble_eq_true rfl) dX11_readTeam_3 h (fun M1 h => ?_)
  refine r_aload_n (pc := 6) C dX11_readTeam_6 rfl rfl ?_
  refine r_vI0 (pc := 7) C (fun r M' e => zX11_nameHere X.1 a0 h0 M1 r M' e) h0 (by decide) rfl mX11_nameHere lX11_244 (by decide) (Nat.le_of_ble_eq_true rfl) dX11_readTeam_7 h (fun r2 M3 h => ?_)
  refine r_istore_n (pc := 10) (lv' := [_, _, _, _]) C dX11_readTeam_10 rfl hn2 rfl ?_
  refine r_aload_n (pc := 11) C dX11_readTeam_11 rfl rfl ?_
  refine r_vI0 (pc := 12) C (fun r M' e => zX11_good X.1 a0 h0 M3 r M' e) h0 (by decide) rfl mX11_good lX11_149 (by decide) (Nat.le_of_ble_eq_true rfl) dX11_readTeam_12 h (fun r4 M5 h => ?_)
  refine r_jn (fun J => ∀  (M6 : xMem) , J  M6 = some M' → WW X 44 [some (vr X.1 a0), some (.int a1), some (.int r2), none] [] M6) h (fun  M6  h => ?_) (fun J44 hJ44 h => ?_)
  · refine r_aload_n (pc := 44) C dX11_readTeam_44 rfl rfl ?_
    refine r_getW (pc := 45) C kX11_16 h0 dX11_readTeam_45 ?_
    refine r_iconst (pc := 48) (v := (nI 3)) C dX11_readTeam_48 (by decide) ?_
    refine r_iload_n (pc := 49) C dX11_readTeam_49 rfl rfl ?_
    refine r_iadd (pc := 50) C dX11_readTeam_50 ?_
    refine r_iload_n (pc := 51) C dX11_readTeam_51 rfl rfl ?_
    refine r_i2l (pc := 52) C dX11_readTeam_52 ?_
    obtain ⟨g7, h⟩ := xGb_of h
    refine r_last (pc := 53) C (xknw M6) g7 dX11_readTeam_53 ?_
    refine r_letM h (fun M8 h => ?_)
    refine r_aload_n (pc := 54) C dX11_readTeam_54 rfl rfl ?_
    refine r_vI0 (pc := 55) C (fun r M' e => zX11_good X.1 a0 h0 M8 r M' e) h0 (by decide) rfl mX11_good lX11_149 (by decide) (Nat.le_of_ble_eq_true rfl) dX11_readTeam_55 h (fun r9 M10 h => ?_)
    refine r_jn (fun J => ∀  (M11 : xMem) , J  M11 = some M' → WW X 65 [some (vr X.1 a0), some (.int a1), some (.int r2), none] [] M11) h (fun  M11  h => ?_) (fun J65 hJ65 h => ?_)
    · refine r_aload_n (pc := 65) C dX11_readTeam_65 rfl rfl ?_
      refine r_bipush (pc := 66) (v := (nI 58)) C dX11_readTeam_66 (by decide) ?_
      refine r_vV1 (pc := 68) C (fun M' e => zX11_passesByte X.1 a0 h0 (nI 58) M11 M' e) h0 (by decide) rfl mX11_passesByte lX11_262 (by decide) (Nat.le_of_ble_eq_true rfl) dX11_readTeam_68 h (fun M12 h => ?_)
      refine lX11_readTeam_71 C R0 hnL a0 h0 a1 r2 _ (fun  M47 h => ?_) _  _ h
      refine r_aload_n (pc := 216) C dX11_readTeam_216 rfl rfl ?_
      refine r_vI0 (pc := 217) C (fun r M' e => zX11_good X.1 a0 h0 M47 r M' e) h0 (by decide) rfl mX11_good lX11_149 (by decide) (Nat.le_of_ble_eq_true rfl) dX11_readTeam_217 h (fun r48 M49 h => ?_)
      refine r_jn (fun J => ∀  (M50 : xMem) , J  M50 = some M' → WW X 260 [some (vr X.1 a0), some (.int a1), some (.int r2), none] [] M50) h (fun  M50  h => ?_) (fun J260 hJ260 h => ?_)
      · refine r_aload_n (pc := 260) C dX11_readTeam_260 rfl rfl ?_
        refine r_bipush (pc := 261) (v := (nI 59)) C dX11_readTeam_261 (by decide) ?_
        refine r_vV1 (pc := 263) C (fun M' e => zX11_passesByte X.1 a0 h0 (nI 59) M50 M' e) h0 (by decide) rfl mX11_passesByte lX11_262 (by decide) (Nat.le_of_ble_eq_true rfl) dX11_readTeam_263 h (fun M51 h => ?_)
        exact r_vret (pc := 266) C R0 h dX11_readTeam_266
      refine r_if_eq (pc := 220) (tgt := 260) C dX11_readTeam_220 (by decide) h (fun _ h => ?_) (fun _ h => ?_)
      · exact hJ260  M49  h
      · refine r_aload_n (pc := 223) C dX11_readTeam_223 rfl rfl ?_
        refine r_getI (pc := 224) C kX11_164 h0 dX11_readTeam_224 ?_
        refine r_iconst (pc := 227) (v := (nI 3)) C dX11_readTeam_227 (by decide) ?_
        refine r_icmp_ne (pc := 228) (tgt := 260) C dX11_readTeam_228 (by decide) h (fun _ h => ?_) (fun _ h => ?_)
        · exact hJ260  M49  h
        · refine r_aload_n (pc := 231) C dX11_readTeam_231 rfl rfl ?_
          refine r_getI (pc := 232) C kX11_175 h0 dX11_readTeam_232 ?_
          refine r_bipush (pc := 235) (v := (nI 59)) C dX11_readTeam_235 (by decide) ?_
          refine r_icmp_ne (pc := 237) (tgt := 260) C dX11_readTeam_237 (by decide) h (fun _ h => ?_) (fun _ h => ?_)
          · exact hJ260  M49  h
          · refine r_aload_n (pc := 240) C dX11_readTeam_240 rfl rfl ?_
            refine r_iload_n (pc := 241) C dX11_readTeam_241 rfl rfl ?_
            refine r_vI1 (pc := 242) C (fun r M' e => zX11_many X.1 a0 h0 a1 M49 r M' e) h0 (by decide) rfl mX11_many lX11_59 (by decide) (Nat.le_of_ble_eq_true rfl) dX11_readTeam_242 h (fun r52 M53 h => ?_)
            refine r_bipush (pc := 245) (v := (nI 7)) C dX11_readTeam_245 (by decide) ?_
            refine r_icmp_ge (pc := 247) (tgt := 260) C dX11_readTeam_247 (by decide) h (fun _ h => ?_) (fun _ h => ?_)
            · exact hJ260  M53  h
            · refine r_aload_n (pc := 250) C dX11_readTeam_250 rfl rfl ?_
              refine r_bipush (pc := 251) (v := (nI 6)) C dX11_readTeam_251 (by decide) ?_
              refine r_aload_n (pc := 253) C dX11_readTeam_253 rfl rfl ?_
              refine r_getI (pc := 254) C kX11_161 h0 dX11_readTeam_254 ?_
              refine r_vV2 (pc := 257) C (fun M' e => zX11_errs X.1 a0 h0 (nI 6) (M53.1 a0 14) M53 M' e) h0 (by decide) rfl mX11_errs lX11_202 (by decide) (Nat.le_of_ble_eq_true rfl) dX11_readTeam_257 h (fun M54 h => ?_)
              exact hJ260  M54  h
    refine r_if_eq (pc := 58) (tgt := 65) C dX11_readTeam_58 (by decide) h (fun _ h => ?_) (fun _ h => ?_)
    · exact hJ65  M10  h
    · refine r_aload_n (pc := 61) C dX11_readTeam_61 rfl rfl ?_
      refine r_vV0 (pc := 62) C (fun M' e => zX11_advance X.1 a0 h0 M10 M' e) h0 (by decide) rfl mX11_advance lX11_196 (by decide) (Nat.le_of_ble_eq_true rfl) dX11_readTeam_62 h (fun M55 h => ?_)
      exact hJ65  M55  h
  refine r_if_eq (pc := 15) (tgt := 44) C dX11_readTeam_15 (by decide) h (fun _ h => ?_) (fun _ h => ?_)
  · exact hJ44  M5  h
  · refine r_iload_n (pc := 18) C dX11_readTeam_18 rfl rfl ?_
    refine r_iconst (pc := 19) (v := (nI 1)) C dX11_readTeam_19 (by decide) ?_
    refine r_icmp_ne (pc := 20) (tgt := 44) C dX11_readTeam_20 (by decide) h (fun _ h => ?_) (fun _ h => ?_)
    · exact hJ44  M5  h
    · refine r_aload_n (pc := 23) C dX11_readTeam_23 rfl rfl ?_
      refine r_getW (pc := 24) C kX11_16 h0 dX11_readTeam_24 ?_
      refine r_iconst (pc := 27) (v := (nI 3)) C dX11_readTeam_27 (by decide) ?_
      obtain ⟨g56, h⟩ := xGb_of h
      refine r_lald (pc := 28) C (xknw M5) g56 dX11_readTeam_28 ?_
      refine r_iload_n (pc := 29) C dX11_readTeam_29 rfl rfl ?_
      refine r_i2l (pc := 30) C dX11_readTeam_30 ?_
      refine r_lcmp (pc := 31) C dX11_readTeam_31 ?_
      refine r_if_ne (pc := 32) (tgt := 44) C dX11_readTeam_32 (by decide) h (fun _ h => ?_) (fun _ h => ?_)
      · exact hJ44  M5  h
      · refine r_aload_n (pc := 35) C dX11_readTeam_35 rfl rfl ?_
        refine r_iconst (pc := 36) (v := (nI 3)) C dX11_readTeam_36 (by decide) ?_
        refine r_aload_n (pc := 37) C dX11_readTeam_37 rfl rfl ?_
        refine r_getI (pc := 38) C kX11_161 h0 dX11_readTeam_38 ?_
        refine r_vV2 (pc := 41) C (fun M' e => zX11_errs X.1 a0 h0 (nI 3) (M5.1 a0 14) M5 M' e) h0 (by decide) rfl mX11_errs lX11_202 (by decide) (Nat.le_of_ble_eq_true rfl) dX11_readTeam_41 h (fun M57 h => ?_)
        exact hJ44  M57  h
theorem dX11_readBonus_0 : decode cX11_readBonus 0 = .ok (.aload_n 0, 1) := by decide +kernel
theorem dX11_readBonus_1 : decode cX11_readBonus 1 = .ok (.ldc 230, 2) := by decide +kernel
theorem dX11_readBonus_3 : decode cX11_readBonus 3 = .ok (.invokevirtual 192, 3) := by decide +kernel
theorem dX11_readBonus_6 : decode cX11_readBonus 6 = .ok (.ifCond .ne 4, 3) := by decide +kernel
theorem dX11_readBonus_9 : decode cX11_readBonus 9 = .ok (.return_, 1) := by decide +kernel
theorem dX11_readBonus_10 : decode cX11_readBonus 10 = .ok (.aload_n 0, 1) := by decide +kernel
theorem dX11_readBonus_11 : decode cX11_readBonus 11 = .ok (.aload_n 0, 1) := by decide +kernel
theorem dX11_readBonus_12 : decode cX11_readBonus 12 = .ok (.invokevirtual 265, 3) := by decide +kernel
theorem dX11_readBonus_15 : decode cX11_readBonus 15 = .ok (.bipush 6, 2) := by decide +kernel
theorem dX11_readBonus_17 : decode cX11_readBonus 17 = .ok (.if_icmp .lt 7, 3) := by decide +kernel
theorem dX11_readBonus_20 : decode cX11_readBonus 20 = .ok (.iconst 1, 1) := by decide +kernel
theorem dX11_readBonus_21 : decode cX11_readBonus 21 = .ok (.goto 4, 3) := by decide +kernel
theorem dX11_readBonus_24 : decode cX11_readBonus 24 = .ok (.iconst 0, 1) := by decide +kernel
theorem dX11_readBonus_25 : decode cX11_readBonus 25 = .ok (.invokevirtual 268, 3) := by decide +kernel
theorem dX11_readBonus_28 : decode cX11_readBonus 28 = .ok (.aload_n 0, 1) := by decide +kernel
theorem dX11_readBonus_29 : decode cX11_readBonus 29 = .ok (.iconst 1, 1) := by decide +kernel
theorem dX11_readBonus_30 : decode cX11_readBonus 30 = .ok (.putfield 108, 3) := by decide +kernel
theorem dX11_readBonus_33 : decode cX11_readBonus 33 = .ok (.aload_n 0, 1) := by decide +kernel
theorem dX11_readBonus_34 : decode cX11_readBonus 34 = .ok (.invokevirtual 149, 3) := by decide +kernel
theorem dX11_readBonus_37 : decode cX11_readBonus 37 = .ok (.ifCond .eq 7, 3) := by decide +kernel
theorem dX11_readBonus_40 : decode cX11_readBonus 40 = .ok (.aload_n 0, 1) := by decide +kernel
theorem dX11_readBonus_41 : decode cX11_readBonus 41 = .ok (.invokevirtual 196, 3) := by decide +kernel
theorem dX11_readBonus_44 : decode cX11_readBonus 44 = .ok (.return_, 1) := by decide +kernel
def fX11_readBonus (a0 : Nat) (M : xMem) : Option (xMem) :=
  xBn (fX11_isWord a0 18 M) fun r1 M2 => if r1 = 0 then (some M2) else (xBn (fX11_standing a0 M2) fun r3 M4 => xLt (fun (s5 : Int32) (M6 : xMem) => (xBv (fX11_can a0 s5 M6) fun M7 => xLt (xwI M7 a0 6 (nI 1)) fun M8 => xBn (fX11_good a0 M8) fun r9 M10 => if r9 = 0 then (some M10) else (xBv (fX11_advance a0 M10) fun M11 => some M11) : Option (xMem))) fun J25 => if r3 < (nI 6) then (J25 (nI 0) M4) else (J25 (nI 1) M4))
set_option maxRecDepth 100000 in
set_option maxHeartbeats 4000000 in
theorem zX11_readBonus (G : xGX) (a0 : Nat) (h0 : xkd a0 = 11) (M : xMem) (M' : xMem) (h : fX11_readBonus a0 M = some M') : xCt G yX11_readBonus cX11_readBonus 1 none 6 [vr G a0] M (none, M') := by
  refine xMet (lv := [some (vr G a0)]) (by decide) (Nat.le_of_ble_eq_true rfl) rfl ?_
  intro X hG hnL C R0
  subst hG
  have C : xCk X cX11_readBonus RX11 6 := C
  unfold fX11_readBonus at h
  refine r_aload_n (pc := 0) C dX11_readBonus_0 rfl rfl ?_
  refine r_ldcS (pc := 1) (i := 18) C (by decide) rfl dX11_readBonus_1 ?_
  refine r_vI1 (pc := 3) C (fun r M' e => zX11_isWord X.1 a0 h0 18 (by decide) M r M' e) h0 (by decide) rfl mX11_isWord lX11_192 (by decide) (Nat.le_of_ble_eq_true rfl) dX11_readBonus_3 h (fun r1 M2 h => ?_)
  refine r_if_ne (pc := 6) (tgt := 10) C dX11_readBonus_6 (by decide) h (fun _ h => ?_) (fun _ h => ?_)
  · refine r_aload_n (pc := 10) C dX11_readBonus_10 rfl rfl ?_
    refine r_aload_n (pc := 11) C dX11_readBonus_11 rfl rfl ?_
    refine r_vI0 (pc := 12) C (fun r M' e => zX11_standing X.1 a0 h0 M2 r M' e) h0 (by decide) rfl mX11_standing lX11_265 (by decide) (Nat.le_of_ble_eq_true rfl) dX11_readBonus_12 h (fun r3 M4 h => ?_)
    refine r_bipush (pc := 15) (v := (nI 6)) C dX11_readBonus_15 (by decide) ?_
    refine r_jn (fun J => ∀ (s5 : Int32) (M6 : xMem) , J s5 M6 = some M' → WW X 25 [some (vr X.1 a0)] [.int s5, vr X.1 a0] M6) h (fun s5 M6  h => ?_) (fun J25 hJ25 h => ?_)
    · refine r_vV1 (pc := 25) C (fun M' e => zX11_can X.1 a0 h0 s5 M6 M' e) h0 (by decide) rfl mX11_can lX11_268 (by decide) (Nat.le_of_ble_eq_true rfl) dX11_readBonus_25 h (fun M7 h => ?_)
      refine r_aload_n (pc := 28) C dX11_readBonus_28 rfl rfl ?_
      refine r_iconst (pc := 29) (v := (nI 1)) C dX11_readBonus_29 (by decide) ?_
      refine r_putZ (pc := 30) C kX11_108 h0 (Or.inr (by decide)) dX11_readBonus_30 ?_
      refine r_letM h (fun M8 h => ?_)
      refine r_aload_n (pc := 33) C dX11_readBonus_33 rfl rfl ?_
      refine r_vI0 (pc := 34) C (fun r M' e => zX11_good X.1 a0 h0 M8 r M' e) h0 (by decide) rfl mX11_good lX11_149 (by decide) (Nat.le_of_ble_eq_true rfl) dX11_readBonus_34 h (fun r9 M10 h => ?_)
      refine r_if_eq (pc := 37) (tgt := 44) C dX11_readBonus_37 (by decide) h (fun _ h => ?_) (fun _ h => ?_)
      · exact r_vret (pc := 44) C R0 h dX11_readBonus_44
      · refine r_aload_n (pc := 40) C dX11_readBonus_40 rfl rfl ?_
        refine r_vV0 (pc := 41) C (fun M' e => zX11_advance X.1 a0 h0 M10 M' e) h0 (by decide) rfl mX11_advance lX11_196 (by decide) (Nat.le_of_ble_eq_true rfl) dX11_readBonus_41 h (fun M11 h => ?_)
        exact r_vret (pc := 44) C R0 h dX11_readBonus_44
    refine r_icmp_lt (pc := 17) (tgt := 24) C dX11_readBonus_17 (by decide) h (fun _ h => ?_) (fun _ h => ?_)
    · refine r_iconst (pc := 24) (v := (nI 0)) C dX11_readBonus_24 (by decide) ?_
      exact hJ25 (nI 0) M4  h
    · refine r_iconst (pc := 20) (v := (nI 1)) C dX11_readBonus_20 (by decide) ?_
      refine r_goto (pc := 21) (tgt := 25) C dX11_readBonus_21 (by decide) ?_
      exact hJ25 (nI 1) M4  h
  · exact r_vret (pc := 9) C R0 h dX11_readBonus_9
theorem dX11_readTouched_0 : decode cX11_readTouched 0 = .ok (.aload_n 0, 1) := by decide +kernel
theorem dX11_readTouched_1 : decode cX11_readTouched 1 = .ok (.iload_n 1, 1) := by decide +kernel
theorem dX11_readTouched_2 : decode cX11_readTouched 2 = .ok (.invokevirtual 272, 3) := by decide +kernel
theorem dX11_readTouched_5 : decode cX11_readTouched 5 = .ok (.istore_n 2, 1) := by decide +kernel
theorem dX11_readTouched_6 : decode cX11_readTouched 6 = .ok (.aload_n 0, 1) := by decide +kernel
theorem dX11_readTouched_7 : decode cX11_readTouched 7 = .ok (.aload_n 0, 1) := by decide +kernel
theorem dX11_readTouched_8 : decode cX11_readTouched 8 = .ok (.iload_n 1, 1) := by decide +kernel
theorem dX11_readTouched_9 : decode cX11_readTouched 9 = .ok (.iload_n 2, 1) := by decide +kernel
theorem dX11_readTouched_10 : decode cX11_readTouched 10 = .ok (.invokevirtual 62, 3) := by decide +kernel
theorem dX11_readTouched_13 : decode cX11_readTouched 13 = .ok (.ifCond .ne 18, 3) := by decide +kernel
theorem dX11_readTouched_16 : decode cX11_readTouched 16 = .ok (.aload_n 0, 1) := by decide +kernel
theorem dX11_readTouched_17 : decode cX11_readTouched 17 = .ok (.invokevirtual 102, 3) := by decide +kernel
theorem dX11_readTouched_20 : decode cX11_readTouched 20 = .ok (.iload_n 2, 1) := by decide +kernel
theorem dX11_readTouched_21 : decode cX11_readTouched 21 = .ok (.invokestatic 275, 3) := by decide +kernel
theorem dX11_readTouched_24 : decode cX11_readTouched 24 = .ok (.ifCond .ne 7, 3) := by decide +kernel
theorem dX11_readTouched_27 : decode cX11_readTouched 27 = .ok (.iconst 1, 1) := by decide +kernel
theorem dX11_readTouched_28 : decode cX11_readTouched 28 = .ok (.goto 4, 3) := by decide +kernel
theorem dX11_readTouched_31 : decode cX11_readTouched 31 = .ok (.iconst 0, 1) := by decide +kernel
theorem dX11_readTouched_32 : decode cX11_readTouched 32 = .ok (.invokevirtual 268, 3) := by decide +kernel
theorem dX11_readTouched_35 : decode cX11_readTouched 35 = .ok (.aload_n 0, 1) := by decide +kernel
theorem dX11_readTouched_36 : decode cX11_readTouched 36 = .ok (.invokevirtual 149, 3) := by decide +kernel
theorem dX11_readTouched_39 : decode cX11_readTouched 39 = .ok (.ifCond .ne 4, 3) := by decide +kernel
theorem dX11_readTouched_42 : decode cX11_readTouched 42 = .ok (.return_, 1) := by decide +kernel
theorem dX11_readTouched_43 : decode cX11_readTouched 43 = .ok (.aload_n 0, 1) := by decide +kernel
theorem dX11_readTouched_44 : decode cX11_readTouched 44 = .ok (.getfield 19, 3) := by decide +kernel
theorem dX11_readTouched_47 : decode cX11_readTouched 47 = .ok (.aload_n 0, 1) := by decide +kernel
theorem dX11_readTouched_48 : decode cX11_readTouched 48 = .ok (.getfield 82, 3) := by decide +kernel
theorem dX11_readTouched_51 : decode cX11_readTouched 51 = .ok (.iload_n 2, 1) := by decide +kernel
theorem dX11_readTouched_52 : decode cX11_readTouched 52 = .ok (.iastore, 1) := by decide +kernel
theorem dX11_readTouched_53 : decode cX11_readTouched 53 = .ok (.aload_n 0, 1) := by decide +kernel
theorem dX11_readTouched_54 : decode cX11_readTouched 54 = .ok (.dup, 1) := by decide +kernel
theorem dX11_readTouched_55 : decode cX11_readTouched 55 = .ok (.getfield 82, 3) := by decide +kernel
theorem dX11_readTouched_58 : decode cX11_readTouched 58 = .ok (.iconst 1, 1) := by decide +kernel
theorem dX11_readTouched_59 : decode cX11_readTouched 59 = .ok (.iadd, 1) := by decide +kernel
theorem dX11_readTouched_60 : decode cX11_readTouched 60 = .ok (.putfield 82, 3) := by decide +kernel
theorem dX11_readTouched_63 : decode cX11_readTouched 63 = .ok (.aload_n 0, 1) := by decide +kernel
theorem dX11_readTouched_64 : decode cX11_readTouched 64 = .ok (.invokevirtual 196, 3) := by decide +kernel
theorem dX11_readTouched_67 : decode cX11_readTouched 67 = .ok (.aload_n 0, 1) := by decide +kernel
theorem dX11_readTouched_68 : decode cX11_readTouched 68 = .ok (.bipush 44, 2) := by decide +kernel
theorem dX11_readTouched_70 : decode cX11_readTouched 70 = .ok (.invokevirtual 205, 3) := by decide +kernel
theorem dX11_readTouched_73 : decode cX11_readTouched 73 = .ok (.ifCond .ne (-73), 3) := by decide +kernel
theorem dX11_readTouched_76 : decode cX11_readTouched 76 = .ok (.aload_n 0, 1) := by decide +kernel
theorem dX11_readTouched_77 : decode cX11_readTouched 77 = .ok (.invokevirtual 279, 3) := by decide +kernel
theorem dX11_readTouched_80 : decode cX11_readTouched 80 = .ok (.return_, 1) := by decide +kernel
def fX11_readTouched_l0 (p0 : Nat) (p1 : Int32) (K : xMem → Option (xMem)) : Nat → xMem → Option (xMem)
  | 0, _ => none
  | n + 1, M => xBn (fX11_oneHere p0 p1 M) fun r1 M2 => xBn (fX11_isOf p0 p1 r1 M2) fun r3 M4 => xLt (fun (s5 : Int32) (M6 : xMem) => (xBv (fX11_can p0 s5 M6) fun M7 => xBn (fX11_good p0 M7) fun r8 M9 => if r8 = 0 then (some M9) else (xGb (M9.1 p0 8) (xln (xrf p0 7)) (xLt (xwI M9 (xrf p0 7) (Int32.toNatClampNeg (M9.1 p0 8)) r1) fun M11 => xLt (xwI M11 p0 8 ((M11.1 p0 8) + (nI 1))) fun M12 => xBv (fX11_advance p0 M12) fun M13 => xBn (fX11_eatsByte p0 (nI 44) M13) fun r14 M15 => if r14 = 0 then (K  M15) else (fX11_readTouched_l0 p0 p1 K n  M15))) : Option (xMem))) fun J32 => xLt (fun  (M16 : xMem) => (J32 (nI 0) M16 : Option (xMem))) fun J31 => if r3 = 0 then (xBn (fX11_setOf p0 M4) fun r17 M18 => xBn (fX11_has r17 r1 M18) fun r19 M20 => if r19 = 0 then (J32 (nI 1) M20) else (J31  M20)) else (J31  M4)
def fX11_readTouched (a0 : Nat) (a1 : Int32) (M : xMem) : Option (xMem) :=
  fX11_readTouched_l0 a0 a1 (fun  (M21 : xMem) => xBv (fX11_readBonus a0 M21) fun M22 => some M22) xFU  M
set_option maxRecDepth 100000 in
set_option maxHeartbeats 4000000 in
theorem lX11_readTouched_0 {X : xCX} {M' : xMem} (C : xCk X cX11_readTouched RX11 7) (R0 : xRk X none (none, M')) (hnL : X.2.2.2.2.2.2.2.2.2.2.2.2.2 = 3) (p0 : Nat) (hp0 : xkd p0 = 11) (p1 : Int32) (K : xMem → Option (xMem)) (hK : ∀  (M : xMem), K  M = some M' → WW X 76 [some (vr X.1 p0), some (.int p1), none] [] M) : ∀ (n : Nat)  (M : xMem), fX11_readTouched_l0 p0 p1 K n  M = some M' → WW X 0 [some (vr X.1 p0), some (.int p1), none] [] M := by
  have hn2 : 2 < X.2.2.2.2.2.2.2.2.2.2.2.2.2 := by rw [hnL]; decide
  intro n
  induction n with
  | zero =>
    intro  M h
    cases (show (none : Option (xMem)) = some M' from h)
  | succ n ih =>
    intro  M h
    rw [fX11_readTouched_l0.eq_2] at h
    refine r_aload_n (pc := 0) C dX11_readTouched_0 rfl rfl ?_
    refine r_iload_n (pc := 1) C dX11_readTouched_1 rfl rfl ?_
    refine r_vI1 (pc := 2) C (fun r M' e => zX11_oneHere X.1 p0 hp0 p1 M r M' e) hp0 (by decide) rfl mX11_oneHere lX11_272 (by decide) (Nat.le_of_ble_eq_true rfl) dX11_readTouched_2 h (fun r1 M2 h => ?_)
    refine r_istore_n (pc := 5) (lv' := [_, _, _]) C dX11_readTouched_5 rfl hn2 rfl ?_
    refine r_aload_n (pc := 6) C dX11_readTouched_6 rfl rfl ?_
    refine r_aload_n (pc := 7) C dX11_readTouched_7 rfl rfl ?_
    refine r_iload_n (pc := 8) C dX11_readTouched_8 rfl rfl ?_
    refine r_iload_n (pc := 9) C dX11_readTouched_9 rfl rfl ?_
    refine r_vI2 (pc := 10) C (fun r M' e => zX11_isOf X.1 p0 hp0 p1 r1 M2 r M' e) hp0 (by decide) rfl mX11_isOf lX11_62 (by decide) (Nat.le_of_ble_eq_true rfl) dX11_readTouched_10 h (fun r3 M4 h => ?_)
    refine r_jn (fun J => ∀ (s5 : Int32) (M6 : xMem) , J s5 M6 = some M' → WW X 32 [some (vr X.1 p0), some (.int p1), some (.int r1)] [.int s5, vr X.1 p0] M6) h (fun s5 M6  h => ?_) (fun J32 hJ32 h => ?_)
    · refine r_vV1 (pc := 32) C (fun M' e => zX11_can X.1 p0 hp0 s5 M6 M' e) hp0 (by decide) rfl mX11_can lX11_268 (by decide) (Nat.le_of_ble_eq_true rfl) dX11_readTouched_32 h (fun M7 h => ?_)
      refine r_aload_n (pc := 35) C dX11_readTouched_35 rfl rfl ?_
      refine r_vI0 (pc := 36) C (fun r M' e => zX11_good X.1 p0 hp0 M7 r M' e) hp0 (by decide) rfl mX11_good lX11_149 (by decide) (Nat.le_of_ble_eq_true rfl) dX11_readTouched_36 h (fun r8 M9 h => ?_)
      refine r_if_ne (pc := 39) (tgt := 43) C dX11_readTouched_39 (by decide) h (fun _ h => ?_) (fun _ h => ?_)
      · refine r_aload_n (pc := 43) C dX11_readTouched_43 rfl rfl ?_
        refine r_getR (pc := 44) C kX11_19 hp0 (by decide) dX11_readTouched_44 ?_
        refine r_aload_n (pc := 47) C dX11_readTouched_47 rfl rfl ?_
        refine r_getI (pc := 48) C kX11_82 hp0 dX11_readTouched_48 ?_
        refine r_iload_n (pc := 51) C dX11_readTouched_51 rfl rfl ?_
        obtain ⟨g10, h⟩ := xGb_of h
        refine r_iast (pc := 52) C (xtk hp0 (by decide) rfl rfl) g10 dX11_readTouched_52 ?_
        refine r_letM h (fun M11 h => ?_)
        refine r_aload_n (pc := 53) C dX11_readTouched_53 rfl rfl ?_
        refine r_dup (pc := 54) C rfl dX11_readTouched_54 ?_
        refine r_getI (pc := 55) C kX11_82 hp0 dX11_readTouched_55 ?_
        refine r_iconst (pc := 58) (v := (nI 1)) C dX11_readTouched_58 (by decide) ?_
        refine r_iadd (pc := 59) C dX11_readTouched_59 ?_
        refine r_putI (pc := 60) C kX11_82 hp0 dX11_readTouched_60 ?_
        refine r_letM h (fun M12 h => ?_)
        refine r_aload_n (pc := 63) C dX11_readTouched_63 rfl rfl ?_
        refine r_vV0 (pc := 64) C (fun M' e => zX11_advance X.1 p0 hp0 M12 M' e) hp0 (by decide) rfl mX11_advance lX11_196 (by decide) (Nat.le_of_ble_eq_true rfl) dX11_readTouched_64 h (fun M13 h => ?_)
        refine r_aload_n (pc := 67) C dX11_readTouched_67 rfl rfl ?_
        refine r_bipush (pc := 68) (v := (nI 44)) C dX11_readTouched_68 (by decide) ?_
        refine r_vI1 (pc := 70) C (fun r M' e => zX11_eatsByte X.1 p0 hp0 (nI 44) M13 r M' e) hp0 (by decide) rfl mX11_eatsByte lX11_205 (by decide) (Nat.le_of_ble_eq_true rfl) dX11_readTouched_70 h (fun r14 M15 h => ?_)
        refine r_if_ne (pc := 73) (tgt := 0) C dX11_readTouched_73 (by decide) h (fun _ h => ?_) (fun _ h => ?_)
        · exact r_lv (xle_at (xle_some rfl (xle_some rfl (xle_none xle_nil)))) (ih  M15 h)
        · exact r_lv (xle_at (xle_some rfl (xle_some rfl (xle_none xle_nil)))) (hK  M15 h)
      · exact r_vret (pc := 42) C R0 h dX11_readTouched_42
    refine r_jn (fun J => ∀  (M16 : xMem) , J  M16 = some M' → WW X 31 [some (vr X.1 p0), some (.int p1), some (.int r1)] [vr X.1 p0] M16) h (fun  M16  h => ?_) (fun J31 hJ31 h => ?_)
    · refine r_iconst (pc := 31) (v := (nI 0)) C dX11_readTouched_31 (by decide) ?_
      exact hJ32 (nI 0) M16  h
    refine r_if_ne (pc := 13) (tgt := 31) C dX11_readTouched_13 (by decide) h (fun _ h => ?_) (fun _ h => ?_)
    · exact hJ31  M4  h
    · refine r_aload_n (pc := 16) C dX11_readTouched_16 rfl rfl ?_
      refine r_vI0 (pc := 17) C (fun r M' e => zX11_setOf X.1 p0 hp0 M4 r M' e) hp0 (by decide) rfl mX11_setOf lX11_102 (by decide) (Nat.le_of_ble_eq_true rfl) dX11_readTouched_17 h (fun r17 M18 h => ?_)
      refine r_iload_n (pc := 20) C dX11_readTouched_20 rfl rfl ?_
      refine r_sI2 (pc := 21) C (fun r M' e => zX11_has X.1 r17 r1 M18 r M' e) mX11_has lX11_275 (by decide) (Nat.le_of_ble_eq_true rfl) dX11_readTouched_21 h (fun r19 M20 h => ?_)
      refine r_if_ne (pc := 24) (tgt := 31) C dX11_readTouched_24 (by decide) h (fun _ h => ?_) (fun _ h => ?_)
      · exact hJ31  M20  h
      · refine r_iconst (pc := 27) (v := (nI 1)) C dX11_readTouched_27 (by decide) ?_
        refine r_goto (pc := 28) (tgt := 32) C dX11_readTouched_28 (by decide) ?_
        exact hJ32 (nI 1) M20  h
set_option maxRecDepth 100000 in
set_option maxHeartbeats 4000000 in
theorem zX11_readTouched (G : xGX) (a0 : Nat) (h0 : xkd a0 = 11) (a1 : Int32) (M : xMem) (M' : xMem) (h : fX11_readTouched a0 a1 M = some M') : xCt G yX11_readTouched cX11_readTouched 3 none 7 [vr G a0, .int a1] M (none, M') := by
  refine xMet (lv := [some (vr G a0), some (.int a1), none]) (by decide) (Nat.le_of_ble_eq_true rfl) rfl ?_
  intro X hG hnL C R0
  subst hG
  have C : xCk X cX11_readTouched RX11 7 := C
  have hn2 : 2 < X.2.2.2.2.2.2.2.2.2.2.2.2.2 := by rw [hnL]; decide
  unfold fX11_readTouched at h
  refine lX11_readTouched_0 C R0 hnL a0 h0 a1 _ (fun  M21 h => ?_) _  _ h
  refine r_aload_n (pc := 76) C dX11_readTouched_76 rfl rfl ?_
  refine r_vV0 (pc := 77) C (fun M' e => zX11_readBonus X.1 a0 h0 M21 M' e) h0 (by decide) rfl mX11_readBonus lX11_279 (by decide) (Nat.le_of_ble_eq_true rfl) dX11_readTouched_77 h (fun M22 h => ?_)
  exact r_vret (pc := 80) C R0 h dX11_readTouched_80
theorem dX11_readRaid_0 : decode cX11_readRaid 0 = .ok (.aload_n 0, 1) := by decide +kernel
theorem dX11_readRaid_1 : decode cX11_readRaid 1 = .ok (.getfield 16, 3) := by decide +kernel
theorem dX11_readRaid_4 : decode cX11_readRaid 4 = .ok (.bipush 25, 2) := by decide +kernel
theorem dX11_readRaid_6 : decode cX11_readRaid 6 = .ok (.laload, 1) := by decide +kernel
theorem dX11_readRaid_7 : decode cX11_readRaid 7 = .ok (.ldc2_w 282, 3) := by decide +kernel
theorem dX11_readRaid_10 : decode cX11_readRaid 10 = .ok (.lcmp, 1) := by decide +kernel
theorem dX11_readRaid_11 : decode cX11_readRaid 11 = .ok (.ifCond .ne 13, 3) := by decide +kernel
theorem dX11_readRaid_14 : decode cX11_readRaid 14 = .ok (.aload_n 0, 1) := by decide +kernel
theorem dX11_readRaid_15 : decode cX11_readRaid 15 = .ok (.bipush 7, 2) := by decide +kernel
theorem dX11_readRaid_17 : decode cX11_readRaid 17 = .ok (.aload_n 0, 1) := by decide +kernel
theorem dX11_readRaid_18 : decode cX11_readRaid 18 = .ok (.getfield 161, 3) := by decide +kernel
theorem dX11_readRaid_21 : decode cX11_readRaid 21 = .ok (.invokevirtual 202, 3) := by decide +kernel
theorem dX11_readRaid_24 : decode cX11_readRaid 24 = .ok (.aload_n 0, 1) := by decide +kernel
theorem dX11_readRaid_25 : decode cX11_readRaid 25 = .ok (.ldc 210, 2) := by decide +kernel
theorem dX11_readRaid_27 : decode cX11_readRaid 27 = .ok (.invokevirtual 258, 3) := by decide +kernel
theorem dX11_readRaid_30 : decode cX11_readRaid 30 = .ok (.aload_n 0, 1) := by decide +kernel
theorem dX11_readRaid_31 : decode cX11_readRaid 31 = .ok (.bipush 28, 2) := by decide +kernel
theorem dX11_readRaid_33 : decode cX11_readRaid 33 = .ok (.invokevirtual 43, 3) := by decide +kernel
theorem dX11_readRaid_36 : decode cX11_readRaid 36 = .ok (.istore_n 1, 1) := by decide +kernel
theorem dX11_readRaid_37 : decode cX11_readRaid 37 = .ok (.iconst 1, 1) := by decide +kernel
theorem dX11_readRaid_38 : decode cX11_readRaid 38 = .ok (.iload_n 1, 1) := by decide +kernel
theorem dX11_readRaid_39 : decode cX11_readRaid 39 = .ok (.isub, 1) := by decide +kernel
theorem dX11_readRaid_40 : decode cX11_readRaid 40 = .ok (.istore_n 2, 1) := by decide +kernel
theorem dX11_readRaid_41 : decode cX11_readRaid 41 = .ok (.aload_n 0, 1) := by decide +kernel
theorem dX11_readRaid_42 : decode cX11_readRaid 42 = .ok (.aload_n 0, 1) := by decide +kernel
theorem dX11_readRaid_43 : decode cX11_readRaid 43 = .ok (.iload_n 1, 1) := by decide +kernel
theorem dX11_readRaid_44 : decode cX11_readRaid 44 = .ok (.invokevirtual 272, 3) := by decide +kernel
theorem dX11_readRaid_47 : decode cX11_readRaid 47 = .ok (.putfield 96, 3) := by decide +kernel
theorem dX11_readRaid_50 : decode cX11_readRaid 50 = .ok (.aload_n 0, 1) := by decide +kernel
theorem dX11_readRaid_51 : decode cX11_readRaid 51 = .ok (.aload_n 0, 1) := by decide +kernel
theorem dX11_readRaid_52 : decode cX11_readRaid 52 = .ok (.invokevirtual 134, 3) := by decide +kernel
theorem dX11_readRaid_55 : decode cX11_readRaid 55 = .ok (.ifCond .ne 19, 3) := by decide +kernel
theorem dX11_readRaid_58 : decode cX11_readRaid 58 = .ok (.aload_n 0, 1) := by decide +kernel
theorem dX11_readRaid_59 : decode cX11_readRaid 59 = .ok (.iload_n 1, 1) := by decide +kernel
theorem dX11_readRaid_60 : decode cX11_readRaid 60 = .ok (.aload_n 0, 1) := by decide +kernel
theorem dX11_readRaid_61 : decode cX11_readRaid 61 = .ok (.getfield 96, 3) := by decide +kernel
theorem dX11_readRaid_64 : decode cX11_readRaid 64 = .ok (.invokevirtual 62, 3) := by decide +kernel
theorem dX11_readRaid_67 : decode cX11_readRaid 67 = .ok (.ifCond .ne 7, 3) := by decide +kernel
theorem dX11_readRaid_70 : decode cX11_readRaid 70 = .ok (.iconst 1, 1) := by decide +kernel
theorem dX11_readRaid_71 : decode cX11_readRaid 71 = .ok (.goto 4, 3) := by decide +kernel
theorem dX11_readRaid_74 : decode cX11_readRaid 74 = .ok (.iconst 0, 1) := by decide +kernel
theorem dX11_readRaid_75 : decode cX11_readRaid 75 = .ok (.invokevirtual 268, 3) := by decide +kernel
theorem dX11_readRaid_78 : decode cX11_readRaid 78 = .ok (.aload_n 0, 1) := by decide +kernel
theorem dX11_readRaid_79 : decode cX11_readRaid 79 = .ok (.invokevirtual 149, 3) := by decide +kernel
theorem dX11_readRaid_82 : decode cX11_readRaid 82 = .ok (.ifCond .eq 7, 3) := by decide +kernel
theorem dX11_readRaid_85 : decode cX11_readRaid 85 = .ok (.aload_n 0, 1) := by decide +kernel
theorem dX11_readRaid_86 : decode cX11_readRaid 86 = .ok (.invokevirtual 196, 3) := by decide +kernel
theorem dX11_readRaid_89 : decode cX11_readRaid 89 = .ok (.aload_n 0, 1) := by decide +kernel
theorem dX11_readRaid_90 : decode cX11_readRaid 90 = .ok (.iconst 0, 1) := by decide +kernel
theorem dX11_readRaid_91 : decode cX11_readRaid 91 = .ok (.putfield 82, 3) := by decide +kernel
theorem dX11_readRaid_94 : decode cX11_readRaid 94 = .ok (.aload_n 0, 1) := by decide +kernel
theorem dX11_readRaid_95 : decode cX11_readRaid 95 = .ok (.iconst (-1), 1) := by decide +kernel
theorem dX11_readRaid_96 : decode cX11_readRaid 96 = .ok (.putfield 99, 3) := by decide +kernel
theorem dX11_readRaid_99 : decode cX11_readRaid 99 = .ok (.aload_n 0, 1) := by decide +kernel
theorem dX11_readRaid_100 : decode cX11_readRaid 100 = .ok (.iconst 0, 1) := by decide +kernel
theorem dX11_readRaid_101 : decode cX11_readRaid 101 = .ok (.putfield 108, 3) := by decide +kernel
theorem dX11_readRaid_104 : decode cX11_readRaid 104 = .ok (.aload_n 0, 1) := by decide +kernel
theorem dX11_readRaid_105 : decode cX11_readRaid 105 = .ok (.ldc 226, 2) := by decide +kernel
theorem dX11_readRaid_107 : decode cX11_readRaid 107 = .ok (.invokevirtual 199, 3) := by decide +kernel
theorem dX11_readRaid_110 : decode cX11_readRaid 110 = .ok (.ifCond .eq 11, 3) := by decide +kernel
theorem dX11_readRaid_113 : decode cX11_readRaid 113 = .ok (.aload_n 0, 1) := by decide +kernel
theorem dX11_readRaid_114 : decode cX11_readRaid 114 = .ok (.iconst 0, 1) := by decide +kernel
theorem dX11_readRaid_115 : decode cX11_readRaid 115 = .ok (.putfield 93, 3) := by decide +kernel
theorem dX11_readRaid_118 : decode cX11_readRaid 118 = .ok (.goto 139, 3) := by decide +kernel
theorem dX11_readRaid_121 : decode cX11_readRaid 121 = .ok (.aload_n 0, 1) := by decide +kernel
theorem dX11_readRaid_122 : decode cX11_readRaid 122 = .ok (.ldc 228, 2) := by decide +kernel
theorem dX11_readRaid_124 : decode cX11_readRaid 124 = .ok (.invokevirtual 199, 3) := by decide +kernel
theorem dX11_readRaid_127 : decode cX11_readRaid 127 = .ok (.ifCond .eq 16, 3) := by decide +kernel
theorem dX11_readRaid_130 : decode cX11_readRaid 130 = .ok (.aload_n 0, 1) := by decide +kernel
theorem dX11_readRaid_131 : decode cX11_readRaid 131 = .ok (.iconst 1, 1) := by decide +kernel
theorem dX11_readRaid_132 : decode cX11_readRaid 132 = .ok (.putfield 93, 3) := by decide +kernel
theorem dX11_readRaid_135 : decode cX11_readRaid 135 = .ok (.aload_n 0, 1) := by decide +kernel
theorem dX11_readRaid_136 : decode cX11_readRaid 136 = .ok (.iload_n 2, 1) := by decide +kernel
theorem dX11_readRaid_137 : decode cX11_readRaid 137 = .ok (.invokevirtual 284, 3) := by decide +kernel
theorem dX11_readRaid_140 : decode cX11_readRaid 140 = .ok (.goto 117, 3) := by decide +kernel
theorem dX11_readRaid_143 : decode cX11_readRaid 143 = .ok (.aload_n 0, 1) := by decide +kernel
theorem dX11_readRaid_144 : decode cX11_readRaid 144 = .ok (.ldc 230, 2) := by decide +kernel
theorem dX11_readRaid_146 : decode cX11_readRaid 146 = .ok (.invokevirtual 192, 3) := by decide +kernel
theorem dX11_readRaid_149 : decode cX11_readRaid 149 = .ok (.ifCond .eq 20, 3) := by decide +kernel
theorem dX11_readRaid_152 : decode cX11_readRaid 152 = .ok (.aload_n 0, 1) := by decide +kernel
theorem dX11_readRaid_153 : decode cX11_readRaid 153 = .ok (.iconst 2, 1) := by decide +kernel
theorem dX11_readRaid_154 : decode cX11_readRaid 154 = .ok (.putfield 93, 3) := by decide +kernel
theorem dX11_readRaid_157 : decode cX11_readRaid 157 = .ok (.aload_n 0, 1) := by decide +kernel
theorem dX11_readRaid_158 : decode cX11_readRaid 158 = .ok (.invokevirtual 279, 3) := by decide +kernel
theorem dX11_readRaid_161 : decode cX11_readRaid 161 = .ok (.aload_n 0, 1) := by decide +kernel
theorem dX11_readRaid_162 : decode cX11_readRaid 162 = .ok (.iconst 0, 1) := by decide +kernel
theorem dX11_readRaid_163 : decode cX11_readRaid 163 = .ok (.putfield 108, 3) := by decide +kernel
theorem dX11_readRaid_166 : decode cX11_readRaid 166 = .ok (.goto 91, 3) := by decide +kernel
theorem dX11_readRaid_169 : decode cX11_readRaid 169 = .ok (.aload_n 0, 1) := by decide +kernel
theorem dX11_readRaid_170 : decode cX11_readRaid 170 = .ok (.ldc 232, 2) := by decide +kernel
theorem dX11_readRaid_172 : decode cX11_readRaid 172 = .ok (.invokevirtual 199, 3) := by decide +kernel
theorem dX11_readRaid_175 : decode cX11_readRaid 175 = .ok (.ifCond .eq 56, 3) := by decide +kernel
theorem dX11_readRaid_178 : decode cX11_readRaid 178 = .ok (.aload_n 0, 1) := by decide +kernel
theorem dX11_readRaid_179 : decode cX11_readRaid 179 = .ok (.iconst 3, 1) := by decide +kernel
theorem dX11_readRaid_180 : decode cX11_readRaid 180 = .ok (.putfield 93, 3) := by decide +kernel
theorem dX11_readRaid_183 : decode cX11_readRaid 183 = .ok (.aload_n 0, 1) := by decide +kernel
theorem dX11_readRaid_184 : decode cX11_readRaid 184 = .ok (.aload_n 0, 1) := by decide +kernel
theorem dX11_readRaid_185 : decode cX11_readRaid 185 = .ok (.iload_n 2, 1) := by decide +kernel
theorem dX11_readRaid_186 : decode cX11_readRaid 186 = .ok (.invokevirtual 272, 3) := by decide +kernel
theorem dX11_readRaid_189 : decode cX11_readRaid 189 = .ok (.putfield 99, 3) := by decide +kernel
theorem dX11_readRaid_192 : decode cX11_readRaid 192 = .ok (.aload_n 0, 1) := by decide +kernel
theorem dX11_readRaid_193 : decode cX11_readRaid 193 = .ok (.aload_n 0, 1) := by decide +kernel
theorem dX11_readRaid_194 : decode cX11_readRaid 194 = .ok (.iload_n 2, 1) := by decide +kernel
theorem dX11_readRaid_195 : decode cX11_readRaid 195 = .ok (.aload_n 0, 1) := by decide +kernel
theorem dX11_readRaid_196 : decode cX11_readRaid 196 = .ok (.getfield 99, 3) := by decide +kernel
theorem dX11_readRaid_199 : decode cX11_readRaid 199 = .ok (.invokevirtual 62, 3) := by decide +kernel
theorem dX11_readRaid_202 : decode cX11_readRaid 202 = .ok (.ifCond .ne 7, 3) := by decide +kernel
theorem dX11_readRaid_205 : decode cX11_readRaid 205 = .ok (.iconst 1, 1) := by decide +kernel
theorem dX11_readRaid_206 : decode cX11_readRaid 206 = .ok (.goto 4, 3) := by decide +kernel
theorem dX11_readRaid_209 : decode cX11_readRaid 209 = .ok (.iconst 0, 1) := by decide +kernel
theorem dX11_readRaid_210 : decode cX11_readRaid 210 = .ok (.invokevirtual 268, 3) := by decide +kernel
theorem dX11_readRaid_213 : decode cX11_readRaid 213 = .ok (.aload_n 0, 1) := by decide +kernel
theorem dX11_readRaid_214 : decode cX11_readRaid 214 = .ok (.invokevirtual 149, 3) := by decide +kernel
theorem dX11_readRaid_217 : decode cX11_readRaid 217 = .ok (.ifCond .eq 7, 3) := by decide +kernel
theorem dX11_readRaid_220 : decode cX11_readRaid 220 = .ok (.aload_n 0, 1) := by decide +kernel
theorem dX11_readRaid_221 : decode cX11_readRaid 221 = .ok (.invokevirtual 196, 3) := by decide +kernel
theorem dX11_readRaid_224 : decode cX11_readRaid 224 = .ok (.aload_n 0, 1) := by decide +kernel
theorem dX11_readRaid_225 : decode cX11_readRaid 225 = .ok (.invokevirtual 279, 3) := by decide +kernel
theorem dX11_readRaid_228 : decode cX11_readRaid 228 = .ok (.goto 29, 3) := by decide +kernel
theorem dX11_readRaid_231 : decode cX11_readRaid 231 = .ok (.aload_n 0, 1) := by decide +kernel
theorem dX11_readRaid_232 : decode cX11_readRaid 232 = .ok (.ldc 234, 2) := by decide +kernel
theorem dX11_readRaid_234 : decode cX11_readRaid 234 = .ok (.invokevirtual 199, 3) := by decide +kernel
theorem dX11_readRaid_237 : decode cX11_readRaid 237 = .ok (.ifCond .eq 11, 3) := by decide +kernel
theorem dX11_readRaid_240 : decode cX11_readRaid 240 = .ok (.aload_n 0, 1) := by decide +kernel
theorem dX11_readRaid_241 : decode cX11_readRaid 241 = .ok (.iconst 4, 1) := by decide +kernel
theorem dX11_readRaid_242 : decode cX11_readRaid 242 = .ok (.putfield 93, 3) := by decide +kernel
theorem dX11_readRaid_245 : decode cX11_readRaid 245 = .ok (.goto 12, 3) := by decide +kernel
theorem dX11_readRaid_248 : decode cX11_readRaid 248 = .ok (.aload_n 0, 1) := by decide +kernel
theorem dX11_readRaid_249 : decode cX11_readRaid 249 = .ok (.iconst 1, 1) := by decide +kernel
theorem dX11_readRaid_250 : decode cX11_readRaid 250 = .ok (.aload_n 0, 1) := by decide +kernel
theorem dX11_readRaid_251 : decode cX11_readRaid 251 = .ok (.getfield 161, 3) := by decide +kernel
theorem dX11_readRaid_254 : decode cX11_readRaid 254 = .ok (.invokevirtual 202, 3) := by decide +kernel
theorem dX11_readRaid_257 : decode cX11_readRaid 257 = .ok (.aload_n 0, 1) := by decide +kernel
theorem dX11_readRaid_258 : decode cX11_readRaid 258 = .ok (.invokevirtual 149, 3) := by decide +kernel
theorem dX11_readRaid_261 : decode cX11_readRaid 261 = .ok (.ifCond .eq 29, 3) := by decide +kernel
theorem dX11_readRaid_264 : decode cX11_readRaid 264 = .ok (.aload_n 0, 1) := by decide +kernel
theorem dX11_readRaid_265 : decode cX11_readRaid 265 = .ok (.getfield 164, 3) := by decide +kernel
theorem dX11_readRaid_268 : decode cX11_readRaid 268 = .ok (.iconst 3, 1) := by decide +kernel
theorem dX11_readRaid_269 : decode cX11_readRaid 269 = .ok (.if_icmp .ne 12, 3) := by decide +kernel
theorem dX11_readRaid_272 : decode cX11_readRaid 272 = .ok (.aload_n 0, 1) := by decide +kernel
theorem dX11_readRaid_273 : decode cX11_readRaid 273 = .ok (.getfield 175, 3) := by decide +kernel
theorem dX11_readRaid_276 : decode cX11_readRaid 276 = .ok (.bipush 59, 2) := by decide +kernel
theorem dX11_readRaid_278 : decode cX11_readRaid 278 = .ok (.if_icmp .eq 12, 3) := by decide +kernel
theorem dX11_readRaid_281 : decode cX11_readRaid 281 = .ok (.aload_n 0, 1) := by decide +kernel
theorem dX11_readRaid_282 : decode cX11_readRaid 282 = .ok (.iconst 1, 1) := by decide +kernel
theorem dX11_readRaid_283 : decode cX11_readRaid 283 = .ok (.aload_n 0, 1) := by decide +kernel
theorem dX11_readRaid_284 : decode cX11_readRaid 284 = .ok (.getfield 161, 3) := by decide +kernel
theorem dX11_readRaid_287 : decode cX11_readRaid 287 = .ok (.invokevirtual 202, 3) := by decide +kernel
theorem dX11_readRaid_290 : decode cX11_readRaid 290 = .ok (.aload_n 0, 1) := by decide +kernel
theorem dX11_readRaid_291 : decode cX11_readRaid 291 = .ok (.invokevirtual 149, 3) := by decide +kernel
theorem dX11_readRaid_294 : decode cX11_readRaid 294 = .ok (.ifCond .eq 7, 3) := by decide +kernel
theorem dX11_readRaid_297 : decode cX11_readRaid 297 = .ok (.aload_n 0, 1) := by decide +kernel
theorem dX11_readRaid_298 : decode cX11_readRaid 298 = .ok (.invokevirtual 287, 3) := by decide +kernel
theorem dX11_readRaid_301 : decode cX11_readRaid 301 = .ok (.return_, 1) := by decide +kernel
def fX11_readRaid (a0 : Nat) (M : xMem) : Option (xMem) :=
  xGb (nI 25) (xln (xnw M)) (xLt (fun  (M2 : xMem) => (xBv (fX11_passes a0 8 M2) fun M3 => xBn (fX11_get a0 (nI 28) M3) fun r4 M5 => xLt ((nI 1) - r4) fun x6 => xBn (fX11_oneHere a0 r4 M5) fun r7 M8 => xLt (xwI M8 a0 4 r7) fun M9 => xBn (fX11_isOver a0 M9) fun r10 M11 => xLt (fun (s12 : Int32) (M13 : xMem) => (xBv (fX11_can a0 s12 M13) fun M14 => xBn (fX11_good a0 M14) fun r15 M16 => xLt (fun  (M17 : xMem) => (xLt (xwI M17 a0 8 (nI 0)) fun M18 => xLt (xwI M18 a0 9 (-1)) fun M19 => xLt (xwI M19 a0 6 (nI 0)) fun M20 => xBn (fX11_eats a0 16 M20) fun r21 M22 => xLt (fun  (M23 : xMem) => (xBn (fX11_good a0 M23) fun r24 M25 => xLt (fun  (M26 : xMem) => (xBn (fX11_good a0 M26) fun r27 M28 => if r27 = 0 then (some M28) else (xBv (fX11_raids a0 M28) fun M29 => some M29) : Option (xMem))) fun J290 => if r24 = 0 then (J290  M25) else (xLt (fun  (M30 : xMem) => (xBv (fX11_errs a0 (nI 1) (M30.1 a0 14) M30) fun M31 => J290  M31 : Option (xMem))) fun J281 => if (M25.1 a0 15) = (nI 3) then (if (M25.1 a0 16) = (nI 59) then (J290  M25) else (J281  M25)) else (J281  M25)) : Option (xMem))) fun J257 => if r21 = 0 then (xBn (fX11_eats a0 17 M22) fun r32 M33 => if r32 = 0 then (xBn (fX11_isWord a0 18 M33) fun r34 M35 => if r34 = 0 then (xBn (fX11_eats a0 19 M35) fun r36 M37 => if r36 = 0 then (xBn (fX11_eats a0 20 M37) fun r38 M39 => if r38 = 0 then (xBv (fX11_errs a0 (nI 1) (M39.1 a0 14) M39) fun M40 => J257  M40) else (xLt (xwI M39 a0 5 (nI 4)) fun M41 => J257  M41)) else (xLt (xwI M37 a0 5 (nI 3)) fun M42 => xBn (fX11_oneHere a0 x6 M42) fun r43 M44 => xLt (xwI M44 a0 9 r43) fun M45 => xBn (fX11_isOf a0 x6 (M45.1 a0 9) M45) fun r46 M47 => xLt (fun (s48 : Int32) (M49 : xMem) => (xBv (fX11_can a0 s48 M49) fun M50 => xBn (fX11_good a0 M50) fun r51 M52 => xLt (fun  (M53 : xMem) => (xBv (fX11_readBonus a0 M53) fun M54 => J257  M54 : Option (xMem))) fun J224 => if r51 = 0 then (J224  M52) else (xBv (fX11_advance a0 M52) fun M55 => J224  M55) : Option (xMem))) fun J210 => if r46 = 0 then (J210 (nI 1) M47) else (J210 (nI 0) M47))) else (xLt (xwI M35 a0 5 (nI 2)) fun M56 => xBv (fX11_readBonus a0 M56) fun M57 => xLt (xwI M57 a0 6 (nI 0)) fun M58 => J257  M58)) else (xLt (xwI M33 a0 5 (nI 1)) fun M59 => xBv (fX11_readTouched a0 x6 M59) fun M60 => J257  M60)) else (xLt (xwI M22 a0 5 (nI 0)) fun M61 => J257  M61) : Option (xMem))) fun J89 => if r15 = 0 then (J89  M16) else (xBv (fX11_advance a0 M16) fun M62 => J89  M62) : Option (xMem))) fun J75 => xLt (fun  (M63 : xMem) => (J75 (nI 0) M63 : Option (xMem))) fun J74 => if r10 = 0 then (xBn (fX11_isOf a0 r4 (M11.1 a0 4) M11) fun r64 M65 => if r64 = 0 then (J75 (nI 1) M65) else (J74  M65)) else (J74  M11) : Option (xMem))) fun J24 => if (lg_cmp (M.2.1 (xnw M) (Int32.toNatClampNeg (nI 25))) (lN 200)) = 0 then (xBv (fX11_errs a0 (nI 7) (M.1 a0 14) M) fun M66 => J24  M66) else (J24  M))
set_option maxRecDepth 100000 in
set_option maxHeartbeats 4000000 in
theorem zX11_readRaid (G : xGX) (a0 : Nat) (h0 : xkd a0 = 11) (M : xMem) (M' : xMem) (h : fX11_readRaid a0 M = some M') : xCt G yX11_readRaid cX11_readRaid 3 none 8 [vr G a0] M (none, M') := by
  refine xMet (lv := [some (vr G a0), none, none]) (by decide) (Nat.le_of_ble_eq_true rfl) rfl ?_
  intro X hG hnL C R0
  subst hG
  have C : xCk X cX11_readRaid RX11 8 := C
  have hn1 : 1 < X.2.2.2.2.2.2.2.2.2.2.2.2.2 := by rw [hnL]; decide
  have hn2 : 2 < X.2.2.2.2.2.2.2.2.2.2.2.2.2 := by rw [hnL]; decide
  unfold fX11_readRaid at h
  refine r_aload_n (pc := 0) C dX11_readRaid_0 rfl rfl ?_
  refine r_getW (pc := 1) C kX11_16 h0 dX11_readRaid_1 ?_
  refine r_bipush (pc := 4) (v := (nI 25)) C dX11_readRaid_4 (by decide) ?_
  obtain ⟨g1, h⟩ := xGb_of h
  refine r_lald (pc := 6) C (xknw M) g1 dX11_readRaid_6 ?_
  refine r_ldc2 (pc := 7) C nX11_282 dX11_readRaid_7 ?_
  refine r_lcmp (pc := 10) C dX11_readRaid_10 ?_
  refine r_jn (fun J => ∀  (M2 : xMem) , J  M2 = some M' → WW X 24 [some (vr X.1 a0), none, none] [] M2) h (fun  M2  h => ?_) (fun J24 hJ24 h => ?_)
  · refine r_aload_n (pc := 24) C dX11_readRaid_24 rfl rfl ?_
    refine r_ldcS (pc := 25) (i := 8) C (by decide) rfl dX11_readRaid_25 ?_
    refine r_vV1 (pc := 27) C (fun M' e => zX11_passes X.1 a0 h0 8 (by decide) M2 M' e) h0 (by decide) rfl mX11_passes lX11_258 (by decide) (Nat.le_of_ble_eq_true rfl) dX11_readRaid_27 h (fun M3 h => ?_)
    refine r_aload_n (pc := 30) C dX11_readRaid_30 rfl rfl ?_
    refine r_bipush (pc := 31) (v := (nI 28)) C dX11_readRaid_31 (by decide) ?_
    refine r_vI1 (pc := 33) C (fun r M' e => zX11_get X.1 a0 h0 (nI 28) M3 r M' e) h0 (by decide) rfl mX11_get lX11_43 (by decide) (Nat.le_of_ble_eq_true rfl) dX11_readRaid_33 h (fun r4 M5 h => ?_)
    refine r_istore_n (pc := 36) (lv' := [_, _, _]) C dX11_readRaid_36 rfl hn1 rfl ?_
    refine r_iconst (pc := 37) (v := (nI 1)) C dX11_readRaid_37 (by decide) ?_
    refine r_iload_n (pc := 38) C dX11_readRaid_38 rfl rfl ?_
    refine r_isub (pc := 39) C dX11_readRaid_39 ?_
    refine r_letI h (fun x6 h => ?_)
    refine r_istore_n (pc := 40) (lv' := [_, _, _]) C dX11_readRaid_40 rfl hn2 rfl ?_
    refine r_aload_n (pc := 41) C dX11_readRaid_41 rfl rfl ?_
    refine r_aload_n (pc := 42) C dX11_readRaid_42 rfl rfl ?_
    refine r_iload_n (pc := 43) C dX11_readRaid_43 rfl rfl ?_
    refine r_vI1 (pc := 44) C (fun r M' e => zX11_oneHere X.1 a0 h0 r4 M5 r M' e) h0 (by decide) rfl mX11_oneHere lX11_272 (by decide) (Nat.le_of_ble_eq_true rfl) dX11_readRaid_44 h (fun r7 M8 h => ?_)
    refine r_putI (pc := 47) C kX11_96 h0 dX11_readRaid_47 ?_
    refine r_letM h (fun M9 h => ?_)
    refine r_aload_n (pc := 50) C dX11_readRaid_50 rfl rfl ?_
    refine r_aload_n (pc := 51) C dX11_readRaid_51 rfl rfl ?_
    refine r_vI0 (pc := 52) C (fun r M' e => zX11_isOver X.1 a0 h0 M9 r M' e) h0 (by decide) rfl mX11_isOver lX11_134 (by decide) (Nat.le_of_ble_eq_true rfl) dX11_readRaid_52 h (fun r10 M11 h => ?_)
    refine r_jn (fun J => ∀ (s12 : Int32) (M13 : xMem) , J s12 M13 = some M' → WW X 75 [some (vr X.1 a0), some (.int r4), some (.int x6)] [.int s12, vr X.1 a0] M13) h (fun s12 M13  h => ?_) (fun J75 hJ75 h => ?_)
    · refine r_vV1 (pc := 75) C (fun M' e => zX11_can X.1 a0 h0 s12 M13 M' e) h0 (by decide) rfl mX11_can lX11_268 (by decide) (Nat.le_of_ble_eq_true rfl) dX11_readRaid_75 h (fun M14 h => ?_)
      refine r_aload_n (pc := 78) C dX11_readRaid_78 rfl rfl ?_
      refine r_vI0 (pc := 79) C (fun r M' e => zX11_good X.1 a0 h0 M14 r M' e) h0 (by decide) rfl mX11_good lX11_149 (by decide) (Nat.le_of_ble_eq_true rfl) dX11_readRaid_79 h (fun r15 M16 h => ?_)
      refine r_jn (fun J => ∀  (M17 : xMem) , J  M17 = some M' → WW X 89 [some (vr X.1 a0), some (.int r4), some (.int x6)] [] M17) h (fun  M17  h => ?_) (fun J89 hJ89 h => ?_)
      · refine r_aload_n (pc := 89) C dX11_readRaid_89 rfl rfl ?_
        refine r_iconst (pc := 90) (v := (nI 0)) C dX11_readRaid_90 (by decide) ?_
        refine r_putI (pc := 91) C kX11_82 h0 dX11_readRaid_91 ?_
        refine r_letM h (fun M18 h => ?_)
        refine r_aload_n (pc := 94) C dX11_readRaid_94 rfl rfl ?_
        refine r_iconst (pc := 95) (v := (-1)) C dX11_readRaid_95 (by decide) ?_
        refine r_putI (pc := 96) C kX11_99 h0 dX11_readRaid_96 ?_
        refine r_letM h (fun M19 h => ?_)
        refine r_aload_n (pc := 99) C dX11_readRaid_99 rfl rfl ?_
        refine r_iconst (pc := 100) (v := (nI 0)) C dX11_readRaid_100 (by decide) ?_
        refine r_putZ (pc := 101) C kX11_108 h0 (Or.inl (by decide)) dX11_readRaid_101 ?_
        refine r_letM h (fun M20 h => ?_)
        refine r_aload_n (pc := 104) C dX11_readRaid_104 rfl rfl ?_
        refine r_ldcS (pc := 105) (i := 16) C (by decide) rfl dX11_readRaid_105 ?_
        refine r_vI1 (pc := 107) C (fun r M' e => zX11_eats X.1 a0 h0 16 (by decide) M20 r M' e) h0 (by decide) rfl mX11_eats lX11_199 (by decide) (Nat.le_of_ble_eq_true rfl) dX11_readRaid_107 h (fun r21 M22 h => ?_)
        refine r_jn (fun J => ∀  (M23 : xMem) , J  M23 = some M' → WW X 257 [some (vr X.1 a0), some (.int r4), some (.int x6)] [] M23) h (fun  M23  h => ?_) (fun J257 hJ257 h => ?_)
        · refine r_aload_n (pc := 257) C dX11_readRaid_257 rfl rfl ?_
          refine r_vI0 (pc := 258) C (fun r M' e => zX11_good X.1 a0 h0 M23 r M' e) h0 (by decide) rfl mX11_good lX11_149 (by decide) (Nat.le_of_ble_eq_true rfl) dX11_readRaid_258 h (fun r24 M25 h => ?_)
          refine r_jn (fun J => ∀  (M26 : xMem) , J  M26 = some M' → WW X 290 [some (vr X.1 a0), some (.int r4), some (.int x6)] [] M26) h (fun  M26  h => ?_) (fun J290 hJ290 h => ?_)
          · refine r_aload_n (pc := 290) C dX11_readRaid_290 rfl rfl ?_
            refine r_vI0 (pc := 291) C (fun r M' e => zX11_good X.1 a0 h0 M26 r M' e) h0 (by decide) rfl mX11_good lX11_149 (by decide) (Nat.le_of_ble_eq_true rfl) dX11_readRaid_291 h (fun r27 M28 h => ?_)
            refine r_if_eq (pc := 294) (tgt := 301) C dX11_readRaid_294 (by decide) h (fun _ h => ?_) (fun _ h => ?_)
            · exact r_vret (pc := 301) C R0 h dX11_readRaid_301
            · refine r_aload_n (pc := 297) C dX11_readRaid_297 rfl rfl ?_
              refine r_vV0 (pc := 298) C (fun M' e => zX11_raids X.1 a0 h0 M28 M' e) h0 (by decide) rfl mX11_raids lX11_287 (by decide) (Nat.le_of_ble_eq_true rfl) dX11_readRaid_298 h (fun M29 h => ?_)
              exact r_vret (pc := 301) C R0 h dX11_readRaid_301
          refine r_if_eq (pc := 261) (tgt := 290) C dX11_readRaid_261 (by decide) h (fun _ h => ?_) (fun _ h => ?_)
          · exact hJ290  M25  h
          · refine r_aload_n (pc := 264) C dX11_readRaid_264 rfl rfl ?_
            refine r_getI (pc := 265) C kX11_164 h0 dX11_readRaid_265 ?_
            refine r_iconst (pc := 268) (v := (nI 3)) C dX11_readRaid_268 (by decide) ?_
            refine r_jn (fun J => ∀  (M30 : xMem) , J  M30 = some M' → WW X 281 [some (vr X.1 a0), some (.int r4), some (.int x6)] [] M30) h (fun  M30  h => ?_) (fun J281 hJ281 h => ?_)
            · refine r_aload_n (pc := 281) C dX11_readRaid_281 rfl rfl ?_
              refine r_iconst (pc := 282) (v := (nI 1)) C dX11_readRaid_282 (by decide) ?_
              refine r_aload_n (pc := 283) C dX11_readRaid_283 rfl rfl ?_
              refine r_getI (pc := 284) C kX11_161 h0 dX11_readRaid_284 ?_
              refine r_vV2 (pc := 287) C (fun M' e => zX11_errs X.1 a0 h0 (nI 1) (M30.1 a0 14) M30 M' e) h0 (by decide) rfl mX11_errs lX11_202 (by decide) (Nat.le_of_ble_eq_true rfl) dX11_readRaid_287 h (fun M31 h => ?_)
              exact hJ290  M31  h
            refine r_icmp_ne (pc := 269) (tgt := 281) C dX11_readRaid_269 (by decide) h (fun _ h => ?_) (fun _ h => ?_)
            · exact hJ281  M25  h
            · refine r_aload_n (pc := 272) C dX11_readRaid_272 rfl rfl ?_
              refine r_getI (pc := 273) C kX11_175 h0 dX11_readRaid_273 ?_
              refine r_bipush (pc := 276) (v := (nI 59)) C dX11_readRaid_276 (by decide) ?_
              refine r_icmp_eq (pc := 278) (tgt := 290) C dX11_readRaid_278 (by decide) h (fun _ h => ?_) (fun _ h => ?_)
              · exact hJ290  M25  h
              · exact hJ281  M25  h
        refine r_if_eq (pc := 110) (tgt := 121) C dX11_readRaid_110 (by decide) h (fun _ h => ?_) (fun _ h => ?_)
        · refine r_aload_n (pc := 121) C dX11_readRaid_121 rfl rfl ?_
          refine r_ldcS (pc := 122) (i := 17) C (by decide) rfl dX11_readRaid_122 ?_
          refine r_vI1 (pc := 124) C (fun r M' e => zX11_eats X.1 a0 h0 17 (by decide) M22 r M' e) h0 (by decide) rfl mX11_eats lX11_199 (by decide) (Nat.le_of_ble_eq_true rfl) dX11_readRaid_124 h (fun r32 M33 h => ?_)
          refine r_if_eq (pc := 127) (tgt := 143) C dX11_readRaid_127 (by decide) h (fun _ h => ?_) (fun _ h => ?_)
          · refine r_aload_n (pc := 143) C dX11_readRaid_143 rfl rfl ?_
            refine r_ldcS (pc := 144) (i := 18) C (by decide) rfl dX11_readRaid_144 ?_
            refine r_vI1 (pc := 146) C (fun r M' e => zX11_isWord X.1 a0 h0 18 (by decide) M33 r M' e) h0 (by decide) rfl mX11_isWord lX11_192 (by decide) (Nat.le_of_ble_eq_true rfl) dX11_readRaid_146 h (fun r34 M35 h => ?_)
            refine r_if_eq (pc := 149) (tgt := 169) C dX11_readRaid_149 (by decide) h (fun _ h => ?_) (fun _ h => ?_)
            · refine r_aload_n (pc := 169) C dX11_readRaid_169 rfl rfl ?_
              refine r_ldcS (pc := 170) (i := 19) C (by decide) rfl dX11_readRaid_170 ?_
              refine r_vI1 (pc := 172) C (fun r M' e => zX11_eats X.1 a0 h0 19 (by decide) M35 r M' e) h0 (by decide) rfl mX11_eats lX11_199 (by decide) (Nat.le_of_ble_eq_true rfl) dX11_readRaid_172 h (fun r36 M37 h => ?_)
              refine r_if_eq (pc := 175) (tgt := 231) C dX11_readRaid_175 (by decide) h (fun _ h => ?_) (fun _ h => ?_)
              · refine r_aload_n (pc := 231) C dX11_readRaid_231 rfl rfl ?_
                refine r_ldcS (pc := 232) (i := 20) C (by decide) rfl dX11_readRaid_232 ?_
                refine r_vI1 (pc := 234) C (fun r M' e => zX11_eats X.1 a0 h0 20 (by decide) M37 r M' e) h0 (by decide) rfl mX11_eats lX11_199 (by decide) (Nat.le_of_ble_eq_true rfl) dX11_readRaid_234 h (fun r38 M39 h => ?_)
                refine r_if_eq (pc := 237) (tgt := 248) C dX11_readRaid_237 (by decide) h (fun _ h => ?_) (fun _ h => ?_)
                · refine r_aload_n (pc := 248) C dX11_readRaid_248 rfl rfl ?_
                  refine r_iconst (pc := 249) (v := (nI 1)) C dX11_readRaid_249 (by decide) ?_
                  refine r_aload_n (pc := 250) C dX11_readRaid_250 rfl rfl ?_
                  refine r_getI (pc := 251) C kX11_161 h0 dX11_readRaid_251 ?_
                  refine r_vV2 (pc := 254) C (fun M' e => zX11_errs X.1 a0 h0 (nI 1) (M39.1 a0 14) M39 M' e) h0 (by decide) rfl mX11_errs lX11_202 (by decide) (Nat.le_of_ble_eq_true rfl) dX11_readRaid_254 h (fun M40 h => ?_)
                  exact hJ257  M40  h
                · refine r_aload_n (pc := 240) C dX11_readRaid_240 rfl rfl ?_
                  refine r_iconst (pc := 241) (v := (nI 4)) C dX11_readRaid_241 (by decide) ?_
                  refine r_putI (pc := 242) C kX11_93 h0 dX11_readRaid_242 ?_
                  refine r_letM h (fun M41 h => ?_)
                  refine r_goto (pc := 245) (tgt := 257) C dX11_readRaid_245 (by decide) ?_
                  exact hJ257  M41  h
              · refine r_aload_n (pc := 178) C dX11_readRaid_178 rfl rfl ?_
                refine r_iconst (pc := 179) (v := (nI 3)) C dX11_readRaid_179 (by decide) ?_
                refine r_putI (pc := 180) C kX11_93 h0 dX11_readRaid_180 ?_
                refine r_letM h (fun M42 h => ?_)
                refine r_aload_n (pc := 183) C dX11_readRaid_183 rfl rfl ?_
                refine r_aload_n (pc := 184) C dX11_readRaid_184 rfl rfl ?_
                refine r_iload_n (pc := 185) C dX11_readRaid_185 rfl rfl ?_
                refine r_vI1 (pc := 186) C (fun r M' e => zX11_oneHere X.1 a0 h0 x6 M42 r M' e) h0 (by decide) rfl mX11_oneHere lX11_272 (by decide) (Nat.le_of_ble_eq_true rfl) dX11_readRaid_186 h (fun r43 M44 h => ?_)
                refine r_putI (pc := 189) C kX11_99 h0 dX11_readRaid_189 ?_
                refine r_letM h (fun M45 h => ?_)
                refine r_aload_n (pc := 192) C dX11_readRaid_192 rfl rfl ?_
                refine r_aload_n (pc := 193) C dX11_readRaid_193 rfl rfl ?_
                refine r_iload_n (pc := 194) C dX11_readRaid_194 rfl rfl ?_
                refine r_aload_n (pc := 195) C dX11_readRaid_195 rfl rfl ?_
                refine r_getI (pc := 196) C kX11_99 h0 dX11_readRaid_196 ?_
                refine r_vI2 (pc := 199) C (fun r M' e => zX11_isOf X.1 a0 h0 x6 (M45.1 a0 9) M45 r M' e) h0 (by decide) rfl mX11_isOf lX11_62 (by decide) (Nat.le_of_ble_eq_true rfl) dX11_readRaid_199 h (fun r46 M47 h => ?_)
                refine r_jn (fun J => ∀ (s48 : Int32) (M49 : xMem) , J s48 M49 = some M' → WW X 210 [some (vr X.1 a0), some (.int r4), some (.int x6)] [.int s48, vr X.1 a0] M49) h (fun s48 M49  h => ?_) (fun J210 hJ210 h => ?_)
                · refine r_vV1 (pc := 210) C (fun M' e => zX11_can X.1 a0 h0 s48 M49 M' e) h0 (by decide) rfl mX11_can lX11_268 (by decide) (Nat.le_of_ble_eq_true rfl) dX11_readRaid_210 h (fun M50 h => ?_)
                  refine r_aload_n (pc := 213) C dX11_readRaid_213 rfl rfl ?_
                  refine r_vI0 (pc := 214) C (fun r M' e => zX11_good X.1 a0 h0 M50 r M' e) h0 (by decide) rfl mX11_good lX11_149 (by decide) (Nat.le_of_ble_eq_true rfl) dX11_readRaid_214 h (fun r51 M52 h => ?_)
                  refine r_jn (fun J => ∀  (M53 : xMem) , J  M53 = some M' → WW X 224 [some (vr X.1 a0), some (.int r4), some (.int x6)] [] M53) h (fun  M53  h => ?_) (fun J224 hJ224 h => ?_)
                  · refine r_aload_n (pc := 224) C dX11_readRaid_224 rfl rfl ?_
                    refine r_vV0 (pc := 225) C (fun M' e => zX11_readBonus X.1 a0 h0 M53 M' e) h0 (by decide) rfl mX11_readBonus lX11_279 (by decide) (Nat.le_of_ble_eq_true rfl) dX11_readRaid_225 h (fun M54 h => ?_)
                    refine r_goto (pc := 228) (tgt := 257) C dX11_readRaid_228 (by decide) ?_
                    exact hJ257  M54  h
                  refine r_if_eq (pc := 217) (tgt := 224) C dX11_readRaid_217 (by decide) h (fun _ h => ?_) (fun _ h => ?_)
                  · exact hJ224  M52  h
                  · refine r_aload_n (pc := 220) C dX11_readRaid_220 rfl rfl ?_
                    refine r_vV0 (pc := 221) C (fun M' e => zX11_advance X.1 a0 h0 M52 M' e) h0 (by decide) rfl mX11_advance lX11_196 (by decide) (Nat.le_of_ble_eq_true rfl) dX11_readRaid_221 h (fun M55 h => ?_)
                    exact hJ224  M55  h
                refine r_if_ne (pc := 202) (tgt := 209) C dX11_readRaid_202 (by decide) h (fun _ h => ?_) (fun _ h => ?_)
                · refine r_iconst (pc := 209) (v := (nI 0)) C dX11_readRaid_209 (by decide) ?_
                  exact hJ210 (nI 0) M47  h
                · refine r_iconst (pc := 205) (v := (nI 1)) C dX11_readRaid_205 (by decide) ?_
                  refine r_goto (pc := 206) (tgt := 210) C dX11_readRaid_206 (by decide) ?_
                  exact hJ210 (nI 1) M47  h
            · refine r_aload_n (pc := 152) C dX11_readRaid_152 rfl rfl ?_
              refine r_iconst (pc := 153) (v := (nI 2)) C dX11_readRaid_153 (by decide) ?_
              refine r_putI (pc := 154) C kX11_93 h0 dX11_readRaid_154 ?_
              refine r_letM h (fun M56 h => ?_)
              refine r_aload_n (pc := 157) C dX11_readRaid_157 rfl rfl ?_
              refine r_vV0 (pc := 158) C (fun M' e => zX11_readBonus X.1 a0 h0 M56 M' e) h0 (by decide) rfl mX11_readBonus lX11_279 (by decide) (Nat.le_of_ble_eq_true rfl) dX11_readRaid_158 h (fun M57 h => ?_)
              refine r_aload_n (pc := 161) C dX11_readRaid_161 rfl rfl ?_
              refine r_iconst (pc := 162) (v := (nI 0)) C dX11_readRaid_162 (by decide) ?_
              refine r_putZ (pc := 163) C kX11_108 h0 (Or.inl (by decide)) dX11_readRaid_163 ?_
              refine r_letM h (fun M58 h => ?_)
              refine r_goto (pc := 166) (tgt := 257) C dX11_readRaid_166 (by decide) ?_
              exact hJ257  M58  h
          · refine r_aload_n (pc := 130) C dX11_readRaid_130 rfl rfl ?_
            refine r_iconst (pc := 131) (v := (nI 1)) C dX11_readRaid_131 (by decide) ?_
            refine r_putI (pc := 132) C kX11_93 h0 dX11_readRaid_132 ?_
            refine r_letM h (fun M59 h => ?_)
            refine r_aload_n (pc := 135) C dX11_readRaid_135 rfl rfl ?_
            refine r_iload_n (pc := 136) C dX11_readRaid_136 rfl rfl ?_
            refine r_vV1 (pc := 137) C (fun M' e => zX11_readTouched X.1 a0 h0 x6 M59 M' e) h0 (by decide) rfl mX11_readTouched lX11_284 (by decide) (Nat.le_of_ble_eq_true rfl) dX11_readRaid_137 h (fun M60 h => ?_)
            refine r_goto (pc := 140) (tgt := 257) C dX11_readRaid_140 (by decide) ?_
            exact hJ257  M60  h
        · refine r_aload_n (pc := 113) C dX11_readRaid_113 rfl rfl ?_
          refine r_iconst (pc := 114) (v := (nI 0)) C dX11_readRaid_114 (by decide) ?_
          refine r_putI (pc := 115) C kX11_93 h0 dX11_readRaid_115 ?_
          refine r_letM h (fun M61 h => ?_)
          refine r_goto (pc := 118) (tgt := 257) C dX11_readRaid_118 (by decide) ?_
          exact hJ257  M61  h
      refine r_if_eq (pc := 82) (tgt := 89) C dX11_readRaid_82 (by decide) h (fun _ h => ?_) (fun _ h => ?_)
      · exact hJ89  M16  h
      · refine r_aload_n (pc := 85) C dX11_readRaid_85 rfl rfl ?_
        refine r_vV0 (pc := 86) C (fun M' e => zX11_advance X.1 a0 h0 M16 M' e) h0 (by decide) rfl mX11_advance lX11_196 (by decide) (Nat.le_of_ble_eq_true rfl) dX11_readRaid_86 h (fun M62 h => ?_)
        exact hJ89  M62  h
    refine r_jn (fun J => ∀  (M63 : xMem) , J  M63 = some M' → WW X 74 [some (vr X.1 a0), some (.int r4), some (.int x6)] [vr X.1 a0] M63) h (fun  M63  h => ?_) (fun J74 hJ74 h => ?_)
    · refine r_iconst (pc := 74) (v := (nI 0)) C dX11_readRaid_74 (by decide) ?_
      exact hJ75 (nI 0) M63  h
    refine r_if_ne (pc := 55) (tgt := 74) C dX11_readRaid_55 (by decide) h (fun _ h => ?_) (fun _ h => ?_)
    · exact hJ74  M11  h
    · refine r_aload_n (pc := 58) C dX11_readRaid_58 rfl rfl ?_
      refine r_iload_n (pc := 59) C dX11_readRaid_59 rfl rfl ?_
      refine r_aload_n (pc := 60) C dX11_readRaid_60 rfl rfl ?_
      refine r_getI (pc := 61) C kX11_96 h0 dX11_readRaid_61 ?_
      refine r_vI2 (pc := 64) C (fun r M' e => zX11_isOf X.1 a0 h0 r4 (M11.1 a0 4) M11 r M' e) h0 (by decide) rfl mX11_isOf lX11_62 (by decide) (Nat.le_of_ble_eq_true rfl) dX11_readRaid_64 h (fun r64 M65 h => ?_)
      refine r_if_ne (pc := 67) (tgt := 74) C dX11_readRaid_67 (by decide) h (fun _ h => ?_) (fun _ h => ?_)
      · exact hJ74  M65  h
      · refine r_iconst (pc := 70) (v := (nI 1)) C dX11_readRaid_70 (by decide) ?_
        refine r_goto (pc := 71) (tgt := 75) C dX11_readRaid_71 (by decide) ?_
        exact hJ75 (nI 1) M65  h
  refine r_if_ne (pc := 11) (tgt := 24) C dX11_readRaid_11 (by decide) h (fun _ h => ?_) (fun _ h => ?_)
  · exact hJ24  M  h
  · refine r_aload_n (pc := 14) C dX11_readRaid_14 rfl rfl ?_
    refine r_bipush (pc := 15) (v := (nI 7)) C dX11_readRaid_15 (by decide) ?_
    refine r_aload_n (pc := 17) C dX11_readRaid_17 rfl rfl ?_
    refine r_getI (pc := 18) C kX11_161 h0 dX11_readRaid_18 ?_
    refine r_vV2 (pc := 21) C (fun M' e => zX11_errs X.1 a0 h0 (nI 7) (M.1 a0 14) M M' e) h0 (by decide) rfl mX11_errs lX11_202 (by decide) (Nat.le_of_ble_eq_true rfl) dX11_readRaid_21 h (fun M66 h => ?_)
    exact hJ24  M66  h
theorem dX11_readCard_0 : decode cX11_readCard 0 = .ok (.aload_n 0, 1) := by decide +kernel
theorem dX11_readCard_1 : decode cX11_readCard 1 = .ok (.ldc 212, 2) := by decide +kernel
theorem dX11_readCard_3 : decode cX11_readCard 3 = .ok (.invokevirtual 258, 3) := by decide +kernel
theorem dX11_readCard_6 : decode cX11_readCard 6 = .ok (.aload_n 0, 1) := by decide +kernel
theorem dX11_readCard_7 : decode cX11_readCard 7 = .ok (.invokevirtual 290, 3) := by decide +kernel
theorem dX11_readCard_10 : decode cX11_readCard 10 = .ok (.istore_n 1, 1) := by decide +kernel
theorem dX11_readCard_11 : decode cX11_readCard 11 = .ok (.aload_n 0, 1) := by decide +kernel
theorem dX11_readCard_12 : decode cX11_readCard 12 = .ok (.iload_n 1, 1) := by decide +kernel
theorem dX11_readCard_13 : decode cX11_readCard 13 = .ok (.invokevirtual 272, 3) := by decide +kernel
theorem dX11_readCard_16 : decode cX11_readCard 16 = .ok (.istore_n 2, 1) := by decide +kernel
theorem dX11_readCard_17 : decode cX11_readCard 17 = .ok (.aload_n 0, 1) := by decide +kernel
theorem dX11_readCard_18 : decode cX11_readCard 18 = .ok (.iload_n 1, 1) := by decide +kernel
theorem dX11_readCard_19 : decode cX11_readCard 19 = .ok (.iload_n 2, 1) := by decide +kernel
theorem dX11_readCard_20 : decode cX11_readCard 20 = .ok (.invokevirtual 62, 3) := by decide +kernel
theorem dX11_readCard_23 : decode cX11_readCard 23 = .ok (.istore_n 3, 1) := by decide +kernel
theorem dX11_readCard_24 : decode cX11_readCard 24 = .ok (.aload_n 0, 1) := by decide +kernel
theorem dX11_readCard_25 : decode cX11_readCard 25 = .ok (.aload_n 0, 1) := by decide +kernel
theorem dX11_readCard_26 : decode cX11_readCard 26 = .ok (.invokevirtual 134, 3) := by decide +kernel
theorem dX11_readCard_29 : decode cX11_readCard 29 = .ok (.ifCond .ne 17, 3) := by decide +kernel
theorem dX11_readCard_32 : decode cX11_readCard 32 = .ok (.iload_n 3, 1) := by decide +kernel
theorem dX11_readCard_33 : decode cX11_readCard 33 = .ok (.iconst 2, 1) := by decide +kernel
theorem dX11_readCard_34 : decode cX11_readCard 34 = .ok (.if_icmp .eq 12, 3) := by decide +kernel
theorem dX11_readCard_37 : decode cX11_readCard 37 = .ok (.iload_n 3, 1) := by decide +kernel
theorem dX11_readCard_38 : decode cX11_readCard 38 = .ok (.iconst 4, 1) := by decide +kernel
theorem dX11_readCard_39 : decode cX11_readCard 39 = .ok (.if_icmp .eq 7, 3) := by decide +kernel
theorem dX11_readCard_42 : decode cX11_readCard 42 = .ok (.iconst 1, 1) := by decide +kernel
theorem dX11_readCard_43 : decode cX11_readCard 43 = .ok (.goto 4, 3) := by decide +kernel
theorem dX11_readCard_46 : decode cX11_readCard 46 = .ok (.iconst 0, 1) := by decide +kernel
theorem dX11_readCard_47 : decode cX11_readCard 47 = .ok (.invokevirtual 268, 3) := by decide +kernel
theorem dX11_readCard_50 : decode cX11_readCard 50 = .ok (.aload_n 0, 1) := by decide +kernel
theorem dX11_readCard_51 : decode cX11_readCard 51 = .ok (.invokevirtual 149, 3) := by decide +kernel
theorem dX11_readCard_54 : decode cX11_readCard 54 = .ok (.ifCond .eq 7, 3) := by decide +kernel
theorem dX11_readCard_57 : decode cX11_readCard 57 = .ok (.aload_n 0, 1) := by decide +kernel
theorem dX11_readCard_58 : decode cX11_readCard 58 = .ok (.invokevirtual 196, 3) := by decide +kernel
theorem dX11_readCard_61 : decode cX11_readCard 61 = .ok (.aload_n 0, 1) := by decide +kernel
theorem dX11_readCard_62 : decode cX11_readCard 62 = .ok (.ldc 235, 2) := by decide +kernel
theorem dX11_readCard_64 : decode cX11_readCard 64 = .ok (.invokevirtual 192, 3) := by decide +kernel
theorem dX11_readCard_67 : decode cX11_readCard 67 = .ok (.ifCond .eq 7, 3) := by decide +kernel
theorem dX11_readCard_70 : decode cX11_readCard 70 = .ok (.iconst 0, 1) := by decide +kernel
theorem dX11_readCard_71 : decode cX11_readCard 71 = .ok (.goto 30, 3) := by decide +kernel
theorem dX11_readCard_74 : decode cX11_readCard 74 = .ok (.aload_n 0, 1) := by decide +kernel
theorem dX11_readCard_75 : decode cX11_readCard 75 = .ok (.ldc 237, 2) := by decide +kernel
theorem dX11_readCard_77 : decode cX11_readCard 77 = .ok (.invokevirtual 192, 3) := by decide +kernel
theorem dX11_readCard_80 : decode cX11_readCard 80 = .ok (.ifCond .eq 7, 3) := by decide +kernel
theorem dX11_readCard_83 : decode cX11_readCard 83 = .ok (.iconst 1, 1) := by decide +kernel
theorem dX11_readCard_84 : decode cX11_readCard 84 = .ok (.goto 17, 3) := by decide +kernel
theorem dX11_readCard_87 : decode cX11_readCard 87 = .ok (.aload_n 0, 1) := by decide +kernel
theorem dX11_readCard_88 : decode cX11_readCard 88 = .ok (.ldc 239, 2) := by decide +kernel
theorem dX11_readCard_90 : decode cX11_readCard 90 = .ok (.invokevirtual 192, 3) := by decide +kernel
theorem dX11_readCard_93 : decode cX11_readCard 93 = .ok (.ifCond .eq 7, 3) := by decide +kernel
theorem dX11_readCard_96 : decode cX11_readCard 96 = .ok (.iconst 2, 1) := by decide +kernel
theorem dX11_readCard_97 : decode cX11_readCard 97 = .ok (.goto 4, 3) := by decide +kernel
theorem dX11_readCard_100 : decode cX11_readCard 100 = .ok (.iconst (-1), 1) := by decide +kernel
theorem dX11_readCard_101 : decode cX11_readCard 101 = .ok (.istore 4, 2) := by decide +kernel
theorem dX11_readCard_103 : decode cX11_readCard 103 = .ok (.iload 4, 2) := by decide +kernel
theorem dX11_readCard_105 : decode cX11_readCard 105 = .ok (.iconst (-1), 1) := by decide +kernel
theorem dX11_readCard_106 : decode cX11_readCard 106 = .ok (.if_icmp .ne 12, 3) := by decide +kernel
theorem dX11_readCard_109 : decode cX11_readCard 109 = .ok (.aload_n 0, 1) := by decide +kernel
theorem dX11_readCard_110 : decode cX11_readCard 110 = .ok (.iconst 1, 1) := by decide +kernel
theorem dX11_readCard_111 : decode cX11_readCard 111 = .ok (.aload_n 0, 1) := by decide +kernel
theorem dX11_readCard_112 : decode cX11_readCard 112 = .ok (.getfield 161, 3) := by decide +kernel
theorem dX11_readCard_115 : decode cX11_readCard 115 = .ok (.invokevirtual 202, 3) := by decide +kernel
theorem dX11_readCard_118 : decode cX11_readCard 118 = .ok (.aload_n 0, 1) := by decide +kernel
theorem dX11_readCard_119 : decode cX11_readCard 119 = .ok (.iload_n 3, 1) := by decide +kernel
theorem dX11_readCard_120 : decode cX11_readCard 120 = .ok (.iconst 3, 1) := by decide +kernel
theorem dX11_readCard_121 : decode cX11_readCard 121 = .ok (.if_icmp .ne 9, 3) := by decide +kernel
theorem dX11_readCard_124 : decode cX11_readCard 124 = .ok (.iload 4, 2) := by decide +kernel
theorem dX11_readCard_126 : decode cX11_readCard 126 = .ok (.iconst 2, 1) := by decide +kernel
theorem dX11_readCard_127 : decode cX11_readCard 127 = .ok (.if_icmp .ne 7, 3) := by decide +kernel
theorem dX11_readCard_130 : decode cX11_readCard 130 = .ok (.iconst 1, 1) := by decide +kernel
theorem dX11_readCard_131 : decode cX11_readCard 131 = .ok (.goto 4, 3) := by decide +kernel
theorem dX11_readCard_134 : decode cX11_readCard 134 = .ok (.iconst 0, 1) := by decide +kernel
theorem dX11_readCard_135 : decode cX11_readCard 135 = .ok (.invokevirtual 268, 3) := by decide +kernel
theorem dX11_readCard_138 : decode cX11_readCard 138 = .ok (.aload_n 0, 1) := by decide +kernel
theorem dX11_readCard_139 : decode cX11_readCard 139 = .ok (.invokevirtual 149, 3) := by decide +kernel
theorem dX11_readCard_142 : decode cX11_readCard 142 = .ok (.ifCond .eq 7, 3) := by decide +kernel
theorem dX11_readCard_145 : decode cX11_readCard 145 = .ok (.aload_n 0, 1) := by decide +kernel
theorem dX11_readCard_146 : decode cX11_readCard 146 = .ok (.invokevirtual 196, 3) := by decide +kernel
theorem dX11_readCard_149 : decode cX11_readCard 149 = .ok (.aload_n 0, 1) := by decide +kernel
theorem dX11_readCard_150 : decode cX11_readCard 150 = .ok (.invokevirtual 149, 3) := by decide +kernel
theorem dX11_readCard_153 : decode cX11_readCard 153 = .ok (.ifCond .eq 29, 3) := by decide +kernel
theorem dX11_readCard_156 : decode cX11_readCard 156 = .ok (.aload_n 0, 1) := by decide +kernel
theorem dX11_readCard_157 : decode cX11_readCard 157 = .ok (.getfield 164, 3) := by decide +kernel
theorem dX11_readCard_160 : decode cX11_readCard 160 = .ok (.iconst 3, 1) := by decide +kernel
theorem dX11_readCard_161 : decode cX11_readCard 161 = .ok (.if_icmp .ne 12, 3) := by decide +kernel
theorem dX11_readCard_164 : decode cX11_readCard 164 = .ok (.aload_n 0, 1) := by decide +kernel
theorem dX11_readCard_165 : decode cX11_readCard 165 = .ok (.getfield 175, 3) := by decide +kernel
theorem dX11_readCard_168 : decode cX11_readCard 168 = .ok (.bipush 59, 2) := by decide +kernel
theorem dX11_readCard_170 : decode cX11_readCard 170 = .ok (.if_icmp .eq 12, 3) := by decide +kernel
theorem dX11_readCard_173 : decode cX11_readCard 173 = .ok (.aload_n 0, 1) := by decide +kernel
theorem dX11_readCard_174 : decode cX11_readCard 174 = .ok (.iconst 1, 1) := by decide +kernel
theorem dX11_readCard_175 : decode cX11_readCard 175 = .ok (.aload_n 0, 1) := by decide +kernel
theorem dX11_readCard_176 : decode cX11_readCard 176 = .ok (.getfield 161, 3) := by decide +kernel
theorem dX11_readCard_179 : decode cX11_readCard 179 = .ok (.invokevirtual 202, 3) := by decide +kernel
theorem dX11_readCard_182 : decode cX11_readCard 182 = .ok (.aload_n 0, 1) := by decide +kernel
theorem dX11_readCard_183 : decode cX11_readCard 183 = .ok (.invokevirtual 149, 3) := by decide +kernel
theorem dX11_readCard_186 : decode cX11_readCard 186 = .ok (.ifCond .eq 11, 3) := by decide +kernel
theorem dX11_readCard_189 : decode cX11_readCard 189 = .ok (.aload_n 0, 1) := by decide +kernel
theorem dX11_readCard_190 : decode cX11_readCard 190 = .ok (.iload_n 1, 1) := by decide +kernel
theorem dX11_readCard_191 : decode cX11_readCard 191 = .ok (.iload_n 2, 1) := by decide +kernel
theorem dX11_readCard_192 : decode cX11_readCard 192 = .ok (.iload 4, 2) := by decide +kernel
theorem dX11_readCard_194 : decode cX11_readCard 194 = .ok (.invokevirtual 293, 3) := by decide +kernel
theorem dX11_readCard_197 : decode cX11_readCard 197 = .ok (.return_, 1) := by decide +kernel
def fX11_readCard (a0 : Nat) (M : xMem) : Option (xMem) :=
  xBv (fX11_passes a0 9 M) fun M1 => xBn (fX11_teamRead a0 M1) fun r2 M3 => xBn (fX11_oneHere a0 r2 M3) fun r4 M5 => xBn (fX11_isOf a0 r2 r4 M5) fun r6 M7 => xBn (fX11_isOver a0 M7) fun r8 M9 => xLt (fun (s10 : Int32) (M11 : xMem) => (xBv (fX11_can a0 s10 M11) fun M12 => xBn (fX11_good a0 M12) fun r13 M14 => xLt (fun  (M15 : xMem) => (xBn (fX11_isWord a0 21 M15) fun r16 M17 => xLt (fun (s18 : Int32) (M19 : xMem) => (xLt (fun  (M20 : xMem) => (xLt (fun (s21 : Int32) (M22 : xMem) => (xBv (fX11_can a0 s21 M22) fun M23 => xBn (fX11_good a0 M23) fun r24 M25 => xLt (fun  (M26 : xMem) => (xBn (fX11_good a0 M26) fun r27 M28 => xLt (fun  (M29 : xMem) => (xBn (fX11_good a0 M29) fun r30 M31 => if r30 = 0 then (some M31) else (xBv (fX11_cards a0 r2 r4 s18 M31) fun M32 => some M32) : Option (xMem))) fun J182 => if r27 = 0 then (J182  M28) else (xLt (fun  (M33 : xMem) => (xBv (fX11_errs a0 (nI 1) (M33.1 a0 14) M33) fun M34 => J182  M34 : Option (xMem))) fun J173 => if (M28.1 a0 15) = (nI 3) then (if (M28.1 a0 16) = (nI 59) then (J182  M28) else (J173  M28)) else (J173  M28)) : Option (xMem))) fun J149 => if r24 = 0 then (J149  M25) else (xBv (fX11_advance a0 M25) fun M35 => J149  M35) : Option (xMem))) fun J135 => xLt (fun  (M36 : xMem) => (J135 (nI 1) M36 : Option (xMem))) fun J130 => if r6 = (nI 3) then (if s18 = (nI 2) then (J130  M20) else (J135 (nI 0) M20)) else (J130  M20) : Option (xMem))) fun J118 => if s18 = (-1) then (xBv (fX11_errs a0 (nI 1) (M19.1 a0 14) M19) fun M37 => J118  M37) else (J118  M19) : Option (xMem))) fun J101 => if r16 = 0 then (xBn (fX11_isWord a0 22 M17) fun r38 M39 => if r38 = 0 then (xBn (fX11_isWord a0 23 M39) fun r40 M41 => if r40 = 0 then (J101 (-1) M41) else (J101 (nI 2) M41)) else (J101 (nI 1) M39)) else (J101 (nI 0) M17) : Option (xMem))) fun J61 => if r13 = 0 then (J61  M14) else (xBv (fX11_advance a0 M14) fun M42 => J61  M42) : Option (xMem))) fun J47 => xLt (fun  (M43 : xMem) => (J47 (nI 0) M43 : Option (xMem))) fun J46 => if r8 = 0 then (if r6 = (nI 2) then (J46  M9) else (if r6 = (nI 4) then (J46  M9) else (J47 (nI 1) M9))) else (J46  M9)
set_option maxRecDepth 100000 in
set_option maxHeartbeats 4000000 in
theorem zX11_readCard (G : xGX) (a0 : Nat) (h0 : xkd a0 = 11) (M : xMem) (M' : xMem) (h : fX11_readCard a0 M = some M') : xCt G yX11_readCard cX11_readCard 5 none 10 [vr G a0] M (none, M') := by
  refine xMet (lv := [some (vr G a0), none, none, none, none]) (by decide) (Nat.le_of_ble_eq_true rfl) rfl ?_
  intro X hG hnL C R0
  subst hG
  have C : xCk X cX11_readCard RX11 10 := C
  have hn1 : 1 < X.2.2.2.2.2.2.2.2.2.2.2.2.2 := by rw [hnL]; decide
  have hn2 : 2 < X.2.2.2.2.2.2.2.2.2.2.2.2.2 := by rw [hnL]; decide
  have hn3 : 3 < X.2.2.2.2.2.2.2.2.2.2.2.2.2 := by rw [hnL]; decide
  have hn4 : 4 < X.2.2.2.2.2.2.2.2.2.2.2.2.2 := by rw [hnL]; decide
  unfold fX11_readCard at h
  refine r_aload_n (pc := 0) C dX11_readCard_0 rfl rfl ?_
  refine r_ldcS (pc := 1) (i := 9) C (by decide) rfl dX11_readCard_1 ?_
  refine r_vV1 (pc := 3) C (fun M' e => zX11_passes X.1 a0 h0 9 (by decide) M M' e) h0 (by decide) rfl mX11_passes lX11_258 (by decide) (Nat.le_of_ble_eq_true rfl) dX11_readCard_3 h (fun M1 h => ?_)
  refine r_aload_n (pc := 6) C dX11_readCard_6 rfl rfl ?_
  refine r_vI0 (pc := 7) C (fun r M' e => zX11_teamRead X.1 a0 h0 M1 r M' e) h0 (by decide) rfl mX11_teamRead lX11_290 (by decide) (Nat.le_of_ble_eq_true rfl) dX11_readCard_7 h (fun r2 M3 h => ?_)
  refine r_istore_n (pc := 10) (lv' := [_, _, _, _, _]) C dX11_readCard_10 rfl hn1 rfl ?_
  refine r_aload_n (pc := 11) C dX11_readCard_11 rfl rfl ?_
  refine r_iload_n (pc := 12) C dX11_readCard_12 rfl rfl ?_
  refine r_vI1 (pc := 13) C (fun r M' e => zX11_oneHere X.1 a0 h0 r2 M3 r M' e) h0 (by decide) rfl mX11_oneHere lX11_272 (by decide) (Nat.le_of_ble_eq_true rfl) dX11_readCard_13 h (fun r4 M5 h => ?_)
  refine r_istore_n (pc := 16) (lv' := [_, _, _, _, _]) C dX11_readCard_16 rfl hn2 rfl ?_
  refine r_aload_n (pc := 17) C dX11_readCard_17 rfl rfl ?_
  refine r_iload_n (pc := 18) C dX11_readCard_18 rfl rfl ?_
  refine r_iload_n (pc := 19) C dX11_readCard_19 rfl rfl ?_
  refine r_vI2 (pc := 20) C (fun r M' e => zX11_isOf X.1 a0 h0 r2 r4 M5 r M' e) h0 (by decide) rfl mX11_isOf lX11_62 (by decide) (Nat.le_of_ble_eq_true rfl) dX11_readCard_20 h (fun r6 M7 h => ?_)
  refine r_istore_n (pc := 23) (lv' := [_, _, _, _, _]) C dX11_readCard_23 rfl hn3 rfl ?_
  refine r_aload_n (pc := 24) C dX11_readCard_24 rfl rfl ?_
  refine r_aload_n (pc := 25) C dX11_readCard_25 rfl rfl ?_
  refine r_vI0 (pc := 26) C (fun r M' e => zX11_isOver X.1 a0 h0 M7 r M' e) h0 (by decide) rfl mX11_isOver lX11_134 (by decide) (Nat.le_of_ble_eq_true rfl) dX11_readCard_26 h (fun r8 M9 h => ?_)
  refine r_jn (fun J => ∀ (s10 : Int32) (M11 : xMem) , J s10 M11 = some M' → WW X 47 [some (vr X.1 a0), some (.int r2), some (.int r4), some (.int r6), none] [.int s10, vr X.1 a0] M11) h (fun s10 M11  h => ?_) (fun J47 hJ47 h => ?_)
  · refine r_vV1 (pc := 47) C (fun M' e => zX11_can X.1 a0 h0 s10 M11 M' e) h0 (by decide) rfl mX11_can lX11_268 (by decide) (Nat.le_of_ble_eq_true rfl) dX11_readCard_47 h (fun M12 h => ?_)
    refine r_aload_n (pc := 50) C dX11_readCard_50 rfl rfl ?_
    refine r_vI0 (pc := 51) C (fun r M' e => zX11_good X.1 a0 h0 M12 r M' e) h0 (by decide) rfl mX11_good lX11_149 (by decide) (Nat.le_of_ble_eq_true rfl) dX11_readCard_51 h (fun r13 M14 h => ?_)
    refine r_jn (fun J => ∀  (M15 : xMem) , J  M15 = some M' → WW X 61 [some (vr X.1 a0), some (.int r2), some (.int r4), some (.int r6), none] [] M15) h (fun  M15  h => ?_) (fun J61 hJ61 h => ?_)
    · refine r_aload_n (pc := 61) C dX11_readCard_61 rfl rfl ?_
      refine r_ldcS (pc := 62) (i := 21) C (by decide) rfl dX11_readCard_62 ?_
      refine r_vI1 (pc := 64) C (fun r M' e => zX11_isWord X.1 a0 h0 21 (by decide) M15 r M' e) h0 (by decide) rfl mX11_isWord lX11_192 (by decide) (Nat.le_of_ble_eq_true rfl) dX11_readCard_64 h (fun r16 M17 h => ?_)
      refine r_jn (fun J => ∀ (s18 : Int32) (M19 : xMem) , J s18 M19 = some M' → WW X 101 [some (vr X.1 a0), some (.int r2), some (.int r4), some (.int r6), none] [.int s18] M19) h (fun s18 M19  h => ?_) (fun J101 hJ101 h => ?_)
      · refine r_istore (pc := 101) (lv' := [_, _, _, _, _]) C dX11_readCard_101 hn4 rfl ?_
        refine r_iload (pc := 103) C dX11_readCard_103 rfl ?_
        refine r_iconst (pc := 105) (v := (-1)) C dX11_readCard_105 (by decide) ?_
        refine r_jn (fun J => ∀  (M20 : xMem) , J  M20 = some M' → WW X 118 [some (vr X.1 a0), some (.int r2), some (.int r4), some (.int r6), some (.int s18)] [] M20) h (fun  M20  h => ?_) (fun J118 hJ118 h => ?_)
        · refine r_aload_n (pc := 118) C dX11_readCard_118 rfl rfl ?_
          refine r_iload_n (pc := 119) C dX11_readCard_119 rfl rfl ?_
          refine r_iconst (pc := 120) (v := (nI 3)) C dX11_readCard_120 (by decide) ?_
          refine r_jn (fun J => ∀ (s21 : Int32) (M22 : xMem) , J s21 M22 = some M' → WW X 135 [some (vr X.1 a0), some (.int r2), some (.int r4), some (.int r6), some (.int s18)] [.int s21, vr X.1 a0] M22) h (fun s21 M22  h => ?_) (fun J135 hJ135 h => ?_)
          · refine r_vV1 (pc := 135) C (fun M' e => zX11_can X.1 a0 h0 s21 M22 M' e) h0 (by decide) rfl mX11_can lX11_268 (by decide) (Nat.le_of_ble_eq_true rfl) dX11_readCard_135 h (fun M23 h => ?_)
            refine r_aload_n (pc := 138) C dX11_readCard_138 rfl rfl ?_
            refine r_vI0 (pc := 139) C (fun r M' e => zX11_good X.1 a0 h0 M23 r M' e) h0 (by decide) rfl mX11_good lX11_149 (by decide) (Nat.le_of_ble_eq_true rfl) dX11_readCard_139 h (fun r24 M25 h => ?_)
            refine r_jn (fun J => ∀  (M26 : xMem) , J  M26 = some M' → WW X 149 [some (vr X.1 a0), some (.int r2), some (.int r4), some (.int r6), some (.int s18)] [] M26) h (fun  M26  h => ?_) (fun J149 hJ149 h => ?_)
            · refine r_aload_n (pc := 149) C dX11_readCard_149 rfl rfl ?_
              refine r_vI0 (pc := 150) C (fun r M' e => zX11_good X.1 a0 h0 M26 r M' e) h0 (by decide) rfl mX11_good lX11_149 (by decide) (Nat.le_of_ble_eq_true rfl) dX11_readCard_150 h (fun r27 M28 h => ?_)
              refine r_jn (fun J => ∀  (M29 : xMem) , J  M29 = some M' → WW X 182 [some (vr X.1 a0), some (.int r2), some (.int r4), some (.int r6), some (.int s18)] [] M29) h (fun  M29  h => ?_) (fun J182 hJ182 h => ?_)
              · refine r_aload_n (pc := 182) C dX11_readCard_182 rfl rfl ?_
                refine r_vI0 (pc := 183) C (fun r M' e => zX11_good X.1 a0 h0 M29 r M' e) h0 (by decide) rfl mX11_good lX11_149 (by decide) (Nat.le_of_ble_eq_true rfl) dX11_readCard_183 h (fun r30 M31 h => ?_)
                refine r_if_eq (pc := 186) (tgt := 197) C dX11_readCard_186 (by decide) h (fun _ h => ?_) (fun _ h => ?_)
                · exact r_vret (pc := 197) C R0 h dX11_readCard_197
                · refine r_aload_n (pc := 189) C dX11_readCard_189 rfl rfl ?_
                  refine r_iload_n (pc := 190) C dX11_readCard_190 rfl rfl ?_
                  refine r_iload_n (pc := 191) C dX11_readCard_191 rfl rfl ?_
                  refine r_iload (pc := 192) C dX11_readCard_192 rfl ?_
                  refine r_vV3 (pc := 194) C (fun M' e => zX11_cards X.1 a0 h0 r2 r4 s18 M31 M' e) h0 (by decide) rfl mX11_cards lX11_293 (by decide) (Nat.le_of_ble_eq_true rfl) dX11_readCard_194 h (fun M32 h => ?_)
                  exact r_vret (pc := 197) C R0 h dX11_readCard_197
              refine r_if_eq (pc := 153) (tgt := 182) C dX11_readCard_153 (by decide) h (fun _ h => ?_) (fun _ h => ?_)
              · exact hJ182  M28  h
              · refine r_aload_n (pc := 156) C dX11_readCard_156 rfl rfl ?_
                refine r_getI (pc := 157) C kX11_164 h0 dX11_readCard_157 ?_
                refine r_iconst (pc := 160) (v := (nI 3)) C dX11_readCard_160 (by decide) ?_
                refine r_jn (fun J => ∀  (M33 : xMem) , J  M33 = some M' → WW X 173 [some (vr X.1 a0), some (.int r2), some (.int r4), some (.int r6), some (.int s18)] [] M33) h (fun  M33  h => ?_) (fun J173 hJ173 h => ?_)
                · refine r_aload_n (pc := 173) C dX11_readCard_173 rfl rfl ?_
                  refine r_iconst (pc := 174) (v := (nI 1)) C dX11_readCard_174 (by decide) ?_
                  refine r_aload_n (pc := 175) C dX11_readCard_175 rfl rfl ?_
                  refine r_getI (pc := 176) C kX11_161 h0 dX11_readCard_176 ?_
                  refine r_vV2 (pc := 179) C (fun M' e => zX11_errs X.1 a0 h0 (nI 1) (M33.1 a0 14) M33 M' e) h0 (by decide) rfl mX11_errs lX11_202 (by decide) (Nat.le_of_ble_eq_true rfl) dX11_readCard_179 h (fun M34 h => ?_)
                  exact hJ182  M34  h
                refine r_icmp_ne (pc := 161) (tgt := 173) C dX11_readCard_161 (by decide) h (fun _ h => ?_) (fun _ h => ?_)
                · exact hJ173  M28  h
                · refine r_aload_n (pc := 164) C dX11_readCard_164 rfl rfl ?_
                  refine r_getI (pc := 165) C kX11_175 h0 dX11_readCard_165 ?_
                  refine r_bipush (pc := 168) (v := (nI 59)) C dX11_readCard_168 (by decide) ?_
                  refine r_icmp_eq (pc := 170) (tgt := 182) C dX11_readCard_170 (by decide) h (fun _ h => ?_) (fun _ h => ?_)
                  · exact hJ182  M28  h
                  · exact hJ173  M28  h
            refine r_if_eq (pc := 142) (tgt := 149) C dX11_readCard_142 (by decide) h (fun _ h => ?_) (fun _ h => ?_)
            · exact hJ149  M25  h
            · refine r_aload_n (pc := 145) C dX11_readCard_145 rfl rfl ?_
              refine r_vV0 (pc := 146) C (fun M' e => zX11_advance X.1 a0 h0 M25 M' e) h0 (by decide) rfl mX11_advance lX11_196 (by decide) (Nat.le_of_ble_eq_true rfl) dX11_readCard_146 h (fun M35 h => ?_)
              exact hJ149  M35  h
          refine r_jn (fun J => ∀  (M36 : xMem) , J  M36 = some M' → WW X 130 [some (vr X.1 a0), some (.int r2), some (.int r4), some (.int r6), some (.int s18)] [vr X.1 a0] M36) h (fun  M36  h => ?_) (fun J130 hJ130 h => ?_)
          · refine r_iconst (pc := 130) (v := (nI 1)) C dX11_readCard_130 (by decide) ?_
            refine r_goto (pc := 131) (tgt := 135) C dX11_readCard_131 (by decide) ?_
            exact hJ135 (nI 1) M36  h
          refine r_icmp_ne (pc := 121) (tgt := 130) C dX11_readCard_121 (by decide) h (fun _ h => ?_) (fun _ h => ?_)
          · exact hJ130  M20  h
          · refine r_iload (pc := 124) C dX11_readCard_124 rfl ?_
            refine r_iconst (pc := 126) (v := (nI 2)) C dX11_readCard_126 (by decide) ?_
            refine r_icmp_ne (pc := 127) (tgt := 134) C dX11_readCard_127 (by decide) h (fun _ h => ?_) (fun _ h => ?_)
            · refine r_iconst (pc := 134) (v := (nI 0)) C dX11_readCard_134 (by decide) ?_
              exact hJ135 (nI 0) M20  h
            · exact hJ130  M20  h
        refine r_icmp_ne (pc := 106) (tgt := 118) C dX11_readCard_106 (by decide) h (fun _ h => ?_) (fun _ h => ?_)
        · exact hJ118  M19  h
        · refine r_aload_n (pc := 109) C dX11_readCard_109 rfl rfl ?_
          refine r_iconst (pc := 110) (v := (nI 1)) C dX11_readCard_110 (by decide) ?_
          refine r_aload_n (pc := 111) C dX11_readCard_111 rfl rfl ?_
          refine r_getI (pc := 112) C kX11_161 h0 dX11_readCard_112 ?_
          refine r_vV2 (pc := 115) C (fun M' e => zX11_errs X.1 a0 h0 (nI 1) (M19.1 a0 14) M19 M' e) h0 (by decide) rfl mX11_errs lX11_202 (by decide) (Nat.le_of_ble_eq_true rfl) dX11_readCard_115 h (fun M37 h => ?_)
          exact hJ118  M37  h
      refine r_if_eq (pc := 67) (tgt := 74) C dX11_readCard_67 (by decide) h (fun _ h => ?_) (fun _ h => ?_)
      · refine r_aload_n (pc := 74) C dX11_readCard_74 rfl rfl ?_
        refine r_ldcS (pc := 75) (i := 22) C (by decide) rfl dX11_readCard_75 ?_
        refine r_vI1 (pc := 77) C (fun r M' e => zX11_isWord X.1 a0 h0 22 (by decide) M17 r M' e) h0 (by decide) rfl mX11_isWord lX11_192 (by decide) (Nat.le_of_ble_eq_true rfl) dX11_readCard_77 h (fun r38 M39 h => ?_)
        refine r_if_eq (pc := 80) (tgt := 87) C dX11_readCard_80 (by decide) h (fun _ h => ?_) (fun _ h => ?_)
        · refine r_aload_n (pc := 87) C dX11_readCard_87 rfl rfl ?_
          refine r_ldcS (pc := 88) (i := 23) C (by decide) rfl dX11_readCard_88 ?_
          refine r_vI1 (pc := 90) C (fun r M' e => zX11_isWord X.1 a0 h0 23 (by decide) M39 r M' e) h0 (by decide) rfl mX11_isWord lX11_192 (by decide) (Nat.le_of_ble_eq_true rfl) dX11_readCard_90 h (fun r40 M41 h => ?_)
          refine r_if_eq (pc := 93) (tgt := 100) C dX11_readCard_93 (by decide) h (fun _ h => ?_) (fun _ h => ?_)
          · refine r_iconst (pc := 100) (v := (-1)) C dX11_readCard_100 (by decide) ?_
            exact hJ101 (-1) M41  h
          · refine r_iconst (pc := 96) (v := (nI 2)) C dX11_readCard_96 (by decide) ?_
            refine r_goto (pc := 97) (tgt := 101) C dX11_readCard_97 (by decide) ?_
            exact hJ101 (nI 2) M41  h
        · refine r_iconst (pc := 83) (v := (nI 1)) C dX11_readCard_83 (by decide) ?_
          refine r_goto (pc := 84) (tgt := 101) C dX11_readCard_84 (by decide) ?_
          exact hJ101 (nI 1) M39  h
      · refine r_iconst (pc := 70) (v := (nI 0)) C dX11_readCard_70 (by decide) ?_
        refine r_goto (pc := 71) (tgt := 101) C dX11_readCard_71 (by decide) ?_
        exact hJ101 (nI 0) M17  h
    refine r_if_eq (pc := 54) (tgt := 61) C dX11_readCard_54 (by decide) h (fun _ h => ?_) (fun _ h => ?_)
    · exact hJ61  M14  h
    · refine r_aload_n (pc := 57) C dX11_readCard_57 rfl rfl ?_
      refine r_vV0 (pc := 58) C (fun M' e => zX11_advance X.1 a0 h0 M14 M' e) h0 (by decide) rfl mX11_advance lX11_196 (by decide) (Nat.le_of_ble_eq_true rfl) dX11_readCard_58 h (fun M42 h => ?_)
      exact hJ61  M42  h
  refine r_jn (fun J => ∀  (M43 : xMem) , J  M43 = some M' → WW X 46 [some (vr X.1 a0), some (.int r2), some (.int r4), some (.int r6), none] [vr X.1 a0] M43) h (fun  M43  h => ?_) (fun J46 hJ46 h => ?_)
  · refine r_iconst (pc := 46) (v := (nI 0)) C dX11_readCard_46 (by decide) ?_
    exact hJ47 (nI 0) M43  h
  refine r_if_ne (pc := 29) (tgt := 46) C dX11_readCard_29 (by decide) h (fun _ h => ?_) (fun _ h => ?_)
  · exact hJ46  M9  h
  · refine r_iload_n (pc := 32) C dX11_readCard_32 rfl rfl ?_
    refine r_iconst (pc := 33) (v := (nI 2)) C dX11_readCard_33 (by decide) ?_
    refine r_icmp_eq (pc := 34) (tgt := 46) C dX11_readCard_34 (by decide) h (fun _ h => ?_) (fun _ h => ?_)
    · exact hJ46  M9  h
    · refine r_iload_n (pc := 37) C dX11_readCard_37 rfl rfl ?_
      refine r_iconst (pc := 38) (v := (nI 4)) C dX11_readCard_38 (by decide) ?_
      refine r_icmp_eq (pc := 39) (tgt := 46) C dX11_readCard_39 (by decide) h (fun _ h => ?_) (fun _ h => ?_)
      · exact hJ46  M9  h
      · refine r_iconst (pc := 42) (v := (nI 1)) C dX11_readCard_42 (by decide) ?_
        refine r_goto (pc := 43) (tgt := 47) C dX11_readCard_43 (by decide) ?_
        exact hJ47 (nI 1) M9  h
theorem dX11_readChange_0 : decode cX11_readChange 0 = .ok (.aload_n 0, 1) := by decide +kernel
theorem dX11_readChange_1 : decode cX11_readChange 1 = .ok (.ldc 214, 2) := by decide +kernel
theorem dX11_readChange_3 : decode cX11_readChange 3 = .ok (.invokevirtual 258, 3) := by decide +kernel
theorem dX11_readChange_6 : decode cX11_readChange 6 = .ok (.aload_n 0, 1) := by decide +kernel
theorem dX11_readChange_7 : decode cX11_readChange 7 = .ok (.invokevirtual 290, 3) := by decide +kernel
theorem dX11_readChange_10 : decode cX11_readChange 10 = .ok (.istore_n 1, 1) := by decide +kernel
theorem dX11_readChange_11 : decode cX11_readChange 11 = .ok (.aload_n 0, 1) := by decide +kernel
theorem dX11_readChange_12 : decode cX11_readChange 12 = .ok (.iload_n 1, 1) := by decide +kernel
theorem dX11_readChange_13 : decode cX11_readChange 13 = .ok (.invokevirtual 272, 3) := by decide +kernel
theorem dX11_readChange_16 : decode cX11_readChange 16 = .ok (.istore_n 2, 1) := by decide +kernel
theorem dX11_readChange_17 : decode cX11_readChange 17 = .ok (.aload_n 0, 1) := by decide +kernel
theorem dX11_readChange_18 : decode cX11_readChange 18 = .ok (.aload_n 0, 1) := by decide +kernel
theorem dX11_readChange_19 : decode cX11_readChange 19 = .ok (.invokevirtual 134, 3) := by decide +kernel
theorem dX11_readChange_22 : decode cX11_readChange 22 = .ok (.ifCond .ne 32, 3) := by decide +kernel
theorem dX11_readChange_25 : decode cX11_readChange 25 = .ok (.aload_n 0, 1) := by decide +kernel
theorem dX11_readChange_26 : decode cX11_readChange 26 = .ok (.iload_n 1, 1) := by decide +kernel
theorem dX11_readChange_27 : decode cX11_readChange 27 = .ok (.iload_n 2, 1) := by decide +kernel
theorem dX11_readChange_28 : decode cX11_readChange 28 = .ok (.invokevirtual 62, 3) := by decide +kernel
theorem dX11_readChange_31 : decode cX11_readChange 31 = .ok (.ifCond .ne 23, 3) := by decide +kernel
theorem dX11_readChange_34 : decode cX11_readChange 34 = .ok (.aload_n 0, 1) := by decide +kernel
theorem dX11_readChange_35 : decode cX11_readChange 35 = .ok (.getfield 16, 3) := by decide +kernel
theorem dX11_readChange_38 : decode cX11_readChange 38 = .ok (.bipush 32, 2) := by decide +kernel
theorem dX11_readChange_40 : decode cX11_readChange 40 = .ok (.iload_n 1, 1) := by decide +kernel
theorem dX11_readChange_41 : decode cX11_readChange 41 = .ok (.iadd, 1) := by decide +kernel
theorem dX11_readChange_42 : decode cX11_readChange 42 = .ok (.laload, 1) := by decide +kernel
theorem dX11_readChange_43 : decode cX11_readChange 43 = .ok (.ldc2_w 296, 3) := by decide +kernel
theorem dX11_readChange_46 : decode cX11_readChange 46 = .ok (.lcmp, 1) := by decide +kernel
theorem dX11_readChange_47 : decode cX11_readChange 47 = .ok (.ifCond .ge 7, 3) := by decide +kernel
theorem dX11_readChange_50 : decode cX11_readChange 50 = .ok (.iconst 1, 1) := by decide +kernel
theorem dX11_readChange_51 : decode cX11_readChange 51 = .ok (.goto 4, 3) := by decide +kernel
theorem dX11_readChange_54 : decode cX11_readChange 54 = .ok (.iconst 0, 1) := by decide +kernel
theorem dX11_readChange_55 : decode cX11_readChange 55 = .ok (.invokevirtual 268, 3) := by decide +kernel
theorem dX11_readChange_58 : decode cX11_readChange 58 = .ok (.aload_n 0, 1) := by decide +kernel
theorem dX11_readChange_59 : decode cX11_readChange 59 = .ok (.invokevirtual 149, 3) := by decide +kernel
theorem dX11_readChange_62 : decode cX11_readChange 62 = .ok (.ifCond .eq 7, 3) := by decide +kernel
theorem dX11_readChange_65 : decode cX11_readChange 65 = .ok (.aload_n 0, 1) := by decide +kernel
theorem dX11_readChange_66 : decode cX11_readChange 66 = .ok (.invokevirtual 196, 3) := by decide +kernel
theorem dX11_readChange_69 : decode cX11_readChange 69 = .ok (.aload_n 0, 1) := by decide +kernel
theorem dX11_readChange_70 : decode cX11_readChange 70 = .ok (.ldc 220, 2) := by decide +kernel
theorem dX11_readChange_72 : decode cX11_readChange 72 = .ok (.invokevirtual 258, 3) := by decide +kernel
theorem dX11_readChange_75 : decode cX11_readChange 75 = .ok (.aload_n 0, 1) := by decide +kernel
theorem dX11_readChange_76 : decode cX11_readChange 76 = .ok (.iload_n 1, 1) := by decide +kernel
theorem dX11_readChange_77 : decode cX11_readChange 77 = .ok (.invokevirtual 272, 3) := by decide +kernel
theorem dX11_readChange_80 : decode cX11_readChange 80 = .ok (.istore_n 3, 1) := by decide +kernel
theorem dX11_readChange_81 : decode cX11_readChange 81 = .ok (.aload_n 0, 1) := by decide +kernel
theorem dX11_readChange_82 : decode cX11_readChange 82 = .ok (.aload_n 0, 1) := by decide +kernel
theorem dX11_readChange_83 : decode cX11_readChange 83 = .ok (.iload_n 1, 1) := by decide +kernel
theorem dX11_readChange_84 : decode cX11_readChange 84 = .ok (.iload_n 3, 1) := by decide +kernel
theorem dX11_readChange_85 : decode cX11_readChange 85 = .ok (.invokevirtual 62, 3) := by decide +kernel
theorem dX11_readChange_88 : decode cX11_readChange 88 = .ok (.iconst 2, 1) := by decide +kernel
theorem dX11_readChange_89 : decode cX11_readChange 89 = .ok (.if_icmp .ne 7, 3) := by decide +kernel
theorem dX11_readChange_92 : decode cX11_readChange 92 = .ok (.iconst 1, 1) := by decide +kernel
theorem dX11_readChange_93 : decode cX11_readChange 93 = .ok (.goto 4, 3) := by decide +kernel
theorem dX11_readChange_96 : decode cX11_readChange 96 = .ok (.iconst 0, 1) := by decide +kernel
theorem dX11_readChange_97 : decode cX11_readChange 97 = .ok (.invokevirtual 268, 3) := by decide +kernel
theorem dX11_readChange_100 : decode cX11_readChange 100 = .ok (.aload_n 0, 1) := by decide +kernel
theorem dX11_readChange_101 : decode cX11_readChange 101 = .ok (.invokevirtual 149, 3) := by decide +kernel
theorem dX11_readChange_104 : decode cX11_readChange 104 = .ok (.ifCond .eq 7, 3) := by decide +kernel
theorem dX11_readChange_107 : decode cX11_readChange 107 = .ok (.aload_n 0, 1) := by decide +kernel
theorem dX11_readChange_108 : decode cX11_readChange 108 = .ok (.invokevirtual 196, 3) := by decide +kernel
theorem dX11_readChange_111 : decode cX11_readChange 111 = .ok (.aload_n 0, 1) := by decide +kernel
theorem dX11_readChange_112 : decode cX11_readChange 112 = .ok (.invokevirtual 149, 3) := by decide +kernel
theorem dX11_readChange_115 : decode cX11_readChange 115 = .ok (.ifCond .eq 29, 3) := by decide +kernel
theorem dX11_readChange_118 : decode cX11_readChange 118 = .ok (.aload_n 0, 1) := by decide +kernel
theorem dX11_readChange_119 : decode cX11_readChange 119 = .ok (.getfield 164, 3) := by decide +kernel
theorem dX11_readChange_122 : decode cX11_readChange 122 = .ok (.iconst 3, 1) := by decide +kernel
theorem dX11_readChange_123 : decode cX11_readChange 123 = .ok (.if_icmp .ne 12, 3) := by decide +kernel
theorem dX11_readChange_126 : decode cX11_readChange 126 = .ok (.aload_n 0, 1) := by decide +kernel
theorem dX11_readChange_127 : decode cX11_readChange 127 = .ok (.getfield 175, 3) := by decide +kernel
theorem dX11_readChange_130 : decode cX11_readChange 130 = .ok (.bipush 59, 2) := by decide +kernel
theorem dX11_readChange_132 : decode cX11_readChange 132 = .ok (.if_icmp .eq 12, 3) := by decide +kernel
theorem dX11_readChange_135 : decode cX11_readChange 135 = .ok (.aload_n 0, 1) := by decide +kernel
theorem dX11_readChange_136 : decode cX11_readChange 136 = .ok (.iconst 1, 1) := by decide +kernel
theorem dX11_readChange_137 : decode cX11_readChange 137 = .ok (.aload_n 0, 1) := by decide +kernel
theorem dX11_readChange_138 : decode cX11_readChange 138 = .ok (.getfield 161, 3) := by decide +kernel
theorem dX11_readChange_141 : decode cX11_readChange 141 = .ok (.invokevirtual 202, 3) := by decide +kernel
theorem dX11_readChange_144 : decode cX11_readChange 144 = .ok (.aload_n 0, 1) := by decide +kernel
theorem dX11_readChange_145 : decode cX11_readChange 145 = .ok (.invokevirtual 149, 3) := by decide +kernel
theorem dX11_readChange_148 : decode cX11_readChange 148 = .ok (.ifCond .eq 10, 3) := by decide +kernel
theorem dX11_readChange_151 : decode cX11_readChange 151 = .ok (.aload_n 0, 1) := by decide +kernel
theorem dX11_readChange_152 : decode cX11_readChange 152 = .ok (.iload_n 1, 1) := by decide +kernel
theorem dX11_readChange_153 : decode cX11_readChange 153 = .ok (.iload_n 2, 1) := by decide +kernel
theorem dX11_readChange_154 : decode cX11_readChange 154 = .ok (.iload_n 3, 1) := by decide +kernel
theorem dX11_readChange_155 : decode cX11_readChange 155 = .ok (.invokevirtual 298, 3) := by decide +kernel
theorem dX11_readChange_158 : decode cX11_readChange 158 = .ok (.return_, 1) := by decide +kernel
def fX11_readChange (a0 : Nat) (M : xMem) : Option (xMem) :=
  xBv (fX11_passes a0 10 M) fun M1 => xBn (fX11_teamRead a0 M1) fun r2 M3 => xBn (fX11_oneHere a0 r2 M3) fun r4 M5 => xBn (fX11_isOver a0 M5) fun r6 M7 => xLt (fun (s8 : Int32) (M9 : xMem) => (xBv (fX11_can a0 s8 M9) fun M10 => xBn (fX11_good a0 M10) fun r11 M12 => xLt (fun  (M13 : xMem) => (xBv (fX11_passes a0 13 M13) fun M14 => xBn (fX11_oneHere a0 r2 M14) fun r15 M16 => xBn (fX11_isOf a0 r2 r15 M16) fun r17 M18 => xLt (fun (s19 : Int32) (M20 : xMem) => (xBv (fX11_can a0 s19 M20) fun M21 => xBn (fX11_good a0 M21) fun r22 M23 => xLt (fun  (M24 : xMem) => (xBn (fX11_good a0 M24) fun r25 M26 => xLt (fun  (M27 : xMem) => (xBn (fX11_good a0 M27) fun r28 M29 => if r28 = 0 then (some M29) else (xBv (fX11_changesOver a0 r2 r4 r15 M29) fun M30 => some M30) : Option (xMem))) fun J144 => if r25 = 0 then (J144  M26) else (xLt (fun  (M31 : xMem) => (xBv (fX11_errs a0 (nI 1) (M31.1 a0 14) M31) fun M32 => J144  M32 : Option (xMem))) fun J135 => if (M26.1 a0 15) = (nI 3) then (if (M26.1 a0 16) = (nI 59) then (J144  M26) else (J135  M26)) else (J135  M26)) : Option (xMem))) fun J111 => if r22 = 0 then (J111  M23) else (xBv (fX11_advance a0 M23) fun M33 => J111  M33) : Option (xMem))) fun J97 => if r17 = (nI 2) then (J97 (nI 1) M18) else (J97 (nI 0) M18) : Option (xMem))) fun J69 => if r11 = 0 then (J69  M12) else (xBv (fX11_advance a0 M12) fun M34 => J69  M34) : Option (xMem))) fun J55 => xLt (fun  (M35 : xMem) => (J55 (nI 0) M35 : Option (xMem))) fun J54 => if r6 = 0 then (xBn (fX11_isOf a0 r2 r4 M7) fun r36 M37 => if r36 = 0 then (xGb ((nI 32) + r2) (xln (xnw M37)) (if 0 ≤ (lg_cmp (M37.2.1 (xnw M37) (Int32.toNatClampNeg ((nI 32) + r2))) (lN 5)) then (J54  M37) else (J55 (nI 1) M37))) else (J54  M37)) else (J54  M7)
set_option maxRecDepth 100000 in
set_option maxHeartbeats 4000000 in
theorem zX11_readChange (G : xGX) (a0 : Nat) (h0 : xkd a0 = 11) (M : xMem) (M' : xMem) (h : fX11_readChange a0 M = some M') : xCt G yX11_readChange cX11_readChange 4 none 10 [vr G a0] M (none, M') := by
  refine xMet (lv := [some (vr G a0), none, none, none]) (by decide) (Nat.le_of_ble_eq_true rfl) rfl ?_
  intro X hG hnL C R0
  subst hG
  have C : xCk X cX11_readChange RX11 10 := C
  have hn1 : 1 < X.2.2.2.2.2.2.2.2.2.2.2.2.2 := by rw [hnL]; decide
  have hn2 : 2 < X.2.2.2.2.2.2.2.2.2.2.2.2.2 := by rw [hnL]; decide
  have hn3 : 3 < X.2.2.2.2.2.2.2.2.2.2.2.2.2 := by rw [hnL]; decide
  unfold fX11_readChange at h
  refine r_aload_n (pc := 0) C dX11_readChange_0 rfl rfl ?_
  refine r_ldcS (pc := 1) (i := 10) C (by decide) rfl dX11_readChange_1 ?_
  refine r_vV1 (pc := 3) C (fun M' e => zX11_passes X.1 a0 h0 10 (by decide) M M' e) h0 (by decide) rfl mX11_passes lX11_258 (by decide) (Nat.le_of_ble_eq_true rfl) dX11_readChange_3 h (fun M1 h => ?_)
  refine r_aload_n (pc := 6) C dX11_readChange_6 rfl rfl ?_
  refine r_vI0 (pc := 7) C (fun r M' e => zX11_teamRead X.1 a0 h0 M1 r M' e) h0 (by decide) rfl mX11_teamRead lX11_290 (by decide) (Nat.le_of_ble_eq_true rfl) dX11_readChange_7 h (fun r2 M3 h => ?_)
  refine r_istore_n (pc := 10) (lv' := [_, _, _, _]) C dX11_readChange_10 rfl hn1 rfl ?_
  refine r_aload_n (pc := 11) C dX11_readChange_11 rfl rfl ?_
  refine r_iload_n (pc := 12) C dX11_readChange_12 rfl rfl ?_
  refine r_vI1 (pc := 13) C (fun r M' e => zX11_oneHere X.1 a0 h0 r2 M3 r M' e) h0 (by decide) rfl mX11_oneHere lX11_272 (by decide) (Nat.le_of_ble_eq_true rfl) dX11_readChange_13 h (fun r4 M5 h => ?_)
  refine r_istore_n (pc := 16) (lv' := [_, _, _, _]) C dX11_readChange_16 rfl hn2 rfl ?_
  refine r_aload_n (pc := 17) C dX11_readChange_17 rfl rfl ?_
  refine r_aload_n (pc := 18) C dX11_readChange_18 rfl rfl ?_
  refine r_vI0 (pc := 19) C (fun r M' e => zX11_isOver X.1 a0 h0 M5 r M' e) h0 (by decide) rfl mX11_isOver lX11_134 (by decide) (Nat.le_of_ble_eq_true rfl) dX11_readChange_19 h (fun r6 M7 h => ?_)
  refine r_jn (fun J => ∀ (s8 : Int32) (M9 : xMem) , J s8 M9 = some M' → WW X 55 [some (vr X.1 a0), some (.int r2), some (.int r4), none] [.int s8, vr X.1 a0] M9) h (fun s8 M9  h => ?_) (fun J55 hJ55 h => ?_)
  · refine r_vV1 (pc := 55) C (fun M' e => zX11_can X.1 a0 h0 s8 M9 M' e) h0 (by decide) rfl mX11_can lX11_268 (by decide) (Nat.le_of_ble_eq_true rfl) dX11_readChange_55 h (fun M10 h => ?_)
    refine r_aload_n (pc := 58) C dX11_readChange_58 rfl rfl ?_
    refine r_vI0 (pc := 59) C (fun r M' e => zX11_good X.1 a0 h0 M10 r M' e) h0 (by decide) rfl mX11_good lX11_149 (by decide) (Nat.le_of_ble_eq_true rfl) dX11_readChange_59 h (fun r11 M12 h => ?_)
    refine r_jn (fun J => ∀  (M13 : xMem) , J  M13 = some M' → WW X 69 [some (vr X.1 a0), some (.int r2), some (.int r4), none] [] M13) h (fun  M13  h => ?_) (fun J69 hJ69 h => ?_)
    · refine r_aload_n (pc := 69) C dX11_readChange_69 rfl rfl ?_
      refine r_ldcS (pc := 70) (i := 13) C (by decide) rfl dX11_readChange_70 ?_
      refine r_vV1 (pc := 72) C (fun M' e => zX11_passes X.1 a0 h0 13 (by decide) M13 M' e) h0 (by decide) rfl mX11_passes lX11_258 (by decide) (Nat.le_of_ble_eq_true rfl) dX11_readChange_72 h (fun M14 h => ?_)
      refine r_aload_n (pc := 75) C dX11_readChange_75 rfl rfl ?_
      refine r_iload_n (pc := 76) C dX11_readChange_76 rfl rfl ?_
      refine r_vI1 (pc := 77) C (fun r M' e => zX11_oneHere X.1 a0 h0 r2 M14 r M' e) h0 (by decide) rfl mX11_oneHere lX11_272 (by decide) (Nat.le_of_ble_eq_true rfl) dX11_readChange_77 h (fun r15 M16 h => ?_)
      refine r_istore_n (pc := 80) (lv' := [_, _, _, _]) C dX11_readChange_80 rfl hn3 rfl ?_
      refine r_aload_n (pc := 81) C dX11_readChange_81 rfl rfl ?_
      refine r_aload_n (pc := 82) C dX11_readChange_82 rfl rfl ?_
      refine r_iload_n (pc := 83) C dX11_readChange_83 rfl rfl ?_
      refine r_iload_n (pc := 84) C dX11_readChange_84 rfl rfl ?_
      refine r_vI2 (pc := 85) C (fun r M' e => zX11_isOf X.1 a0 h0 r2 r15 M16 r M' e) h0 (by decide) rfl mX11_isOf lX11_62 (by decide) (Nat.le_of_ble_eq_true rfl) dX11_readChange_85 h (fun r17 M18 h => ?_)
      refine r_iconst (pc := 88) (v := (nI 2)) C dX11_readChange_88 (by decide) ?_
      refine r_jn (fun J => ∀ (s19 : Int32) (M20 : xMem) , J s19 M20 = some M' → WW X 97 [some (vr X.1 a0), some (.int r2), some (.int r4), some (.int r15)] [.int s19, vr X.1 a0] M20) h (fun s19 M20  h => ?_) (fun J97 hJ97 h => ?_)
      · refine r_vV1 (pc := 97) C (fun M' e => zX11_can X.1 a0 h0 s19 M20 M' e) h0 (by decide) rfl mX11_can lX11_268 (by decide) (Nat.le_of_ble_eq_true rfl) dX11_readChange_97 h (fun M21 h => ?_)
        refine r_aload_n (pc := 100) C dX11_readChange_100 rfl rfl ?_
        refine r_vI0 (pc := 101) C (fun r M' e => zX11_good X.1 a0 h0 M21 r M' e) h0 (by decide) rfl mX11_good lX11_149 (by decide) (Nat.le_of_ble_eq_true rfl) dX11_readChange_101 h (fun r22 M23 h => ?_)
        refine r_jn (fun J => ∀  (M24 : xMem) , J  M24 = some M' → WW X 111 [some (vr X.1 a0), some (.int r2), some (.int r4), some (.int r15)] [] M24) h (fun  M24  h => ?_) (fun J111 hJ111 h => ?_)
        · refine r_aload_n (pc := 111) C dX11_readChange_111 rfl rfl ?_
          refine r_vI0 (pc := 112) C (fun r M' e => zX11_good X.1 a0 h0 M24 r M' e) h0 (by decide) rfl mX11_good lX11_149 (by decide) (Nat.le_of_ble_eq_true rfl) dX11_readChange_112 h (fun r25 M26 h => ?_)
          refine r_jn (fun J => ∀  (M27 : xMem) , J  M27 = some M' → WW X 144 [some (vr X.1 a0), some (.int r2), some (.int r4), some (.int r15)] [] M27) h (fun  M27  h => ?_) (fun J144 hJ144 h => ?_)
          · refine r_aload_n (pc := 144) C dX11_readChange_144 rfl rfl ?_
            refine r_vI0 (pc := 145) C (fun r M' e => zX11_good X.1 a0 h0 M27 r M' e) h0 (by decide) rfl mX11_good lX11_149 (by decide) (Nat.le_of_ble_eq_true rfl) dX11_readChange_145 h (fun r28 M29 h => ?_)
            refine r_if_eq (pc := 148) (tgt := 158) C dX11_readChange_148 (by decide) h (fun _ h => ?_) (fun _ h => ?_)
            · exact r_vret (pc := 158) C R0 h dX11_readChange_158
            · refine r_aload_n (pc := 151) C dX11_readChange_151 rfl rfl ?_
              refine r_iload_n (pc := 152) C dX11_readChange_152 rfl rfl ?_
              refine r_iload_n (pc := 153) C dX11_readChange_153 rfl rfl ?_
              refine r_iload_n (pc := 154) C dX11_readChange_154 rfl rfl ?_
              refine r_vV3 (pc := 155) C (fun M' e => zX11_changesOver X.1 a0 h0 r2 r4 r15 M29 M' e) h0 (by decide) rfl mX11_changesOver lX11_298 (by decide) (Nat.le_of_ble_eq_true rfl) dX11_readChange_155 h (fun M30 h => ?_)
              exact r_vret (pc := 158) C R0 h dX11_readChange_158
          refine r_if_eq (pc := 115) (tgt := 144) C dX11_readChange_115 (by decide) h (fun _ h => ?_) (fun _ h => ?_)
          · exact hJ144  M26  h
          · refine r_aload_n (pc := 118) C dX11_readChange_118 rfl rfl ?_
            refine r_getI (pc := 119) C kX11_164 h0 dX11_readChange_119 ?_
            refine r_iconst (pc := 122) (v := (nI 3)) C dX11_readChange_122 (by decide) ?_
            refine r_jn (fun J => ∀  (M31 : xMem) , J  M31 = some M' → WW X 135 [some (vr X.1 a0), some (.int r2), some (.int r4), some (.int r15)] [] M31) h (fun  M31  h => ?_) (fun J135 hJ135 h => ?_)
            · refine r_aload_n (pc := 135) C dX11_readChange_135 rfl rfl ?_
              refine r_iconst (pc := 136) (v := (nI 1)) C dX11_readChange_136 (by decide) ?_
              refine r_aload_n (pc := 137) C dX11_readChange_137 rfl rfl ?_
              refine r_getI (pc := 138) C kX11_161 h0 dX11_readChange_138 ?_
              refine r_vV2 (pc := 141) C (fun M' e => zX11_errs X.1 a0 h0 (nI 1) (M31.1 a0 14) M31 M' e) h0 (by decide) rfl mX11_errs lX11_202 (by decide) (Nat.le_of_ble_eq_true rfl) dX11_readChange_141 h (fun M32 h => ?_)
              exact hJ144  M32  h
            refine r_icmp_ne (pc := 123) (tgt := 135) C dX11_readChange_123 (by decide) h (fun _ h => ?_) (fun _ h => ?_)
            · exact hJ135  M26  h
            · refine r_aload_n (pc := 126) C dX11_readChange_126 rfl rfl ?_
              refine r_getI (pc := 127) C kX11_175 h0 dX11_readChange_127 ?_
              refine r_bipush (pc := 130) (v := (nI 59)) C dX11_readChange_130 (by decide) ?_
              refine r_icmp_eq (pc := 132) (tgt := 144) C dX11_readChange_132 (by decide) h (fun _ h => ?_) (fun _ h => ?_)
              · exact hJ144  M26  h
              · exact hJ135  M26  h
        refine r_if_eq (pc := 104) (tgt := 111) C dX11_readChange_104 (by decide) h (fun _ h => ?_) (fun _ h => ?_)
        · exact hJ111  M23  h
        · refine r_aload_n (pc := 107) C dX11_readChange_107 rfl rfl ?_
          refine r_vV0 (pc := 108) C (fun M' e => zX11_advance X.1 a0 h0 M23 M' e) h0 (by decide) rfl mX11_advance lX11_196 (by decide) (Nat.le_of_ble_eq_true rfl) dX11_readChange_108 h (fun M33 h => ?_)
          exact hJ111  M33  h
      refine r_icmp_ne (pc := 89) (tgt := 96) C dX11_readChange_89 (by decide) h (fun _ h => ?_) (fun _ h => ?_)
      · refine r_iconst (pc := 96) (v := (nI 0)) C dX11_readChange_96 (by decide) ?_
        exact hJ97 (nI 0) M18  h
      · refine r_iconst (pc := 92) (v := (nI 1)) C dX11_readChange_92 (by decide) ?_
        refine r_goto (pc := 93) (tgt := 97) C dX11_readChange_93 (by decide) ?_
        exact hJ97 (nI 1) M18  h
    refine r_if_eq (pc := 62) (tgt := 69) C dX11_readChange_62 (by decide) h (fun _ h => ?_) (fun _ h => ?_)
    · exact hJ69  M12  h
    · refine r_aload_n (pc := 65) C dX11_readChange_65 rfl rfl ?_
      refine r_vV0 (pc := 66) C (fun M' e => zX11_advance X.1 a0 h0 M12 M' e) h0 (by decide) rfl mX11_advance lX11_196 (by decide) (Nat.le_of_ble_eq_true rfl) dX11_readChange_66 h (fun M34 h => ?_)
      exact hJ69  M34  h
  refine r_jn (fun J => ∀  (M35 : xMem) , J  M35 = some M' → WW X 54 [some (vr X.1 a0), some (.int r2), some (.int r4), none] [vr X.1 a0] M35) h (fun  M35  h => ?_) (fun J54 hJ54 h => ?_)
  · refine r_iconst (pc := 54) (v := (nI 0)) C dX11_readChange_54 (by decide) ?_
    exact hJ55 (nI 0) M35  h
  refine r_if_ne (pc := 22) (tgt := 54) C dX11_readChange_22 (by decide) h (fun _ h => ?_) (fun _ h => ?_)
  · exact hJ54  M7  h
  · refine r_aload_n (pc := 25) C dX11_readChange_25 rfl rfl ?_
    refine r_iload_n (pc := 26) C dX11_readChange_26 rfl rfl ?_
    refine r_iload_n (pc := 27) C dX11_readChange_27 rfl rfl ?_
    refine r_vI2 (pc := 28) C (fun r M' e => zX11_isOf X.1 a0 h0 r2 r4 M7 r M' e) h0 (by decide) rfl mX11_isOf lX11_62 (by decide) (Nat.le_of_ble_eq_true rfl) dX11_readChange_28 h (fun r36 M37 h => ?_)
    refine r_if_ne (pc := 31) (tgt := 54) C dX11_readChange_31 (by decide) h (fun _ h => ?_) (fun _ h => ?_)
    · exact hJ54  M37  h
    · refine r_aload_n (pc := 34) C dX11_readChange_34 rfl rfl ?_
      refine r_getW (pc := 35) C kX11_16 h0 dX11_readChange_35 ?_
      refine r_bipush (pc := 38) (v := (nI 32)) C dX11_readChange_38 (by decide) ?_
      refine r_iload_n (pc := 40) C dX11_readChange_40 rfl rfl ?_
      refine r_iadd (pc := 41) C dX11_readChange_41 ?_
      obtain ⟨g38, h⟩ := xGb_of h
      refine r_lald (pc := 42) C (xknw M37) g38 dX11_readChange_42 ?_
      refine r_ldc2 (pc := 43) C nX11_296 dX11_readChange_43 ?_
      refine r_lcmp (pc := 46) C dX11_readChange_46 ?_
      refine r_if_ge (pc := 47) (tgt := 54) C dX11_readChange_47 (by decide) h (fun _ h => ?_) (fun _ h => ?_)
      · exact hJ54  M37  h
      · refine r_iconst (pc := 50) (v := (nI 1)) C dX11_readChange_50 (by decide) ?_
        refine r_goto (pc := 51) (tgt := 55) C dX11_readChange_51 (by decide) ?_
        exact hJ55 (nI 1) M37  h
theorem dX11_readReview_0 : decode cX11_readReview 0 = .ok (.aload_n 0, 1) := by decide +kernel
theorem dX11_readReview_1 : decode cX11_readReview 1 = .ok (.ldc 218, 2) := by decide +kernel
theorem dX11_readReview_3 : decode cX11_readReview 3 = .ok (.invokevirtual 258, 3) := by decide +kernel
theorem dX11_readReview_6 : decode cX11_readReview 6 = .ok (.aload_n 0, 1) := by decide +kernel
theorem dX11_readReview_7 : decode cX11_readReview 7 = .ok (.invokevirtual 247, 3) := by decide +kernel
theorem dX11_readReview_10 : decode cX11_readReview 10 = .ok (.istore_n 1, 1) := by decide +kernel
theorem dX11_readReview_11 : decode cX11_readReview 11 = .ok (.aload_n 0, 1) := by decide +kernel
theorem dX11_readReview_12 : decode cX11_readReview 12 = .ok (.aload_n 0, 1) := by decide +kernel
theorem dX11_readReview_13 : decode cX11_readReview 13 = .ok (.iload_n 1, 1) := by decide +kernel
theorem dX11_readReview_14 : decode cX11_readReview 14 = .ok (.invokevirtual 301, 3) := by decide +kernel
theorem dX11_readReview_17 : decode cX11_readReview 17 = .ok (.invokevirtual 268, 3) := by decide +kernel
theorem dX11_readReview_20 : decode cX11_readReview 20 = .ok (.aload_n 0, 1) := by decide +kernel
theorem dX11_readReview_21 : decode cX11_readReview 21 = .ok (.invokevirtual 149, 3) := by decide +kernel
theorem dX11_readReview_24 : decode cX11_readReview 24 = .ok (.ifCond .eq 7, 3) := by decide +kernel
theorem dX11_readReview_27 : decode cX11_readReview 27 = .ok (.aload_n 0, 1) := by decide +kernel
theorem dX11_readReview_28 : decode cX11_readReview 28 = .ok (.invokevirtual 196, 3) := by decide +kernel
theorem dX11_readReview_31 : decode cX11_readReview 31 = .ok (.aload_n 0, 1) := by decide +kernel
theorem dX11_readReview_32 : decode cX11_readReview 32 = .ok (.ldc 222, 2) := by decide +kernel
theorem dX11_readReview_34 : decode cX11_readReview 34 = .ok (.invokevirtual 192, 3) := by decide +kernel
theorem dX11_readReview_37 : decode cX11_readReview 37 = .ok (.istore_n 2, 1) := by decide +kernel
theorem dX11_readReview_38 : decode cX11_readReview 38 = .ok (.aload_n 0, 1) := by decide +kernel
theorem dX11_readReview_39 : decode cX11_readReview 39 = .ok (.invokevirtual 149, 3) := by decide +kernel
theorem dX11_readReview_42 : decode cX11_readReview 42 = .ok (.ifCond .eq 25, 3) := by decide +kernel
theorem dX11_readReview_45 : decode cX11_readReview 45 = .ok (.iload_n 2, 1) := by decide +kernel
theorem dX11_readReview_46 : decode cX11_readReview 46 = .ok (.ifCond .ne 21, 3) := by decide +kernel
theorem dX11_readReview_49 : decode cX11_readReview 49 = .ok (.aload_n 0, 1) := by decide +kernel
theorem dX11_readReview_50 : decode cX11_readReview 50 = .ok (.ldc 224, 2) := by decide +kernel
theorem dX11_readReview_52 : decode cX11_readReview 52 = .ok (.invokevirtual 192, 3) := by decide +kernel
theorem dX11_readReview_55 : decode cX11_readReview 55 = .ok (.ifCond .ne 12, 3) := by decide +kernel
theorem dX11_readReview_58 : decode cX11_readReview 58 = .ok (.aload_n 0, 1) := by decide +kernel
theorem dX11_readReview_59 : decode cX11_readReview 59 = .ok (.iconst 1, 1) := by decide +kernel
theorem dX11_readReview_60 : decode cX11_readReview 60 = .ok (.aload_n 0, 1) := by decide +kernel
theorem dX11_readReview_61 : decode cX11_readReview 61 = .ok (.getfield 161, 3) := by decide +kernel
theorem dX11_readReview_64 : decode cX11_readReview 64 = .ok (.invokevirtual 202, 3) := by decide +kernel
theorem dX11_readReview_67 : decode cX11_readReview 67 = .ok (.aload_n 0, 1) := by decide +kernel
theorem dX11_readReview_68 : decode cX11_readReview 68 = .ok (.invokevirtual 149, 3) := by decide +kernel
theorem dX11_readReview_71 : decode cX11_readReview 71 = .ok (.ifCond .eq 7, 3) := by decide +kernel
theorem dX11_readReview_74 : decode cX11_readReview 74 = .ok (.aload_n 0, 1) := by decide +kernel
theorem dX11_readReview_75 : decode cX11_readReview 75 = .ok (.invokevirtual 196, 3) := by decide +kernel
theorem dX11_readReview_78 : decode cX11_readReview 78 = .ok (.aload_n 0, 1) := by decide +kernel
theorem dX11_readReview_79 : decode cX11_readReview 79 = .ok (.invokevirtual 149, 3) := by decide +kernel
theorem dX11_readReview_82 : decode cX11_readReview 82 = .ok (.ifCond .eq 29, 3) := by decide +kernel
theorem dX11_readReview_85 : decode cX11_readReview 85 = .ok (.aload_n 0, 1) := by decide +kernel
theorem dX11_readReview_86 : decode cX11_readReview 86 = .ok (.getfield 164, 3) := by decide +kernel
theorem dX11_readReview_89 : decode cX11_readReview 89 = .ok (.iconst 3, 1) := by decide +kernel
theorem dX11_readReview_90 : decode cX11_readReview 90 = .ok (.if_icmp .ne 12, 3) := by decide +kernel
theorem dX11_readReview_93 : decode cX11_readReview 93 = .ok (.aload_n 0, 1) := by decide +kernel
theorem dX11_readReview_94 : decode cX11_readReview 94 = .ok (.getfield 175, 3) := by decide +kernel
theorem dX11_readReview_97 : decode cX11_readReview 97 = .ok (.bipush 59, 2) := by decide +kernel
theorem dX11_readReview_99 : decode cX11_readReview 99 = .ok (.if_icmp .eq 12, 3) := by decide +kernel
theorem dX11_readReview_102 : decode cX11_readReview 102 = .ok (.aload_n 0, 1) := by decide +kernel
theorem dX11_readReview_103 : decode cX11_readReview 103 = .ok (.iconst 1, 1) := by decide +kernel
theorem dX11_readReview_104 : decode cX11_readReview 104 = .ok (.aload_n 0, 1) := by decide +kernel
theorem dX11_readReview_105 : decode cX11_readReview 105 = .ok (.getfield 161, 3) := by decide +kernel
theorem dX11_readReview_108 : decode cX11_readReview 108 = .ok (.invokevirtual 202, 3) := by decide +kernel
theorem dX11_readReview_111 : decode cX11_readReview 111 = .ok (.aload_n 0, 1) := by decide +kernel
theorem dX11_readReview_112 : decode cX11_readReview 112 = .ok (.invokevirtual 149, 3) := by decide +kernel
theorem dX11_readReview_115 : decode cX11_readReview 115 = .ok (.ifCond .eq 9, 3) := by decide +kernel
theorem dX11_readReview_118 : decode cX11_readReview 118 = .ok (.aload_n 0, 1) := by decide +kernel
theorem dX11_readReview_119 : decode cX11_readReview 119 = .ok (.iload_n 1, 1) := by decide +kernel
theorem dX11_readReview_120 : decode cX11_readReview 120 = .ok (.iload_n 2, 1) := by decide +kernel
theorem dX11_readReview_121 : decode cX11_readReview 121 = .ok (.invokevirtual 304, 3) := by decide +kernel
theorem dX11_readReview_124 : decode cX11_readReview 124 = .ok (.return_, 1) := by decide +kernel
def fX11_readReview (a0 : Nat) (M : xMem) : Option (xMem) :=
  xBv (fX11_passes a0 12 M) fun M1 => xBn (fX11_teamHere a0 M1) fun r2 M3 => xBn (fX11_canReview a0 r2 M3) fun r4 M5 => xBv (fX11_can a0 r4 M5) fun M6 => xBn (fX11_good a0 M6) fun r7 M8 => xLt (fun  (M9 : xMem) => (xBn (fX11_isWord a0 14 M9) fun r10 M11 => xBn (fX11_good a0 M11) fun r12 M13 => xLt (fun  (M14 : xMem) => (xBn (fX11_good a0 M14) fun r15 M16 => xLt (fun  (M17 : xMem) => (xBn (fX11_good a0 M17) fun r18 M19 => xLt (fun  (M20 : xMem) => (xBn (fX11_good a0 M20) fun r21 M22 => if r21 = 0 then (some M22) else (xBv (fX11_reviews a0 r2 r10 M22) fun M23 => some M23) : Option (xMem))) fun J111 => if r18 = 0 then (J111  M19) else (xLt (fun  (M24 : xMem) => (xBv (fX11_errs a0 (nI 1) (M24.1 a0 14) M24) fun M25 => J111  M25 : Option (xMem))) fun J102 => if (M19.1 a0 15) = (nI 3) then (if (M19.1 a0 16) = (nI 59) then (J111  M19) else (J102  M19)) else (J102  M19)) : Option (xMem))) fun J78 => if r15 = 0 then (J78  M16) else (xBv (fX11_advance a0 M16) fun M26 => J78  M26) : Option (xMem))) fun J67 => if r12 = 0 then (J67  M13) else (if r10 = 0 then (xBn (fX11_isWord a0 15 M13) fun r27 M28 => if r27 = 0 then (xBv (fX11_errs a0 (nI 1) (M28.1 a0 14) M28) fun M29 => J67  M29) else (J67  M28)) else (J67  M13)) : Option (xMem))) fun J31 => if r7 = 0 then (J31  M8) else (xBv (fX11_advance a0 M8) fun M30 => J31  M30)
set_option maxRecDepth 100000 in
set_option maxHeartbeats 4000000 in
theorem zX11_readReview (G : xGX) (a0 : Nat) (h0 : xkd a0 = 11) (M : xMem) (M' : xMem) (h : fX11_readReview a0 M = some M') : xCt G yX11_readReview cX11_readReview 3 none 9 [vr G a0] M (none, M') := by
  refine xMet (lv := [some (vr G a0), none, none]) (by decide) (Nat.le_of_ble_eq_true rfl) rfl ?_
  intro X hG hnL C R0
  subst hG
  have C : xCk X cX11_readReview RX11 9 := C
  have hn1 : 1 < X.2.2.2.2.2.2.2.2.2.2.2.2.2 := by rw [hnL]; decide
  have hn2 : 2 < X.2.2.2.2.2.2.2.2.2.2.2.2.2 := by rw [hnL]; decide
  unfold fX11_readReview at h
  refine r_aload_n (pc := 0) C dX11_readReview_0 rfl rfl ?_
  refine r_ldcS (pc := 1) (i := 12) C (by decide) rfl dX11_readReview_1 ?_
  refine r_vV1 (pc := 3) C (fun M' e => zX11_passes X.1 a0 h0 12 (by decide) M M' e) h0 (by decide) rfl mX11_passes lX11_258 (by decide) (Nat.le_of_ble_eq_true rfl) dX11_readReview_3 h (fun M1 h => ?_)
  refine r_aload_n (pc := 6) C dX11_readReview_6 rfl rfl ?_
  refine r_vI0 (pc := 7) C (fun r M' e => zX11_teamHere X.1 a0 h0 M1 r M' e) h0 (by decide) rfl mX11_teamHere lX11_247 (by decide) (Nat.le_of_ble_eq_true rfl) dX11_readReview_7 h (fun r2 M3 h => ?_)
  refine r_istore_n (pc := 10) (lv' := [_, _, _]) C dX11_readReview_10 rfl hn1 rfl ?_
  refine r_aload_n (pc := 11) C dX11_readReview_11 rfl rfl ?_
  refine r_aload_n (pc := 12) C dX11_readReview_12 rfl rfl ?_
  refine r_iload_n (pc := 13) C dX11_readReview_13 rfl rfl ?_
  refine r_vI1 (pc := 14) C (fun r M' e => zX11_canReview X.1 a0 h0 r2 M3 r M' e) h0 (by decide) rfl mX11_canReview lX11_301 (by decide) (Nat.le_of_ble_eq_true rfl) dX11_readReview_14 h (fun r4 M5 h => ?_)
  refine r_vV1 (pc := 17) C (fun M' e => zX11_can X.1 a0 h0 r4 M5 M' e) h0 (by decide) rfl mX11_can lX11_268 (by decide) (Nat.le_of_ble_eq_true rfl) dX11_readReview_17 h (fun M6 h => ?_)
  refine r_aload_n (pc := 20) C dX11_readReview_20 rfl rfl ?_
  refine r_vI0 (pc := 21) C (fun r M' e => zX11_good X.1 a0 h0 M6 r M' e) h0 (by decide) rfl mX11_good lX11_149 (by decide) (Nat.le_of_ble_eq_true rfl) dX11_readReview_21 h (fun r7 M8 h => ?_)
  refine r_jn (fun J => ∀  (M9 : xMem) , J  M9 = some M' → WW X 31 [some (vr X.1 a0), some (.int r2), none] [] M9) h (fun  M9  h => ?_) (fun J31 hJ31 h => ?_)
  · refine r_aload_n (pc := 31) C dX11_readReview_31 rfl rfl ?_
    refine r_ldcS (pc := 32) (i := 14) C (by decide) rfl dX11_readReview_32 ?_
    refine r_vI1 (pc := 34) C (fun r M' e => zX11_isWord X.1 a0 h0 14 (by decide) M9 r M' e) h0 (by decide) rfl mX11_isWord lX11_192 (by decide) (Nat.le_of_ble_eq_true rfl) dX11_readReview_34 h (fun r10 M11 h => ?_)
    refine r_istore_n (pc := 37) (lv' := [_, _, _]) C dX11_readReview_37 rfl hn2 rfl ?_
    refine r_aload_n (pc := 38) C dX11_readReview_38 rfl rfl ?_
    refine r_vI0 (pc := 39) C (fun r M' e => zX11_good X.1 a0 h0 M11 r M' e) h0 (by decide) rfl mX11_good lX11_149 (by decide) (Nat.le_of_ble_eq_true rfl) dX11_readReview_39 h (fun r12 M13 h => ?_)
    refine r_jn (fun J => ∀  (M14 : xMem) , J  M14 = some M' → WW X 67 [some (vr X.1 a0), some (.int r2), some (.int r10)] [] M14) h (fun  M14  h => ?_) (fun J67 hJ67 h => ?_)
    · refine r_aload_n (pc := 67) C dX11_readReview_67 rfl rfl ?_
      refine r_vI0 (pc := 68) C (fun r M' e => zX11_good X.1 a0 h0 M14 r M' e) h0 (by decide) rfl mX11_good lX11_149 (by decide) (Nat.le_of_ble_eq_true rfl) dX11_readReview_68 h (fun r15 M16 h => ?_)
      refine r_jn (fun J => ∀  (M17 : xMem) , J  M17 = some M' → WW X 78 [some (vr X.1 a0), some (.int r2), some (.int r10)] [] M17) h (fun  M17  h => ?_) (fun J78 hJ78 h => ?_)
      · refine r_aload_n (pc := 78) C dX11_readReview_78 rfl rfl ?_
        refine r_vI0 (pc := 79) C (fun r M' e => zX11_good X.1 a0 h0 M17 r M' e) h0 (by decide) rfl mX11_good lX11_149 (by decide) (Nat.le_of_ble_eq_true rfl) dX11_readReview_79 h (fun r18 M19 h => ?_)
        refine r_jn (fun J => ∀  (M20 : xMem) , J  M20 = some M' → WW X 111 [some (vr X.1 a0), some (.int r2), some (.int r10)] [] M20) h (fun  M20  h => ?_) (fun J111 hJ111 h => ?_)
        · refine r_aload_n (pc := 111) C dX11_readReview_111 rfl rfl ?_
          refine r_vI0 (pc := 112) C (fun r M' e => zX11_good X.1 a0 h0 M20 r M' e) h0 (by decide) rfl mX11_good lX11_149 (by decide) (Nat.le_of_ble_eq_true rfl) dX11_readReview_112 h (fun r21 M22 h => ?_)
          refine r_if_eq (pc := 115) (tgt := 124) C dX11_readReview_115 (by decide) h (fun _ h => ?_) (fun _ h => ?_)
          · exact r_vret (pc := 124) C R0 h dX11_readReview_124
          · refine r_aload_n (pc := 118) C dX11_readReview_118 rfl rfl ?_
            refine r_iload_n (pc := 119) C dX11_readReview_119 rfl rfl ?_
            refine r_iload_n (pc := 120) C dX11_readReview_120 rfl rfl ?_
            refine r_vV2 (pc := 121) C (fun M' e => zX11_reviews X.1 a0 h0 r2 r10 M22 M' e) h0 (by decide) rfl mX11_reviews lX11_304 (by decide) (Nat.le_of_ble_eq_true rfl) dX11_readReview_121 h (fun M23 h => ?_)
            exact r_vret (pc := 124) C R0 h dX11_readReview_124
        refine r_if_eq (pc := 82) (tgt := 111) C dX11_readReview_82 (by decide) h (fun _ h => ?_) (fun _ h => ?_)
        · exact hJ111  M19  h
        · refine r_aload_n (pc := 85) C dX11_readReview_85 rfl rfl ?_
          refine r_getI (pc := 86) C kX11_164 h0 dX11_readReview_86 ?_
          refine r_iconst (pc := 89) (v := (nI 3)) C dX11_readReview_89 (by decide) ?_
          refine r_jn (fun J => ∀  (M24 : xMem) , J  M24 = some M' → WW X 102 [some (vr X.1 a0), some (.int r2), some (.int r10)] [] M24) h (fun  M24  h => ?_) (fun J102 hJ102 h => ?_)
          · refine r_aload_n (pc := 102) C dX11_readReview_102 rfl rfl ?_
            refine r_iconst (pc := 103) (v := (nI 1)) C dX11_readReview_103 (by decide) ?_
            refine r_aload_n (pc := 104) C dX11_readReview_104 rfl rfl ?_
            refine r_getI (pc := 105) C kX11_161 h0 dX11_readReview_105 ?_
            refine r_vV2 (pc := 108) C (fun M' e => zX11_errs X.1 a0 h0 (nI 1) (M24.1 a0 14) M24 M' e) h0 (by decide) rfl mX11_errs lX11_202 (by decide) (Nat.le_of_ble_eq_true rfl) dX11_readReview_108 h (fun M25 h => ?_)
            exact hJ111  M25  h
          refine r_icmp_ne (pc := 90) (tgt := 102) C dX11_readReview_90 (by decide) h (fun _ h => ?_) (fun _ h => ?_)
          · exact hJ102  M19  h
          · refine r_aload_n (pc := 93) C dX11_readReview_93 rfl rfl ?_
            refine r_getI (pc := 94) C kX11_175 h0 dX11_readReview_94 ?_
            refine r_bipush (pc := 97) (v := (nI 59)) C dX11_readReview_97 (by decide) ?_
            refine r_icmp_eq (pc := 99) (tgt := 111) C dX11_readReview_99 (by decide) h (fun _ h => ?_) (fun _ h => ?_)
            · exact hJ111  M19  h
            · exact hJ102  M19  h
      refine r_if_eq (pc := 71) (tgt := 78) C dX11_readReview_71 (by decide) h (fun _ h => ?_) (fun _ h => ?_)
      · exact hJ78  M16  h
      · refine r_aload_n (pc := 74) C dX11_readReview_74 rfl rfl ?_
        refine r_vV0 (pc := 75) C (fun M' e => zX11_advance X.1 a0 h0 M16 M' e) h0 (by decide) rfl mX11_advance lX11_196 (by decide) (Nat.le_of_ble_eq_true rfl) dX11_readReview_75 h (fun M26 h => ?_)
        exact hJ78  M26  h
    refine r_if_eq (pc := 42) (tgt := 67) C dX11_readReview_42 (by decide) h (fun _ h => ?_) (fun _ h => ?_)
    · exact hJ67  M13  h
    · refine r_iload_n (pc := 45) C dX11_readReview_45 rfl rfl ?_
      refine r_if_ne (pc := 46) (tgt := 67) C dX11_readReview_46 (by decide) h (fun _ h => ?_) (fun _ h => ?_)
      · exact hJ67  M13  h
      · refine r_aload_n (pc := 49) C dX11_readReview_49 rfl rfl ?_
        refine r_ldcS (pc := 50) (i := 15) C (by decide) rfl dX11_readReview_50 ?_
        refine r_vI1 (pc := 52) C (fun r M' e => zX11_isWord X.1 a0 h0 15 (by decide) M13 r M' e) h0 (by decide) rfl mX11_isWord lX11_192 (by decide) (Nat.le_of_ble_eq_true rfl) dX11_readReview_52 h (fun r27 M28 h => ?_)
        refine r_if_ne (pc := 55) (tgt := 67) C dX11_readReview_55 (by decide) h (fun _ h => ?_) (fun _ h => ?_)
        · exact hJ67  M28  h
        · refine r_aload_n (pc := 58) C dX11_readReview_58 rfl rfl ?_
          refine r_iconst (pc := 59) (v := (nI 1)) C dX11_readReview_59 (by decide) ?_
          refine r_aload_n (pc := 60) C dX11_readReview_60 rfl rfl ?_
          refine r_getI (pc := 61) C kX11_161 h0 dX11_readReview_61 ?_
          refine r_vV2 (pc := 64) C (fun M' e => zX11_errs X.1 a0 h0 (nI 1) (M28.1 a0 14) M28 M' e) h0 (by decide) rfl mX11_errs lX11_202 (by decide) (Nat.le_of_ble_eq_true rfl) dX11_readReview_64 h (fun M29 h => ?_)
          exact hJ67  M29  h
  refine r_if_eq (pc := 24) (tgt := 31) C dX11_readReview_24 (by decide) h (fun _ h => ?_) (fun _ h => ?_)
  · exact hJ31  M8  h
  · refine r_aload_n (pc := 27) C dX11_readReview_27 rfl rfl ?_
    refine r_vV0 (pc := 28) C (fun M' e => zX11_advance X.1 a0 h0 M8 M' e) h0 (by decide) rfl mX11_advance lX11_196 (by decide) (Nat.le_of_ble_eq_true rfl) dX11_readReview_28 h (fun M30 h => ?_)
    exact hJ31  M30  h
theorem dX11_readHalf_0 : decode cX11_readHalf 0 = .ok (.aload_n 0, 1) := by decide +kernel
theorem dX11_readHalf_1 : decode cX11_readHalf 1 = .ok (.aload_n 0, 1) := by decide +kernel
theorem dX11_readHalf_2 : decode cX11_readHalf 2 = .ok (.invokevirtual 134, 3) := by decide +kernel
theorem dX11_readHalf_5 : decode cX11_readHalf 5 = .ok (.ifCond .ne 7, 3) := by decide +kernel
theorem dX11_readHalf_8 : decode cX11_readHalf 8 = .ok (.iconst 1, 1) := by decide +kernel
theorem dX11_readHalf_9 : decode cX11_readHalf 9 = .ok (.goto 4, 3) := by decide +kernel
theorem dX11_readHalf_12 : decode cX11_readHalf 12 = .ok (.iconst 0, 1) := by decide +kernel
theorem dX11_readHalf_13 : decode cX11_readHalf 13 = .ok (.invokevirtual 268, 3) := by decide +kernel
theorem dX11_readHalf_16 : decode cX11_readHalf 16 = .ok (.aload_n 0, 1) := by decide +kernel
theorem dX11_readHalf_17 : decode cX11_readHalf 17 = .ok (.ldc 216, 2) := by decide +kernel
theorem dX11_readHalf_19 : decode cX11_readHalf 19 = .ok (.invokevirtual 258, 3) := by decide +kernel
theorem dX11_readHalf_22 : decode cX11_readHalf 22 = .ok (.aload_n 0, 1) := by decide +kernel
theorem dX11_readHalf_23 : decode cX11_readHalf 23 = .ok (.invokevirtual 149, 3) := by decide +kernel
theorem dX11_readHalf_26 : decode cX11_readHalf 26 = .ok (.ifCond .eq 29, 3) := by decide +kernel
theorem dX11_readHalf_29 : decode cX11_readHalf 29 = .ok (.aload_n 0, 1) := by decide +kernel
theorem dX11_readHalf_30 : decode cX11_readHalf 30 = .ok (.getfield 164, 3) := by decide +kernel
theorem dX11_readHalf_33 : decode cX11_readHalf 33 = .ok (.iconst 3, 1) := by decide +kernel
theorem dX11_readHalf_34 : decode cX11_readHalf 34 = .ok (.if_icmp .ne 12, 3) := by decide +kernel
theorem dX11_readHalf_37 : decode cX11_readHalf 37 = .ok (.aload_n 0, 1) := by decide +kernel
theorem dX11_readHalf_38 : decode cX11_readHalf 38 = .ok (.getfield 175, 3) := by decide +kernel
theorem dX11_readHalf_41 : decode cX11_readHalf 41 = .ok (.bipush 59, 2) := by decide +kernel
theorem dX11_readHalf_43 : decode cX11_readHalf 43 = .ok (.if_icmp .eq 12, 3) := by decide +kernel
theorem dX11_readHalf_46 : decode cX11_readHalf 46 = .ok (.aload_n 0, 1) := by decide +kernel
theorem dX11_readHalf_47 : decode cX11_readHalf 47 = .ok (.iconst 1, 1) := by decide +kernel
theorem dX11_readHalf_48 : decode cX11_readHalf 48 = .ok (.aload_n 0, 1) := by decide +kernel
theorem dX11_readHalf_49 : decode cX11_readHalf 49 = .ok (.getfield 161, 3) := by decide +kernel
theorem dX11_readHalf_52 : decode cX11_readHalf 52 = .ok (.invokevirtual 202, 3) := by decide +kernel
theorem dX11_readHalf_55 : decode cX11_readHalf 55 = .ok (.aload_n 0, 1) := by decide +kernel
theorem dX11_readHalf_56 : decode cX11_readHalf 56 = .ok (.invokevirtual 149, 3) := by decide +kernel
theorem dX11_readHalf_59 : decode cX11_readHalf 59 = .ok (.ifCond .eq 7, 3) := by decide +kernel
theorem dX11_readHalf_62 : decode cX11_readHalf 62 = .ok (.aload_n 0, 1) := by decide +kernel
theorem dX11_readHalf_63 : decode cX11_readHalf 63 = .ok (.invokevirtual 308, 3) := by decide +kernel
theorem dX11_readHalf_66 : decode cX11_readHalf 66 = .ok (.return_, 1) := by decide +kernel
def fX11_readHalf (a0 : Nat) (M : xMem) : Option (xMem) :=
  xBn (fX11_isOver a0 M) fun r1 M2 => xLt (fun (s3 : Int32) (M4 : xMem) => (xBv (fX11_can a0 s3 M4) fun M5 => xBv (fX11_passes a0 11 M5) fun M6 => xBn (fX11_good a0 M6) fun r7 M8 => xLt (fun  (M9 : xMem) => (xBn (fX11_good a0 M9) fun r10 M11 => if r10 = 0 then (some M11) else (xBv (fX11_halves a0 M11) fun M12 => some M12) : Option (xMem))) fun J55 => if r7 = 0 then (J55  M8) else (xLt (fun  (M13 : xMem) => (xBv (fX11_errs a0 (nI 1) (M13.1 a0 14) M13) fun M14 => J55  M14 : Option (xMem))) fun J46 => if (M8.1 a0 15) = (nI 3) then (if (M8.1 a0 16) = (nI 59) then (J55  M8) else (J46  M8)) else (J46  M8)) : Option (xMem))) fun J13 => if r1 = 0 then (J13 (nI 1) M2) else (J13 (nI 0) M2)
set_option maxRecDepth 100000 in
set_option maxHeartbeats 4000000 in
theorem zX11_readHalf (G : xGX) (a0 : Nat) (h0 : xkd a0 = 11) (M : xMem) (M' : xMem) (h : fX11_readHalf a0 M = some M') : xCt G yX11_readHalf cX11_readHalf 1 none 8 [vr G a0] M (none, M') := by
  refine xMet (lv := [some (vr G a0)]) (by decide) (Nat.le_of_ble_eq_true rfl) rfl ?_
  intro X hG hnL C R0
  subst hG
  have C : xCk X cX11_readHalf RX11 8 := C
  unfold fX11_readHalf at h
  refine r_aload_n (pc := 0) C dX11_readHalf_0 rfl rfl ?_
  refine r_aload_n (pc := 1) C dX11_readHalf_1 rfl rfl ?_
  refine r_vI0 (pc := 2) C (fun r M' e => zX11_isOver X.1 a0 h0 M r M' e) h0 (by decide) rfl mX11_isOver lX11_134 (by decide) (Nat.le_of_ble_eq_true rfl) dX11_readHalf_2 h (fun r1 M2 h => ?_)
  refine r_jn (fun J => ∀ (s3 : Int32) (M4 : xMem) , J s3 M4 = some M' → WW X 13 [some (vr X.1 a0)] [.int s3, vr X.1 a0] M4) h (fun s3 M4  h => ?_) (fun J13 hJ13 h => ?_)
  · refine r_vV1 (pc := 13) C (fun M' e => zX11_can X.1 a0 h0 s3 M4 M' e) h0 (by decide) rfl mX11_can lX11_268 (by decide) (Nat.le_of_ble_eq_true rfl) dX11_readHalf_13 h (fun M5 h => ?_)
    refine r_aload_n (pc := 16) C dX11_readHalf_16 rfl rfl ?_
    refine r_ldcS (pc := 17) (i := 11) C (by decide) rfl dX11_readHalf_17 ?_
    refine r_vV1 (pc := 19) C (fun M' e => zX11_passes X.1 a0 h0 11 (by decide) M5 M' e) h0 (by decide) rfl mX11_passes lX11_258 (by decide) (Nat.le_of_ble_eq_true rfl) dX11_readHalf_19 h (fun M6 h => ?_)
    refine r_aload_n (pc := 22) C dX11_readHalf_22 rfl rfl ?_
    refine r_vI0 (pc := 23) C (fun r M' e => zX11_good X.1 a0 h0 M6 r M' e) h0 (by decide) rfl mX11_good lX11_149 (by decide) (Nat.le_of_ble_eq_true rfl) dX11_readHalf_23 h (fun r7 M8 h => ?_)
    refine r_jn (fun J => ∀  (M9 : xMem) , J  M9 = some M' → WW X 55 [some (vr X.1 a0)] [] M9) h (fun  M9  h => ?_) (fun J55 hJ55 h => ?_)
    · refine r_aload_n (pc := 55) C dX11_readHalf_55 rfl rfl ?_
      refine r_vI0 (pc := 56) C (fun r M' e => zX11_good X.1 a0 h0 M9 r M' e) h0 (by decide) rfl mX11_good lX11_149 (by decide) (Nat.le_of_ble_eq_true rfl) dX11_readHalf_56 h (fun r10 M11 h => ?_)
      refine r_if_eq (pc := 59) (tgt := 66) C dX11_readHalf_59 (by decide) h (fun _ h => ?_) (fun _ h => ?_)
      · exact r_vret (pc := 66) C R0 h dX11_readHalf_66
      · refine r_aload_n (pc := 62) C dX11_readHalf_62 rfl rfl ?_
        refine r_vV0 (pc := 63) C (fun M' e => zX11_halves X.1 a0 h0 M11 M' e) h0 (by decide) rfl mX11_halves lX11_308 (by decide) (Nat.le_of_ble_eq_true rfl) dX11_readHalf_63 h (fun M12 h => ?_)
        exact r_vret (pc := 66) C R0 h dX11_readHalf_66
    refine r_if_eq (pc := 26) (tgt := 55) C dX11_readHalf_26 (by decide) h (fun _ h => ?_) (fun _ h => ?_)
    · exact hJ55  M8  h
    · refine r_aload_n (pc := 29) C dX11_readHalf_29 rfl rfl ?_
      refine r_getI (pc := 30) C kX11_164 h0 dX11_readHalf_30 ?_
      refine r_iconst (pc := 33) (v := (nI 3)) C dX11_readHalf_33 (by decide) ?_
      refine r_jn (fun J => ∀  (M13 : xMem) , J  M13 = some M' → WW X 46 [some (vr X.1 a0)] [] M13) h (fun  M13  h => ?_) (fun J46 hJ46 h => ?_)
      · refine r_aload_n (pc := 46) C dX11_readHalf_46 rfl rfl ?_
        refine r_iconst (pc := 47) (v := (nI 1)) C dX11_readHalf_47 (by decide) ?_
        refine r_aload_n (pc := 48) C dX11_readHalf_48 rfl rfl ?_
        refine r_getI (pc := 49) C kX11_161 h0 dX11_readHalf_49 ?_
        refine r_vV2 (pc := 52) C (fun M' e => zX11_errs X.1 a0 h0 (nI 1) (M13.1 a0 14) M13 M' e) h0 (by decide) rfl mX11_errs lX11_202 (by decide) (Nat.le_of_ble_eq_true rfl) dX11_readHalf_52 h (fun M14 h => ?_)
        exact hJ55  M14  h
      refine r_icmp_ne (pc := 34) (tgt := 46) C dX11_readHalf_34 (by decide) h (fun _ h => ?_) (fun _ h => ?_)
      · exact hJ46  M8  h
      · refine r_aload_n (pc := 37) C dX11_readHalf_37 rfl rfl ?_
        refine r_getI (pc := 38) C kX11_175 h0 dX11_readHalf_38 ?_
        refine r_bipush (pc := 41) (v := (nI 59)) C dX11_readHalf_41 (by decide) ?_
        refine r_icmp_eq (pc := 43) (tgt := 55) C dX11_readHalf_43 (by decide) h (fun _ h => ?_) (fun _ h => ?_)
        · exact hJ55  M8  h
        · exact hJ46  M8  h
  refine r_if_ne (pc := 5) (tgt := 12) C dX11_readHalf_5 (by decide) h (fun _ h => ?_) (fun _ h => ?_)
  · refine r_iconst (pc := 12) (v := (nI 0)) C dX11_readHalf_12 (by decide) ?_
    exact hJ13 (nI 0) M2  h
  · refine r_iconst (pc := 8) (v := (nI 1)) C dX11_readHalf_8 (by decide) ?_
    refine r_goto (pc := 9) (tgt := 13) C dX11_readHalf_9 (by decide) ?_
    exact hJ13 (nI 1) M2  h
theorem dX11_readLine_0 : decode cX11_readLine 0 = .ok (.aload_n 0, 1) := by decide +kernel
theorem dX11_readLine_1 : decode cX11_readLine 1 = .ok (.ldc 212, 2) := by decide +kernel
theorem dX11_readLine_3 : decode cX11_readLine 3 = .ok (.invokevirtual 192, 3) := by decide +kernel
theorem dX11_readLine_6 : decode cX11_readLine 6 = .ok (.ifCond .ne 30, 3) := by decide +kernel
theorem dX11_readLine_9 : decode cX11_readLine 9 = .ok (.aload_n 0, 1) := by decide +kernel
theorem dX11_readLine_10 : decode cX11_readLine 10 = .ok (.ldc 214, 2) := by decide +kernel
theorem dX11_readLine_12 : decode cX11_readLine 12 = .ok (.invokevirtual 192, 3) := by decide +kernel
theorem dX11_readLine_15 : decode cX11_readLine 15 = .ok (.ifCond .ne 21, 3) := by decide +kernel
theorem dX11_readLine_18 : decode cX11_readLine 18 = .ok (.aload_n 0, 1) := by decide +kernel
theorem dX11_readLine_19 : decode cX11_readLine 19 = .ok (.ldc 216, 2) := by decide +kernel
theorem dX11_readLine_21 : decode cX11_readLine 21 = .ok (.invokevirtual 192, 3) := by decide +kernel
theorem dX11_readLine_24 : decode cX11_readLine 24 = .ok (.ifCond .ne 12, 3) := by decide +kernel
theorem dX11_readLine_27 : decode cX11_readLine 27 = .ok (.aload_n 0, 1) := by decide +kernel
theorem dX11_readLine_28 : decode cX11_readLine 28 = .ok (.ldc 218, 2) := by decide +kernel
theorem dX11_readLine_30 : decode cX11_readLine 30 = .ok (.invokevirtual 192, 3) := by decide +kernel
theorem dX11_readLine_33 : decode cX11_readLine 33 = .ok (.ifCond .eq 7, 3) := by decide +kernel
theorem dX11_readLine_36 : decode cX11_readLine 36 = .ok (.iconst 1, 1) := by decide +kernel
theorem dX11_readLine_37 : decode cX11_readLine 37 = .ok (.goto 4, 3) := by decide +kernel
theorem dX11_readLine_40 : decode cX11_readLine 40 = .ok (.iconst 0, 1) := by decide +kernel
theorem dX11_readLine_41 : decode cX11_readLine 41 = .ok (.istore_n 1, 1) := by decide +kernel
theorem dX11_readLine_42 : decode cX11_readLine 42 = .ok (.iload_n 1, 1) := by decide +kernel
theorem dX11_readLine_43 : decode cX11_readLine 43 = .ok (.ifCond .eq 27, 3) := by decide +kernel
theorem dX11_readLine_46 : decode cX11_readLine 46 = .ok (.aload_n 0, 1) := by decide +kernel
theorem dX11_readLine_47 : decode cX11_readLine 47 = .ok (.getfield 16, 3) := by decide +kernel
theorem dX11_readLine_50 : decode cX11_readLine 50 = .ok (.bipush 26, 2) := by decide +kernel
theorem dX11_readLine_52 : decode cX11_readLine 52 = .ok (.laload, 1) := by decide +kernel
theorem dX11_readLine_53 : decode cX11_readLine 53 = .ok (.ldc2_w 137, 3) := by decide +kernel
theorem dX11_readLine_56 : decode cX11_readLine 56 = .ok (.lcmp, 1) := by decide +kernel
theorem dX11_readLine_57 : decode cX11_readLine 57 = .ok (.ifCond .ne 13, 3) := by decide +kernel
theorem dX11_readLine_60 : decode cX11_readLine 60 = .ok (.aload_n 0, 1) := by decide +kernel
theorem dX11_readLine_61 : decode cX11_readLine 61 = .ok (.bipush 7, 2) := by decide +kernel
theorem dX11_readLine_63 : decode cX11_readLine 63 = .ok (.aload_n 0, 1) := by decide +kernel
theorem dX11_readLine_64 : decode cX11_readLine 64 = .ok (.getfield 161, 3) := by decide +kernel
theorem dX11_readLine_67 : decode cX11_readLine 67 = .ok (.invokevirtual 202, 3) := by decide +kernel
theorem dX11_readLine_70 : decode cX11_readLine 70 = .ok (.aload_n 0, 1) := by decide +kernel
theorem dX11_readLine_71 : decode cX11_readLine 71 = .ok (.ldc 210, 2) := by decide +kernel
theorem dX11_readLine_73 : decode cX11_readLine 73 = .ok (.invokevirtual 192, 3) := by decide +kernel
theorem dX11_readLine_76 : decode cX11_readLine 76 = .ok (.ifCond .eq 10, 3) := by decide +kernel
theorem dX11_readLine_79 : decode cX11_readLine 79 = .ok (.aload_n 0, 1) := by decide +kernel
theorem dX11_readLine_80 : decode cX11_readLine 80 = .ok (.invokevirtual 311, 3) := by decide +kernel
theorem dX11_readLine_83 : decode cX11_readLine 83 = .ok (.goto 76, 3) := by decide +kernel
theorem dX11_readLine_86 : decode cX11_readLine 86 = .ok (.aload_n 0, 1) := by decide +kernel
theorem dX11_readLine_87 : decode cX11_readLine 87 = .ok (.ldc 212, 2) := by decide +kernel
theorem dX11_readLine_89 : decode cX11_readLine 89 = .ok (.invokevirtual 192, 3) := by decide +kernel
theorem dX11_readLine_92 : decode cX11_readLine 92 = .ok (.ifCond .eq 10, 3) := by decide +kernel
theorem dX11_readLine_95 : decode cX11_readLine 95 = .ok (.aload_n 0, 1) := by decide +kernel
theorem dX11_readLine_96 : decode cX11_readLine 96 = .ok (.invokevirtual 314, 3) := by decide +kernel
theorem dX11_readLine_99 : decode cX11_readLine 99 = .ok (.goto 60, 3) := by decide +kernel
theorem dX11_readLine_102 : decode cX11_readLine 102 = .ok (.aload_n 0, 1) := by decide +kernel
theorem dX11_readLine_103 : decode cX11_readLine 103 = .ok (.ldc 214, 2) := by decide +kernel
theorem dX11_readLine_105 : decode cX11_readLine 105 = .ok (.invokevirtual 192, 3) := by decide +kernel
theorem dX11_readLine_108 : decode cX11_readLine 108 = .ok (.ifCond .eq 10, 3) := by decide +kernel
theorem dX11_readLine_111 : decode cX11_readLine 111 = .ok (.aload_n 0, 1) := by decide +kernel
theorem dX11_readLine_112 : decode cX11_readLine 112 = .ok (.invokevirtual 317, 3) := by decide +kernel
theorem dX11_readLine_115 : decode cX11_readLine 115 = .ok (.goto 44, 3) := by decide +kernel
theorem dX11_readLine_118 : decode cX11_readLine 118 = .ok (.aload_n 0, 1) := by decide +kernel
theorem dX11_readLine_119 : decode cX11_readLine 119 = .ok (.ldc 216, 2) := by decide +kernel
theorem dX11_readLine_121 : decode cX11_readLine 121 = .ok (.invokevirtual 192, 3) := by decide +kernel
theorem dX11_readLine_124 : decode cX11_readLine 124 = .ok (.ifCond .eq 10, 3) := by decide +kernel
theorem dX11_readLine_127 : decode cX11_readLine 127 = .ok (.aload_n 0, 1) := by decide +kernel
theorem dX11_readLine_128 : decode cX11_readLine 128 = .ok (.invokevirtual 320, 3) := by decide +kernel
theorem dX11_readLine_131 : decode cX11_readLine 131 = .ok (.goto 28, 3) := by decide +kernel
theorem dX11_readLine_134 : decode cX11_readLine 134 = .ok (.aload_n 0, 1) := by decide +kernel
theorem dX11_readLine_135 : decode cX11_readLine 135 = .ok (.ldc 218, 2) := by decide +kernel
theorem dX11_readLine_137 : decode cX11_readLine 137 = .ok (.invokevirtual 192, 3) := by decide +kernel
theorem dX11_readLine_140 : decode cX11_readLine 140 = .ok (.ifCond .eq 10, 3) := by decide +kernel
theorem dX11_readLine_143 : decode cX11_readLine 143 = .ok (.aload_n 0, 1) := by decide +kernel
theorem dX11_readLine_144 : decode cX11_readLine 144 = .ok (.invokevirtual 323, 3) := by decide +kernel
theorem dX11_readLine_147 : decode cX11_readLine 147 = .ok (.goto 12, 3) := by decide +kernel
theorem dX11_readLine_150 : decode cX11_readLine 150 = .ok (.aload_n 0, 1) := by decide +kernel
theorem dX11_readLine_151 : decode cX11_readLine 151 = .ok (.iconst 1, 1) := by decide +kernel
theorem dX11_readLine_152 : decode cX11_readLine 152 = .ok (.aload_n 0, 1) := by decide +kernel
theorem dX11_readLine_153 : decode cX11_readLine 153 = .ok (.getfield 161, 3) := by decide +kernel
theorem dX11_readLine_156 : decode cX11_readLine 156 = .ok (.invokevirtual 202, 3) := by decide +kernel
theorem dX11_readLine_159 : decode cX11_readLine 159 = .ok (.aload_n 0, 1) := by decide +kernel
theorem dX11_readLine_160 : decode cX11_readLine 160 = .ok (.bipush 59, 2) := by decide +kernel
theorem dX11_readLine_162 : decode cX11_readLine 162 = .ok (.invokevirtual 262, 3) := by decide +kernel
theorem dX11_readLine_165 : decode cX11_readLine 165 = .ok (.return_, 1) := by decide +kernel
def fX11_readLine (a0 : Nat) (M : xMem) : Option (xMem) :=
  xBn (fX11_isWord a0 9 M) fun r1 M2 => xLt (fun (s3 : Int32) (M4 : xMem) => (xLt (fun  (M5 : xMem) => (xBn (fX11_isWord a0 8 M5) fun r6 M7 => xLt (fun  (M8 : xMem) => (xBv (fX11_passesByte a0 (nI 59) M8) fun M9 => some M9 : Option (xMem))) fun J159 => if r6 = 0 then (xBn (fX11_isWord a0 9 M7) fun r10 M11 => if r10 = 0 then (xBn (fX11_isWord a0 10 M11) fun r12 M13 => if r12 = 0 then (xBn (fX11_isWord a0 11 M13) fun r14 M15 => if r14 = 0 then (xBn (fX11_isWord a0 12 M15) fun r16 M17 => if r16 = 0 then (xBv (fX11_errs a0 (nI 1) (M17.1 a0 14) M17) fun M18 => J159  M18) else (xBv (fX11_readReview a0 M17) fun M19 => J159  M19)) else (xBv (fX11_readHalf a0 M15) fun M20 => J159  M20)) else (xBv (fX11_readChange a0 M13) fun M21 => J159  M21)) else (xBv (fX11_readCard a0 M11) fun M22 => J159  M22)) else (xBv (fX11_readRaid a0 M7) fun M23 => J159  M23) : Option (xMem))) fun J70 => if s3 = 0 then (J70  M4) else (xGb (nI 26) (xln (xnw M4)) (if (lg_cmp (M4.2.1 (xnw M4) (Int32.toNatClampNeg (nI 26))) (lN 40)) = 0 then (xBv (fX11_errs a0 (nI 7) (M4.1 a0 14) M4) fun M25 => J70  M25) else (J70  M4))) : Option (xMem))) fun J41 => if r1 = 0 then (xBn (fX11_isWord a0 10 M2) fun r26 M27 => if r26 = 0 then (xBn (fX11_isWord a0 11 M27) fun r28 M29 => if r28 = 0 then (xBn (fX11_isWord a0 12 M29) fun r30 M31 => if r30 = 0 then (J41 (nI 0) M31) else (J41 (nI 1) M31)) else (J41 (nI 1) M29)) else (J41 (nI 1) M27)) else (J41 (nI 1) M2)
set_option maxRecDepth 100000 in
set_option maxHeartbeats 4000000 in
theorem zX11_readLine (G : xGX) (a0 : Nat) (h0 : xkd a0 = 11) (M : xMem) (M' : xMem) (h : fX11_readLine a0 M = some M') : xCt G yX11_readLine cX11_readLine 2 none 11 [vr G a0] M (none, M') := by
  refine xMet (lv := [some (vr G a0), none]) (by decide) (Nat.le_of_ble_eq_true rfl) rfl ?_
  intro X hG hnL C R0
  subst hG
  have C : xCk X cX11_readLine RX11 11 := C
  have hn1 : 1 < X.2.2.2.2.2.2.2.2.2.2.2.2.2 := by rw [hnL]; decide
  unfold fX11_readLine at h
  refine r_aload_n (pc := 0) C dX11_readLine_0 rfl rfl ?_
  refine r_ldcS (pc := 1) (i := 9) C (by decide) rfl dX11_readLine_1 ?_
  refine r_vI1 (pc := 3) C (fun r M' e => zX11_isWord X.1 a0 h0 9 (by decide) M r M' e) h0 (by decide) rfl mX11_isWord lX11_192 (by decide) (Nat.le_of_ble_eq_true rfl) dX11_readLine_3 h (fun r1 M2 h => ?_)
  refine r_jn (fun J => ∀ (s3 : Int32) (M4 : xMem) , J s3 M4 = some M' → WW X 41 [some (vr X.1 a0), none] [.int s3] M4) h (fun s3 M4  h => ?_) (fun J41 hJ41 h => ?_)
  · refine r_istore_n (pc := 41) (lv' := [_, _]) C dX11_readLine_41 rfl hn1 rfl ?_
    refine r_iload_n (pc := 42) C dX11_readLine_42 rfl rfl ?_
    refine r_jn (fun J => ∀  (M5 : xMem) , J  M5 = some M' → WW X 70 [some (vr X.1 a0), some (.int s3)] [] M5) h (fun  M5  h => ?_) (fun J70 hJ70 h => ?_)
    · refine r_aload_n (pc := 70) C dX11_readLine_70 rfl rfl ?_
      refine r_ldcS (pc := 71) (i := 8) C (by decide) rfl dX11_readLine_71 ?_
      refine r_vI1 (pc := 73) C (fun r M' e => zX11_isWord X.1 a0 h0 8 (by decide) M5 r M' e) h0 (by decide) rfl mX11_isWord lX11_192 (by decide) (Nat.le_of_ble_eq_true rfl) dX11_readLine_73 h (fun r6 M7 h => ?_)
      refine r_jn (fun J => ∀  (M8 : xMem) , J  M8 = some M' → WW X 159 [some (vr X.1 a0), some (.int s3)] [] M8) h (fun  M8  h => ?_) (fun J159 hJ159 h => ?_)
      · refine r_aload_n (pc := 159) C dX11_readLine_159 rfl rfl ?_
        refine r_bipush (pc := 160) (v := (nI 59)) C dX11_readLine_160 (by decide) ?_
        refine r_vV1 (pc := 162) C (fun M' e => zX11_passesByte X.1 a0 h0 (nI 59) M8 M' e) h0 (by decide) rfl mX11_passesByte lX11_262 (by decide) (Nat.le_of_ble_eq_true rfl) dX11_readLine_162 h (fun M9 h => ?_)
        exact r_vret (pc := 165) C R0 h dX11_readLine_165
      refine r_if_eq (pc := 76) (tgt := 86) C dX11_readLine_76 (by decide) h (fun _ h => ?_) (fun _ h => ?_)
      · refine r_aload_n (pc := 86) C dX11_readLine_86 rfl rfl ?_
        refine r_ldcS (pc := 87) (i := 9) C (by decide) rfl dX11_readLine_87 ?_
        refine r_vI1 (pc := 89) C (fun r M' e => zX11_isWord X.1 a0 h0 9 (by decide) M7 r M' e) h0 (by decide) rfl mX11_isWord lX11_192 (by decide) (Nat.le_of_ble_eq_true rfl) dX11_readLine_89 h (fun r10 M11 h => ?_)
        refine r_if_eq (pc := 92) (tgt := 102) C dX11_readLine_92 (by decide) h (fun _ h => ?_) (fun _ h => ?_)
        · refine r_aload_n (pc := 102) C dX11_readLine_102 rfl rfl ?_
          refine r_ldcS (pc := 103) (i := 10) C (by decide) rfl dX11_readLine_103 ?_
          refine r_vI1 (pc := 105) C (fun r M' e => zX11_isWord X.1 a0 h0 10 (by decide) M11 r M' e) h0 (by decide) rfl mX11_isWord lX11_192 (by decide) (Nat.le_of_ble_eq_true rfl) dX11_readLine_105 h (fun r12 M13 h => ?_)
          refine r_if_eq (pc := 108) (tgt := 118) C dX11_readLine_108 (by decide) h (fun _ h => ?_) (fun _ h => ?_)
          · refine r_aload_n (pc := 118) C dX11_readLine_118 rfl rfl ?_
            refine r_ldcS (pc := 119) (i := 11) C (by decide) rfl dX11_readLine_119 ?_
            refine r_vI1 (pc := 121) C (fun r M' e => zX11_isWord X.1 a0 h0 11 (by decide) M13 r M' e) h0 (by decide) rfl mX11_isWord lX11_192 (by decide) (Nat.le_of_ble_eq_true rfl) dX11_readLine_121 h (fun r14 M15 h => ?_)
            refine r_if_eq (pc := 124) (tgt := 134) C dX11_readLine_124 (by decide) h (fun _ h => ?_) (fun _ h => ?_)
            · refine r_aload_n (pc := 134) C dX11_readLine_134 rfl rfl ?_
              refine r_ldcS (pc := 135) (i := 12) C (by decide) rfl dX11_readLine_135 ?_
              refine r_vI1 (pc := 137) C (fun r M' e => zX11_isWord X.1 a0 h0 12 (by decide) M15 r M' e) h0 (by decide) rfl mX11_isWord lX11_192 (by decide) (Nat.le_of_ble_eq_true rfl) dX11_readLine_137 h (fun r16 M17 h => ?_)
              refine r_if_eq (pc := 140) (tgt := 150) C dX11_readLine_140 (by decide) h (fun _ h => ?_) (fun _ h => ?_)
              · refine r_aload_n (pc := 150) C dX11_readLine_150 rfl rfl ?_
                refine r_iconst (pc := 151) (v := (nI 1)) C dX11_readLine_151 (by decide) ?_
                refine r_aload_n (pc := 152) C dX11_readLine_152 rfl rfl ?_
                refine r_getI (pc := 153) C kX11_161 h0 dX11_readLine_153 ?_
                refine r_vV2 (pc := 156) C (fun M' e => zX11_errs X.1 a0 h0 (nI 1) (M17.1 a0 14) M17 M' e) h0 (by decide) rfl mX11_errs lX11_202 (by decide) (Nat.le_of_ble_eq_true rfl) dX11_readLine_156 h (fun M18 h => ?_)
                exact hJ159  M18  h
              · refine r_aload_n (pc := 143) C dX11_readLine_143 rfl rfl ?_
                refine r_vV0 (pc := 144) C (fun M' e => zX11_readReview X.1 a0 h0 M17 M' e) h0 (by decide) rfl mX11_readReview lX11_323 (by decide) (Nat.le_of_ble_eq_true rfl) dX11_readLine_144 h (fun M19 h => ?_)
                refine r_goto (pc := 147) (tgt := 159) C dX11_readLine_147 (by decide) ?_
                exact hJ159  M19  h
            · refine r_aload_n (pc := 127) C dX11_readLine_127 rfl rfl ?_
              refine r_vV0 (pc := 128) C (fun M' e => zX11_readHalf X.1 a0 h0 M15 M' e) h0 (by decide) rfl mX11_readHalf lX11_320 (by decide) (Nat.le_of_ble_eq_true rfl) dX11_readLine_128 h (fun M20 h => ?_)
              refine r_goto (pc := 131) (tgt := 159) C dX11_readLine_131 (by decide) ?_
              exact hJ159  M20  h
          · refine r_aload_n (pc := 111) C dX11_readLine_111 rfl rfl ?_
            refine r_vV0 (pc := 112) C (fun M' e => zX11_readChange X.1 a0 h0 M13 M' e) h0 (by decide) rfl mX11_readChange lX11_317 (by decide) (Nat.le_of_ble_eq_true rfl) dX11_readLine_112 h (fun M21 h => ?_)
            refine r_goto (pc := 115) (tgt := 159) C dX11_readLine_115 (by decide) ?_
            exact hJ159  M21  h
        · refine r_aload_n (pc := 95) C dX11_readLine_95 rfl rfl ?_
          refine r_vV0 (pc := 96) C (fun M' e => zX11_readCard X.1 a0 h0 M11 M' e) h0 (by decide) rfl mX11_readCard lX11_314 (by decide) (Nat.le_of_ble_eq_true rfl) dX11_readLine_96 h (fun M22 h => ?_)
          refine r_goto (pc := 99) (tgt := 159) C dX11_readLine_99 (by decide) ?_
          exact hJ159  M22  h
      · refine r_aload_n (pc := 79) C dX11_readLine_79 rfl rfl ?_
        refine r_vV0 (pc := 80) C (fun M' e => zX11_readRaid X.1 a0 h0 M7 M' e) h0 (by decide) rfl mX11_readRaid lX11_311 (by decide) (Nat.le_of_ble_eq_true rfl) dX11_readLine_80 h (fun M23 h => ?_)
        refine r_goto (pc := 83) (tgt := 159) C dX11_readLine_83 (by decide) ?_
        exact hJ159  M23  h
    refine r_if_eq (pc := 43) (tgt := 70) C dX11_readLine_43 (by decide) h (fun _ h => ?_) (fun _ h => ?_)
    · exact hJ70  M4  h
    · refine r_aload_n (pc := 46) C dX11_readLine_46 rfl rfl ?_
      refine r_getW (pc := 47) C kX11_16 h0 dX11_readLine_47 ?_
      refine r_bipush (pc := 50) (v := (nI 26)) C dX11_readLine_50 (by decide) ?_
      obtain ⟨g24, h⟩ := xGb_of h
      refine r_lald (pc := 52) C (xknw M4) g24 dX11_readLine_52 ?_
      refine r_ldc2 (pc := 53) C nX11_137 dX11_readLine_53 ?_
      refine r_lcmp (pc := 56) C dX11_readLine_56 ?_
      refine r_if_ne (pc := 57) (tgt := 70) C dX11_readLine_57 (by decide) h (fun _ h => ?_) (fun _ h => ?_)
      · exact hJ70  M4  h
      · refine r_aload_n (pc := 60) C dX11_readLine_60 rfl rfl ?_
        refine r_bipush (pc := 61) (v := (nI 7)) C dX11_readLine_61 (by decide) ?_
        refine r_aload_n (pc := 63) C dX11_readLine_63 rfl rfl ?_
        refine r_getI (pc := 64) C kX11_161 h0 dX11_readLine_64 ?_
        refine r_vV2 (pc := 67) C (fun M' e => zX11_errs X.1 a0 h0 (nI 7) (M4.1 a0 14) M4 M' e) h0 (by decide) rfl mX11_errs lX11_202 (by decide) (Nat.le_of_ble_eq_true rfl) dX11_readLine_67 h (fun M25 h => ?_)
        exact hJ70  M25  h
  refine r_if_ne (pc := 6) (tgt := 36) C dX11_readLine_6 (by decide) h (fun _ h => ?_) (fun _ h => ?_)
  · refine r_iconst (pc := 36) (v := (nI 1)) C dX11_readLine_36 (by decide) ?_
    refine r_goto (pc := 37) (tgt := 41) C dX11_readLine_37 (by decide) ?_
    exact hJ41 (nI 1) M2  h
  · refine r_aload_n (pc := 9) C dX11_readLine_9 rfl rfl ?_
    refine r_ldcS (pc := 10) (i := 10) C (by decide) rfl dX11_readLine_10 ?_
    refine r_vI1 (pc := 12) C (fun r M' e => zX11_isWord X.1 a0 h0 10 (by decide) M2 r M' e) h0 (by decide) rfl mX11_isWord lX11_192 (by decide) (Nat.le_of_ble_eq_true rfl) dX11_readLine_12 h (fun r26 M27 h => ?_)
    refine r_if_ne (pc := 15) (tgt := 36) C dX11_readLine_15 (by decide) h (fun _ h => ?_) (fun _ h => ?_)
    · refine r_iconst (pc := 36) (v := (nI 1)) C dX11_readLine_36 (by decide) ?_
      refine r_goto (pc := 37) (tgt := 41) C dX11_readLine_37 (by decide) ?_
      exact hJ41 (nI 1) M27  h
    · refine r_aload_n (pc := 18) C dX11_readLine_18 rfl rfl ?_
      refine r_ldcS (pc := 19) (i := 11) C (by decide) rfl dX11_readLine_19 ?_
      refine r_vI1 (pc := 21) C (fun r M' e => zX11_isWord X.1 a0 h0 11 (by decide) M27 r M' e) h0 (by decide) rfl mX11_isWord lX11_192 (by decide) (Nat.le_of_ble_eq_true rfl) dX11_readLine_21 h (fun r28 M29 h => ?_)
      refine r_if_ne (pc := 24) (tgt := 36) C dX11_readLine_24 (by decide) h (fun _ h => ?_) (fun _ h => ?_)
      · refine r_iconst (pc := 36) (v := (nI 1)) C dX11_readLine_36 (by decide) ?_
        refine r_goto (pc := 37) (tgt := 41) C dX11_readLine_37 (by decide) ?_
        exact hJ41 (nI 1) M29  h
      · refine r_aload_n (pc := 27) C dX11_readLine_27 rfl rfl ?_
        refine r_ldcS (pc := 28) (i := 12) C (by decide) rfl dX11_readLine_28 ?_
        refine r_vI1 (pc := 30) C (fun r M' e => zX11_isWord X.1 a0 h0 12 (by decide) M29 r M' e) h0 (by decide) rfl mX11_isWord lX11_192 (by decide) (Nat.le_of_ble_eq_true rfl) dX11_readLine_30 h (fun r30 M31 h => ?_)
        refine r_if_eq (pc := 33) (tgt := 40) C dX11_readLine_33 (by decide) h (fun _ h => ?_) (fun _ h => ?_)
        · refine r_iconst (pc := 40) (v := (nI 0)) C dX11_readLine_40 (by decide) ?_
          exact hJ41 (nI 0) M31  h
        · refine r_iconst (pc := 36) (v := (nI 1)) C dX11_readLine_36 (by decide) ?_
          refine r_goto (pc := 37) (tgt := 41) C dX11_readLine_37 (by decide) ?_
          exact hJ41 (nI 1) M31  h
theorem dX11_readAll_0 : decode cX11_readAll 0 = .ok (.iconst 0, 1) := by decide +kernel
theorem dX11_readAll_1 : decode cX11_readAll 1 = .ok (.istore_n 1, 1) := by decide +kernel
theorem dX11_readAll_2 : decode cX11_readAll 2 = .ok (.iload_n 1, 1) := by decide +kernel
theorem dX11_readAll_3 : decode cX11_readAll 3 = .ok (.sipush 3235, 3) := by decide +kernel
theorem dX11_readAll_6 : decode cX11_readAll 6 = .ok (.if_icmp .ge 16, 3) := by decide +kernel
theorem dX11_readAll_9 : decode cX11_readAll 9 = .ok (.aload_n 0, 1) := by decide +kernel
theorem dX11_readAll_10 : decode cX11_readAll 10 = .ok (.getfield 16, 3) := by decide +kernel
theorem dX11_readAll_13 : decode cX11_readAll 13 = .ok (.iload_n 1, 1) := by decide +kernel
theorem dX11_readAll_14 : decode cX11_readAll 14 = .ok (.lconst 0, 1) := by decide +kernel
theorem dX11_readAll_15 : decode cX11_readAll 15 = .ok (.lastore, 1) := by decide +kernel
theorem dX11_readAll_16 : decode cX11_readAll 16 = .ok (.iinc 1 1, 3) := by decide +kernel
theorem dX11_readAll_19 : decode cX11_readAll 19 = .ok (.goto (-17), 3) := by decide +kernel
theorem dX11_readAll_22 : decode cX11_readAll 22 = .ok (.aload_n 0, 1) := by decide +kernel
theorem dX11_readAll_23 : decode cX11_readAll 23 = .ok (.getfield 16, 3) := by decide +kernel
theorem dX11_readAll_26 : decode cX11_readAll 26 = .ok (.iconst 0, 1) := by decide +kernel
theorem dX11_readAll_27 : decode cX11_readAll 27 = .ok (.lconst 1, 1) := by decide +kernel
theorem dX11_readAll_28 : decode cX11_readAll 28 = .ok (.lastore, 1) := by decide +kernel
theorem dX11_readAll_29 : decode cX11_readAll 29 = .ok (.aload_n 0, 1) := by decide +kernel
theorem dX11_readAll_30 : decode cX11_readAll 30 = .ok (.invokevirtual 196, 3) := by decide +kernel
theorem dX11_readAll_33 : decode cX11_readAll 33 = .ok (.aload_n 0, 1) := by decide +kernel
theorem dX11_readAll_34 : decode cX11_readAll 34 = .ok (.iconst 0, 1) := by decide +kernel
theorem dX11_readAll_35 : decode cX11_readAll 35 = .ok (.invokevirtual 326, 3) := by decide +kernel
theorem dX11_readAll_38 : decode cX11_readAll 38 = .ok (.aload_n 0, 1) := by decide +kernel
theorem dX11_readAll_39 : decode cX11_readAll 39 = .ok (.iconst 1, 1) := by decide +kernel
theorem dX11_readAll_40 : decode cX11_readAll 40 = .ok (.invokevirtual 326, 3) := by decide +kernel
theorem dX11_readAll_43 : decode cX11_readAll 43 = .ok (.iconst 0, 1) := by decide +kernel
theorem dX11_readAll_44 : decode cX11_readAll 44 = .ok (.istore_n 1, 1) := by decide +kernel
theorem dX11_readAll_45 : decode cX11_readAll 45 = .ok (.aload_n 0, 1) := by decide +kernel
theorem dX11_readAll_46 : decode cX11_readAll 46 = .ok (.invokevirtual 149, 3) := by decide +kernel
theorem dX11_readAll_49 : decode cX11_readAll 49 = .ok (.ifCond .eq 20, 3) := by decide +kernel
theorem dX11_readAll_52 : decode cX11_readAll 52 = .ok (.aload_n 0, 1) := by decide +kernel
theorem dX11_readAll_53 : decode cX11_readAll 53 = .ok (.getfield 164, 3) := by decide +kernel
theorem dX11_readAll_56 : decode cX11_readAll 56 = .ok (.ifCond .eq 13, 3) := by decide +kernel
theorem dX11_readAll_59 : decode cX11_readAll 59 = .ok (.aload_n 0, 1) := by decide +kernel
theorem dX11_readAll_60 : decode cX11_readAll 60 = .ok (.invokevirtual 329, 3) := by decide +kernel
theorem dX11_readAll_63 : decode cX11_readAll 63 = .ok (.iinc 1 1, 3) := by decide +kernel
theorem dX11_readAll_66 : decode cX11_readAll 66 = .ok (.goto (-21), 3) := by decide +kernel
theorem dX11_readAll_69 : decode cX11_readAll 69 = .ok (.iload_n 1, 1) := by decide +kernel
theorem dX11_readAll_70 : decode cX11_readAll 70 = .ok (.ireturn, 1) := by decide +kernel
def fX11_readAll_l2 (p0 : Nat) (K : Int32 → xMem → Option (Int32 × xMem)) : Nat → Int32 → xMem → Option (Int32 × xMem)
  | 0, _, _ => none
  | n + 1, v1, M => if (nI 3235) ≤ v1 then (K v1 M) else (xGb v1 (xln (xnw M)) (xLt (xwL M (xnw M) (Int32.toNatClampNeg v1) (lN 0)) fun M2 => xLt (v1 + nI 1) fun x3 => fX11_readAll_l2 p0 K n x3 M2))
def fX11_readAll_l45 (p0 : Nat) (K : Int32 → xMem → Option (Int32 × xMem)) : Nat → Int32 → xMem → Option (Int32 × xMem)
  | 0, _, _ => none
  | n + 1, v1, M => xBn (fX11_good p0 M) fun r11 M12 => if r11 = 0 then (K v1 M12) else (if (M12.1 p0 15) = 0 then (K v1 M12) else (xBv (fX11_readLine p0 M12) fun M13 => xLt (v1 + nI 1) fun x14 => fX11_readAll_l45 p0 K n x14 M13))
def fX11_readAll (a0 : Nat) (M : xMem) : Option (Int32 × xMem) :=
  fX11_readAll_l2 a0 (fun (v4 : Int32) (M5 : xMem) => xGb (nI 0) (xln (xnw M5)) (xLt (xwL M5 (xnw M5) (Int32.toNatClampNeg (nI 0)) (lN 1)) fun M7 => xBv (fX11_advance a0 M7) fun M8 => xBv (fX11_readTeam a0 (nI 0) M8) fun M9 => xBv (fX11_readTeam a0 (nI 1) M9) fun M10 => fX11_readAll_l45 a0 (fun (v15 : Int32) (M16 : xMem) => some (v15, M16)) xFU (nI 0) M10)) xFU (nI 0) M
set_option maxRecDepth 100000 in
set_option maxHeartbeats 4000000 in
theorem lX11_readAll_2 {X : xCX} {r : Int32} {M' : xMem} (C : xCk X cX11_readAll RX11 12) (R0 : xRk X (some .int) (some (.int r), M')) (hnL : X.2.2.2.2.2.2.2.2.2.2.2.2.2 = 2) (p0 : Nat) (hp0 : xkd p0 = 11) (K : Int32 → xMem → Option (Int32 × xMem)) (hK : ∀ (v1 : Int32) (M : xMem), K v1 M = some (r, M') → WW X 22 [some (vr X.1 p0), some (.int v1)] [] M) : ∀ (n : Nat) (v1 : Int32) (M : xMem), fX11_readAll_l2 p0 K n v1 M = some (r, M') → WW X 2 [some (vr X.1 p0), some (.int v1)] [] M := by
  have hn1 : 1 < X.2.2.2.2.2.2.2.2.2.2.2.2.2 := by rw [hnL]; decide
  intro n
  induction n with
  | zero =>
    intro v1 M h
    cases (show (none : Option (Int32 × xMem)) = some (r, M') from h)
  | succ n ih =>
    intro v1 M h
    rw [fX11_readAll_l2.eq_2] at h
    refine r_iload_n (pc := 2) C dX11_readAll_2 rfl rfl ?_
    refine r_sipush (pc := 3) (v := (nI 3235)) C dX11_readAll_3 (by decide) ?_
    refine r_icmp_ge (pc := 6) (tgt := 22) C dX11_readAll_6 (by decide) h (fun _ h => ?_) (fun _ h => ?_)
    · exact hK v1 M h
    · refine r_aload_n (pc := 9) C dX11_readAll_9 rfl rfl ?_
      refine r_getW (pc := 10) C kX11_16 hp0 dX11_readAll_10 ?_
      refine r_iload_n (pc := 13) C dX11_readAll_13 rfl rfl ?_
      refine r_lconst (pc := 14) (v := lN 0) C dX11_readAll_14 rfl ?_
      obtain ⟨g1, h⟩ := xGb_of h
      refine r_last (pc := 15) C (xknw M) g1 dX11_readAll_15 ?_
      refine r_letM h (fun M2 h => ?_)
      refine r_iincL (pc := 16) (c := nI 1) C dX11_readAll_16 rfl (by decide) hn1 h (fun x3 h => ?_)
      refine r_lvE (lv' := [_, _]) rfl ?_
      refine r_goto (pc := 19) (tgt := 2) C dX11_readAll_19 (by decide) ?_
      exact ih x3 M2 h
set_option maxRecDepth 100000 in
set_option maxHeartbeats 4000000 in
theorem lX11_readAll_45 {X : xCX} {r : Int32} {M' : xMem} (C : xCk X cX11_readAll RX11 12) (R0 : xRk X (some .int) (some (.int r), M')) (hnL : X.2.2.2.2.2.2.2.2.2.2.2.2.2 = 2) (p0 : Nat) (hp0 : xkd p0 = 11) (K : Int32 → xMem → Option (Int32 × xMem)) (hK : ∀ (v1 : Int32) (M : xMem), K v1 M = some (r, M') → WW X 69 [some (vr X.1 p0), some (.int v1)] [] M) : ∀ (n : Nat) (v1 : Int32) (M : xMem), fX11_readAll_l45 p0 K n v1 M = some (r, M') → WW X 45 [some (vr X.1 p0), some (.int v1)] [] M := by
  have hn1 : 1 < X.2.2.2.2.2.2.2.2.2.2.2.2.2 := by rw [hnL]; decide
  intro n
  induction n with
  | zero =>
    intro v1 M h
    cases (show (none : Option (Int32 × xMem)) = some (r, M') from h)
  | succ n ih =>
    intro v1 M h
    rw [fX11_readAll_l45.eq_2] at h
    refine r_aload_n (pc := 45) C dX11_readAll_45 rfl rfl ?_
    refine r_vI0 (pc := 46) C (fun r M' e => zX11_good X.1 p0 hp0 M r M' e) hp0 (by decide) rfl mX11_good lX11_149 (by decide) (Nat.le_of_ble_eq_true rfl) dX11_readAll_46 h (fun r11 M12 h => ?_)
    refine r_if_eq (pc := 49) (tgt := 69) C dX11_readAll_49 (by decide) h (fun _ h => ?_) (fun _ h => ?_)
    · exact hK v1 M12 h
    · refine r_aload_n (pc := 52) C dX11_readAll_52 rfl rfl ?_
      refine r_getI (pc := 53) C kX11_164 hp0 dX11_readAll_53 ?_
      refine r_if_eq (pc := 56) (tgt := 69) C dX11_readAll_56 (by decide) h (fun _ h => ?_) (fun _ h => ?_)
      · exact hK v1 M12 h
      · refine r_aload_n (pc := 59) C dX11_readAll_59 rfl rfl ?_
        refine r_vV0 (pc := 60) C (fun M' e => zX11_readLine X.1 p0 hp0 M12 M' e) hp0 (by decide) rfl mX11_readLine lX11_329 (by decide) (Nat.le_of_ble_eq_true rfl) dX11_readAll_60 h (fun M13 h => ?_)
        refine r_iincL (pc := 63) (c := nI 1) C dX11_readAll_63 rfl (by decide) hn1 h (fun x14 h => ?_)
        refine r_lvE (lv' := [_, _]) rfl ?_
        refine r_goto (pc := 66) (tgt := 45) C dX11_readAll_66 (by decide) ?_
        exact ih x14 M13 h
set_option maxRecDepth 100000 in
set_option maxHeartbeats 4000000 in
theorem zX11_readAll (G : xGX) (a0 : Nat) (h0 : xkd a0 = 11) (M : xMem) (r : Int32) (M' : xMem) (h : fX11_readAll a0 M = some (r, M')) : xCt G yX11_readAll cX11_readAll 2 (some .int) 12 [vr G a0] M (some (.int r), M') := by
  refine xMet (lv := [some (vr G a0), none]) (by decide) (Nat.le_of_ble_eq_true rfl) rfl ?_
  intro X hG hnL C R0
  subst hG
  have C : xCk X cX11_readAll RX11 12 := C
  have hn1 : 1 < X.2.2.2.2.2.2.2.2.2.2.2.2.2 := by rw [hnL]; decide
  unfold fX11_readAll at h
  refine r_iconst (pc := 0) (v := (nI 0)) C dX11_readAll_0 (by decide) ?_
  refine r_istore_n (pc := 1) (lv' := [_, _]) C dX11_readAll_1 rfl hn1 rfl ?_
  refine lX11_readAll_2 C R0 hnL a0 h0 _ (fun v4 M5 h => ?_) _ _ _ h
  refine r_aload_n (pc := 22) C dX11_readAll_22 rfl rfl ?_
  refine r_getW (pc := 23) C kX11_16 h0 dX11_readAll_23 ?_
  refine r_iconst (pc := 26) (v := (nI 0)) C dX11_readAll_26 (by decide) ?_
  refine r_lconst (pc := 27) (v := lN 1) C dX11_readAll_27 rfl ?_
  obtain ⟨g6, h⟩ := xGb_of h
  refine r_last (pc := 28) C (xknw M5) g6 dX11_readAll_28 ?_
  refine r_letM h (fun M7 h => ?_)
  refine r_aload_n (pc := 29) C dX11_readAll_29 rfl rfl ?_
  refine r_vV0 (pc := 30) C (fun M' e => zX11_advance X.1 a0 h0 M7 M' e) h0 (by decide) rfl mX11_advance lX11_196 (by decide) (Nat.le_of_ble_eq_true rfl) dX11_readAll_30 h (fun M8 h => ?_)
  refine r_aload_n (pc := 33) C dX11_readAll_33 rfl rfl ?_
  refine r_iconst (pc := 34) (v := (nI 0)) C dX11_readAll_34 (by decide) ?_
  refine r_vV1 (pc := 35) C (fun M' e => zX11_readTeam X.1 a0 h0 (nI 0) M8 M' e) h0 (by decide) rfl mX11_readTeam lX11_326 (by decide) (Nat.le_of_ble_eq_true rfl) dX11_readAll_35 h (fun M9 h => ?_)
  refine r_aload_n (pc := 38) C dX11_readAll_38 rfl rfl ?_
  refine r_iconst (pc := 39) (v := (nI 1)) C dX11_readAll_39 (by decide) ?_
  refine r_vV1 (pc := 40) C (fun M' e => zX11_readTeam X.1 a0 h0 (nI 1) M9 M' e) h0 (by decide) rfl mX11_readTeam lX11_326 (by decide) (Nat.le_of_ble_eq_true rfl) dX11_readAll_40 h (fun M10 h => ?_)
  refine r_iconst (pc := 43) (v := (nI 0)) C dX11_readAll_43 (by decide) ?_
  refine r_istore_n (pc := 44) (lv' := [_, _]) C dX11_readAll_44 rfl hn1 rfl ?_
  refine lX11_readAll_45 C R0 hnL a0 h0 _ (fun v15 M16 h => ?_) _ _ _ h
  refine r_iload_n (pc := 69) C dX11_readAll_69 rfl rfl ?_
  exact r_iret (pc := 70) C R0 h dX11_readAll_70
theorem dX11_keeps_0 : decode cX11_keeps 0 = .ok (.aload_n 0, 1) := by decide +kernel
theorem dX11_keeps_1 : decode cX11_keeps 1 = .ok (.getfield 338, 3) := by decide +kernel
theorem dX11_keeps_4 : decode cX11_keeps 4 = .ok (.bipush 10, 2) := by decide +kernel
theorem dX11_keeps_6 : decode cX11_keeps 6 = .ok (.if_icmp .ne 46, 3) := by decide +kernel
theorem dX11_keeps_9 : decode cX11_keeps 9 = .ok (.sipush 3235, 3) := by decide +kernel
theorem dX11_keeps_12 : decode cX11_keeps 12 = .ok (.istore_n 1, 1) := by decide +kernel
theorem dX11_keeps_13 : decode cX11_keeps 13 = .ok (.iload_n 1, 1) := by decide +kernel
theorem dX11_keeps_14 : decode cX11_keeps 14 = .ok (.sipush 32350, 3) := by decide +kernel
theorem dX11_keeps_17 : decode cX11_keeps 17 = .ok (.if_icmp .ge 25, 3) := by decide +kernel
theorem dX11_keeps_20 : decode cX11_keeps 20 = .ok (.aload_n 0, 1) := by decide +kernel
theorem dX11_keeps_21 : decode cX11_keeps 21 = .ok (.getfield 31, 3) := by decide +kernel
theorem dX11_keeps_24 : decode cX11_keeps 24 = .ok (.iload_n 1, 1) := by decide +kernel
theorem dX11_keeps_25 : decode cX11_keeps 25 = .ok (.sipush 3235, 3) := by decide +kernel
theorem dX11_keeps_28 : decode cX11_keeps 28 = .ok (.isub, 1) := by decide +kernel
theorem dX11_keeps_29 : decode cX11_keeps 29 = .ok (.aload_n 0, 1) := by decide +kernel
theorem dX11_keeps_30 : decode cX11_keeps 30 = .ok (.getfield 31, 3) := by decide +kernel
theorem dX11_keeps_33 : decode cX11_keeps 33 = .ok (.iload_n 1, 1) := by decide +kernel
theorem dX11_keeps_34 : decode cX11_keeps 34 = .ok (.laload, 1) := by decide +kernel
theorem dX11_keeps_35 : decode cX11_keeps 35 = .ok (.lastore, 1) := by decide +kernel
theorem dX11_keeps_36 : decode cX11_keeps 36 = .ok (.iinc 1 1, 3) := by decide +kernel
theorem dX11_keeps_39 : decode cX11_keeps 39 = .ok (.goto (-26), 3) := by decide +kernel
theorem dX11_keeps_42 : decode cX11_keeps 42 = .ok (.aload_n 0, 1) := by decide +kernel
theorem dX11_keeps_43 : decode cX11_keeps 43 = .ok (.dup, 1) := by decide +kernel
theorem dX11_keeps_44 : decode cX11_keeps 44 = .ok (.getfield 338, 3) := by decide +kernel
theorem dX11_keeps_47 : decode cX11_keeps 47 = .ok (.iconst 1, 1) := by decide +kernel
theorem dX11_keeps_48 : decode cX11_keeps 48 = .ok (.isub, 1) := by decide +kernel
theorem dX11_keeps_49 : decode cX11_keeps 49 = .ok (.putfield 338, 3) := by decide +kernel
theorem dX11_keeps_52 : decode cX11_keeps 52 = .ok (.iconst 0, 1) := by decide +kernel
theorem dX11_keeps_53 : decode cX11_keeps 53 = .ok (.istore_n 1, 1) := by decide +kernel
theorem dX11_keeps_54 : decode cX11_keeps 54 = .ok (.iload_n 1, 1) := by decide +kernel
theorem dX11_keeps_55 : decode cX11_keeps 55 = .ok (.sipush 3235, 3) := by decide +kernel
theorem dX11_keeps_58 : decode cX11_keeps 58 = .ok (.if_icmp .ge 30, 3) := by decide +kernel
theorem dX11_keeps_61 : decode cX11_keeps 61 = .ok (.aload_n 0, 1) := by decide +kernel
theorem dX11_keeps_62 : decode cX11_keeps 62 = .ok (.getfield 31, 3) := by decide +kernel
theorem dX11_keeps_65 : decode cX11_keeps 65 = .ok (.sipush 3235, 3) := by decide +kernel
theorem dX11_keeps_68 : decode cX11_keeps 68 = .ok (.aload_n 0, 1) := by decide +kernel
theorem dX11_keeps_69 : decode cX11_keeps 69 = .ok (.getfield 338, 3) := by decide +kernel
theorem dX11_keeps_72 : decode cX11_keeps 72 = .ok (.imul, 1) := by decide +kernel
theorem dX11_keeps_73 : decode cX11_keeps 73 = .ok (.iload_n 1, 1) := by decide +kernel
theorem dX11_keeps_74 : decode cX11_keeps 74 = .ok (.iadd, 1) := by decide +kernel
theorem dX11_keeps_75 : decode cX11_keeps 75 = .ok (.aload_n 0, 1) := by decide +kernel
theorem dX11_keeps_76 : decode cX11_keeps 76 = .ok (.getfield 9, 3) := by decide +kernel
theorem dX11_keeps_79 : decode cX11_keeps 79 = .ok (.iload_n 1, 1) := by decide +kernel
theorem dX11_keeps_80 : decode cX11_keeps 80 = .ok (.laload, 1) := by decide +kernel
theorem dX11_keeps_81 : decode cX11_keeps 81 = .ok (.lastore, 1) := by decide +kernel
theorem dX11_keeps_82 : decode cX11_keeps 82 = .ok (.iinc 1 1, 3) := by decide +kernel
theorem dX11_keeps_85 : decode cX11_keeps 85 = .ok (.goto (-31), 3) := by decide +kernel
theorem dX11_keeps_88 : decode cX11_keeps 88 = .ok (.aload_n 0, 1) := by decide +kernel
theorem dX11_keeps_89 : decode cX11_keeps 89 = .ok (.dup, 1) := by decide +kernel
theorem dX11_keeps_90 : decode cX11_keeps 90 = .ok (.getfield 338, 3) := by decide +kernel
theorem dX11_keeps_93 : decode cX11_keeps 93 = .ok (.iconst 1, 1) := by decide +kernel
theorem dX11_keeps_94 : decode cX11_keeps 94 = .ok (.iadd, 1) := by decide +kernel
theorem dX11_keeps_95 : decode cX11_keeps 95 = .ok (.putfield 338, 3) := by decide +kernel
theorem dX11_keeps_98 : decode cX11_keeps 98 = .ok (.return_, 1) := by decide +kernel
def fX11_keeps_l54 (p0 : Nat) (K : Int32 → xMem → Option (xMem)) : Nat → Int32 → xMem → Option (xMem)
  | 0, _, _ => none
  | n + 1, v1, M => if (nI 3235) ≤ v1 then (K v1 M) else (xGb v1 (xln (xrf p0 1)) (xGb (((nI 3235) * (M.1 p0 19)) + v1) (xln (xrf p0 20)) (xLt (xwL M (xrf p0 20) (Int32.toNatClampNeg (((nI 3235) * (M.1 p0 19)) + v1)) (M.2.1 (xrf p0 1) (Int32.toNatClampNeg v1))) fun M4 => xLt (v1 + nI 1) fun x5 => fX11_keeps_l54 p0 K n x5 M4)))
def fX11_keeps_l13 (p0 : Nat) (K : Int32 → xMem → Option (xMem)) : Nat → Int32 → xMem → Option (xMem)
  | 0, _, _ => none
  | n + 1, v1, M => if (nI 32350) ≤ v1 then (K v1 M) else (xGb v1 (xln (xrf p0 20)) (xGb (v1 - (nI 3235)) (xln (xrf p0 20)) (xLt (xwL M (xrf p0 20) (Int32.toNatClampNeg (v1 - (nI 3235))) (M.2.1 (xrf p0 20) (Int32.toNatClampNeg v1))) fun M11 => xLt (v1 + nI 1) fun x12 => fX11_keeps_l13 p0 K n x12 M11)))
def fX11_keeps (a0 : Nat) (M : xMem) : Option (xMem) :=
  xLt (fun  (M1 : xMem) => (fX11_keeps_l54 a0 (fun (v6 : Int32) (M7 : xMem) => xLt (xwI M7 a0 19 ((M7.1 a0 19) + (nI 1))) fun M8 => some M8) xFU (nI 0) M1 : Option (xMem))) fun J52 => if (M.1 a0 19) = (nI 10) then (fX11_keeps_l13 a0 (fun (v13 : Int32) (M14 : xMem) => xLt (xwI M14 a0 19 ((M14.1 a0 19) - (nI 1))) fun M15 => J52  M15) xFU (nI 3235) M) else (J52  M)
set_option maxRecDepth 100000 in
set_option maxHeartbeats 4000000 in
theorem lX11_keeps_54 {X : xCX} {M' : xMem} (C : xCk X cX11_keeps RX11 1) (R0 : xRk X none (none, M')) (hnL : X.2.2.2.2.2.2.2.2.2.2.2.2.2 = 2) (p0 : Nat) (hp0 : xkd p0 = 11) (K : Int32 → xMem → Option (xMem)) (hK : ∀ (v1 : Int32) (M : xMem), K v1 M = some M' → WW X 88 [some (vr X.1 p0), some (.int v1)] [] M) : ∀ (n : Nat) (v1 : Int32) (M : xMem), fX11_keeps_l54 p0 K n v1 M = some M' → WW X 54 [some (vr X.1 p0), some (.int v1)] [] M := by
  have hn1 : 1 < X.2.2.2.2.2.2.2.2.2.2.2.2.2 := by rw [hnL]; decide
  intro n
  induction n with
  | zero =>
    intro v1 M h
    cases (show (none : Option (xMem)) = some M' from h)
  | succ n ih =>
    intro v1 M h
    rw [fX11_keeps_l54.eq_2] at h
    refine r_iload_n (pc := 54) C dX11_keeps_54 rfl rfl ?_
    refine r_sipush (pc := 55) (v := (nI 3235)) C dX11_keeps_55 (by decide) ?_
    refine r_icmp_ge (pc := 58) (tgt := 88) C dX11_keeps_58 (by decide) h (fun _ h => ?_) (fun _ h => ?_)
    · exact hK v1 M h
    · refine r_aload_n (pc := 61) C dX11_keeps_61 rfl rfl ?_
      refine r_getR (pc := 62) C kX11_31 hp0 (by decide) dX11_keeps_62 ?_
      refine r_sipush (pc := 65) (v := (nI 3235)) C dX11_keeps_65 (by decide) ?_
      refine r_aload_n (pc := 68) C dX11_keeps_68 rfl rfl ?_
      refine r_getI (pc := 69) C kX11_338 hp0 dX11_keeps_69 ?_
      refine r_imul (pc := 72) C dX11_keeps_72 ?_
      refine r_iload_n (pc := 73) C dX11_keeps_73 rfl rfl ?_
      refine r_iadd (pc := 74) C dX11_keeps_74 ?_
      refine r_aload_n (pc := 75) C dX11_keeps_75 rfl rfl ?_
      refine r_getR (pc := 76) C kX11_9 hp0 (by decide) dX11_keeps_76 ?_
      refine r_iload_n (pc := 79) C dX11_keeps_79 rfl rfl ?_
      obtain ⟨g2, h⟩ := xGb_of h
      refine r_lald (pc := 80) C (xtk hp0 (by decide) rfl rfl) g2 dX11_keeps_80 ?_
      obtain ⟨g3, h⟩ := xGb_of h
      refine r_last (pc := 81) C (xtk hp0 (by decide) rfl rfl) g3 dX11_keeps_81 ?_
      refine r_letM h (fun M4 h => ?_)
      refine r_iincL (pc := 82) (c := nI 1) C dX11_keeps_82 rfl (by decide) hn1 h (fun x5 h => ?_)
      refine r_lvE (lv' := [_, _]) rfl ?_
      refine r_goto (pc := 85) (tgt := 54) C dX11_keeps_85 (by decide) ?_
      exact ih x5 M4 h
set_option maxRecDepth 100000 in
set_option maxHeartbeats 4000000 in
theorem lX11_keeps_13 {X : xCX} {M' : xMem} (C : xCk X cX11_keeps RX11 1) (R0 : xRk X none (none, M')) (hnL : X.2.2.2.2.2.2.2.2.2.2.2.2.2 = 2) (p0 : Nat) (hp0 : xkd p0 = 11) (K : Int32 → xMem → Option (xMem)) (hK : ∀ (v1 : Int32) (M : xMem), K v1 M = some M' → WW X 42 [some (vr X.1 p0), some (.int v1)] [] M) : ∀ (n : Nat) (v1 : Int32) (M : xMem), fX11_keeps_l13 p0 K n v1 M = some M' → WW X 13 [some (vr X.1 p0), some (.int v1)] [] M := by
  have hn1 : 1 < X.2.2.2.2.2.2.2.2.2.2.2.2.2 := by rw [hnL]; decide
  intro n
  induction n with
  | zero =>
    intro v1 M h
    cases (show (none : Option (xMem)) = some M' from h)
  | succ n ih =>
    intro v1 M h
    rw [fX11_keeps_l13.eq_2] at h
    refine r_iload_n (pc := 13) C dX11_keeps_13 rfl rfl ?_
    refine r_sipush (pc := 14) (v := (nI 32350)) C dX11_keeps_14 (by decide) ?_
    refine r_icmp_ge (pc := 17) (tgt := 42) C dX11_keeps_17 (by decide) h (fun _ h => ?_) (fun _ h => ?_)
    · exact hK v1 M h
    · refine r_aload_n (pc := 20) C dX11_keeps_20 rfl rfl ?_
      refine r_getR (pc := 21) C kX11_31 hp0 (by decide) dX11_keeps_21 ?_
      refine r_iload_n (pc := 24) C dX11_keeps_24 rfl rfl ?_
      refine r_sipush (pc := 25) (v := (nI 3235)) C dX11_keeps_25 (by decide) ?_
      refine r_isub (pc := 28) C dX11_keeps_28 ?_
      refine r_aload_n (pc := 29) C dX11_keeps_29 rfl rfl ?_
      refine r_getR (pc := 30) C kX11_31 hp0 (by decide) dX11_keeps_30 ?_
      refine r_iload_n (pc := 33) C dX11_keeps_33 rfl rfl ?_
      obtain ⟨g9, h⟩ := xGb_of h
      refine r_lald (pc := 34) C (xtk hp0 (by decide) rfl rfl) g9 dX11_keeps_34 ?_
      obtain ⟨g10, h⟩ := xGb_of h
      refine r_last (pc := 35) C (xtk hp0 (by decide) rfl rfl) g10 dX11_keeps_35 ?_
      refine r_letM h (fun M11 h => ?_)
      refine r_iincL (pc := 36) (c := nI 1) C dX11_keeps_36 rfl (by decide) hn1 h (fun x12 h => ?_)
      refine r_lvE (lv' := [_, _]) rfl ?_
      refine r_goto (pc := 39) (tgt := 13) C dX11_keeps_39 (by decide) ?_
      exact ih x12 M11 h
set_option maxRecDepth 100000 in
set_option maxHeartbeats 4000000 in
theorem zX11_keeps (G : xGX) (a0 : Nat) (h0 : xkd a0 = 11) (M : xMem) (M' : xMem) (h : fX11_keeps a0 M = some M') : xCt G yX11_keeps cX11_keeps 2 none 1 [vr G a0] M (none, M') := by
  refine xMet (lv := [some (vr G a0), none]) (by decide) (Nat.le_of_ble_eq_true rfl) rfl ?_
  intro X hG hnL C R0
  subst hG
  have C : xCk X cX11_keeps RX11 1 := C
  have hn1 : 1 < X.2.2.2.2.2.2.2.2.2.2.2.2.2 := by rw [hnL]; decide
  unfold fX11_keeps at h
  refine r_aload_n (pc := 0) C dX11_keeps_0 rfl rfl ?_
  refine r_getI (pc := 1) C kX11_338 h0 dX11_keeps_1 ?_
  refine r_bipush (pc := 4) (v := (nI 10)) C dX11_keeps_4 (by decide) ?_
  refine r_jn (fun J => ∀  (M1 : xMem) , J  M1 = some M' → WW X 52 [some (vr X.1 a0), none] [] M1) h (fun  M1  h => ?_) (fun J52 hJ52 h => ?_)
  · refine r_iconst (pc := 52) (v := (nI 0)) C dX11_keeps_52 (by decide) ?_
    refine r_istore_n (pc := 53) (lv' := [_, _]) C dX11_keeps_53 rfl hn1 rfl ?_
    refine lX11_keeps_54 C R0 hnL a0 h0 _ (fun v6 M7 h => ?_) _ _ _ h
    refine r_aload_n (pc := 88) C dX11_keeps_88 rfl rfl ?_
    refine r_dup (pc := 89) C rfl dX11_keeps_89 ?_
    refine r_getI (pc := 90) C kX11_338 h0 dX11_keeps_90 ?_
    refine r_iconst (pc := 93) (v := (nI 1)) C dX11_keeps_93 (by decide) ?_
    refine r_iadd (pc := 94) C dX11_keeps_94 ?_
    refine r_putI (pc := 95) C kX11_338 h0 dX11_keeps_95 ?_
    refine r_letM h (fun M8 h => ?_)
    exact r_vret (pc := 98) C R0 h dX11_keeps_98
  refine r_icmp_ne (pc := 6) (tgt := 52) C dX11_keeps_6 (by decide) h (fun _ h => ?_) (fun _ h => ?_)
  · exact hJ52  M  h
  · refine r_sipush (pc := 9) (v := (nI 3235)) C dX11_keeps_9 (by decide) ?_
    refine r_istore_n (pc := 12) (lv' := [_, _]) C dX11_keeps_12 rfl hn1 rfl ?_
    refine lX11_keeps_13 C R0 hnL a0 h0 _ (fun v13 M14 h => ?_) _ _ _ h
    refine r_aload_n (pc := 42) C dX11_keeps_42 rfl rfl ?_
    refine r_dup (pc := 43) C rfl dX11_keeps_43 ?_
    refine r_getI (pc := 44) C kX11_338 h0 dX11_keeps_44 ?_
    refine r_iconst (pc := 47) (v := (nI 1)) C dX11_keeps_47 (by decide) ?_
    refine r_isub (pc := 48) C dX11_keeps_48 ?_
    refine r_putI (pc := 49) C kX11_338 h0 dX11_keeps_49 ?_
    refine r_letM h (fun M15 h => ?_)
    exact r_lv (xle_at (xle_some rfl (xle_none xle_nil))) (hJ52  M15  h)
theorem dX11_text_0 : decode cX11_text 0 = .ok (.aload_n 0, 1) := by decide +kernel
theorem dX11_text_1 : decode cX11_text 1 = .ok (.aload_n 0, 1) := by decide +kernel
theorem dX11_text_2 : decode cX11_text 2 = .ok (.getfield 139, 3) := by decide +kernel
theorem dX11_text_5 : decode cX11_text 5 = .ok (.putfield 152, 3) := by decide +kernel
theorem dX11_text_8 : decode cX11_text 8 = .ok (.aload_n 0, 1) := by decide +kernel
theorem dX11_text_9 : decode cX11_text 9 = .ok (.iconst 0, 1) := by decide +kernel
theorem dX11_text_10 : decode cX11_text 10 = .ok (.putfield 139, 3) := by decide +kernel
theorem dX11_text_13 : decode cX11_text 13 = .ok (.aload_n 0, 1) := by decide +kernel
theorem dX11_text_14 : decode cX11_text 14 = .ok (.iconst 0, 1) := by decide +kernel
theorem dX11_text_15 : decode cX11_text 15 = .ok (.putfield 155, 3) := by decide +kernel
theorem dX11_text_18 : decode cX11_text 18 = .ok (.aload_n 0, 1) := by decide +kernel
theorem dX11_text_19 : decode cX11_text 19 = .ok (.iconst 0, 1) := by decide +kernel
theorem dX11_text_20 : decode cX11_text 20 = .ok (.putfield 146, 3) := by decide +kernel
theorem dX11_text_23 : decode cX11_text 23 = .ok (.aload_n 0, 1) := by decide +kernel
theorem dX11_text_24 : decode cX11_text 24 = .ok (.iconst (-1), 1) := by decide +kernel
theorem dX11_text_25 : decode cX11_text 25 = .ok (.putfield 27, 3) := by decide +kernel
theorem dX11_text_28 : decode cX11_text 28 = .ok (.aload_n 0, 1) := by decide +kernel
theorem dX11_text_29 : decode cX11_text 29 = .ok (.aload_n 0, 1) := by decide +kernel
theorem dX11_text_30 : decode cX11_text 30 = .ok (.getfield 13, 3) := by decide +kernel
theorem dX11_text_33 : decode cX11_text 33 = .ok (.putfield 16, 3) := by decide +kernel
theorem dX11_text_36 : decode cX11_text 36 = .ok (.aload_n 0, 1) := by decide +kernel
theorem dX11_text_37 : decode cX11_text 37 = .ok (.invokevirtual 332, 3) := by decide +kernel
theorem dX11_text_40 : decode cX11_text 40 = .ok (.istore_n 1, 1) := by decide +kernel
theorem dX11_text_41 : decode cX11_text 41 = .ok (.aload_n 0, 1) := by decide +kernel
theorem dX11_text_42 : decode cX11_text 42 = .ok (.aload_n 0, 1) := by decide +kernel
theorem dX11_text_43 : decode cX11_text 43 = .ok (.getfield 9, 3) := by decide +kernel
theorem dX11_text_46 : decode cX11_text 46 = .ok (.putfield 16, 3) := by decide +kernel
theorem dX11_text_49 : decode cX11_text 49 = .ok (.aload_n 0, 1) := by decide +kernel
theorem dX11_text_50 : decode cX11_text 50 = .ok (.invokevirtual 149, 3) := by decide +kernel
theorem dX11_text_53 : decode cX11_text 53 = .ok (.ifCond .ne 6, 3) := by decide +kernel
theorem dX11_text_56 : decode cX11_text 56 = .ok (.bipush (-4), 2) := by decide +kernel
theorem dX11_text_58 : decode cX11_text 58 = .ok (.ireturn, 1) := by decide +kernel
theorem dX11_text_59 : decode cX11_text 59 = .ok (.aload_n 0, 1) := by decide +kernel
theorem dX11_text_60 : decode cX11_text 60 = .ok (.invokevirtual 335, 3) := by decide +kernel
theorem dX11_text_63 : decode cX11_text 63 = .ok (.iconst 0, 1) := by decide +kernel
theorem dX11_text_64 : decode cX11_text 64 = .ok (.istore_n 2, 1) := by decide +kernel
theorem dX11_text_65 : decode cX11_text 65 = .ok (.iload_n 2, 1) := by decide +kernel
theorem dX11_text_66 : decode cX11_text 66 = .ok (.sipush 3235, 3) := by decide +kernel
theorem dX11_text_69 : decode cX11_text 69 = .ok (.if_icmp .ge 21, 3) := by decide +kernel
theorem dX11_text_72 : decode cX11_text 72 = .ok (.aload_n 0, 1) := by decide +kernel
theorem dX11_text_73 : decode cX11_text 73 = .ok (.getfield 9, 3) := by decide +kernel
theorem dX11_text_76 : decode cX11_text 76 = .ok (.iload_n 2, 1) := by decide +kernel
theorem dX11_text_77 : decode cX11_text 77 = .ok (.aload_n 0, 1) := by decide +kernel
theorem dX11_text_78 : decode cX11_text 78 = .ok (.getfield 13, 3) := by decide +kernel
theorem dX11_text_81 : decode cX11_text 81 = .ok (.iload_n 2, 1) := by decide +kernel
theorem dX11_text_82 : decode cX11_text 82 = .ok (.laload, 1) := by decide +kernel
theorem dX11_text_83 : decode cX11_text 83 = .ok (.lastore, 1) := by decide +kernel
theorem dX11_text_84 : decode cX11_text 84 = .ok (.iinc 2 1, 3) := by decide +kernel
theorem dX11_text_87 : decode cX11_text 87 = .ok (.goto (-22), 3) := by decide +kernel
theorem dX11_text_90 : decode cX11_text 90 = .ok (.iload_n 1, 1) := by decide +kernel
theorem dX11_text_91 : decode cX11_text 91 = .ok (.ireturn, 1) := by decide +kernel
def fX11_text_l65 (p0 : Nat) (p1 : Int32) (K : Int32 → xMem → Option (Int32 × xMem)) : Nat → Int32 → xMem → Option (Int32 × xMem)
  | 0, _, _ => none
  | n + 1, v2, M => if (nI 3235) ≤ v2 then (K v2 M) else (xGb v2 (xln (xrf p0 2)) (xGb v2 (xln (xrf p0 1)) (xLt (xwL M (xrf p0 1) (Int32.toNatClampNeg v2) (M.2.1 (xrf p0 2) (Int32.toNatClampNeg v2))) fun M15 => xLt (v2 + nI 1) fun x16 => fX11_text_l65 p0 p1 K n x16 M15)))
def fX11_text (a0 : Nat) (M : xMem) : Option (Int32 × xMem) :=
  xLt (xwI M a0 12 (M.1 a0 11)) fun M1 => xLt (xwI M1 a0 11 (nI 0)) fun M2 => xLt (xwI M2 a0 13 (nI 0)) fun M3 => xLt (xwI M3 a0 17 (nI 0)) fun M4 => xLt (xwI M4 a0 18 (-1)) fun M5 => xLt (xwW M5 true) fun M6 => xBn (fX11_readAll a0 M6) fun r7 M8 => xLt (xwW M8 false) fun M9 => xBn (fX11_good a0 M9) fun r10 M11 => if r10 = 0 then (some ((-4), M11)) else (xBv (fX11_keeps a0 M11) fun M12 => fX11_text_l65 a0 r7 (fun (v17 : Int32) (M18 : xMem) => some (r7, M18)) xFU (nI 0) M12)
set_option maxRecDepth 100000 in
set_option maxHeartbeats 4000000 in
theorem lX11_text_65 {X : xCX} {r : Int32} {M' : xMem} (C : xCk X cX11_text RX11 13) (R0 : xRk X (some .int) (some (.int r), M')) (hnL : X.2.2.2.2.2.2.2.2.2.2.2.2.2 = 3) (p0 : Nat) (hp0 : xkd p0 = 11) (p1 : Int32) (K : Int32 → xMem → Option (Int32 × xMem)) (hK : ∀ (v2 : Int32) (M : xMem), K v2 M = some (r, M') → WW X 90 [some (vr X.1 p0), some (.int p1), some (.int v2)] [] M) : ∀ (n : Nat) (v2 : Int32) (M : xMem), fX11_text_l65 p0 p1 K n v2 M = some (r, M') → WW X 65 [some (vr X.1 p0), some (.int p1), some (.int v2)] [] M := by
  have hn1 : 1 < X.2.2.2.2.2.2.2.2.2.2.2.2.2 := by rw [hnL]; decide
  have hn2 : 2 < X.2.2.2.2.2.2.2.2.2.2.2.2.2 := by rw [hnL]; decide
  intro n
  induction n with
  | zero =>
    intro v2 M h
    cases (show (none : Option (Int32 × xMem)) = some (r, M') from h)
  | succ n ih =>
    intro v2 M h
    rw [fX11_text_l65.eq_2] at h
    refine r_iload_n (pc := 65) C dX11_text_65 rfl rfl ?_
    refine r_sipush (pc := 66) (v := (nI 3235)) C dX11_text_66 (by decide) ?_
    refine r_icmp_ge (pc := 69) (tgt := 90) C dX11_text_69 (by decide) h (fun _ h => ?_) (fun _ h => ?_)
    · exact hK v2 M h
    · refine r_aload_n (pc := 72) C dX11_text_72 rfl rfl ?_
      refine r_getR (pc := 73) C kX11_9 hp0 (by decide) dX11_text_73 ?_
      refine r_iload_n (pc := 76) C dX11_text_76 rfl rfl ?_
      refine r_aload_n (pc := 77) C dX11_text_77 rfl rfl ?_
      refine r_getR (pc := 78) C kX11_13 hp0 (by decide) dX11_text_78 ?_
      refine r_iload_n (pc := 81) C dX11_text_81 rfl rfl ?_
      obtain ⟨g13, h⟩ := xGb_of h
      refine r_lald (pc := 82) C (xtk hp0 (by decide) rfl rfl) g13 dX11_text_82 ?_
      obtain ⟨g14, h⟩ := xGb_of h
      refine r_last (pc := 83) C (xtk hp0 (by decide) rfl rfl) g14 dX11_text_83 ?_
      refine r_letM h (fun M15 h => ?_)
      refine r_iincL (pc := 84) (c := nI 1) C dX11_text_84 rfl (by decide) hn2 h (fun x16 h => ?_)
      refine r_lvE (lv' := [_, _, _]) rfl ?_
      refine r_goto (pc := 87) (tgt := 65) C dX11_text_87 (by decide) ?_
      exact ih x16 M15 h
set_option maxRecDepth 100000 in
set_option maxHeartbeats 4000000 in
theorem zX11_text (G : xGX) (a0 : Nat) (h0 : xkd a0 = 11) (M : xMem) (r : Int32) (M' : xMem) (h : fX11_text a0 M = some (r, M')) : xCt G yX11_text cX11_text 3 (some .int) 13 [vr G a0] M (some (.int r), M') := by
  refine xMet (lv := [some (vr G a0), none, none]) (by decide) (Nat.le_of_ble_eq_true rfl) rfl ?_
  intro X hG hnL C R0
  subst hG
  have C : xCk X cX11_text RX11 13 := C
  have hn1 : 1 < X.2.2.2.2.2.2.2.2.2.2.2.2.2 := by rw [hnL]; decide
  have hn2 : 2 < X.2.2.2.2.2.2.2.2.2.2.2.2.2 := by rw [hnL]; decide
  unfold fX11_text at h
  refine r_aload_n (pc := 0) C dX11_text_0 rfl rfl ?_
  refine r_aload_n (pc := 1) C dX11_text_1 rfl rfl ?_
  refine r_getI (pc := 2) C kX11_139 h0 dX11_text_2 ?_
  refine r_putI (pc := 5) C kX11_152 h0 dX11_text_5 ?_
  refine r_letM h (fun M1 h => ?_)
  refine r_aload_n (pc := 8) C dX11_text_8 rfl rfl ?_
  refine r_iconst (pc := 9) (v := (nI 0)) C dX11_text_9 (by decide) ?_
  refine r_putI (pc := 10) C kX11_139 h0 dX11_text_10 ?_
  refine r_letM h (fun M2 h => ?_)
  refine r_aload_n (pc := 13) C dX11_text_13 rfl rfl ?_
  refine r_iconst (pc := 14) (v := (nI 0)) C dX11_text_14 (by decide) ?_
  refine r_putI (pc := 15) C kX11_155 h0 dX11_text_15 ?_
  refine r_letM h (fun M3 h => ?_)
  refine r_aload_n (pc := 18) C dX11_text_18 rfl rfl ?_
  refine r_iconst (pc := 19) (v := (nI 0)) C dX11_text_19 (by decide) ?_
  refine r_putI (pc := 20) C kX11_146 h0 dX11_text_20 ?_
  refine r_letM h (fun M4 h => ?_)
  refine r_aload_n (pc := 23) C dX11_text_23 rfl rfl ?_
  refine r_iconst (pc := 24) (v := (-1)) C dX11_text_24 (by decide) ?_
  refine r_putI (pc := 25) C kX11_27 h0 dX11_text_25 ?_
  refine r_letM h (fun M5 h => ?_)
  refine r_aload_n (pc := 28) C dX11_text_28 rfl rfl ?_
  refine r_aload_n (pc := 29) C dX11_text_29 rfl rfl ?_
  refine r_getR (pc := 30) C kX11_13 h0 (by decide) dX11_text_30 ?_
  refine r_putW_aside (pc := 33) C kX11_16 h0 (fun _ => rfl) (fun _ => rfl) dX11_text_33 ?_
  refine r_letM h (fun M6 h => ?_)
  refine r_aload_n (pc := 36) C dX11_text_36 rfl rfl ?_
  refine r_vI0 (pc := 37) C (fun r M' e => zX11_readAll X.1 a0 h0 M6 r M' e) h0 (by decide) rfl mX11_readAll lX11_332 (by decide) (Nat.le_of_ble_eq_true rfl) dX11_text_37 h (fun r7 M8 h => ?_)
  refine r_istore_n (pc := 40) (lv' := [_, _, _]) C dX11_text_40 rfl hn1 rfl ?_
  refine r_aload_n (pc := 41) C dX11_text_41 rfl rfl ?_
  refine r_aload_n (pc := 42) C dX11_text_42 rfl rfl ?_
  refine r_getR (pc := 43) C kX11_9 h0 (by decide) dX11_text_43 ?_
  refine r_putW_told (pc := 46) C kX11_16 h0 (fun _ => rfl) (fun _ => rfl) dX11_text_46 ?_
  refine r_letM h (fun M9 h => ?_)
  refine r_aload_n (pc := 49) C dX11_text_49 rfl rfl ?_
  refine r_vI0 (pc := 50) C (fun r M' e => zX11_good X.1 a0 h0 M9 r M' e) h0 (by decide) rfl mX11_good lX11_149 (by decide) (Nat.le_of_ble_eq_true rfl) dX11_text_50 h (fun r10 M11 h => ?_)
  refine r_if_ne (pc := 53) (tgt := 59) C dX11_text_53 (by decide) h (fun _ h => ?_) (fun _ h => ?_)
  · refine r_aload_n (pc := 59) C dX11_text_59 rfl rfl ?_
    refine r_vV0 (pc := 60) C (fun M' e => zX11_keeps X.1 a0 h0 M11 M' e) h0 (by decide) rfl mX11_keeps lX11_335 (by decide) (Nat.le_of_ble_eq_true rfl) dX11_text_60 h (fun M12 h => ?_)
    refine r_iconst (pc := 63) (v := (nI 0)) C dX11_text_63 (by decide) ?_
    refine r_istore_n (pc := 64) (lv' := [_, _, _]) C dX11_text_64 rfl hn2 rfl ?_
    refine lX11_text_65 C R0 hnL a0 h0 r7 _ (fun v17 M18 h => ?_) _ _ _ h
    refine r_iload_n (pc := 90) C dX11_text_90 rfl rfl ?_
    exact r_iret (pc := 91) C R0 h dX11_text_91
  · refine r_bipush (pc := 56) (v := (-4)) C dX11_text_56 (by decide) ?_
    exact r_iret (pc := 58) C R0 h dX11_text_58
theorem dX11_fault_0 : decode cX11_fault 0 = .ok (.iload_n 1, 1) := by decide +kernel
theorem dX11_fault_1 : decode cX11_fault 1 = .ok (.ifCond .ne 10, 3) := by decide +kernel
theorem dX11_fault_4 : decode cX11_fault 4 = .ok (.aload_n 0, 1) := by decide +kernel
theorem dX11_fault_5 : decode cX11_fault 5 = .ok (.getfield 146, 3) := by decide +kernel
theorem dX11_fault_8 : decode cX11_fault 8 = .ok (.goto 16, 3) := by decide +kernel
theorem dX11_fault_11 : decode cX11_fault 11 = .ok (.iload_n 1, 1) := by decide +kernel
theorem dX11_fault_12 : decode cX11_fault 12 = .ok (.iconst 1, 1) := by decide +kernel
theorem dX11_fault_13 : decode cX11_fault 13 = .ok (.if_icmp .ne 10, 3) := by decide +kernel
theorem dX11_fault_16 : decode cX11_fault 16 = .ok (.aload_n 0, 1) := by decide +kernel
theorem dX11_fault_17 : decode cX11_fault 17 = .ok (.getfield 27, 3) := by decide +kernel
theorem dX11_fault_20 : decode cX11_fault 20 = .ok (.goto 4, 3) := by decide +kernel
theorem dX11_fault_23 : decode cX11_fault 23 = .ok (.iconst (-1), 1) := by decide +kernel
theorem dX11_fault_24 : decode cX11_fault 24 = .ok (.ireturn, 1) := by decide +kernel
def fX11_fault (a0 : Nat) (a1 : Int32) (M : xMem) : Option (Int32 × xMem) :=
  if a1 = 0 then (some ((M.1 a0 17), M)) else (if a1 = (nI 1) then (some ((M.1 a0 18), M)) else (some ((-1), M)))
set_option maxRecDepth 100000 in
set_option maxHeartbeats 4000000 in
theorem zX11_fault (G : xGX) (a0 : Nat) (h0 : xkd a0 = 11) (a1 : Int32) (M : xMem) (r : Int32) (M' : xMem) (h : fX11_fault a0 a1 M = some (r, M')) : xCt G yX11_fault cX11_fault 2 (some .int) 1 [vr G a0, .int a1] M (some (.int r), M') := by
  refine xMet (lv := [some (vr G a0), some (.int a1)]) (by decide) (Nat.le_of_ble_eq_true rfl) rfl ?_
  intro X hG hnL C R0
  subst hG
  have C : xCk X cX11_fault RX11 1 := C
  unfold fX11_fault at h
  refine r_iload_n (pc := 0) C dX11_fault_0 rfl rfl ?_
  refine r_if_ne (pc := 1) (tgt := 11) C dX11_fault_1 (by decide) h (fun _ h => ?_) (fun _ h => ?_)
  · refine r_iload_n (pc := 11) C dX11_fault_11 rfl rfl ?_
    refine r_iconst (pc := 12) (v := (nI 1)) C dX11_fault_12 (by decide) ?_
    refine r_icmp_ne (pc := 13) (tgt := 23) C dX11_fault_13 (by decide) h (fun _ h => ?_) (fun _ h => ?_)
    · refine r_iconst (pc := 23) (v := (-1)) C dX11_fault_23 (by decide) ?_
      exact r_iret (pc := 24) C R0 h dX11_fault_24
    · refine r_aload_n (pc := 16) C dX11_fault_16 rfl rfl ?_
      refine r_getI (pc := 17) C kX11_27 h0 dX11_fault_17 ?_
      refine r_goto (pc := 20) (tgt := 24) C dX11_fault_20 (by decide) ?_
      exact r_iret (pc := 24) C R0 h dX11_fault_24
  · refine r_aload_n (pc := 4) C dX11_fault_4 rfl rfl ?_
    refine r_getI (pc := 5) C kX11_146 h0 dX11_fault_5 ?_
    refine r_goto (pc := 8) (tgt := 24) C dX11_fault_8 (by decide) ?_
    exact r_iret (pc := 24) C R0 h dX11_fault_24
