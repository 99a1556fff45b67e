/-! functions and ties, printed by program (wip/gen/dec.py) -/
theorem dX12_change_0 : decode cX12_change 0 = .ok (.aload_n 0, 1) := by decide +kernel
theorem dX12_change_1 : decode cX12_change 1 = .ok (.iconst 0, 1) := by decide +kernel
theorem dX12_change_2 : decode cX12_change 2 = .ok (.putfield 208, 3) := by decide +kernel
theorem dX12_change_5 : decode cX12_change 5 = .ok (.iload_n 1, 1) := by decide +kernel
theorem dX12_change_6 : decode cX12_change 6 = .ok (.i2l, 1) := by decide +kernel
theorem dX12_change_7 : decode cX12_change 7 = .ok (.lconst 0, 1) := by decide +kernel
theorem dX12_change_8 : decode cX12_change 8 = .ok (.lconst 1, 1) := by decide +kernel
theorem dX12_change_9 : decode cX12_change 9 = .ok (.aload_n 0, 1) := by decide +kernel
theorem dX12_change_10 : decode cX12_change 10 = .ok (.getfield 295, 3) := by decide +kernel
theorem dX12_change_13 : decode cX12_change 13 = .ok (.lshl, 1) := by decide +kernel
theorem dX12_change_14 : decode cX12_change 14 = .ok (.lconst 1, 1) := by decide +kernel
theorem dX12_change_15 : decode cX12_change 15 = .ok (.lsub, 1) := by decide +kernel
theorem dX12_change_16 : decode cX12_change 16 = .ok (.invokestatic 213, 3) := by decide +kernel
theorem dX12_change_19 : decode cX12_change 19 = .ok (.ifCond .ne 6, 3) := by decide +kernel
theorem dX12_change_22 : decode cX12_change 22 = .ok (.bipush (-2), 2) := by decide +kernel
theorem dX12_change_24 : decode cX12_change 24 = .ok (.ireturn, 1) := by decide +kernel
theorem dX12_change_25 : decode cX12_change 25 = .ok (.aload_n 0, 1) := by decide +kernel
theorem dX12_change_26 : decode cX12_change 26 = .ok (.getfield 251, 3) := by decide +kernel
theorem dX12_change_29 : decode cX12_change 29 = .ok (.ifCond .ne 6, 3) := by decide +kernel
theorem dX12_change_32 : decode cX12_change 32 = .ok (.bipush (-9), 2) := by decide +kernel
theorem dX12_change_34 : decode cX12_change 34 = .ok (.ireturn, 1) := by decide +kernel
theorem dX12_change_35 : decode cX12_change 35 = .ok (.aload_n 0, 1) := by decide +kernel
theorem dX12_change_36 : decode cX12_change 36 = .ok (.invokevirtual 310, 3) := by decide +kernel
theorem dX12_change_39 : decode cX12_change 39 = .ok (.iconst 0, 1) := by decide +kernel
theorem dX12_change_40 : decode cX12_change 40 = .ok (.istore_n 2, 1) := by decide +kernel
theorem dX12_change_41 : decode cX12_change 41 = .ok (.iconst 0, 1) := by decide +kernel
theorem dX12_change_42 : decode cX12_change 42 = .ok (.istore_n 3, 1) := by decide +kernel
theorem dX12_change_43 : decode cX12_change 43 = .ok (.iload_n 3, 1) := by decide +kernel
theorem dX12_change_44 : decode cX12_change 44 = .ok (.aload_n 0, 1) := by decide +kernel
theorem dX12_change_45 : decode cX12_change 45 = .ok (.getfield 295, 3) := by decide +kernel
theorem dX12_change_48 : decode cX12_change 48 = .ok (.if_icmp .ge 83, 3) := by decide +kernel
theorem dX12_change_51 : decode cX12_change 51 = .ok (.aload_n 0, 1) := by decide +kernel
theorem dX12_change_52 : decode cX12_change 52 = .ok (.getfield 193, 3) := by decide +kernel
theorem dX12_change_55 : decode cX12_change 55 = .ok (.iload_n 3, 1) := by decide +kernel
theorem dX12_change_56 : decode cX12_change 56 = .ok (.iconst (-1), 1) := by decide +kernel
theorem dX12_change_57 : decode cX12_change 57 = .ok (.iastore, 1) := by decide +kernel
theorem dX12_change_58 : decode cX12_change 58 = .ok (.aload_n 0, 1) := by decide +kernel
theorem dX12_change_59 : decode cX12_change 59 = .ok (.getfield 196, 3) := by decide +kernel
theorem dX12_change_62 : decode cX12_change 62 = .ok (.iload_n 3, 1) := by decide +kernel
theorem dX12_change_63 : decode cX12_change 63 = .ok (.iload_n 1, 1) := by decide +kernel
theorem dX12_change_64 : decode cX12_change 64 = .ok (.iload_n 3, 1) := by decide +kernel
theorem dX12_change_65 : decode cX12_change 65 = .ok (.ishr, 1) := by decide +kernel
theorem dX12_change_66 : decode cX12_change 66 = .ok (.iconst 1, 1) := by decide +kernel
theorem dX12_change_67 : decode cX12_change 67 = .ok (.iand, 1) := by decide +kernel
theorem dX12_change_68 : decode cX12_change 68 = .ok (.iconst 1, 1) := by decide +kernel
theorem dX12_change_69 : decode cX12_change 69 = .ok (.if_icmp .ne 37, 3) := by decide +kernel
theorem dX12_change_72 : decode cX12_change 72 = .ok (.aload_n 0, 1) := by decide +kernel
theorem dX12_change_73 : decode cX12_change 73 = .ok (.getfield 70, 3) := by decide +kernel
theorem dX12_change_76 : decode cX12_change 76 = .ok (.iload_n 3, 1) := by decide +kernel
theorem dX12_change_77 : decode cX12_change 77 = .ok (.baload, 1) := by decide +kernel
theorem dX12_change_78 : decode cX12_change 78 = .ok (.ifCond .ne 28, 3) := by decide +kernel
theorem dX12_change_81 : decode cX12_change 81 = .ok (.aload_n 0, 1) := by decide +kernel
theorem dX12_change_82 : decode cX12_change 82 = .ok (.getfield 130, 3) := by decide +kernel
theorem dX12_change_85 : decode cX12_change 85 = .ok (.sipush 200, 3) := by decide +kernel
theorem dX12_change_88 : decode cX12_change 88 = .ok (.iload_n 3, 1) := by decide +kernel
theorem dX12_change_89 : decode cX12_change 89 = .ok (.imul, 1) := by decide +kernel
theorem dX12_change_90 : decode cX12_change 90 = .ok (.aload_n 0, 1) := by decide +kernel
theorem dX12_change_91 : decode cX12_change 91 = .ok (.getfield 251, 3) := by decide +kernel
theorem dX12_change_94 : decode cX12_change 94 = .ok (.iadd, 1) := by decide +kernel
theorem dX12_change_95 : decode cX12_change 95 = .ok (.iconst 1, 1) := by decide +kernel
theorem dX12_change_96 : decode cX12_change 96 = .ok (.isub, 1) := by decide +kernel
theorem dX12_change_97 : decode cX12_change 97 = .ok (.iaload, 1) := by decide +kernel
theorem dX12_change_98 : decode cX12_change 98 = .ok (.iconst (-1), 1) := by decide +kernel
theorem dX12_change_99 : decode cX12_change 99 = .ok (.if_icmp .eq 7, 3) := by decide +kernel
theorem dX12_change_102 : decode cX12_change 102 = .ok (.iconst 1, 1) := by decide +kernel
theorem dX12_change_103 : decode cX12_change 103 = .ok (.goto 4, 3) := by decide +kernel
theorem dX12_change_106 : decode cX12_change 106 = .ok (.iconst 0, 1) := by decide +kernel
theorem dX12_change_107 : decode cX12_change 107 = .ok (.bastore, 1) := by decide +kernel
theorem dX12_change_108 : decode cX12_change 108 = .ok (.iload_n 2, 1) := by decide +kernel
theorem dX12_change_109 : decode cX12_change 109 = .ok (.aload_n 0, 1) := by decide +kernel
theorem dX12_change_110 : decode cX12_change 110 = .ok (.getfield 196, 3) := by decide +kernel
theorem dX12_change_113 : decode cX12_change 113 = .ok (.iload_n 3, 1) := by decide +kernel
theorem dX12_change_114 : decode cX12_change 114 = .ok (.baload, 1) := by decide +kernel
theorem dX12_change_115 : decode cX12_change 115 = .ok (.ifCond .eq 7, 3) := by decide +kernel
theorem dX12_change_118 : decode cX12_change 118 = .ok (.iconst 1, 1) := by decide +kernel
theorem dX12_change_119 : decode cX12_change 119 = .ok (.goto 4, 3) := by decide +kernel
theorem dX12_change_122 : decode cX12_change 122 = .ok (.iconst 0, 1) := by decide +kernel
theorem dX12_change_123 : decode cX12_change 123 = .ok (.iadd, 1) := by decide +kernel
theorem dX12_change_124 : decode cX12_change 124 = .ok (.istore_n 2, 1) := by decide +kernel
theorem dX12_change_125 : decode cX12_change 125 = .ok (.iinc 3 1, 3) := by decide +kernel
theorem dX12_change_128 : decode cX12_change 128 = .ok (.goto (-85), 3) := by decide +kernel
theorem dX12_change_131 : decode cX12_change 131 = .ok (.aload_n 0, 1) := by decide +kernel
theorem dX12_change_132 : decode cX12_change 132 = .ok (.getfield 295, 3) := by decide +kernel
theorem dX12_change_135 : decode cX12_change 135 = .ok (.istore_n 3, 1) := by decide +kernel
theorem dX12_change_136 : decode cX12_change 136 = .ok (.iload_n 3, 1) := by decide +kernel
theorem dX12_change_137 : decode cX12_change 137 = .ok (.bipush 12, 2) := by decide +kernel
theorem dX12_change_139 : decode cX12_change 139 = .ok (.if_icmp .ge 16, 3) := by decide +kernel
theorem dX12_change_142 : decode cX12_change 142 = .ok (.aload_n 0, 1) := by decide +kernel
theorem dX12_change_143 : decode cX12_change 143 = .ok (.getfield 193, 3) := by decide +kernel
theorem dX12_change_146 : decode cX12_change 146 = .ok (.iload_n 3, 1) := by decide +kernel
theorem dX12_change_147 : decode cX12_change 147 = .ok (.iconst (-1), 1) := by decide +kernel
theorem dX12_change_148 : decode cX12_change 148 = .ok (.iastore, 1) := by decide +kernel
theorem dX12_change_149 : decode cX12_change 149 = .ok (.iinc 3 1, 3) := by decide +kernel
theorem dX12_change_152 : decode cX12_change 152 = .ok (.goto (-16), 3) := by decide +kernel
theorem dX12_change_155 : decode cX12_change 155 = .ok (.aload_n 0, 1) := by decide +kernel
theorem dX12_change_156 : decode cX12_change 156 = .ok (.iconst 1, 1) := by decide +kernel
theorem dX12_change_157 : decode cX12_change 157 = .ok (.putfield 427, 3) := by decide +kernel
theorem dX12_change_160 : decode cX12_change 160 = .ok (.iconst 0, 1) := by decide +kernel
theorem dX12_change_161 : decode cX12_change 161 = .ok (.istore_n 3, 1) := by decide +kernel
theorem dX12_change_162 : decode cX12_change 162 = .ok (.iload_n 2, 1) := by decide +kernel
theorem dX12_change_163 : decode cX12_change 163 = .ok (.ifCond .le 165, 3) := by decide +kernel
theorem dX12_change_166 : decode cX12_change 166 = .ok (.iconst 0, 1) := by decide +kernel
theorem dX12_change_167 : decode cX12_change 167 = .ok (.istore 4, 2) := by decide +kernel
theorem dX12_change_169 : decode cX12_change 169 = .ok (.iload 4, 2) := by decide +kernel
theorem dX12_change_171 : decode cX12_change 171 = .ok (.aload_n 0, 1) := by decide +kernel
theorem dX12_change_172 : decode cX12_change 172 = .ok (.getfield 295, 3) := by decide +kernel
theorem dX12_change_175 : decode cX12_change 175 = .ok (.if_icmp .ge 25, 3) := by decide +kernel
theorem dX12_change_178 : decode cX12_change 178 = .ok (.aload_n 0, 1) := by decide +kernel
theorem dX12_change_179 : decode cX12_change 179 = .ok (.getfield 196, 3) := by decide +kernel
theorem dX12_change_182 : decode cX12_change 182 = .ok (.iload 4, 2) := by decide +kernel
theorem dX12_change_184 : decode cX12_change 184 = .ok (.baload, 1) := by decide +kernel
theorem dX12_change_185 : decode cX12_change 185 = .ok (.ifCond .eq 9, 3) := by decide +kernel
theorem dX12_change_188 : decode cX12_change 188 = .ok (.aload_n 0, 1) := by decide +kernel
theorem dX12_change_189 : decode cX12_change 189 = .ok (.iload 4, 2) := by decide +kernel
theorem dX12_change_191 : decode cX12_change 191 = .ok (.invokevirtual 430, 3) := by decide +kernel
theorem dX12_change_194 : decode cX12_change 194 = .ok (.iinc 4 1, 3) := by decide +kernel
theorem dX12_change_197 : decode cX12_change 197 = .ok (.goto (-28), 3) := by decide +kernel
theorem dX12_change_200 : decode cX12_change 200 = .ok (.iconst 0, 1) := by decide +kernel
theorem dX12_change_201 : decode cX12_change 201 = .ok (.istore 4, 2) := by decide +kernel
theorem dX12_change_203 : decode cX12_change 203 = .ok (.iload 4, 2) := by decide +kernel
theorem dX12_change_205 : decode cX12_change 205 = .ok (.aload_n 0, 1) := by decide +kernel
theorem dX12_change_206 : decode cX12_change 206 = .ok (.getfield 295, 3) := by decide +kernel
theorem dX12_change_209 : decode cX12_change 209 = .ok (.if_icmp .ge 40, 3) := by decide +kernel
theorem dX12_change_212 : decode cX12_change 212 = .ok (.aload_n 0, 1) := by decide +kernel
theorem dX12_change_213 : decode cX12_change 213 = .ok (.getfield 199, 3) := by decide +kernel
theorem dX12_change_216 : decode cX12_change 216 = .ok (.iload 4, 2) := by decide +kernel
theorem dX12_change_218 : decode cX12_change 218 = .ok (.aload_n 0, 1) := by decide +kernel
theorem dX12_change_219 : decode cX12_change 219 = .ok (.getfield 196, 3) := by decide +kernel
theorem dX12_change_222 : decode cX12_change 222 = .ok (.iload 4, 2) := by decide +kernel
theorem dX12_change_224 : decode cX12_change 224 = .ok (.baload, 1) := by decide +kernel
theorem dX12_change_225 : decode cX12_change 225 = .ok (.ifCond .eq 16, 3) := by decide +kernel
theorem dX12_change_228 : decode cX12_change 228 = .ok (.aload_n 0, 1) := by decide +kernel
theorem dX12_change_229 : decode cX12_change 229 = .ok (.iload 4, 2) := by decide +kernel
theorem dX12_change_231 : decode cX12_change 231 = .ok (.invokevirtual 433, 3) := by decide +kernel
theorem dX12_change_234 : decode cX12_change 234 = .ok (.ifCond .eq 7, 3) := by decide +kernel
theorem dX12_change_237 : decode cX12_change 237 = .ok (.iconst 1, 1) := by decide +kernel
theorem dX12_change_238 : decode cX12_change 238 = .ok (.goto 4, 3) := by decide +kernel
theorem dX12_change_241 : decode cX12_change 241 = .ok (.iconst 0, 1) := by decide +kernel
theorem dX12_change_242 : decode cX12_change 242 = .ok (.bastore, 1) := by decide +kernel
theorem dX12_change_243 : decode cX12_change 243 = .ok (.iinc 4 1, 3) := by decide +kernel
theorem dX12_change_246 : decode cX12_change 246 = .ok (.goto (-43), 3) := by decide +kernel
theorem dX12_change_249 : decode cX12_change 249 = .ok (.iconst 0, 1) := by decide +kernel
theorem dX12_change_250 : decode cX12_change 250 = .ok (.istore 4, 2) := by decide +kernel
theorem dX12_change_252 : decode cX12_change 252 = .ok (.iload 4, 2) := by decide +kernel
theorem dX12_change_254 : decode cX12_change 254 = .ok (.aload_n 0, 1) := by decide +kernel
theorem dX12_change_255 : decode cX12_change 255 = .ok (.getfield 295, 3) := by decide +kernel
theorem dX12_change_258 : decode cX12_change 258 = .ok (.if_icmp .ge 67, 3) := by decide +kernel
theorem dX12_change_261 : decode cX12_change 261 = .ok (.aload_n 0, 1) := by decide +kernel
theorem dX12_change_262 : decode cX12_change 262 = .ok (.getfield 199, 3) := by decide +kernel
theorem dX12_change_265 : decode cX12_change 265 = .ok (.iload 4, 2) := by decide +kernel
theorem dX12_change_267 : decode cX12_change 267 = .ok (.baload, 1) := by decide +kernel
theorem dX12_change_268 : decode cX12_change 268 = .ok (.ifCond .ne 6, 3) := by decide +kernel
theorem dX12_change_271 : decode cX12_change 271 = .ok (.goto 48, 3) := by decide +kernel
theorem dX12_change_274 : decode cX12_change 274 = .ok (.aload_n 0, 1) := by decide +kernel
theorem dX12_change_275 : decode cX12_change 275 = .ok (.getfield 193, 3) := by decide +kernel
theorem dX12_change_278 : decode cX12_change 278 = .ok (.iload 4, 2) := by decide +kernel
theorem dX12_change_280 : decode cX12_change 280 = .ok (.aload_n 0, 1) := by decide +kernel
theorem dX12_change_281 : decode cX12_change 281 = .ok (.getfield 190, 3) := by decide +kernel
theorem dX12_change_284 : decode cX12_change 284 = .ok (.iload 4, 2) := by decide +kernel
theorem dX12_change_286 : decode cX12_change 286 = .ok (.iaload, 1) := by decide +kernel
theorem dX12_change_287 : decode cX12_change 287 = .ok (.iastore, 1) := by decide +kernel
theorem dX12_change_288 : decode cX12_change 288 = .ok (.iload_n 3, 1) := by decide +kernel
theorem dX12_change_289 : decode cX12_change 289 = .ok (.aload_n 0, 1) := by decide +kernel
theorem dX12_change_290 : decode cX12_change 290 = .ok (.getfield 190, 3) := by decide +kernel
theorem dX12_change_293 : decode cX12_change 293 = .ok (.iload 4, 2) := by decide +kernel
theorem dX12_change_295 : decode cX12_change 295 = .ok (.iaload, 1) := by decide +kernel
theorem dX12_change_296 : decode cX12_change 296 = .ok (.iload 4, 2) := by decide +kernel
theorem dX12_change_298 : decode cX12_change 298 = .ok (.if_icmp .ne 7, 3) := by decide +kernel
theorem dX12_change_301 : decode cX12_change 301 = .ok (.iconst 0, 1) := by decide +kernel
theorem dX12_change_302 : decode cX12_change 302 = .ok (.goto 4, 3) := by decide +kernel
theorem dX12_change_305 : decode cX12_change 305 = .ok (.iconst 1, 1) := by decide +kernel
theorem dX12_change_306 : decode cX12_change 306 = .ok (.iadd, 1) := by decide +kernel
theorem dX12_change_307 : decode cX12_change 307 = .ok (.istore_n 3, 1) := by decide +kernel
theorem dX12_change_308 : decode cX12_change 308 = .ok (.aload_n 0, 1) := by decide +kernel
theorem dX12_change_309 : decode cX12_change 309 = .ok (.getfield 196, 3) := by decide +kernel
theorem dX12_change_312 : decode cX12_change 312 = .ok (.iload 4, 2) := by decide +kernel
theorem dX12_change_314 : decode cX12_change 314 = .ok (.iconst 0, 1) := by decide +kernel
theorem dX12_change_315 : decode cX12_change 315 = .ok (.bastore, 1) := by decide +kernel
theorem dX12_change_316 : decode cX12_change 316 = .ok (.iinc 2 (-1), 3) := by decide +kernel
theorem dX12_change_319 : decode cX12_change 319 = .ok (.iinc 4 1, 3) := by decide +kernel
theorem dX12_change_322 : decode cX12_change 322 = .ok (.goto (-70), 3) := by decide +kernel
theorem dX12_change_325 : decode cX12_change 325 = .ok (.goto (-163), 3) := by decide +kernel
theorem dX12_change_328 : decode cX12_change 328 = .ok (.iload_n 3, 1) := by decide +kernel
theorem dX12_change_329 : decode cX12_change 329 = .ok (.ireturn, 1) := by decide +kernel
def fX12_change_L43 : Nat → Int32 → Int32 → Int32 → Hp → Option ((Int32 × Int32) × Hp)
  | 0, _, _, _, _ => none
  | n + 1, a1, a2, a3, h => br ((gI h 12 0 8) ≤ a3) (some ((a2, a3), h)) (gd (ib a3 12) (lb (sI h 109 0 (ix a3) (-1)) (fun h5 => lb (fun (x7 : Int32) (x8 : Int32) (h9 : Hp) => gd (ib x7 12) (lb (sI h9 110 0 (ix x7) (x8 &&& 1)) (fun h11 => gd (ib a3 12) (br ((gI h11 110 0 (ix a3)) = 0) (lb (a2 + 0) (fun v13 => lb (a3 + 1) (fun v14 => fX12_change_L43 n a1 v13 v14 h11))) (lb (a2 + 1) (fun v15 => lb (a3 + 1) (fun v16 => fX12_change_L43 n a1 v15 v16 h11))))))) (fun j6 => lb (fun (x18 : Int32) (h19 : Hp) => j6 x18 0 h19) (fun j17 => br (((a1 >>> (a3 &&& 31)) &&& 1) = 1) (gd (ib a3 12) (br ((gI h5 68 0 (ix a3)) = 0) (gd (ib ((((200 : Int32) * a3) + (gI h5 12 0 5)) - 1) 2400) (br ((gI h5 88 0 (ix ((((200 : Int32) * a3) + (gI h5 12 0 5)) - 1))) = (-1)) (j17 a3 h5) (j6 a3 1 h5))) (j17 a3 h5))) (j17 a3 h5))))))
def fX12_change_L136 : Nat → Int32 → Int32 → Hp → Option ((Int32) × Hp)
  | 0, _, _, _ => none
  | n + 1, a2, a3, h => br (12 ≤ a3) (some ((a3), h)) (gd (ib a3 12) (lb (sI h 109 0 (ix a3) (-1)) (fun h28 => lb (a3 + 1) (fun v29 => fX12_change_L136 n a2 v29 h28))))
def fX12_change_L169 : Nat → Int32 → Int32 → Int32 → Hp → Option ((Int32) × Hp)
  | 0, _, _, _, _ => none
  | n + 1, a2, a3, a4, h => br ((gI h 12 0 8) ≤ a4) (some ((a4), h)) (gd (ib a4 12) (br ((gI h 110 0 (ix a4)) = 0) (lb (a4 + 1) (fun v35 => fX12_change_L169 n a2 a3 v35 h)) (bd (fX12_looks a4 h) (fun r36 h37 => lb (a4 + 1) (fun v38 => fX12_change_L169 n a2 a3 v38 h37)))))
def fX12_change_L203 : Nat → Int32 → Int32 → Int32 → Hp → Option ((Int32) × Hp)
  | 0, _, _, _, _ => none
  | n + 1, a2, a3, a4, h => br ((gI h 12 0 8) ≤ a4) (some ((a4), h)) (gd (ib a4 12) (br ((gI h 110 0 (ix a4)) = 0) (gd (ib a4 12) (lb (sI h 111 0 (ix a4) 0) (fun h44 => lb (a4 + 1) (fun v45 => fX12_change_L203 n a2 a3 v45 h44)))) (bd (fX12_comesBack a4 h) (fun r46 h47 => br (r46 = 0) (gd (ib a4 12) (lb (sI h47 111 0 (ix a4) 0) (fun h49 => lb (a4 + 1) (fun v50 => fX12_change_L203 n a2 a3 v50 h49)))) (gd (ib a4 12) (lb (sI h47 111 0 (ix a4) 1) (fun h52 => lb (a4 + 1) (fun v53 => fX12_change_L203 n a2 a3 v53 h52))))))))
def fX12_change_L252 : Nat → Int32 → Int32 → Int32 → Hp → Option ((Int32 × Int32 × Int32) × Hp)
  | 0, _, _, _, _ => none
  | n + 1, a2, a3, a4, h => br ((gI h 12 0 8) ≤ a4) (some ((a2, a3, a4), h)) (gd (ib a4 12) (br ((gI h 111 0 (ix a4)) = 0) (lb (a4 + 1) (fun v71 => fX12_change_L252 n a2 a3 v71 h)) (gd (ib a4 12) (gd (ib a4 12) (lb (sI h 109 0 (ix a4) (gI h 108 0 (ix a4))) (fun h60 => gd (ib a4 12) (lb (fun (x63 : Int32) (x64 : Int32) (h65 : Hp) => lb (x63 + x64) (fun v66 => gd (ib a4 12) (lb (sI h65 110 0 (ix a4) 0) (fun h68 => lb (a2 + (-1)) (fun v69 => lb (a4 + 1) (fun v70 => fX12_change_L252 n v69 v66 v70 h68)))))) (fun j62 => br ((gI h60 108 0 (ix a4)) = a4) (j62 a3 0 h60) (j62 a3 1 h60)))))))))
def fX12_change_L162 : Nat → Int32 → Int32 → Hp → Option ((Int32 × Int32) × Hp)
  | 0, _, _, _ => none
  | n + 1, a2, a3, h => br (a2 ≤ 0) (some ((a2, a3), h)) (bd (fX12_change_L169 FU a2 a3 0 h) (fun v41 h39 => bd (fX12_change_L203 FU a2 a3 0 h39) (fun v56 h54 => bd (fX12_change_L252 FU a2 a3 0 h54) (fun t73 h72 => lb t73.1 (fun v74 => lb t73.2.1 (fun v75 => lb t73.2.2 (fun v76 => fX12_change_L162 n v74 v75 h72)))))))
def fX12_change (a1 : Int32) (h : Hp) : Option (Int32 × Hp) := lb (sI h 12 0 0 0) (fun h1 => br ((fX12_in a1.toInt64 0 (((1 : Int64) <<< ((gI h1 12 0 8).toInt64 &&& 63)) - 1) h1) = 0) (some ((-2), h1)) (br ((gI h1 12 0 5) = 0) (some ((-9), h1)) (bd (fX12_listens h1) (fun r2 h3 => bd (fX12_change_L43 FU a1 0 0 h3) (fun t23 h22 => lb t23.1 (fun v24 => lb t23.2 (fun v25 => lb (gI h22 12 0 8) (fun v26 => bd (fX12_change_L136 FU v24 v26 h22) (fun v32 h30 => lb (sI h30 12 0 75 1) (fun h33 => bd (fX12_change_L162 FU v24 0 h33) (fun t78 h77 => lb t78.1 (fun v79 => lb t78.2 (fun v80 => some (v80, h77))))))))))))))
set_option maxRecDepth 20000 in
theorem tX12_change_L43 {X : Cz} {h0 : Hp} {r : Option AV} {hE : Hp} : ∀ (n : Nat) (a1 : Int32) (a2 : Int32) (a3 : Int32) (h : Hp) (z : (Int32 × Int32) × Hp), fX12_change_L43 n a1 a2 a3 h = some z → V X mX12_change true h0 131 [(0, zr 12 0), (1, zi a1), (2, zi z.1.1), (3, zi z.1.2)] [] z.2 r hE → V X mX12_change true h0 43 [(0, zr 12 0), (1, zi a1), (2, zi a2), (3, zi a3)] [] h r hE := by
  intro n
  induction n with
  | zero => intro a1 a2 a3 h z hF k; cases hF
  | succ n ih =>
    intro a1 a2 a3 h z hF k
    rw [fX12_change_L43] at hF
    refine v_iload_n (j := 3) dX12_change_43 rfl ?_
    refine v_aload_n (j := 0) dX12_change_44 rfl ?_
    refine v_getI (c := 12) rfl (Or.inl rfl) cz12 flX12_295 dX12_change_45 ?_
    refine v_icmp_ge dX12_change_48 (by decide : _ = ((131 : Nat) : Int)) (fun q => ?_) (fun q => ?_)
    · replace hF := brT q hF
      cases hF
      exact k
    · replace hF := brF q hF
      refine v_aload_n (j := 0) dX12_change_51 rfl ?_
      refine v_getL (c := 12) rfl rfl rfl ly12_72 cz12 flX12_193 dX12_change_52 ?_
      refine v_iload_n (j := 3) dX12_change_55 rfl ?_
      refine v_iconst (v := (-1)) dX12_change_56 (by decide) ?_
      replace hF := gd_use hF
      obtain ⟨q4, hF⟩ := hF
      refine v_iast rfl q4 dX12_change_57 ?_
      refine v_toph fun h5 eh5 => ?_
      replace hF := lb_use eh5 hF
      clear eh5
      refine v_aload_n (j := 0) dX12_change_58 rfl ?_
      refine v_getL (c := 12) rfl rfl rfl ly12_73 cz12 flX12_196 dX12_change_59 ?_
      refine v_iload_n (j := 3) dX12_change_62 rfl ?_
      refine v_iload_n (j := 1) dX12_change_63 rfl ?_
      refine v_iload_n (j := 3) dX12_change_64 rfl ?_
      refine v_ishr dX12_change_65 ?_
      refine v_iconst (v := 1) dX12_change_66 (by decide) ?_
      refine v_iand dX12_change_67 ?_
      refine v_iconst (v := 1) dX12_change_68 (by decide) ?_
      replace hF := lb_ex hF
      obtain ⟨j6, ej6, hF⟩ := hF
      have j6V : ∀ (x7 : Int32) (x8 : Int32) (h9 : Hp), j6 x7 x8 h9 = some z → V X mX12_change true h0 107 [(0, zr 12 0), (1, zi a1), (2, zi a2), (3, zi a3)] [zi x8, zi x7, zr 110 0] h9 r hE := by
        intro x7 x8 h9 hF
        subst ej6
        replace hF := gd_use hF
        obtain ⟨q10, hF⟩ := hF
        refine v_zast rfl q10 dX12_change_107 ?_
        refine v_toph fun h11 eh11 => ?_
        replace hF := lb_use eh11 hF
        clear eh11
        refine v_iload_n (j := 2) dX12_change_108 rfl ?_
        refine v_aload_n (j := 0) dX12_change_109 rfl ?_
        refine v_getL (c := 12) rfl rfl rfl ly12_73 cz12 flX12_196 dX12_change_110 ?_
        refine v_iload_n (j := 3) dX12_change_113 rfl ?_
        replace hF := gd_use hF
        obtain ⟨q12, hF⟩ := hF
        refine v_zald rfl q12 dX12_change_114 ?_
        refine v_if_eq dX12_change_115 (by decide : _ = ((122 : Nat) : Int)) (fun q => ?_) (fun q => ?_)
        · replace hF := brT q hF
          refine v_iconst (v := 0) dX12_change_122 (by decide) ?_
          refine v_iadd dX12_change_123 ?_
          refine v_topi fun v13 ev13 => ?_
          replace hF := lb_use ev13 hF
          clear ev13
          refine v_istore_n (ls' := [(2, zi v13), (0, zr 12 0), (1, zi a1), (3, zi a3)]) dX12_change_124 (by decide) rfl ?_
          obtain ⟨v14, ev14⟩ : ∃ y : Int32, y = a3 + 1 := ⟨_, rfl⟩
          replace hF := lb_use ev14 hF
          refine v_iinc (j := 3) (v := v14) (ls' := [(3, zi v14), (2, zi v13), (0, zr 12 0), (1, zi a1)]) dX12_change_125 rfl (by rw [ev14]; rfl) (by decide) rfl ?_
          clear ev14
          refine v_goto (tgt := 43) dX12_change_128 (by decide) ?_
          refine v_sub [2, 3, 1, 0] rfl ?_
          exact ih a1 v13 v14 h11 _ hF k
        · replace hF := brF q hF
          refine v_iconst (v := 1) dX12_change_118 (by decide) ?_
          refine v_goto (tgt := 123) dX12_change_119 (by decide) ?_
          refine v_iadd dX12_change_123 ?_
          refine v_topi fun v15 ev15 => ?_
          replace hF := lb_use ev15 hF
          clear ev15
          refine v_istore_n (ls' := [(2, zi v15), (0, zr 12 0), (1, zi a1), (3, zi a3)]) dX12_change_124 (by decide) rfl ?_
          obtain ⟨v16, ev16⟩ : ∃ y : Int32, y = a3 + 1 := ⟨_, rfl⟩
          replace hF := lb_use ev16 hF
          refine v_iinc (j := 3) (v := v16) (ls' := [(3, zi v16), (2, zi v15), (0, zr 12 0), (1, zi a1)]) dX12_change_125 rfl (by rw [ev16]; rfl) (by decide) rfl ?_
          clear ev16
          refine v_goto (tgt := 43) dX12_change_128 (by decide) ?_
          refine v_sub [2, 3, 1, 0] rfl ?_
          exact ih a1 v15 v16 h11 _ hF k
      clear ej6
      replace hF := lb_ex hF
      obtain ⟨j17, ej17, hF⟩ := hF
      have j17V : ∀ (x18 : Int32) (h19 : Hp), j17 x18 h19 = some z → V X mX12_change true h0 106 [(0, zr 12 0), (1, zi a1), (2, zi a2), (3, zi a3)] [zi x18, zr 110 0] h19 r hE := by
        intro x18 h19 hF
        subst ej17
        refine v_iconst (v := 0) dX12_change_106 (by decide) ?_
        exact j6V x18 0 h19 hF
      clear ej17
      refine v_icmp_ne dX12_change_69 (by decide : _ = ((106 : Nat) : Int)) (fun q => ?_) (fun q => ?_)
      · replace hF := brF q hF
        exact j17V a3 h5 hF
      · replace hF := brT (Decidable.not_not.mp q) hF
        refine v_aload_n (j := 0) dX12_change_72 rfl ?_
        refine v_getL (c := 12) rfl rfl rfl ly12_28 cz12 flX12_70 dX12_change_73 ?_
        refine v_iload_n (j := 3) dX12_change_76 rfl ?_
        replace hF := gd_use hF
        obtain ⟨q20, hF⟩ := hF
        refine v_zald rfl q20 dX12_change_77 ?_
        refine v_if_ne dX12_change_78 (by decide : _ = ((106 : Nat) : Int)) (fun q => ?_) (fun q => ?_)
        · replace hF := brF q hF
          exact j17V a3 h5 hF
        · replace hF := brT (Decidable.not_not.mp q) hF
          refine v_aload_n (j := 0) dX12_change_81 rfl ?_
          refine v_getL (c := 12) rfl rfl rfl ly12_48 cz12 flX12_130 dX12_change_82 ?_
          refine v_sipush (v := 200) dX12_change_85 (by decide) ?_
          refine v_iload_n (j := 3) dX12_change_88 rfl ?_
          refine v_imul dX12_change_89 ?_
          refine v_aload_n (j := 0) dX12_change_90 rfl ?_
          refine v_getI (c := 12) rfl (Or.inl rfl) cz12 flX12_251 dX12_change_91 ?_
          refine v_iadd dX12_change_94 ?_
          refine v_iconst (v := 1) dX12_change_95 (by decide) ?_
          refine v_isub dX12_change_96 ?_
          replace hF := gd_use hF
          obtain ⟨q21, hF⟩ := hF
          refine v_iald rfl q21 dX12_change_97 ?_
          refine v_iconst (v := (-1)) dX12_change_98 (by decide) ?_
          refine v_icmp_eq dX12_change_99 (by decide : _ = ((106 : Nat) : Int)) (fun q => ?_) (fun q => ?_)
          · replace hF := brT q hF
            exact j17V a3 h5 hF
          · replace hF := brF q hF
            refine v_iconst (v := 1) dX12_change_102 (by decide) ?_
            refine v_goto (tgt := 107) dX12_change_103 (by decide) ?_
            exact j6V a3 1 h5 hF
set_option maxRecDepth 20000 in
theorem tX12_change_L136 {X : Cz} {h0 : Hp} {r : Option AV} {hE : Hp} : ∀ (n : Nat) (a2 : Int32) (a3 : Int32) (h : Hp) (z : (Int32) × Hp), fX12_change_L136 n a2 a3 h = some z → V X mX12_change true h0 155 [(0, zr 12 0), (2, zi a2), (3, zi z.1)] [] z.2 r hE → V X mX12_change true h0 136 [(0, zr 12 0), (2, zi a2), (3, zi a3)] [] h r hE := by
  intro n
  induction n with
  | zero => intro a2 a3 h z hF k; cases hF
  | succ n ih =>
    intro a2 a3 h z hF k
    rw [fX12_change_L136] at hF
    refine v_iload_n (j := 2) dX12_change_136 rfl ?_
    refine v_bipush (v := 12) dX12_change_137 (by decide) ?_
    refine v_icmp_ge dX12_change_139 (by decide : _ = ((155 : Nat) : Int)) (fun q => ?_) (fun q => ?_)
    · replace hF := brT q hF
      cases hF
      exact k
    · replace hF := brF q hF
      refine v_aload_n (j := 0) dX12_change_142 rfl ?_
      refine v_getL (c := 12) rfl rfl rfl ly12_72 cz12 flX12_193 dX12_change_143 ?_
      refine v_iload_n (j := 2) dX12_change_146 rfl ?_
      refine v_iconst (v := (-1)) dX12_change_147 (by decide) ?_
      replace hF := gd_use hF
      obtain ⟨q27, hF⟩ := hF
      refine v_iast rfl q27 dX12_change_148 ?_
      refine v_toph fun h28 eh28 => ?_
      replace hF := lb_use eh28 hF
      clear eh28
      obtain ⟨v29, ev29⟩ : ∃ y : Int32, y = a3 + 1 := ⟨_, rfl⟩
      replace hF := lb_use ev29 hF
      refine v_iinc (j := 2) (v := v29) (ls' := [(3, zi v29), (0, zr 12 0), (2, zi a2)]) dX12_change_149 rfl (by rw [ev29]; rfl) (by decide) rfl ?_
      clear ev29
      refine v_goto (tgt := 136) dX12_change_152 (by decide) ?_
      refine v_sub [1, 2, 0] rfl ?_
      exact ih a2 v29 h28 _ hF k
set_option maxRecDepth 20000 in
theorem tX12_change_L169 {X : Cz} {h0 : Hp} {r : Option AV} {hE : Hp} : ∀ (n : Nat) (a2 : Int32) (a3 : Int32) (a4 : Int32) (h : Hp) (z : (Int32) × Hp), fX12_change_L169 n a2 a3 a4 h = some z → V X mX12_change true h0 200 [(0, zr 12 0), (2, zi a2), (3, zi a3), (4, zi z.1)] [] z.2 r hE → V X mX12_change true h0 169 [(0, zr 12 0), (2, zi a2), (3, zi a3), (4, zi a4)] [] h r hE := by
  intro n
  induction n with
  | zero => intro a2 a3 a4 h z hF k; cases hF
  | succ n ih =>
    intro a2 a3 a4 h z hF k
    rw [fX12_change_L169] at hF
    refine v_iload (j := 3) dX12_change_169 rfl ?_
    refine v_aload_n (j := 0) dX12_change_171 rfl ?_
    refine v_getI (c := 12) rfl (Or.inl rfl) cz12 flX12_295 dX12_change_172 ?_
    refine v_icmp_ge dX12_change_175 (by decide : _ = ((200 : Nat) : Int)) (fun q => ?_) (fun q => ?_)
    · replace hF := brT q hF
      cases hF
      exact k
    · replace hF := brF q hF
      refine v_aload_n (j := 0) dX12_change_178 rfl ?_
      refine v_getL (c := 12) rfl rfl rfl ly12_73 cz12 flX12_196 dX12_change_179 ?_
      refine v_iload (j := 3) dX12_change_182 rfl ?_
      replace hF := gd_use hF
      obtain ⟨q34, hF⟩ := hF
      refine v_zald rfl q34 dX12_change_184 ?_
      refine v_if_eq dX12_change_185 (by decide : _ = ((194 : Nat) : Int)) (fun q => ?_) (fun q => ?_)
      · replace hF := brT q hF
        obtain ⟨v35, ev35⟩ : ∃ y : Int32, y = a4 + 1 := ⟨_, rfl⟩
        replace hF := lb_use ev35 hF
        refine v_iinc (j := 3) (v := v35) (ls' := [(4, zi v35), (0, zr 12 0), (2, zi a2), (3, zi a3)]) dX12_change_194 rfl (by rw [ev35]; rfl) (by decide) rfl ?_
        clear ev35
        refine v_goto (tgt := 169) dX12_change_197 (by decide) ?_
        refine v_sub [1, 2, 3, 0] rfl ?_
        exact ih a2 a3 v35 h _ hF k
      · replace hF := brF q hF
        refine v_aload_n (j := 0) dX12_change_188 rfl ?_
        refine v_iload (j := 3) dX12_change_189 rfl ?_
        replace hF := bd_use hF
        obtain ⟨r36, h37, er36, hF⟩ := hF
        refine v_cV (hm := h37) (av := [zi a4]) (st := []) (stn := []) (tX12_looks er36) lcX12_looks mlX12_430 imX12_looks seX12_looks rfl rfl rfl rfl ⟨by decide, by decide⟩ (Nat.le_of_ble_eq_true rfl) dX12_change_191 rfl rfl ?_
        clear er36
        obtain ⟨v38, ev38⟩ : ∃ y : Int32, y = a4 + 1 := ⟨_, rfl⟩
        replace hF := lb_use ev38 hF
        refine v_iinc (j := 3) (v := v38) (ls' := [(4, zi v38), (0, zr 12 0), (2, zi a2), (3, zi a3)]) dX12_change_194 rfl (by rw [ev38]; rfl) (by decide) rfl ?_
        clear ev38
        refine v_goto (tgt := 169) dX12_change_197 (by decide) ?_
        refine v_sub [1, 2, 3, 0] rfl ?_
        exact ih a2 a3 v38 h37 _ hF k
set_option maxRecDepth 20000 in
theorem tX12_change_L203 {X : Cz} {h0 : Hp} {r : Option AV} {hE : Hp} : ∀ (n : Nat) (a2 : Int32) (a3 : Int32) (a4 : Int32) (h : Hp) (z : (Int32) × Hp), fX12_change_L203 n a2 a3 a4 h = some z → V X mX12_change true h0 249 [(0, zr 12 0), (2, zi a2), (3, zi a3), (4, zi z.1)] [] z.2 r hE → V X mX12_change true h0 203 [(0, zr 12 0), (2, zi a2), (3, zi a3), (4, zi a4)] [] h r hE := by
  intro n
  induction n with
  | zero => intro a2 a3 a4 h z hF k; cases hF
  | succ n ih =>
    intro a2 a3 a4 h z hF k
    rw [fX12_change_L203] at hF
    refine v_iload (j := 3) dX12_change_203 rfl ?_
    refine v_aload_n (j := 0) dX12_change_205 rfl ?_
    refine v_getI (c := 12) rfl (Or.inl rfl) cz12 flX12_295 dX12_change_206 ?_
    refine v_icmp_ge dX12_change_209 (by decide : _ = ((249 : Nat) : Int)) (fun q => ?_) (fun q => ?_)
    · replace hF := brT q hF
      cases hF
      exact k
    · replace hF := brF q hF
      refine v_aload_n (j := 0) dX12_change_212 rfl ?_
      refine v_getL (c := 12) rfl rfl rfl ly12_74 cz12 flX12_199 dX12_change_213 ?_
      refine v_iload (j := 3) dX12_change_216 rfl ?_
      refine v_aload_n (j := 0) dX12_change_218 rfl ?_
      refine v_getL (c := 12) rfl rfl rfl ly12_73 cz12 flX12_196 dX12_change_219 ?_
      refine v_iload (j := 3) dX12_change_222 rfl ?_
      replace hF := gd_use hF
      obtain ⟨q42, hF⟩ := hF
      refine v_zald rfl q42 dX12_change_224 ?_
      refine v_if_eq dX12_change_225 (by decide : _ = ((241 : Nat) : Int)) (fun q => ?_) (fun q => ?_)
      · replace hF := brT q hF
        refine v_iconst (v := 0) dX12_change_241 (by decide) ?_
        replace hF := gd_use hF
        obtain ⟨q43, hF⟩ := hF
        refine v_zastL rfl q43 (Or.inl rfl) dX12_change_242 ?_
        refine v_toph fun h44 eh44 => ?_
        replace hF := lb_use eh44 hF
        clear eh44
        obtain ⟨v45, ev45⟩ : ∃ y : Int32, y = a4 + 1 := ⟨_, rfl⟩
        replace hF := lb_use ev45 hF
        refine v_iinc (j := 3) (v := v45) (ls' := [(4, zi v45), (0, zr 12 0), (2, zi a2), (3, zi a3)]) dX12_change_243 rfl (by rw [ev45]; rfl) (by decide) rfl ?_
        clear ev45
        refine v_goto (tgt := 203) dX12_change_246 (by decide) ?_
        refine v_sub [1, 2, 3, 0] rfl ?_
        exact ih a2 a3 v45 h44 _ hF k
      · replace hF := brF q hF
        refine v_aload_n (j := 0) dX12_change_228 rfl ?_
        refine v_iload (j := 3) dX12_change_229 rfl ?_
        replace hF := bd_use hF
        obtain ⟨r46, h47, er46, hF⟩ := hF
        refine v_cV (hm := h47) (av := [zi a4]) (st := [zi a4, zr 111 0]) (stn := [zi r46, zi a4, zr 111 0]) (tX12_comesBack er46) lcX12_comesBack mlX12_433 imX12_comesBack seX12_comesBack rfl rfl rfl rfl ⟨by decide, by decide⟩ (Nat.le_of_ble_eq_true rfl) dX12_change_231 rfl rfl ?_
        clear er46
        refine v_if_eq dX12_change_234 (by decide : _ = ((241 : Nat) : Int)) (fun q => ?_) (fun q => ?_)
        · replace hF := brT q hF
          refine v_iconst (v := 0) dX12_change_241 (by decide) ?_
          replace hF := gd_use hF
          obtain ⟨q48, hF⟩ := hF
          refine v_zastL rfl q48 (Or.inl rfl) dX12_change_242 ?_
          refine v_toph fun h49 eh49 => ?_
          replace hF := lb_use eh49 hF
          clear eh49
          obtain ⟨v50, ev50⟩ : ∃ y : Int32, y = a4 + 1 := ⟨_, rfl⟩
          replace hF := lb_use ev50 hF
          refine v_iinc (j := 3) (v := v50) (ls' := [(4, zi v50), (0, zr 12 0), (2, zi a2), (3, zi a3)]) dX12_change_243 rfl (by rw [ev50]; rfl) (by decide) rfl ?_
          clear ev50
          refine v_goto (tgt := 203) dX12_change_246 (by decide) ?_
          refine v_sub [1, 2, 3, 0] rfl ?_
          exact ih a2 a3 v50 h49 _ hF k
        · replace hF := brF q hF
          refine v_iconst (v := 1) dX12_change_237 (by decide) ?_
          refine v_goto (tgt := 242) dX12_change_238 (by decide) ?_
          replace hF := gd_use hF
          obtain ⟨q51, hF⟩ := hF
          refine v_zastL rfl q51 (Or.inr rfl) dX12_change_242 ?_
          refine v_toph fun h52 eh52 => ?_
          replace hF := lb_use eh52 hF
          clear eh52
          obtain ⟨v53, ev53⟩ : ∃ y : Int32, y = a4 + 1 := ⟨_, rfl⟩
          replace hF := lb_use ev53 hF
          refine v_iinc (j := 3) (v := v53) (ls' := [(4, zi v53), (0, zr 12 0), (2, zi a2), (3, zi a3)]) dX12_change_243 rfl (by rw [ev53]; rfl) (by decide) rfl ?_
          clear ev53
          refine v_goto (tgt := 203) dX12_change_246 (by decide) ?_
          refine v_sub [1, 2, 3, 0] rfl ?_
          exact ih a2 a3 v53 h52 _ hF k
set_option maxRecDepth 20000 in
theorem tX12_change_L252 {X : Cz} {h0 : Hp} {r : Option AV} {hE : Hp} : ∀ (n : Nat) (a2 : Int32) (a3 : Int32) (a4 : Int32) (h : Hp) (z : (Int32 × Int32 × Int32) × Hp), fX12_change_L252 n a2 a3 a4 h = some z → V X mX12_change true h0 325 [(0, zr 12 0), (2, zi z.1.1), (3, zi z.1.2.1), (4, zi z.1.2.2)] [] z.2 r hE → V X mX12_change true h0 252 [(0, zr 12 0), (2, zi a2), (3, zi a3), (4, zi a4)] [] h r hE := by
  intro n
  induction n with
  | zero => intro a2 a3 a4 h z hF k; cases hF
  | succ n ih =>
    intro a2 a3 a4 h z hF k
    rw [fX12_change_L252] at hF
    refine v_iload (j := 3) dX12_change_252 rfl ?_
    refine v_aload_n (j := 0) dX12_change_254 rfl ?_
    refine v_getI (c := 12) rfl (Or.inl rfl) cz12 flX12_295 dX12_change_255 ?_
    refine v_icmp_ge dX12_change_258 (by decide : _ = ((325 : Nat) : Int)) (fun q => ?_) (fun q => ?_)
    · replace hF := brT q hF
      cases hF
      exact k
    · replace hF := brF q hF
      refine v_aload_n (j := 0) dX12_change_261 rfl ?_
      refine v_getL (c := 12) rfl rfl rfl ly12_74 cz12 flX12_199 dX12_change_262 ?_
      refine v_iload (j := 3) dX12_change_265 rfl ?_
      replace hF := gd_use hF
      obtain ⟨q57, hF⟩ := hF
      refine v_zald rfl q57 dX12_change_267 ?_
      refine v_if_ne dX12_change_268 (by decide : _ = ((274 : Nat) : Int)) (fun q => ?_) (fun q => ?_)
      · replace hF := brF q hF
        refine v_aload_n (j := 0) dX12_change_274 rfl ?_
        refine v_getL (c := 12) rfl rfl rfl ly12_72 cz12 flX12_193 dX12_change_275 ?_
        refine v_iload (j := 3) dX12_change_278 rfl ?_
        refine v_aload_n (j := 0) dX12_change_280 rfl ?_
        refine v_getL (c := 12) rfl rfl rfl ly12_71 cz12 flX12_190 dX12_change_281 ?_
        refine v_iload (j := 3) dX12_change_284 rfl ?_
        replace hF := gd_use hF
        obtain ⟨q58, hF⟩ := hF
        refine v_iald rfl q58 dX12_change_286 ?_
        replace hF := gd_use hF
        obtain ⟨q59, hF⟩ := hF
        refine v_iast rfl q59 dX12_change_287 ?_
        refine v_toph fun h60 eh60 => ?_
        replace hF := lb_use eh60 hF
        clear eh60
        refine v_iload_n (j := 2) dX12_change_288 rfl ?_
        refine v_aload_n (j := 0) dX12_change_289 rfl ?_
        refine v_getL (c := 12) rfl rfl rfl ly12_71 cz12 flX12_190 dX12_change_290 ?_
        refine v_iload (j := 3) dX12_change_293 rfl ?_
        replace hF := gd_use hF
        obtain ⟨q61, hF⟩ := hF
        refine v_iald rfl q61 dX12_change_295 ?_
        refine v_iload (j := 3) dX12_change_296 rfl ?_
        replace hF := lb_ex hF
        obtain ⟨j62, ej62, hF⟩ := hF
        have j62V : ∀ (x63 : Int32) (x64 : Int32) (h65 : Hp), j62 x63 x64 h65 = some z → V X mX12_change true h0 306 [(0, zr 12 0), (2, zi a2), (4, zi a4)] [zi x64, zi x63] h65 r hE := by
          intro x63 x64 h65 hF
          subst ej62
          refine v_iadd dX12_change_306 ?_
          refine v_topi fun v66 ev66 => ?_
          replace hF := lb_use ev66 hF
          clear ev66
          refine v_istore_n (ls' := [(3, zi v66), (0, zr 12 0), (2, zi a2), (4, zi a4)]) dX12_change_307 (by decide) rfl ?_
          refine v_aload_n (j := 1) dX12_change_308 rfl ?_
          refine v_getL (c := 12) rfl rfl rfl ly12_73 cz12 flX12_196 dX12_change_309 ?_
          refine v_iload (j := 3) dX12_change_312 rfl ?_
          refine v_iconst (v := 0) dX12_change_314 (by decide) ?_
          replace hF := gd_use hF
          obtain ⟨q67, hF⟩ := hF
          refine v_zastL rfl q67 (Or.inl rfl) dX12_change_315 ?_
          refine v_toph fun h68 eh68 => ?_
          replace hF := lb_use eh68 hF
          clear eh68
          obtain ⟨v69, ev69⟩ : ∃ y : Int32, y = a2 + (-1) := ⟨_, rfl⟩
          replace hF := lb_use ev69 hF
          refine v_iinc (j := 2) (v := v69) (ls' := [(2, zi v69), (3, zi v66), (0, zr 12 0), (4, zi a4)]) dX12_change_316 rfl (by rw [ev69]; rfl) (by decide) rfl ?_
          clear ev69
          obtain ⟨v70, ev70⟩ : ∃ y : Int32, y = a4 + 1 := ⟨_, rfl⟩
          replace hF := lb_use ev70 hF
          refine v_iinc (j := 3) (v := v70) (ls' := [(4, zi v70), (2, zi v69), (3, zi v66), (0, zr 12 0)]) dX12_change_319 rfl (by rw [ev70]; rfl) (by decide) rfl ?_
          clear ev70
          refine v_goto (tgt := 252) dX12_change_322 (by decide) ?_
          refine v_sub [3, 1, 2, 0] rfl ?_
          exact ih v69 v66 v70 h68 _ hF k
        clear ej62
        refine v_icmp_ne dX12_change_298 (by decide : _ = ((305 : Nat) : Int)) (fun q => ?_) (fun q => ?_)
        · replace hF := brF q hF
          refine v_iconst (v := 1) dX12_change_305 (by decide) ?_
          refine v_sub [0, 1, 3] rfl ?_
          exact j62V a3 1 h60 hF
        · replace hF := brT (Decidable.not_not.mp q) hF
          refine v_iconst (v := 0) dX12_change_301 (by decide) ?_
          refine v_goto (tgt := 306) dX12_change_302 (by decide) ?_
          refine v_sub [0, 1, 3] rfl ?_
          exact j62V a3 0 h60 hF
      · replace hF := brT (Decidable.not_not.mp q) hF
        refine v_goto (tgt := 319) dX12_change_271 (by decide) ?_
        obtain ⟨v71, ev71⟩ : ∃ y : Int32, y = a4 + 1 := ⟨_, rfl⟩
        replace hF := lb_use ev71 hF
        refine v_iinc (j := 3) (v := v71) (ls' := [(4, zi v71), (0, zr 12 0), (2, zi a2), (3, zi a3)]) dX12_change_319 rfl (by rw [ev71]; rfl) (by decide) rfl ?_
        clear ev71
        refine v_goto (tgt := 252) dX12_change_322 (by decide) ?_
        refine v_sub [1, 2, 3, 0] rfl ?_
        exact ih a2 a3 v71 h _ hF k
set_option maxRecDepth 20000 in
theorem tX12_change_L162 {X : Cz} {h0 : Hp} {r : Option AV} {hE : Hp} : ∀ (n : Nat) (a2 : Int32) (a3 : Int32) (h : Hp) (z : (Int32 × Int32) × Hp), fX12_change_L162 n a2 a3 h = some z → V X mX12_change true h0 328 [(0, zr 12 0), (2, zi z.1.1), (3, zi z.1.2)] [] z.2 r hE → V X mX12_change true h0 162 [(0, zr 12 0), (2, zi a2), (3, zi a3)] [] h r hE := by
  intro n
  induction n with
  | zero => intro a2 a3 h z hF k; cases hF
  | succ n ih =>
    intro a2 a3 h z hF k
    rw [fX12_change_L162] at hF
    refine v_iload_n (j := 1) dX12_change_162 rfl ?_
    refine v_if_le dX12_change_163 (by decide : _ = ((328 : Nat) : Int)) (fun q => ?_) (fun q => ?_)
    · replace hF := brT q hF
      cases hF
      exact k
    · replace hF := brF q hF
      refine v_iconst (v := 0) dX12_change_166 (by decide) ?_
      refine v_istore (ls' := [(4, zi 0), (0, zr 12 0), (2, zi a2), (3, zi a3)]) dX12_change_167 (by decide) rfl ?_
      refine v_sub [1, 2, 3, 0] rfl ?_
      replace hF := bd_use hF
      obtain ⟨v41, h39, ev41, hF⟩ := hF
      refine tX12_change_L169 _ a2 a3 0 h _ ev41 ?_
      clear ev41
      refine v_iconst (v := 0) dX12_change_200 (by decide) ?_
      refine v_istore (ls' := [(4, zi 0), (0, zr 12 0), (2, zi a2), (3, zi a3)]) dX12_change_201 (by decide) rfl ?_
      refine v_sub [1, 2, 3, 0] rfl ?_
      replace hF := bd_use hF
      obtain ⟨v56, h54, ev56, hF⟩ := hF
      refine tX12_change_L203 _ a2 a3 0 h39 _ ev56 ?_
      clear ev56
      refine v_iconst (v := 0) dX12_change_249 (by decide) ?_
      refine v_istore (ls' := [(4, zi 0), (0, zr 12 0), (2, zi a2), (3, zi a3)]) dX12_change_250 (by decide) rfl ?_
      refine v_sub [1, 2, 3, 0] rfl ?_
      replace hF := bd_use hF
      obtain ⟨t73, h72, et73, hF⟩ := hF
      refine tX12_change_L252 _ a2 a3 0 h54 _ et73 ?_
      clear et73
      obtain ⟨v74, v75, v76⟩ := t73
      replace hF := lb_use (x := v74) rfl hF
      replace hF := lb_use (x := v75) rfl hF
      replace hF := lb_use (x := v76) rfl hF
      refine v_goto (tgt := 162) dX12_change_325 (by decide) ?_
      refine v_sub [0, 1, 2] rfl ?_
      exact ih v74 v75 h72 _ hF k
set_option maxRecDepth 20000 in
theorem tX12_change {X : Cz} {a1 : Int32} {h hE : Hp} {rE : Int32} (hF : fX12_change a1 h = some (rE, hE)) : Ct X mX12_change true [zr 12 0, zi a1] h (some (zi rE)) hE := by
  refine Ct_of (by decide) (Nat.le_of_ble_eq_true rfl) (ls := [(0, zr 12 0), (1, zi a1)]) rfl ?_
  unfold fX12_change at hF
  refine v_aload_n (j := 0) dX12_change_0 rfl ?_
  refine v_iconst (v := 0) dX12_change_1 (by decide) ?_
  refine v_putI (c := 12) rfl rfl (Nat.le_of_ble_eq_true rfl) cz12 flX12_208 dX12_change_2 ?_
  refine v_toph fun h1 eh1 => ?_
  replace hF := lb_use eh1 hF
  clear eh1
  refine v_iload_n (j := 1) dX12_change_5 rfl ?_
  refine v_i2l dX12_change_6 ?_
  refine v_lconst (v := 0) dX12_change_7 (by decide) ?_
  refine v_lconst (v := 1) dX12_change_8 (by decide) ?_
  refine v_aload_n (j := 0) dX12_change_9 rfl ?_
  refine v_getI (c := 12) rfl (Or.inl rfl) cz12 flX12_295 dX12_change_10 ?_
  refine v_lshl dX12_change_13 ?_
  refine v_lconst (v := 1) dX12_change_14 (by decide) ?_
  refine v_lsub dX12_change_15 ?_
  refine v_cS (hm := h1) (av := [zj a1.toInt64, zj 0, zj (((1 : Int64) <<< ((gI h1 12 0 8).toInt64 &&& 63)) - 1)]) (st := []) (stn := [zi (fX12_in a1.toInt64 0 (((1 : Int64) <<< ((gI h1 12 0 8).toInt64 &&& 63)) - 1) h1)]) (tX12_in a1.toInt64 0 (((1 : Int64) <<< ((gI h1 12 0 8).toInt64 &&& 63)) - 1) h1) lcX12_in mlX12_213 sxX12_in rfl ⟨by decide, by decide⟩ (Nat.le_of_ble_eq_true rfl) dX12_change_16 rfl rfl ?_
  refine v_if_ne dX12_change_19 (by decide : _ = ((25 : Nat) : Int)) (fun q => ?_) (fun q => ?_)
  · replace hF := brF q hF
    refine v_aload_n (j := 0) dX12_change_25 rfl ?_
    refine v_getI (c := 12) rfl (Or.inl rfl) cz12 flX12_251 dX12_change_26 ?_
    refine v_if_ne dX12_change_29 (by decide : _ = ((35 : Nat) : Int)) (fun q => ?_) (fun q => ?_)
    · replace hF := brF q hF
      refine v_aload_n (j := 0) dX12_change_35 rfl ?_
      replace hF := bd_use hF
      obtain ⟨r2, h3, er2, hF⟩ := hF
      refine v_cV (hm := h3) (av := []) (st := []) (stn := []) (tX12_listens er2) lcX12_listens mlX12_310 imX12_listens seX12_listens rfl rfl rfl rfl ⟨by decide, by decide⟩ (Nat.le_of_ble_eq_true rfl) dX12_change_36 rfl rfl ?_
      clear er2
      refine v_iconst (v := 0) dX12_change_39 (by decide) ?_
      refine v_istore_n (ls' := [(2, zi 0), (0, zr 12 0), (1, zi a1)]) dX12_change_40 (by decide) rfl ?_
      refine v_iconst (v := 0) dX12_change_41 (by decide) ?_
      refine v_istore_n (ls' := [(3, zi 0), (2, zi 0), (0, zr 12 0), (1, zi a1)]) dX12_change_42 (by decide) rfl ?_
      refine v_sub [2, 3, 1, 0] rfl ?_
      replace hF := bd_use hF
      obtain ⟨t23, h22, et23, hF⟩ := hF
      refine tX12_change_L43 _ a1 0 0 h3 _ et23 ?_
      clear et23
      obtain ⟨v24, v25⟩ := t23
      replace hF := lb_use (x := v24) rfl hF
      replace hF := lb_use (x := v25) rfl hF
      refine v_aload_n (j := 0) dX12_change_131 rfl ?_
      refine v_getI (c := 12) rfl (Or.inl rfl) cz12 flX12_295 dX12_change_132 ?_
      refine v_topi fun v26 ev26 => ?_
      replace hF := lb_use ev26 hF
      clear ev26
      refine v_istore_n (ls' := [(3, zi v26), (0, zr 12 0), (1, zi a1), (2, zi v24)]) dX12_change_135 (by decide) rfl ?_
      refine v_sub [1, 3, 0] rfl ?_
      replace hF := bd_use hF
      obtain ⟨v32, h30, ev32, hF⟩ := hF
      refine tX12_change_L136 _ v24 v26 h22 _ ev32 ?_
      clear ev32
      refine v_aload_n (j := 0) dX12_change_155 rfl ?_
      refine v_iconst (v := 1) dX12_change_156 (by decide) ?_
      refine v_putZ (c := 12) rfl rfl (Nat.le_of_ble_eq_true rfl) cz12 flX12_427 (Or.inr rfl) dX12_change_157 ?_
      refine v_toph fun h33 eh33 => ?_
      replace hF := lb_use eh33 hF
      clear eh33
      refine v_iconst (v := 0) dX12_change_160 (by decide) ?_
      refine v_istore_n (ls' := [(3, zi 0), (0, zr 12 0), (2, zi v24)]) dX12_change_161 (by decide) rfl ?_
      refine v_sub [1, 2, 0] rfl ?_
      replace hF := bd_use hF
      obtain ⟨t78, h77, et78, hF⟩ := hF
      refine tX12_change_L162 _ v24 0 h33 _ et78 ?_
      clear et78
      obtain ⟨v79, v80⟩ := t78
      replace hF := lb_use (x := v79) rfl hF
      replace hF := lb_use (x := v80) rfl hF
      refine v_iload_n (j := 2) dX12_change_328 rfl ?_
      obtain ⟨rfl, rfl⟩ := ret_use hF
      exact v_iret rfl dX12_change_329
    · replace hF := brT (Decidable.not_not.mp q) hF
      refine v_bipush (v := (-9)) dX12_change_32 (by decide) ?_
      obtain ⟨rfl, rfl⟩ := ret_use hF
      exact v_iret rfl dX12_change_34
  · replace hF := brT (Decidable.not_not.mp q) hF
    refine v_bipush (v := (-2)) dX12_change_22 (by decide) ?_
    obtain ⟨rfl, rfl⟩ := ret_use hF
    exact v_iret rfl dX12_change_24
theorem dX12_changedTo_0 : decode cX12_changedTo 0 = .ok (.aload_n 0, 1) := by decide +kernel
theorem dX12_changedTo_1 : decode cX12_changedTo 1 = .ok (.iconst 0, 1) := by decide +kernel
theorem dX12_changedTo_2 : decode cX12_changedTo 2 = .ok (.putfield 208, 3) := by decide +kernel
theorem dX12_changedTo_5 : decode cX12_changedTo 5 = .ok (.aload_n 0, 1) := by decide +kernel
theorem dX12_changedTo_6 : decode cX12_changedTo 6 = .ok (.iload_n 1, 1) := by decide +kernel
theorem dX12_changedTo_7 : decode cX12_changedTo 7 = .ok (.invokevirtual 298, 3) := by decide +kernel
theorem dX12_changedTo_10 : decode cX12_changedTo 10 = .ok (.ifCond .eq 19, 3) := by decide +kernel
theorem dX12_changedTo_13 : decode cX12_changedTo 13 = .ok (.aload_n 0, 1) := by decide +kernel
theorem dX12_changedTo_14 : decode cX12_changedTo 14 = .ok (.getfield 427, 3) := by decide +kernel
theorem dX12_changedTo_17 : decode cX12_changedTo 17 = .ok (.ifCond .eq 12, 3) := by decide +kernel
theorem dX12_changedTo_20 : decode cX12_changedTo 20 = .ok (.aload_n 0, 1) := by decide +kernel
theorem dX12_changedTo_21 : decode cX12_changedTo 21 = .ok (.getfield 193, 3) := by decide +kernel
theorem dX12_changedTo_24 : decode cX12_changedTo 24 = .ok (.iload_n 1, 1) := by decide +kernel
theorem dX12_changedTo_25 : decode cX12_changedTo 25 = .ok (.iaload, 1) := by decide +kernel
theorem dX12_changedTo_26 : decode cX12_changedTo 26 = .ok (.goto 4, 3) := by decide +kernel
theorem dX12_changedTo_29 : decode cX12_changedTo 29 = .ok (.iconst (-1), 1) := by decide +kernel
theorem dX12_changedTo_30 : decode cX12_changedTo 30 = .ok (.ireturn, 1) := by decide +kernel
def fX12_changedTo (a1 : Int32) (h : Hp) : Option (Int32 × Hp) := lb (sI h 12 0 0 0) (fun h1 => br ((fX12_isHouse a1 h1) = 0) (some ((-1), h1)) (br ((gI h1 12 0 75) = 0) (some ((-1), h1)) (gd (ib a1 12) (some (gI h1 109 0 (ix a1), h1)))))
set_option maxRecDepth 20000 in
theorem tX12_changedTo {X : Cz} {a1 : Int32} {h hE : Hp} {rE : Int32} (hF : fX12_changedTo a1 h = some (rE, hE)) : Ct X mX12_changedTo true [zr 12 0, zi a1] h (some (zi rE)) hE := by
  refine Ct_of (by decide) (Nat.le_of_ble_eq_true rfl) (ls := [(0, zr 12 0), (1, zi a1)]) rfl ?_
  unfold fX12_changedTo at hF
  refine v_aload_n (j := 0) dX12_changedTo_0 rfl ?_
  refine v_iconst (v := 0) dX12_changedTo_1 (by decide) ?_
  refine v_putI (c := 12) rfl rfl (Nat.le_of_ble_eq_true rfl) cz12 flX12_208 dX12_changedTo_2 ?_
  refine v_toph fun h1 eh1 => ?_
  replace hF := lb_use eh1 hF
  clear eh1
  refine v_aload_n (j := 0) dX12_changedTo_5 rfl ?_
  refine v_iload_n (j := 1) dX12_changedTo_6 rfl ?_
  refine v_cV (hm := h1) (av := [zi a1]) (st := []) (stn := [zi (fX12_isHouse a1 h1)]) (tX12_isHouse a1 h1) lcX12_isHouse mlX12_298 imX12_isHouse seX12_isHouse rfl rfl rfl rfl ⟨by decide, by decide⟩ (Nat.le_of_ble_eq_true rfl) dX12_changedTo_7 rfl rfl ?_
  refine v_if_eq dX12_changedTo_10 (by decide : _ = ((29 : Nat) : Int)) (fun q => ?_) (fun q => ?_)
  · replace hF := brT q hF
    refine v_iconst (v := (-1)) dX12_changedTo_29 (by decide) ?_
    obtain ⟨rfl, rfl⟩ := ret_use hF
    exact v_iret rfl dX12_changedTo_30
  · replace hF := brF q hF
    refine v_aload_n (j := 0) dX12_changedTo_13 rfl ?_
    refine v_getI (c := 12) rfl (Or.inr rfl) cz12 flX12_427 dX12_changedTo_14 ?_
    refine v_if_eq dX12_changedTo_17 (by decide : _ = ((29 : Nat) : Int)) (fun q => ?_) (fun q => ?_)
    · replace hF := brT q hF
      refine v_iconst (v := (-1)) dX12_changedTo_29 (by decide) ?_
      obtain ⟨rfl, rfl⟩ := ret_use hF
      exact v_iret rfl dX12_changedTo_30
    · replace hF := brF q hF
      refine v_aload_n (j := 0) dX12_changedTo_20 rfl ?_
      refine v_getL (c := 12) rfl rfl rfl ly12_72 cz12 flX12_193 dX12_changedTo_21 ?_
      refine v_iload_n (j := 1) dX12_changedTo_24 rfl ?_
      replace hF := gd_use hF
      obtain ⟨q2, hF⟩ := hF
      refine v_iald rfl q2 dX12_changedTo_25 ?_
      refine v_goto (tgt := 30) dX12_changedTo_26 (by decide) ?_
      obtain ⟨rfl, rfl⟩ := ret_use hF
      exact v_iret rfl dX12_changedTo_30
theorem dX12_bestRun_0 : decode cX12_bestRun 0 = .ok (.iconst (-1), 1) := by decide +kernel
theorem dX12_bestRun_1 : decode cX12_bestRun 1 = .ok (.istore 5, 2) := by decide +kernel
theorem dX12_bestRun_3 : decode cX12_bestRun 3 = .ok (.iconst 0, 1) := by decide +kernel
theorem dX12_bestRun_4 : decode cX12_bestRun 4 = .ok (.istore 6, 2) := by decide +kernel
theorem dX12_bestRun_6 : decode cX12_bestRun 6 = .ok (.iconst 0, 1) := by decide +kernel
theorem dX12_bestRun_7 : decode cX12_bestRun 7 = .ok (.istore 7, 2) := by decide +kernel
theorem dX12_bestRun_9 : decode cX12_bestRun 9 = .ok (.iload 7, 2) := by decide +kernel
theorem dX12_bestRun_11 : decode cX12_bestRun 11 = .ok (.aload_n 0, 1) := by decide +kernel
theorem dX12_bestRun_12 : decode cX12_bestRun 12 = .ok (.getfield 248, 3) := by decide +kernel
theorem dX12_bestRun_15 : decode cX12_bestRun 15 = .ok (.if_icmp .ge 191, 3) := by decide +kernel
theorem dX12_bestRun_18 : decode cX12_bestRun 18 = .ok (.aload_n 0, 1) := by decide +kernel
theorem dX12_bestRun_19 : decode cX12_bestRun 19 = .ok (.getfield 57, 3) := by decide +kernel
theorem dX12_bestRun_22 : decode cX12_bestRun 22 = .ok (.iload 7, 2) := by decide +kernel
theorem dX12_bestRun_24 : decode cX12_bestRun 24 = .ok (.baload, 1) := by decide +kernel
theorem dX12_bestRun_25 : decode cX12_bestRun 25 = .ok (.ifCond .eq 14, 3) := by decide +kernel
theorem dX12_bestRun_28 : decode cX12_bestRun 28 = .ok (.iload_n 2, 1) := by decide +kernel
theorem dX12_bestRun_29 : decode cX12_bestRun 29 = .ok (.aload_n 0, 1) := by decide +kernel
theorem dX12_bestRun_30 : decode cX12_bestRun 30 = .ok (.getfield 36, 3) := by decide +kernel
theorem dX12_bestRun_33 : decode cX12_bestRun 33 = .ok (.if_icmp .lt 6, 3) := by decide +kernel
theorem dX12_bestRun_36 : decode cX12_bestRun 36 = .ok (.goto 164, 3) := by decide +kernel
theorem dX12_bestRun_39 : decode cX12_bestRun 39 = .ok (.iconst 0, 1) := by decide +kernel
theorem dX12_bestRun_40 : decode cX12_bestRun 40 = .ok (.istore 8, 2) := by decide +kernel
theorem dX12_bestRun_42 : decode cX12_bestRun 42 = .ok (.iload 8, 2) := by decide +kernel
theorem dX12_bestRun_44 : decode cX12_bestRun 44 = .ok (.iload_n 1, 1) := by decide +kernel
theorem dX12_bestRun_45 : decode cX12_bestRun 45 = .ok (.iadd, 1) := by decide +kernel
theorem dX12_bestRun_46 : decode cX12_bestRun 46 = .ok (.aload_n 0, 1) := by decide +kernel
theorem dX12_bestRun_47 : decode cX12_bestRun 47 = .ok (.getfield 54, 3) := by decide +kernel
theorem dX12_bestRun_50 : decode cX12_bestRun 50 = .ok (.iload 7, 2) := by decide +kernel
theorem dX12_bestRun_52 : decode cX12_bestRun 52 = .ok (.iaload, 1) := by decide +kernel
theorem dX12_bestRun_53 : decode cX12_bestRun 53 = .ok (.if_icmp .gt 147, 3) := by decide +kernel
theorem dX12_bestRun_56 : decode cX12_bestRun 56 = .ok (.iconst 1, 1) := by decide +kernel
theorem dX12_bestRun_57 : decode cX12_bestRun 57 = .ok (.istore 9, 2) := by decide +kernel
theorem dX12_bestRun_59 : decode cX12_bestRun 59 = .ok (.iload 8, 2) := by decide +kernel
theorem dX12_bestRun_61 : decode cX12_bestRun 61 = .ok (.istore 10, 2) := by decide +kernel
theorem dX12_bestRun_63 : decode cX12_bestRun 63 = .ok (.iload 10, 2) := by decide +kernel
theorem dX12_bestRun_65 : decode cX12_bestRun 65 = .ok (.iload 8, 2) := by decide +kernel
theorem dX12_bestRun_67 : decode cX12_bestRun 67 = .ok (.iload_n 1, 1) := by decide +kernel
theorem dX12_bestRun_68 : decode cX12_bestRun 68 = .ok (.iadd, 1) := by decide +kernel
theorem dX12_bestRun_69 : decode cX12_bestRun 69 = .ok (.if_icmp .ge 75, 3) := by decide +kernel
theorem dX12_bestRun_72 : decode cX12_bestRun 72 = .ok (.iload 9, 2) := by decide +kernel
theorem dX12_bestRun_74 : decode cX12_bestRun 74 = .ok (.ifCond .eq 61, 3) := by decide +kernel
theorem dX12_bestRun_77 : decode cX12_bestRun 77 = .ok (.aload_n 0, 1) := by decide +kernel
theorem dX12_bestRun_78 : decode cX12_bestRun 78 = .ok (.getfield 184, 3) := by decide +kernel
theorem dX12_bestRun_81 : decode cX12_bestRun 81 = .ok (.bipush 32, 2) := by decide +kernel
theorem dX12_bestRun_83 : decode cX12_bestRun 83 = .ok (.iload 7, 2) := by decide +kernel
theorem dX12_bestRun_85 : decode cX12_bestRun 85 = .ok (.imul, 1) := by decide +kernel
theorem dX12_bestRun_86 : decode cX12_bestRun 86 = .ok (.iload 10, 2) := by decide +kernel
theorem dX12_bestRun_88 : decode cX12_bestRun 88 = .ok (.iadd, 1) := by decide +kernel
theorem dX12_bestRun_89 : decode cX12_bestRun 89 = .ok (.baload, 1) := by decide +kernel
theorem dX12_bestRun_90 : decode cX12_bestRun 90 = .ok (.ifCond .ne 45, 3) := by decide +kernel
theorem dX12_bestRun_93 : decode cX12_bestRun 93 = .ok (.iload 4, 2) := by decide +kernel
theorem dX12_bestRun_95 : decode cX12_bestRun 95 = .ok (.ifCond .ne 36, 3) := by decide +kernel
theorem dX12_bestRun_98 : decode cX12_bestRun 98 = .ok (.aload_n 0, 1) := by decide +kernel
theorem dX12_bestRun_99 : decode cX12_bestRun 99 = .ok (.getfield 181, 3) := by decide +kernel
theorem dX12_bestRun_102 : decode cX12_bestRun 102 = .ok (.bipush 32, 2) := by decide +kernel
theorem dX12_bestRun_104 : decode cX12_bestRun 104 = .ok (.iload 7, 2) := by decide +kernel
theorem dX12_bestRun_106 : decode cX12_bestRun 106 = .ok (.imul, 1) := by decide +kernel
theorem dX12_bestRun_107 : decode cX12_bestRun 107 = .ok (.iload 10, 2) := by decide +kernel
theorem dX12_bestRun_109 : decode cX12_bestRun 109 = .ok (.iadd, 1) := by decide +kernel
theorem dX12_bestRun_110 : decode cX12_bestRun 110 = .ok (.iaload, 1) := by decide +kernel
theorem dX12_bestRun_111 : decode cX12_bestRun 111 = .ok (.iconst (-1), 1) := by decide +kernel
theorem dX12_bestRun_112 : decode cX12_bestRun 112 = .ok (.if_icmp .ne 23, 3) := by decide +kernel
theorem dX12_bestRun_115 : decode cX12_bestRun 115 = .ok (.aload_n 0, 1) := by decide +kernel
theorem dX12_bestRun_116 : decode cX12_bestRun 116 = .ok (.getfield 205, 3) := by decide +kernel
theorem dX12_bestRun_119 : decode cX12_bestRun 119 = .ok (.bipush 32, 2) := by decide +kernel
theorem dX12_bestRun_121 : decode cX12_bestRun 121 = .ok (.iload 7, 2) := by decide +kernel
theorem dX12_bestRun_123 : decode cX12_bestRun 123 = .ok (.imul, 1) := by decide +kernel
theorem dX12_bestRun_124 : decode cX12_bestRun 124 = .ok (.iload 10, 2) := by decide +kernel
theorem dX12_bestRun_126 : decode cX12_bestRun 126 = .ok (.iadd, 1) := by decide +kernel
theorem dX12_bestRun_127 : decode cX12_bestRun 127 = .ok (.baload, 1) := by decide +kernel
theorem dX12_bestRun_128 : decode cX12_bestRun 128 = .ok (.ifCond .ne 7, 3) := by decide +kernel
theorem dX12_bestRun_131 : decode cX12_bestRun 131 = .ok (.iconst 1, 1) := by decide +kernel
theorem dX12_bestRun_132 : decode cX12_bestRun 132 = .ok (.goto 4, 3) := by decide +kernel
theorem dX12_bestRun_135 : decode cX12_bestRun 135 = .ok (.iconst 0, 1) := by decide +kernel
theorem dX12_bestRun_136 : decode cX12_bestRun 136 = .ok (.istore 9, 2) := by decide +kernel
theorem dX12_bestRun_138 : decode cX12_bestRun 138 = .ok (.iinc 10 1, 3) := by decide +kernel
theorem dX12_bestRun_141 : decode cX12_bestRun 141 = .ok (.goto (-78), 3) := by decide +kernel
theorem dX12_bestRun_144 : decode cX12_bestRun 144 = .ok (.iload 9, 2) := by decide +kernel
theorem dX12_bestRun_146 : decode cX12_bestRun 146 = .ok (.ifCond .ne 6, 3) := by decide +kernel
theorem dX12_bestRun_149 : decode cX12_bestRun 149 = .ok (.goto 45, 3) := by decide +kernel
theorem dX12_bestRun_152 : decode cX12_bestRun 152 = .ok (.aload_n 0, 1) := by decide +kernel
theorem dX12_bestRun_153 : decode cX12_bestRun 153 = .ok (.iload 7, 2) := by decide +kernel
theorem dX12_bestRun_155 : decode cX12_bestRun 155 = .ok (.iload 8, 2) := by decide +kernel
theorem dX12_bestRun_157 : decode cX12_bestRun 157 = .ok (.iload_n 1, 1) := by decide +kernel
theorem dX12_bestRun_158 : decode cX12_bestRun 158 = .ok (.iload_n 3, 1) := by decide +kernel
theorem dX12_bestRun_159 : decode cX12_bestRun 159 = .ok (.invokevirtual 313, 3) := by decide +kernel
theorem dX12_bestRun_162 : decode cX12_bestRun 162 = .ok (.istore 10, 2) := by decide +kernel
theorem dX12_bestRun_164 : decode cX12_bestRun 164 = .ok (.iload 5, 2) := by decide +kernel
theorem dX12_bestRun_166 : decode cX12_bestRun 166 = .ok (.iconst (-1), 1) := by decide +kernel
theorem dX12_bestRun_167 : decode cX12_bestRun 167 = .ok (.if_icmp .eq 13, 3) := by decide +kernel
theorem dX12_bestRun_170 : decode cX12_bestRun 170 = .ok (.iload 10, 2) := by decide +kernel
theorem dX12_bestRun_172 : decode cX12_bestRun 172 = .ok (.iload 6, 2) := by decide +kernel
theorem dX12_bestRun_174 : decode cX12_bestRun 174 = .ok (.if_icmp .gt 6, 3) := by decide +kernel
theorem dX12_bestRun_177 : decode cX12_bestRun 177 = .ok (.goto 17, 3) := by decide +kernel
theorem dX12_bestRun_180 : decode cX12_bestRun 180 = .ok (.bipush 32, 2) := by decide +kernel
theorem dX12_bestRun_182 : decode cX12_bestRun 182 = .ok (.iload 7, 2) := by decide +kernel
theorem dX12_bestRun_184 : decode cX12_bestRun 184 = .ok (.imul, 1) := by decide +kernel
theorem dX12_bestRun_185 : decode cX12_bestRun 185 = .ok (.iload 8, 2) := by decide +kernel
theorem dX12_bestRun_187 : decode cX12_bestRun 187 = .ok (.iadd, 1) := by decide +kernel
theorem dX12_bestRun_188 : decode cX12_bestRun 188 = .ok (.istore 5, 2) := by decide +kernel
theorem dX12_bestRun_190 : decode cX12_bestRun 190 = .ok (.iload 10, 2) := by decide +kernel
theorem dX12_bestRun_192 : decode cX12_bestRun 192 = .ok (.istore 6, 2) := by decide +kernel
theorem dX12_bestRun_194 : decode cX12_bestRun 194 = .ok (.iinc 8 1, 3) := by decide +kernel
theorem dX12_bestRun_197 : decode cX12_bestRun 197 = .ok (.goto (-155), 3) := by decide +kernel
theorem dX12_bestRun_200 : decode cX12_bestRun 200 = .ok (.iinc 7 1, 3) := by decide +kernel
theorem dX12_bestRun_203 : decode cX12_bestRun 203 = .ok (.goto (-194), 3) := by decide +kernel
theorem dX12_bestRun_206 : decode cX12_bestRun 206 = .ok (.iload 5, 2) := by decide +kernel
theorem dX12_bestRun_208 : decode cX12_bestRun 208 = .ok (.ireturn, 1) := by decide +kernel
def fX12_bestRun_L63 : Nat → Int32 → Int32 → Int32 → Int32 → Int32 → Int32 → Int32 → Int32 → Int32 → Int32 → Hp → Option ((Int32 × Int32) × Hp)
  | 0, _, _, _, _, _, _, _, _, _, _, _ => none
  | n + 1, a1, a2, a3, a4, a5, a6, a7, a8, a9, a10, h => br ((a8 + a1) ≤ a10) (some ((a9, a10), h)) (br (a9 = 0) (lb (a10 + 1) (fun v5 => fX12_bestRun_L63 n a1 a2 a3 a4 a5 a6 a7 a8 0 v5 h)) (gd (ib (((32 : Int32) * a7) + a10) 256) (br ((gI h 106 0 (ix (((32 : Int32) * a7) + a10))) = 0) (lb (fun (h9 : Hp) => lb (a10 + 1) (fun v10 => fX12_bestRun_L63 n a1 a2 a3 a4 a5 a6 a7 a8 1 v10 h9)) (fun j8 => br (a4 = 0) (gd (ib (((32 : Int32) * a7) + a10) 256) (br ((gI h 105 0 (ix (((32 : Int32) * a7) + a10))) = (-1)) (gd (ib (((32 : Int32) * a7) + a10) 256) (br ((gI h 113 0 (ix (((32 : Int32) * a7) + a10))) = 0) (j8 h) (lb (a10 + 1) (fun v14 => fX12_bestRun_L63 n a1 a2 a3 a4 a5 a6 a7 a8 0 v14 h)))) (lb (a10 + 1) (fun v12 => fX12_bestRun_L63 n a1 a2 a3 a4 a5 a6 a7 a8 0 v12 h)))) (j8 h))) (lb (a10 + 1) (fun v7 => fX12_bestRun_L63 n a1 a2 a3 a4 a5 a6 a7 a8 0 v7 h)))))
def fX12_bestRun_L42 : Nat → Int32 → Int32 → Int32 → Int32 → Int32 → Int32 → Int32 → Int32 → Hp → Option ((Int32 × Int32 × Int32) × Hp)
  | 0, _, _, _, _, _, _, _, _, _ => none
  | n + 1, a1, a2, a3, a4, a5, a6, a7, a8, h => gd (ib a7 8) (br ((gI h 63 0 (ix a7)) < (a8 + a1)) (some ((a5, a6, a8), h)) (bd (fX12_bestRun_L63 FU a1 a2 a3 a4 a5 a6 a7 a8 1 a8 h) (fun t16 h15 => lb t16.1 (fun v17 => lb t16.2 (fun v18 => br (v17 = 0) (lb (a8 + 1) (fun v26 => fX12_bestRun_L42 n a1 a2 a3 a4 a5 a6 a7 v26 h15)) (bd (fX12_worthOf a7 a8 a1 a3 h15) (fun r19 h20 => lb (fun (h22 : Hp) => lb (((32 : Int32) * a7) + a8) (fun v23 => lb (a8 + 1) (fun v24 => fX12_bestRun_L42 n a1 a2 a3 a4 v23 r19 a7 v24 h22))) (fun j21 => br (a5 = (-1)) (j21 h20) (br (a6 < r19) (j21 h20) (lb (a8 + 1) (fun v25 => fX12_bestRun_L42 n a1 a2 a3 a4 a5 a6 a7 v25 h20)))))))))))
def fX12_bestRun_L9 : Nat → Int32 → Int32 → Int32 → Int32 → Int32 → Int32 → Int32 → Hp → Option ((Int32 × Int32 × Int32) × Hp)
  | 0, _, _, _, _, _, _, _, _ => none
  | n + 1, a1, a2, a3, a4, a5, a6, a7, h => br ((gI h 12 0 7) ≤ a7) (some ((a5, a6, a7), h)) (gd (ib a7 8) (lb (fun (h3 : Hp) => bd (fX12_bestRun_L42 FU a1 a2 a3 a4 a5 a6 a7 0 h3) (fun t28 h27 => lb t28.1 (fun v29 => lb t28.2.1 (fun v30 => lb t28.2.2 (fun v31 => lb (a7 + 1) (fun v32 => fX12_bestRun_L9 n a1 a2 a3 a4 v29 v30 v32 h27)))))) (fun j2 => br ((gI h 64 0 (ix a7)) = 0) (j2 h) (br (a2 < (gI h 12 0 17)) (j2 h) (lb (a7 + 1) (fun v33 => fX12_bestRun_L9 n a1 a2 a3 a4 a5 a6 v33 h))))))
def fX12_bestRun (a1 : Int32) (a2 : Int32) (a3 : Int32) (a4 : Int32) (h : Hp) : Option (Int32 × Hp) := bd (fX12_bestRun_L9 FU a1 a2 a3 a4 (-1) 0 0 h) (fun t35 h34 => lb t35.1 (fun v36 => lb t35.2.1 (fun v37 => lb t35.2.2 (fun v38 => some (v36, h34)))))
set_option maxRecDepth 20000 in
theorem tX12_bestRun_L63 {X : Cz} {h0 : Hp} {r : Option AV} {hE : Hp} : ∀ (n : Nat) (a1 : Int32) (a2 : Int32) (a3 : Int32) (a4 : Int32) (a5 : Int32) (a6 : Int32) (a7 : Int32) (a8 : Int32) (a9 : Int32) (a10 : Int32) (h : Hp) (z : (Int32 × Int32) × Hp), fX12_bestRun_L63 n a1 a2 a3 a4 a5 a6 a7 a8 a9 a10 h = some z → V X mX12_bestRun true h0 144 [(0, zr 12 0), (1, zi a1), (2, zi a2), (3, zi a3), (4, zi a4), (5, zi a5), (6, zi a6), (7, zi a7), (8, zi a8), (9, zi z.1.1), (10, zi z.1.2)] [] z.2 r hE → V X mX12_bestRun true h0 63 [(0, zr 12 0), (1, zi a1), (2, zi a2), (3, zi a3), (4, zi a4), (5, zi a5), (6, zi a6), (7, zi a7), (8, zi a8), (9, zi a9), (10, zi a10)] [] h r hE := by
  intro n
  induction n with
  | zero => intro a1 a2 a3 a4 a5 a6 a7 a8 a9 a10 h z hF k; cases hF
  | succ n ih =>
    intro a1 a2 a3 a4 a5 a6 a7 a8 a9 a10 h z hF k
    rw [fX12_bestRun_L63] at hF
    refine v_iload (j := 10) dX12_bestRun_63 rfl ?_
    refine v_iload (j := 8) dX12_bestRun_65 rfl ?_
    refine v_iload_n (j := 1) dX12_bestRun_67 rfl ?_
    refine v_iadd dX12_bestRun_68 ?_
    refine v_icmp_ge dX12_bestRun_69 (by decide : _ = ((144 : Nat) : Int)) (fun q => ?_) (fun q => ?_)
    · replace hF := brT q hF
      cases hF
      exact k
    · replace hF := brF q hF
      refine v_iload (j := 9) dX12_bestRun_72 rfl ?_
      refine v_if_eq dX12_bestRun_74 (by decide : _ = ((135 : Nat) : Int)) (fun q => ?_) (fun q => ?_)
      · replace hF := brT q hF
        refine v_iconst (v := 0) dX12_bestRun_135 (by decide) ?_
        refine v_istore (ls' := [(9, zi 0), (0, zr 12 0), (1, zi a1), (2, zi a2), (3, zi a3), (4, zi a4), (5, zi a5), (6, zi a6), (7, zi a7), (8, zi a8), (10, zi a10)]) dX12_bestRun_136 (by decide) rfl ?_
        obtain ⟨v5, ev5⟩ : ∃ y : Int32, y = a10 + 1 := ⟨_, rfl⟩
        replace hF := lb_use ev5 hF
        refine v_iinc (j := 10) (v := v5) (ls' := [(10, zi v5), (9, zi 0), (0, zr 12 0), (1, zi a1), (2, zi a2), (3, zi a3), (4, zi a4), (5, zi a5), (6, zi a6), (7, zi a7), (8, zi a8)]) dX12_bestRun_138 rfl (by rw [ev5]; rfl) (by decide) rfl ?_
        clear ev5
        refine v_goto (tgt := 63) dX12_bestRun_141 (by decide) ?_
        refine v_sub [2, 3, 4, 5, 6, 7, 8, 9, 10, 1, 0] rfl ?_
        exact ih a1 a2 a3 a4 a5 a6 a7 a8 0 v5 h _ hF k
      · replace hF := brF q hF
        refine v_aload_n (j := 0) dX12_bestRun_77 rfl ?_
        refine v_getL (c := 12) rfl rfl rfl ly12_69 cz12 flX12_184 dX12_bestRun_78 ?_
        refine v_bipush (v := 32) dX12_bestRun_81 (by decide) ?_
        refine v_iload (j := 7) dX12_bestRun_83 rfl ?_
        refine v_imul dX12_bestRun_85 ?_
        refine v_iload (j := 10) dX12_bestRun_86 rfl ?_
        refine v_iadd dX12_bestRun_88 ?_
        replace hF := gd_use hF
        obtain ⟨q6, hF⟩ := hF
        refine v_zald rfl q6 dX12_bestRun_89 ?_
        refine v_if_ne dX12_bestRun_90 (by decide : _ = ((135 : Nat) : Int)) (fun q => ?_) (fun q => ?_)
        · replace hF := brF q hF
          refine v_iconst (v := 0) dX12_bestRun_135 (by decide) ?_
          refine v_istore (ls' := [(9, zi 0), (0, zr 12 0), (1, zi a1), (2, zi a2), (3, zi a3), (4, zi a4), (5, zi a5), (6, zi a6), (7, zi a7), (8, zi a8), (10, zi a10)]) dX12_bestRun_136 (by decide) rfl ?_
          obtain ⟨v7, ev7⟩ : ∃ y : Int32, y = a10 + 1 := ⟨_, rfl⟩
          replace hF := lb_use ev7 hF
          refine v_iinc (j := 10) (v := v7) (ls' := [(10, zi v7), (9, zi 0), (0, zr 12 0), (1, zi a1), (2, zi a2), (3, zi a3), (4, zi a4), (5, zi a5), (6, zi a6), (7, zi a7), (8, zi a8)]) dX12_bestRun_138 rfl (by rw [ev7]; rfl) (by decide) rfl ?_
          clear ev7
          refine v_goto (tgt := 63) dX12_bestRun_141 (by decide) ?_
          refine v_sub [2, 3, 4, 5, 6, 7, 8, 9, 10, 1, 0] rfl ?_
          exact ih a1 a2 a3 a4 a5 a6 a7 a8 0 v7 h _ hF k
        · replace hF := brT (Decidable.not_not.mp q) hF
          refine v_iload (j := 4) dX12_bestRun_93 rfl ?_
          replace hF := lb_ex hF
          obtain ⟨j8, ej8, hF⟩ := hF
          have j8V : ∀ (h9 : Hp), j8 h9 = some z → V X mX12_bestRun true h0 131 [(0, zr 12 0), (1, zi a1), (2, zi a2), (3, zi a3), (4, zi a4), (5, zi a5), (6, zi a6), (7, zi a7), (8, zi a8), (10, zi a10)] [] h9 r hE := by
            intro h9 hF
            subst ej8
            refine v_iconst (v := 1) dX12_bestRun_131 (by decide) ?_
            refine v_goto (tgt := 136) dX12_bestRun_132 (by decide) ?_
            refine v_istore (ls' := [(9, zi 1), (0, zr 12 0), (1, zi a1), (2, zi a2), (3, zi a3), (4, zi a4), (5, zi a5), (6, zi a6), (7, zi a7), (8, zi a8), (10, zi a10)]) dX12_bestRun_136 (by decide) rfl ?_
            obtain ⟨v10, ev10⟩ : ∃ y : Int32, y = a10 + 1 := ⟨_, rfl⟩
            replace hF := lb_use ev10 hF
            refine v_iinc (j := 10) (v := v10) (ls' := [(10, zi v10), (9, zi 1), (0, zr 12 0), (1, zi a1), (2, zi a2), (3, zi a3), (4, zi a4), (5, zi a5), (6, zi a6), (7, zi a7), (8, zi a8)]) dX12_bestRun_138 rfl (by rw [ev10]; rfl) (by decide) rfl ?_
            clear ev10
            refine v_goto (tgt := 63) dX12_bestRun_141 (by decide) ?_
            refine v_sub [2, 3, 4, 5, 6, 7, 8, 9, 10, 1, 0] rfl ?_
            exact ih a1 a2 a3 a4 a5 a6 a7 a8 1 v10 h9 _ hF k
          clear ej8
          refine v_if_ne dX12_bestRun_95 (by decide : _ = ((131 : Nat) : Int)) (fun q => ?_) (fun q => ?_)
          · replace hF := brF q hF
            refine v_sub [0, 1, 2, 3, 4, 5, 6, 7, 8, 10] rfl ?_
            exact j8V h hF
          · replace hF := brT (Decidable.not_not.mp q) hF
            refine v_aload_n (j := 0) dX12_bestRun_98 rfl ?_
            refine v_getL (c := 12) rfl rfl rfl ly12_68 cz12 flX12_181 dX12_bestRun_99 ?_
            refine v_bipush (v := 32) dX12_bestRun_102 (by decide) ?_
            refine v_iload (j := 7) dX12_bestRun_104 rfl ?_
            refine v_imul dX12_bestRun_106 ?_
            refine v_iload (j := 10) dX12_bestRun_107 rfl ?_
            refine v_iadd dX12_bestRun_109 ?_
            replace hF := gd_use hF
            obtain ⟨q11, hF⟩ := hF
            refine v_iald rfl q11 dX12_bestRun_110 ?_
            refine v_iconst (v := (-1)) dX12_bestRun_111 (by decide) ?_
            refine v_icmp_ne dX12_bestRun_112 (by decide : _ = ((135 : Nat) : Int)) (fun q => ?_) (fun q => ?_)
            · replace hF := brF q hF
              refine v_iconst (v := 0) dX12_bestRun_135 (by decide) ?_
              refine v_istore (ls' := [(9, zi 0), (0, zr 12 0), (1, zi a1), (2, zi a2), (3, zi a3), (4, zi a4), (5, zi a5), (6, zi a6), (7, zi a7), (8, zi a8), (10, zi a10)]) dX12_bestRun_136 (by decide) rfl ?_
              obtain ⟨v12, ev12⟩ : ∃ y : Int32, y = a10 + 1 := ⟨_, rfl⟩
              replace hF := lb_use ev12 hF
              refine v_iinc (j := 10) (v := v12) (ls' := [(10, zi v12), (9, zi 0), (0, zr 12 0), (1, zi a1), (2, zi a2), (3, zi a3), (4, zi a4), (5, zi a5), (6, zi a6), (7, zi a7), (8, zi a8)]) dX12_bestRun_138 rfl (by rw [ev12]; rfl) (by decide) rfl ?_
              clear ev12
              refine v_goto (tgt := 63) dX12_bestRun_141 (by decide) ?_
              refine v_sub [2, 3, 4, 5, 6, 7, 8, 9, 10, 1, 0] rfl ?_
              exact ih a1 a2 a3 a4 a5 a6 a7 a8 0 v12 h _ hF k
            · replace hF := brT (Decidable.not_not.mp q) hF
              refine v_aload_n (j := 0) dX12_bestRun_115 rfl ?_
              refine v_getL (c := 12) rfl rfl rfl ly12_78 cz12 flX12_205 dX12_bestRun_116 ?_
              refine v_bipush (v := 32) dX12_bestRun_119 (by decide) ?_
              refine v_iload (j := 7) dX12_bestRun_121 rfl ?_
              refine v_imul dX12_bestRun_123 ?_
              refine v_iload (j := 10) dX12_bestRun_124 rfl ?_
              refine v_iadd dX12_bestRun_126 ?_
              replace hF := gd_use hF
              obtain ⟨q13, hF⟩ := hF
              refine v_zald rfl q13 dX12_bestRun_127 ?_
              refine v_if_ne dX12_bestRun_128 (by decide : _ = ((135 : Nat) : Int)) (fun q => ?_) (fun q => ?_)
              · replace hF := brF q hF
                refine v_iconst (v := 0) dX12_bestRun_135 (by decide) ?_
                refine v_istore (ls' := [(9, zi 0), (0, zr 12 0), (1, zi a1), (2, zi a2), (3, zi a3), (4, zi a4), (5, zi a5), (6, zi a6), (7, zi a7), (8, zi a8), (10, zi a10)]) dX12_bestRun_136 (by decide) rfl ?_
                obtain ⟨v14, ev14⟩ : ∃ y : Int32, y = a10 + 1 := ⟨_, rfl⟩
                replace hF := lb_use ev14 hF
                refine v_iinc (j := 10) (v := v14) (ls' := [(10, zi v14), (9, zi 0), (0, zr 12 0), (1, zi a1), (2, zi a2), (3, zi a3), (4, zi a4), (5, zi a5), (6, zi a6), (7, zi a7), (8, zi a8)]) dX12_bestRun_138 rfl (by rw [ev14]; rfl) (by decide) rfl ?_
                clear ev14
                refine v_goto (tgt := 63) dX12_bestRun_141 (by decide) ?_
                refine v_sub [2, 3, 4, 5, 6, 7, 8, 9, 10, 1, 0] rfl ?_
                exact ih a1 a2 a3 a4 a5 a6 a7 a8 0 v14 h _ hF k
              · replace hF := brT (Decidable.not_not.mp q) hF
                refine v_sub [0, 1, 2, 3, 4, 5, 6, 7, 8, 10] rfl ?_
                exact j8V h hF
set_option maxRecDepth 20000 in
theorem tX12_bestRun_L42 {X : Cz} {h0 : Hp} {r : Option AV} {hE : Hp} : ∀ (n : Nat) (a1 : Int32) (a2 : Int32) (a3 : Int32) (a4 : Int32) (a5 : Int32) (a6 : Int32) (a7 : Int32) (a8 : Int32) (h : Hp) (z : (Int32 × Int32 × Int32) × Hp), fX12_bestRun_L42 n a1 a2 a3 a4 a5 a6 a7 a8 h = some z → V X mX12_bestRun true h0 200 [(0, zr 12 0), (1, zi a1), (2, zi a2), (3, zi a3), (4, zi a4), (5, zi z.1.1), (6, zi z.1.2.1), (7, zi a7), (8, zi z.1.2.2)] [] z.2 r hE → V X mX12_bestRun true h0 42 [(0, zr 12 0), (1, zi a1), (2, zi a2), (3, zi a3), (4, zi a4), (5, zi a5), (6, zi a6), (7, zi a7), (8, zi a8)] [] h r hE := by
  intro n
  induction n with
  | zero => intro a1 a2 a3 a4 a5 a6 a7 a8 h z hF k; cases hF
  | succ n ih =>
    intro a1 a2 a3 a4 a5 a6 a7 a8 h z hF k
    rw [fX12_bestRun_L42] at hF
    refine v_iload (j := 8) dX12_bestRun_42 rfl ?_
    refine v_iload_n (j := 1) dX12_bestRun_44 rfl ?_
    refine v_iadd dX12_bestRun_45 ?_
    refine v_aload_n (j := 0) dX12_bestRun_46 rfl ?_
    refine v_getL (c := 12) rfl rfl rfl ly12_23 cz12 flX12_54 dX12_bestRun_47 ?_
    refine v_iload (j := 7) dX12_bestRun_50 rfl ?_
    replace hF := gd_use hF
    obtain ⟨q4, hF⟩ := hF
    refine v_iald rfl q4 dX12_bestRun_52 ?_
    refine v_icmp_gt dX12_bestRun_53 (by decide : _ = ((200 : Nat) : Int)) (fun q => ?_) (fun q => ?_)
    · replace hF := brT q hF
      cases hF
      exact k
    · replace hF := brF q hF
      refine v_iconst (v := 1) dX12_bestRun_56 (by decide) ?_
      refine v_istore (ls' := [(9, zi 1), (0, zr 12 0), (1, zi a1), (2, zi a2), (3, zi a3), (4, zi a4), (5, zi a5), (6, zi a6), (7, zi a7), (8, zi a8)]) dX12_bestRun_57 (by decide) rfl ?_
      refine v_iload (j := 9) dX12_bestRun_59 rfl ?_
      refine v_istore (ls' := [(10, zi a8), (9, zi 1), (0, zr 12 0), (1, zi a1), (2, zi a2), (3, zi a3), (4, zi a4), (5, zi a5), (6, zi a6), (7, zi a7), (8, zi a8)]) dX12_bestRun_61 (by decide) rfl ?_
      refine v_sub [2, 3, 4, 5, 6, 7, 8, 9, 10, 1, 0] rfl ?_
      replace hF := bd_use hF
      obtain ⟨t16, h15, et16, hF⟩ := hF
      refine tX12_bestRun_L63 _ a1 a2 a3 a4 a5 a6 a7 a8 1 a8 h _ et16 ?_
      clear et16
      obtain ⟨v17, v18⟩ := t16
      replace hF := lb_use (x := v17) rfl hF
      replace hF := lb_use (x := v18) rfl hF
      refine v_iload (j := 9) dX12_bestRun_144 rfl ?_
      refine v_if_ne dX12_bestRun_146 (by decide : _ = ((152 : Nat) : Int)) (fun q => ?_) (fun q => ?_)
      · replace hF := brF q hF
        refine v_aload_n (j := 0) dX12_bestRun_152 rfl ?_
        refine v_iload (j := 7) dX12_bestRun_153 rfl ?_
        refine v_iload (j := 8) dX12_bestRun_155 rfl ?_
        refine v_iload_n (j := 1) dX12_bestRun_157 rfl ?_
        refine v_iload_n (j := 3) dX12_bestRun_158 rfl ?_
        replace hF := bd_use hF
        obtain ⟨r19, h20, er19, hF⟩ := hF
        refine v_cV (hm := h20) (av := [zi a7, zi a8, zi a1, zi a3]) (st := []) (stn := [zi r19]) (tX12_worthOf er19) lcX12_worthOf mlX12_313 imX12_worthOf seX12_worthOf rfl rfl rfl rfl ⟨by decide, by decide⟩ (Nat.le_of_ble_eq_true rfl) dX12_bestRun_159 rfl rfl ?_
        clear er19
        refine v_istore (ls' := [(10, zi r19), (0, zr 12 0), (1, zi a1), (2, zi a2), (3, zi a3), (4, zi a4), (5, zi a5), (6, zi a6), (7, zi a7), (8, zi a8), (9, zi v17)]) dX12_bestRun_162 (by decide) rfl ?_
        refine v_iload (j := 6) dX12_bestRun_164 rfl ?_
        refine v_iconst (v := (-1)) dX12_bestRun_166 (by decide) ?_
        replace hF := lb_ex hF
        obtain ⟨j21, ej21, hF⟩ := hF
        have j21V : ∀ (h22 : Hp), j21 h22 = some z → V X mX12_bestRun true h0 180 [(0, zr 12 0), (1, zi a1), (2, zi a2), (3, zi a3), (4, zi a4), (7, zi a7), (8, zi a8), (10, zi r19)] [] h22 r hE := by
          intro h22 hF
          subst ej21
          refine v_bipush (v := 32) dX12_bestRun_180 (by decide) ?_
          refine v_iload (j := 5) dX12_bestRun_182 rfl ?_
          refine v_imul dX12_bestRun_184 ?_
          refine v_iload (j := 6) dX12_bestRun_185 rfl ?_
          refine v_iadd dX12_bestRun_187 ?_
          refine v_topi fun v23 ev23 => ?_
          replace hF := lb_use ev23 hF
          clear ev23
          refine v_istore (ls' := [(5, zi v23), (0, zr 12 0), (1, zi a1), (2, zi a2), (3, zi a3), (4, zi a4), (7, zi a7), (8, zi a8), (10, zi r19)]) dX12_bestRun_188 (by decide) rfl ?_
          refine v_iload (j := 8) dX12_bestRun_190 rfl ?_
          refine v_istore (ls' := [(6, zi r19), (5, zi v23), (0, zr 12 0), (1, zi a1), (2, zi a2), (3, zi a3), (4, zi a4), (7, zi a7), (8, zi a8), (10, zi r19)]) dX12_bestRun_192 (by decide) rfl ?_
          obtain ⟨v24, ev24⟩ : ∃ y : Int32, y = a8 + 1 := ⟨_, rfl⟩
          replace hF := lb_use ev24 hF
          refine v_iinc (j := 8) (v := v24) (ls' := [(8, zi v24), (6, zi r19), (5, zi v23), (0, zr 12 0), (1, zi a1), (2, zi a2), (3, zi a3), (4, zi a4), (7, zi a7), (10, zi r19)]) dX12_bestRun_194 rfl (by rw [ev24]; rfl) (by decide) rfl ?_
          clear ev24
          refine v_goto (tgt := 42) dX12_bestRun_197 (by decide) ?_
          refine v_sub [3, 4, 5, 6, 7, 2, 1, 8, 0] rfl ?_
          exact ih a1 a2 a3 a4 v23 r19 a7 v24 h22 _ hF k
        clear ej21
        refine v_icmp_eq dX12_bestRun_167 (by decide : _ = ((180 : Nat) : Int)) (fun q => ?_) (fun q => ?_)
        · replace hF := brT q hF
          refine v_sub [1, 2, 3, 4, 5, 8, 9, 0] rfl ?_
          exact j21V h20 hF
        · replace hF := brF q hF
          refine v_iload (j := 0) dX12_bestRun_170 rfl ?_
          refine v_iload (j := 7) dX12_bestRun_172 rfl ?_
          refine v_icmp_gt dX12_bestRun_174 (by decide : _ = ((180 : Nat) : Int)) (fun q => ?_) (fun q => ?_)
          · replace hF := brT q hF
            refine v_sub [1, 2, 3, 4, 5, 8, 9, 0] rfl ?_
            exact j21V h20 hF
          · replace hF := brF q hF
            refine v_goto (tgt := 194) dX12_bestRun_177 (by decide) ?_
            obtain ⟨v25, ev25⟩ : ∃ y : Int32, y = a8 + 1 := ⟨_, rfl⟩
            replace hF := lb_use ev25 hF
            refine v_iinc (j := 9) (v := v25) (ls' := [(8, zi v25), (10, zi r19), (0, zr 12 0), (1, zi a1), (2, zi a2), (3, zi a3), (4, zi a4), (5, zi a5), (6, zi a6), (7, zi a7), (9, zi v17)]) dX12_bestRun_194 rfl (by rw [ev25]; rfl) (by decide) rfl ?_
            clear ev25
            refine v_goto (tgt := 42) dX12_bestRun_197 (by decide) ?_
            refine v_sub [2, 3, 4, 5, 6, 7, 8, 9, 0] rfl ?_
            exact ih a1 a2 a3 a4 a5 a6 a7 v25 h20 _ hF k
      · replace hF := brT (Decidable.not_not.mp q) hF
        refine v_goto (tgt := 194) dX12_bestRun_149 (by decide) ?_
        obtain ⟨v26, ev26⟩ : ∃ y : Int32, y = a8 + 1 := ⟨_, rfl⟩
        replace hF := lb_use ev26 hF
        refine v_iinc (j := 8) (v := v26) (ls' := [(8, zi v26), (0, zr 12 0), (1, zi a1), (2, zi a2), (3, zi a3), (4, zi a4), (5, zi a5), (6, zi a6), (7, zi a7), (9, zi v17), (10, zi v18)]) dX12_bestRun_194 rfl (by rw [ev26]; rfl) (by decide) rfl ?_
        clear ev26
        refine v_goto (tgt := 42) dX12_bestRun_197 (by decide) ?_
        refine v_sub [1, 2, 3, 4, 5, 6, 7, 8, 0] rfl ?_
        exact ih a1 a2 a3 a4 a5 a6 a7 v26 h15 _ hF k
set_option maxRecDepth 20000 in
theorem tX12_bestRun_L9 {X : Cz} {h0 : Hp} {r : Option AV} {hE : Hp} : ∀ (n : Nat) (a1 : Int32) (a2 : Int32) (a3 : Int32) (a4 : Int32) (a5 : Int32) (a6 : Int32) (a7 : Int32) (h : Hp) (z : (Int32 × Int32 × Int32) × Hp), fX12_bestRun_L9 n a1 a2 a3 a4 a5 a6 a7 h = some z → V X mX12_bestRun true h0 206 [(0, zr 12 0), (1, zi a1), (2, zi a2), (3, zi a3), (4, zi a4), (5, zi z.1.1), (6, zi z.1.2.1), (7, zi z.1.2.2)] [] z.2 r hE → V X mX12_bestRun true h0 9 [(0, zr 12 0), (1, zi a1), (2, zi a2), (3, zi a3), (4, zi a4), (5, zi a5), (6, zi a6), (7, zi a7)] [] h r hE := by
  intro n
  induction n with
  | zero => intro a1 a2 a3 a4 a5 a6 a7 h z hF k; cases hF
  | succ n ih =>
    intro a1 a2 a3 a4 a5 a6 a7 h z hF k
    rw [fX12_bestRun_L9] at hF
    refine v_iload (j := 7) dX12_bestRun_9 rfl ?_
    refine v_aload_n (j := 0) dX12_bestRun_11 rfl ?_
    refine v_getI (c := 12) rfl (Or.inl rfl) cz12 flX12_248 dX12_bestRun_12 ?_
    refine v_icmp_ge dX12_bestRun_15 (by decide : _ = ((206 : Nat) : Int)) (fun q => ?_) (fun q => ?_)
    · replace hF := brT q hF
      cases hF
      exact k
    · replace hF := brF q hF
      refine v_aload_n (j := 0) dX12_bestRun_18 rfl ?_
      refine v_getL (c := 12) rfl rfl rfl ly12_24 cz12 flX12_57 dX12_bestRun_19 ?_
      refine v_iload (j := 7) dX12_bestRun_22 rfl ?_
      replace hF := gd_use hF
      obtain ⟨q1, hF⟩ := hF
      refine v_zald rfl q1 dX12_bestRun_24 ?_
      replace hF := lb_ex hF
      obtain ⟨j2, ej2, hF⟩ := hF
      have j2V : ∀ (h3 : Hp), j2 h3 = some z → V X mX12_bestRun true h0 39 [(0, zr 12 0), (1, zi a1), (2, zi a2), (3, zi a3), (4, zi a4), (5, zi a5), (6, zi a6), (7, zi a7)] [] h3 r hE := by
        intro h3 hF
        subst ej2
        refine v_iconst (v := 0) dX12_bestRun_39 (by decide) ?_
        refine v_istore (ls' := [(8, zi 0), (0, zr 12 0), (1, zi a1), (2, zi a2), (3, zi a3), (4, zi a4), (5, zi a5), (6, zi a6), (7, zi a7)]) dX12_bestRun_40 (by decide) rfl ?_
        refine v_sub [1, 2, 3, 4, 5, 6, 7, 8, 0] rfl ?_
        replace hF := bd_use hF
        obtain ⟨t28, h27, et28, hF⟩ := hF
        refine tX12_bestRun_L42 _ a1 a2 a3 a4 a5 a6 a7 0 h3 _ et28 ?_
        clear et28
        obtain ⟨v29, v30, v31⟩ := t28
        replace hF := lb_use (x := v29) rfl hF
        replace hF := lb_use (x := v30) rfl hF
        replace hF := lb_use (x := v31) rfl hF
        obtain ⟨v32, ev32⟩ : ∃ y : Int32, y = a7 + 1 := ⟨_, rfl⟩
        replace hF := lb_use ev32 hF
        refine v_iinc (j := 7) (v := v32) (ls' := [(7, zi v32), (0, zr 12 0), (1, zi a1), (2, zi a2), (3, zi a3), (4, zi a4), (5, zi v29), (6, zi v30), (8, zi v31)]) dX12_bestRun_200 rfl (by rw [ev32]; rfl) (by decide) rfl ?_
        clear ev32
        refine v_goto (tgt := 9) dX12_bestRun_203 (by decide) ?_
        refine v_sub [1, 2, 3, 4, 5, 6, 7, 0] rfl ?_
        exact ih a1 a2 a3 a4 v29 v30 v32 h27 _ hF k
      clear ej2
      refine v_if_eq dX12_bestRun_25 (by decide : _ = ((39 : Nat) : Int)) (fun q => ?_) (fun q => ?_)
      · replace hF := brT q hF
        exact j2V h hF
      · replace hF := brF q hF
        refine v_iload_n (j := 2) dX12_bestRun_28 rfl ?_
        refine v_aload_n (j := 0) dX12_bestRun_29 rfl ?_
        refine v_getI (c := 12) rfl (Or.inl rfl) cz12 flX12_36 dX12_bestRun_30 ?_
        refine v_icmp_lt dX12_bestRun_33 (by decide : _ = ((39 : Nat) : Int)) (fun q => ?_) (fun q => ?_)
        · replace hF := brT q hF
          exact j2V h hF
        · replace hF := brF q hF
          refine v_goto (tgt := 200) dX12_bestRun_36 (by decide) ?_
          obtain ⟨v33, ev33⟩ : ∃ y : Int32, y = a7 + 1 := ⟨_, rfl⟩
          replace hF := lb_use ev33 hF
          refine v_iinc (j := 7) (v := v33) (ls' := [(7, zi v33), (0, zr 12 0), (1, zi a1), (2, zi a2), (3, zi a3), (4, zi a4), (5, zi a5), (6, zi a6)]) dX12_bestRun_200 rfl (by rw [ev33]; rfl) (by decide) rfl ?_
          clear ev33
          refine v_goto (tgt := 9) dX12_bestRun_203 (by decide) ?_
          refine v_sub [1, 2, 3, 4, 5, 6, 7, 0] rfl ?_
          exact ih a1 a2 a3 a4 a5 a6 v33 h _ hF k
set_option maxRecDepth 20000 in
theorem tX12_bestRun {X : Cz} {a1 : Int32} {a2 : Int32} {a3 : Int32} {a4 : Int32} {h hE : Hp} {rE : Int32} (hF : fX12_bestRun a1 a2 a3 a4 h = some (rE, hE)) : Ct X mX12_bestRun true [zr 12 0, zi a1, zi a2, zi a3, zi a4] h (some (zi rE)) hE := by
  refine Ct_of (by decide) (Nat.le_of_ble_eq_true rfl) (ls := [(0, zr 12 0), (1, zi a1), (2, zi a2), (3, zi a3), (4, zi a4)]) rfl ?_
  unfold fX12_bestRun at hF
  refine v_iconst (v := (-1)) dX12_bestRun_0 (by decide) ?_
  refine v_istore (ls' := [(5, zi (-1)), (0, zr 12 0), (1, zi a1), (2, zi a2), (3, zi a3), (4, zi a4)]) dX12_bestRun_1 (by decide) rfl ?_
  refine v_iconst (v := 0) dX12_bestRun_3 (by decide) ?_
  refine v_istore (ls' := [(6, zi 0), (5, zi (-1)), (0, zr 12 0), (1, zi a1), (2, zi a2), (3, zi a3), (4, zi a4)]) dX12_bestRun_4 (by decide) rfl ?_
  refine v_iconst (v := 0) dX12_bestRun_6 (by decide) ?_
  refine v_istore (ls' := [(7, zi 0), (6, zi 0), (5, zi (-1)), (0, zr 12 0), (1, zi a1), (2, zi a2), (3, zi a3), (4, zi a4)]) dX12_bestRun_7 (by decide) rfl ?_
  refine v_sub [3, 4, 5, 6, 7, 2, 1, 0] rfl ?_
  replace hF := bd_use hF
  obtain ⟨t35, h34, et35, hF⟩ := hF
  refine tX12_bestRun_L9 _ a1 a2 a3 a4 (-1) 0 0 h _ et35 ?_
  clear et35
  obtain ⟨v36, v37, v38⟩ := t35
  replace hF := lb_use (x := v36) rfl hF
  replace hF := lb_use (x := v37) rfl hF
  replace hF := lb_use (x := v38) rfl hF
  refine v_iload (j := 5) dX12_bestRun_206 rfl ?_
  obtain ⟨rfl, rfl⟩ := ret_use hF
  exact v_iret rfl dX12_bestRun_208
theorem dX12_ownRun_0 : decode cX12_ownRun 0 = .ok (.aload_n 0, 1) := by decide +kernel
theorem dX12_ownRun_1 : decode cX12_ownRun 1 = .ok (.getfield 251, 3) := by decide +kernel
theorem dX12_ownRun_4 : decode cX12_ownRun 4 = .ok (.ifCond .ne 5, 3) := by decide +kernel
theorem dX12_ownRun_7 : decode cX12_ownRun 7 = .ok (.iconst (-1), 1) := by decide +kernel
theorem dX12_ownRun_8 : decode cX12_ownRun 8 = .ok (.ireturn, 1) := by decide +kernel
theorem dX12_ownRun_9 : decode cX12_ownRun 9 = .ok (.sipush 200, 3) := by decide +kernel
theorem dX12_ownRun_12 : decode cX12_ownRun 12 = .ok (.iload_n 1, 1) := by decide +kernel
theorem dX12_ownRun_13 : decode cX12_ownRun 13 = .ok (.imul, 1) := by decide +kernel
theorem dX12_ownRun_14 : decode cX12_ownRun 14 = .ok (.aload_n 0, 1) := by decide +kernel
theorem dX12_ownRun_15 : decode cX12_ownRun 15 = .ok (.getfield 251, 3) := by decide +kernel
theorem dX12_ownRun_18 : decode cX12_ownRun 18 = .ok (.iadd, 1) := by decide +kernel
theorem dX12_ownRun_19 : decode cX12_ownRun 19 = .ok (.iconst 1, 1) := by decide +kernel
theorem dX12_ownRun_20 : decode cX12_ownRun 20 = .ok (.isub, 1) := by decide +kernel
theorem dX12_ownRun_21 : decode cX12_ownRun 21 = .ok (.istore_n 2, 1) := by decide +kernel
theorem dX12_ownRun_22 : decode cX12_ownRun 22 = .ok (.aload_n 0, 1) := by decide +kernel
theorem dX12_ownRun_23 : decode cX12_ownRun 23 = .ok (.getfield 130, 3) := by decide +kernel
theorem dX12_ownRun_26 : decode cX12_ownRun 26 = .ok (.iload_n 2, 1) := by decide +kernel
theorem dX12_ownRun_27 : decode cX12_ownRun 27 = .ok (.iaload, 1) := by decide +kernel
theorem dX12_ownRun_28 : decode cX12_ownRun 28 = .ok (.iconst (-1), 1) := by decide +kernel
theorem dX12_ownRun_29 : decode cX12_ownRun 29 = .ok (.if_icmp .eq 18, 3) := by decide +kernel
theorem dX12_ownRun_32 : decode cX12_ownRun 32 = .ok (.aload_n 0, 1) := by decide +kernel
theorem dX12_ownRun_33 : decode cX12_ownRun 33 = .ok (.getfield 136, 3) := by decide +kernel
theorem dX12_ownRun_36 : decode cX12_ownRun 36 = .ok (.iload_n 2, 1) := by decide +kernel
theorem dX12_ownRun_37 : decode cX12_ownRun 37 = .ok (.iaload, 1) := by decide +kernel
theorem dX12_ownRun_38 : decode cX12_ownRun 38 = .ok (.aload_n 0, 1) := by decide +kernel
theorem dX12_ownRun_39 : decode cX12_ownRun 39 = .ok (.getfield 64, 3) := by decide +kernel
theorem dX12_ownRun_42 : decode cX12_ownRun 42 = .ok (.iload_n 1, 1) := by decide +kernel
theorem dX12_ownRun_43 : decode cX12_ownRun 43 = .ok (.iaload, 1) := by decide +kernel
theorem dX12_ownRun_44 : decode cX12_ownRun 44 = .ok (.if_icmp .eq 5, 3) := by decide +kernel
theorem dX12_ownRun_47 : decode cX12_ownRun 47 = .ok (.iconst (-1), 1) := by decide +kernel
theorem dX12_ownRun_48 : decode cX12_ownRun 48 = .ok (.ireturn, 1) := by decide +kernel
theorem dX12_ownRun_49 : decode cX12_ownRun 49 = .ok (.iconst 0, 1) := by decide +kernel
theorem dX12_ownRun_50 : decode cX12_ownRun 50 = .ok (.istore_n 3, 1) := by decide +kernel
theorem dX12_ownRun_51 : decode cX12_ownRun 51 = .ok (.iload_n 3, 1) := by decide +kernel
theorem dX12_ownRun_52 : decode cX12_ownRun 52 = .ok (.aload_n 0, 1) := by decide +kernel
theorem dX12_ownRun_53 : decode cX12_ownRun 53 = .ok (.getfield 64, 3) := by decide +kernel
theorem dX12_ownRun_56 : decode cX12_ownRun 56 = .ok (.iload_n 1, 1) := by decide +kernel
theorem dX12_ownRun_57 : decode cX12_ownRun 57 = .ok (.iaload, 1) := by decide +kernel
theorem dX12_ownRun_58 : decode cX12_ownRun 58 = .ok (.if_icmp .ge 37, 3) := by decide +kernel
theorem dX12_ownRun_61 : decode cX12_ownRun 61 = .ok (.aload_n 0, 1) := by decide +kernel
theorem dX12_ownRun_62 : decode cX12_ownRun 62 = .ok (.getfield 184, 3) := by decide +kernel
theorem dX12_ownRun_65 : decode cX12_ownRun 65 = .ok (.bipush 32, 2) := by decide +kernel
theorem dX12_ownRun_67 : decode cX12_ownRun 67 = .ok (.aload_n 0, 1) := by decide +kernel
theorem dX12_ownRun_68 : decode cX12_ownRun 68 = .ok (.getfield 130, 3) := by decide +kernel
theorem dX12_ownRun_71 : decode cX12_ownRun 71 = .ok (.iload_n 2, 1) := by decide +kernel
theorem dX12_ownRun_72 : decode cX12_ownRun 72 = .ok (.iaload, 1) := by decide +kernel
theorem dX12_ownRun_73 : decode cX12_ownRun 73 = .ok (.imul, 1) := by decide +kernel
theorem dX12_ownRun_74 : decode cX12_ownRun 74 = .ok (.aload_n 0, 1) := by decide +kernel
theorem dX12_ownRun_75 : decode cX12_ownRun 75 = .ok (.getfield 133, 3) := by decide +kernel
theorem dX12_ownRun_78 : decode cX12_ownRun 78 = .ok (.iload_n 2, 1) := by decide +kernel
theorem dX12_ownRun_79 : decode cX12_ownRun 79 = .ok (.iaload, 1) := by decide +kernel
theorem dX12_ownRun_80 : decode cX12_ownRun 80 = .ok (.iadd, 1) := by decide +kernel
theorem dX12_ownRun_81 : decode cX12_ownRun 81 = .ok (.iload_n 3, 1) := by decide +kernel
theorem dX12_ownRun_82 : decode cX12_ownRun 82 = .ok (.iadd, 1) := by decide +kernel
theorem dX12_ownRun_83 : decode cX12_ownRun 83 = .ok (.baload, 1) := by decide +kernel
theorem dX12_ownRun_84 : decode cX12_ownRun 84 = .ok (.ifCond .eq 5, 3) := by decide +kernel
theorem dX12_ownRun_87 : decode cX12_ownRun 87 = .ok (.iconst (-1), 1) := by decide +kernel
theorem dX12_ownRun_88 : decode cX12_ownRun 88 = .ok (.ireturn, 1) := by decide +kernel
theorem dX12_ownRun_89 : decode cX12_ownRun 89 = .ok (.iinc 3 1, 3) := by decide +kernel
theorem dX12_ownRun_92 : decode cX12_ownRun 92 = .ok (.goto (-41), 3) := by decide +kernel
theorem dX12_ownRun_95 : decode cX12_ownRun 95 = .ok (.bipush 32, 2) := by decide +kernel
theorem dX12_ownRun_97 : decode cX12_ownRun 97 = .ok (.aload_n 0, 1) := by decide +kernel
theorem dX12_ownRun_98 : decode cX12_ownRun 98 = .ok (.getfield 130, 3) := by decide +kernel
theorem dX12_ownRun_101 : decode cX12_ownRun 101 = .ok (.iload_n 2, 1) := by decide +kernel
theorem dX12_ownRun_102 : decode cX12_ownRun 102 = .ok (.iaload, 1) := by decide +kernel
theorem dX12_ownRun_103 : decode cX12_ownRun 103 = .ok (.imul, 1) := by decide +kernel
theorem dX12_ownRun_104 : decode cX12_ownRun 104 = .ok (.aload_n 0, 1) := by decide +kernel
theorem dX12_ownRun_105 : decode cX12_ownRun 105 = .ok (.getfield 133, 3) := by decide +kernel
theorem dX12_ownRun_108 : decode cX12_ownRun 108 = .ok (.iload_n 2, 1) := by decide +kernel
theorem dX12_ownRun_109 : decode cX12_ownRun 109 = .ok (.iaload, 1) := by decide +kernel
theorem dX12_ownRun_110 : decode cX12_ownRun 110 = .ok (.iadd, 1) := by decide +kernel
theorem dX12_ownRun_111 : decode cX12_ownRun 111 = .ok (.ireturn, 1) := by decide +kernel
def fX12_ownRun_L51 : Nat → Int32 → Int32 → Int32 → Hp → Option ((Int32 ⊕ Int32) × Hp)
  | 0, _, _, _, _ => none
  | n + 1, a1, a2, a3, h => gd (ib a1 12) (br ((gI h 66 0 (ix a1)) ≤ a3) (some (.inr (a3), h)) (gd (ib a2 2400) (gd (ib a2 2400) (gd (ib ((((32 : Int32) * (gI h 88 0 (ix a2))) + (gI h 89 0 (ix a2))) + a3) 256) (br ((gI h 106 0 (ix ((((32 : Int32) * (gI h 88 0 (ix a2))) + (gI h 89 0 (ix a2))) + a3))) = 0) (lb (a3 + 1) (fun v9 => fX12_ownRun_L51 n a1 a2 v9 h)) (some (.inl (-1), h)))))))
def fX12_ownRun (a1 : Int32) (h : Hp) : Option (Int32 × Hp) := br ((gI h 12 0 5) = 0) (some ((-1), h)) (lb ((((200 : Int32) * a1) + (gI h 12 0 5)) - 1) (fun v1 => gd (ib v1 2400) (br ((gI h 88 0 (ix v1)) = (-1)) (some ((-1), h)) (gd (ib v1 2400) (gd (ib a1 12) (br ((gI h 90 0 (ix v1)) = (gI h 66 0 (ix a1))) (bd (fX12_ownRun_L51 FU a1 v1 0 h) (fun u13 h10 => ms u13 (fun r14 => some (r14, h10)) (fun v12 => gd (ib v1 2400) (gd (ib v1 2400) (some (((32 : Int32) * (gI h10 88 0 (ix v1))) + (gI h10 89 0 (ix v1)), h10)))))) (some ((-1), h))))))))
set_option maxRecDepth 20000 in
theorem tX12_ownRun_L51 {X : Cz} {h0 : Hp} {r : Option AV} {hE : Hp} : ∀ (n : Nat) (a1 : Int32) (a2 : Int32) (a3 : Int32) (h : Hp) (z : (Int32 ⊕ Int32) × Hp), fX12_ownRun_L51 n a1 a2 a3 h = some z → lk z r hE (fun v => some (zi v)) (fun t hx => V X mX12_ownRun true h0 95 [(0, zr 12 0), (1, zi a1), (2, zi a2), (3, zi t)] [] hx r hE) → V X mX12_ownRun true h0 51 [(0, zr 12 0), (1, zi a1), (2, zi a2), (3, zi a3)] [] h r hE := by
  intro n
  induction n with
  | zero => intro a1 a2 a3 h z hF k; cases hF
  | succ n ih =>
    intro a1 a2 a3 h z hF k
    rw [fX12_ownRun_L51] at hF
    refine v_iload_n (j := 3) dX12_ownRun_51 rfl ?_
    refine v_aload_n (j := 0) dX12_ownRun_52 rfl ?_
    refine v_getL (c := 12) rfl rfl rfl ly12_26 cz12 flX12_64 dX12_ownRun_53 ?_
    refine v_iload_n (j := 1) dX12_ownRun_56 rfl ?_
    replace hF := gd_use hF
    obtain ⟨q5, hF⟩ := hF
    refine v_iald rfl q5 dX12_ownRun_57 ?_
    refine v_icmp_ge dX12_ownRun_58 (by decide : _ = ((95 : Nat) : Int)) (fun q => ?_) (fun q => ?_)
    · replace hF := brT q hF
      cases hF
      exact k
    · replace hF := brF q hF
      refine v_aload_n (j := 0) dX12_ownRun_61 rfl ?_
      refine v_getL (c := 12) rfl rfl rfl ly12_69 cz12 flX12_184 dX12_ownRun_62 ?_
      refine v_bipush (v := 32) dX12_ownRun_65 (by decide) ?_
      refine v_aload_n (j := 0) dX12_ownRun_67 rfl ?_
      refine v_getL (c := 12) rfl rfl rfl ly12_48 cz12 flX12_130 dX12_ownRun_68 ?_
      refine v_iload_n (j := 2) dX12_ownRun_71 rfl ?_
      replace hF := gd_use hF
      obtain ⟨q6, hF⟩ := hF
      refine v_iald rfl q6 dX12_ownRun_72 ?_
      refine v_imul dX12_ownRun_73 ?_
      refine v_aload_n (j := 0) dX12_ownRun_74 rfl ?_
      refine v_getL (c := 12) rfl rfl rfl ly12_49 cz12 flX12_133 dX12_ownRun_75 ?_
      refine v_iload_n (j := 2) dX12_ownRun_78 rfl ?_
      replace hF := gd_use hF
      obtain ⟨q7, hF⟩ := hF
      refine v_iald rfl q7 dX12_ownRun_79 ?_
      refine v_iadd dX12_ownRun_80 ?_
      refine v_iload_n (j := 3) dX12_ownRun_81 rfl ?_
      refine v_iadd dX12_ownRun_82 ?_
      replace hF := gd_use hF
      obtain ⟨q8, hF⟩ := hF
      refine v_zald rfl q8 dX12_ownRun_83 ?_
      refine v_if_eq dX12_ownRun_84 (by decide : _ = ((89 : Nat) : Int)) (fun q => ?_) (fun q => ?_)
      · replace hF := brT q hF
        obtain ⟨v9, ev9⟩ : ∃ y : Int32, y = a3 + 1 := ⟨_, rfl⟩
        replace hF := lb_use ev9 hF
        refine v_iinc (j := 3) (v := v9) (ls' := [(3, zi v9), (0, zr 12 0), (1, zi a1), (2, zi a2)]) dX12_ownRun_89 rfl (by rw [ev9]; rfl) (by decide) rfl ?_
        clear ev9
        refine v_goto (tgt := 51) dX12_ownRun_92 (by decide) ?_
        refine v_sub [1, 2, 3, 0] rfl ?_
        exact ih a1 a2 v9 h _ hF k
      · replace hF := brF q hF
        refine v_iconst (v := (-1)) dX12_ownRun_87 (by decide) ?_
        cases hF
        obtain ⟨rfl, rfl⟩ := (k : _ ∧ _)
        exact v_iret rfl dX12_ownRun_88
set_option maxRecDepth 20000 in
theorem tX12_ownRun {X : Cz} {a1 : Int32} {h hE : Hp} {rE : Int32} (hF : fX12_ownRun a1 h = some (rE, hE)) : Ct X mX12_ownRun true [zr 12 0, zi a1] h (some (zi rE)) hE := by
  refine Ct_of (by decide) (Nat.le_of_ble_eq_true rfl) (ls := [(0, zr 12 0), (1, zi a1)]) rfl ?_
  unfold fX12_ownRun at hF
  refine v_aload_n (j := 0) dX12_ownRun_0 rfl ?_
  refine v_getI (c := 12) rfl (Or.inl rfl) cz12 flX12_251 dX12_ownRun_1 ?_
  refine v_if_ne dX12_ownRun_4 (by decide : _ = ((9 : Nat) : Int)) (fun q => ?_) (fun q => ?_)
  · replace hF := brF q hF
    refine v_sipush (v := 200) dX12_ownRun_9 (by decide) ?_
    refine v_iload_n (j := 1) dX12_ownRun_12 rfl ?_
    refine v_imul dX12_ownRun_13 ?_
    refine v_aload_n (j := 0) dX12_ownRun_14 rfl ?_
    refine v_getI (c := 12) rfl (Or.inl rfl) cz12 flX12_251 dX12_ownRun_15 ?_
    refine v_iadd dX12_ownRun_18 ?_
    refine v_iconst (v := 1) dX12_ownRun_19 (by decide) ?_
    refine v_isub dX12_ownRun_20 ?_
    refine v_topi fun v1 ev1 => ?_
    replace hF := lb_use ev1 hF
    clear ev1
    refine v_istore_n (ls' := [(2, zi v1), (0, zr 12 0), (1, zi a1)]) dX12_ownRun_21 (by decide) rfl ?_
    refine v_aload_n (j := 1) dX12_ownRun_22 rfl ?_
    refine v_getL (c := 12) rfl rfl rfl ly12_48 cz12 flX12_130 dX12_ownRun_23 ?_
    refine v_iload_n (j := 0) dX12_ownRun_26 rfl ?_
    replace hF := gd_use hF
    obtain ⟨q2, hF⟩ := hF
    refine v_iald rfl q2 dX12_ownRun_27 ?_
    refine v_iconst (v := (-1)) dX12_ownRun_28 (by decide) ?_
    refine v_icmp_eq dX12_ownRun_29 (by decide : _ = ((47 : Nat) : Int)) (fun q => ?_) (fun q => ?_)
    · replace hF := brT q hF
      refine v_iconst (v := (-1)) dX12_ownRun_47 (by decide) ?_
      obtain ⟨rfl, rfl⟩ := ret_use hF
      exact v_iret rfl dX12_ownRun_48
    · replace hF := brF q hF
      refine v_aload_n (j := 1) dX12_ownRun_32 rfl ?_
      refine v_getL (c := 12) rfl rfl rfl ly12_50 cz12 flX12_136 dX12_ownRun_33 ?_
      refine v_iload_n (j := 0) dX12_ownRun_36 rfl ?_
      replace hF := gd_use hF
      obtain ⟨q3, hF⟩ := hF
      refine v_iald rfl q3 dX12_ownRun_37 ?_
      refine v_aload_n (j := 1) dX12_ownRun_38 rfl ?_
      refine v_getL (c := 12) rfl rfl rfl ly12_26 cz12 flX12_64 dX12_ownRun_39 ?_
      refine v_iload_n (j := 2) dX12_ownRun_42 rfl ?_
      replace hF := gd_use hF
      obtain ⟨q4, hF⟩ := hF
      refine v_iald rfl q4 dX12_ownRun_43 ?_
      refine v_icmp_eq dX12_ownRun_44 (by decide : _ = ((49 : Nat) : Int)) (fun q => ?_) (fun q => ?_)
      · replace hF := brT q hF
        refine v_iconst (v := 0) dX12_ownRun_49 (by decide) ?_
        refine v_istore_n (ls' := [(3, zi 0), (2, zi v1), (0, zr 12 0), (1, zi a1)]) dX12_ownRun_50 (by decide) rfl ?_
        refine v_sub [2, 3, 1, 0] rfl ?_
        replace hF := bd_use hF
        obtain ⟨u13, h10, ev12, hF⟩ := hF
        rcases u13 with r14 | v12
        · obtain ⟨rfl, rfl⟩ := ret_use hF
          exact tX12_ownRun_L51 _ a1 v1 0 h _ ev12 ⟨rfl, rfl⟩
        replace hF := msR hF
        refine tX12_ownRun_L51 _ a1 v1 0 h _ ev12 ?_
        clear ev12
        refine v_bipush (v := 32) dX12_ownRun_95 (by decide) ?_
        refine v_aload_n (j := 0) dX12_ownRun_97 rfl ?_
        refine v_getL (c := 12) rfl rfl rfl ly12_48 cz12 flX12_130 dX12_ownRun_98 ?_
        refine v_iload_n (j := 2) dX12_ownRun_101 rfl ?_
        replace hF := gd_use hF
        obtain ⟨q15, hF⟩ := hF
        refine v_iald rfl q15 dX12_ownRun_102 ?_
        refine v_imul dX12_ownRun_103 ?_
        refine v_aload_n (j := 0) dX12_ownRun_104 rfl ?_
        refine v_getL (c := 12) rfl rfl rfl ly12_49 cz12 flX12_133 dX12_ownRun_105 ?_
        refine v_iload_n (j := 2) dX12_ownRun_108 rfl ?_
        replace hF := gd_use hF
        obtain ⟨q16, hF⟩ := hF
        refine v_iald rfl q16 dX12_ownRun_109 ?_
        refine v_iadd dX12_ownRun_110 ?_
        obtain ⟨rfl, rfl⟩ := ret_use hF
        exact v_iret rfl dX12_ownRun_111
      · replace hF := brF q hF
        refine v_iconst (v := (-1)) dX12_ownRun_47 (by decide) ?_
        obtain ⟨rfl, rfl⟩ := ret_use hF
        exact v_iret rfl dX12_ownRun_48
  · replace hF := brT (Decidable.not_not.mp q) hF
    refine v_iconst (v := (-1)) dX12_ownRun_7 (by decide) ?_
    obtain ⟨rfl, rfl⟩ := ret_use hF
    exact v_iret rfl dX12_ownRun_8
theorem dX12_sunday_0 : decode cX12_sunday 0 = .ok (.aload_n 0, 1) := by decide +kernel
theorem dX12_sunday_1 : decode cX12_sunday 1 = .ok (.iconst 0, 1) := by decide +kernel
theorem dX12_sunday_2 : decode cX12_sunday 2 = .ok (.putfield 208, 3) := by decide +kernel
theorem dX12_sunday_5 : decode cX12_sunday 5 = .ok (.iload_n 1, 1) := by decide +kernel
theorem dX12_sunday_6 : decode cX12_sunday 6 = .ok (.invokestatic 217, 3) := by decide +kernel
theorem dX12_sunday_9 : decode cX12_sunday 9 = .ok (.ifCond .eq 15, 3) := by decide +kernel
theorem dX12_sunday_12 : decode cX12_sunday 12 = .ok (.iload_n 2, 1) := by decide +kernel
theorem dX12_sunday_13 : decode cX12_sunday 13 = .ok (.i2l, 1) := by decide +kernel
theorem dX12_sunday_14 : decode cX12_sunday 14 = .ok (.lconst 0, 1) := by decide +kernel
theorem dX12_sunday_15 : decode cX12_sunday 15 = .ok (.ldc2_w 225, 3) := by decide +kernel
theorem dX12_sunday_18 : decode cX12_sunday 18 = .ok (.invokestatic 213, 3) := by decide +kernel
theorem dX12_sunday_21 : decode cX12_sunday 21 = .ok (.ifCond .ne 6, 3) := by decide +kernel
theorem dX12_sunday_24 : decode cX12_sunday 24 = .ok (.bipush (-2), 2) := by decide +kernel
theorem dX12_sunday_26 : decode cX12_sunday 26 = .ok (.ireturn, 1) := by decide +kernel
theorem dX12_sunday_27 : decode cX12_sunday 27 = .ok (.aload_n 0, 1) := by decide +kernel
theorem dX12_sunday_28 : decode cX12_sunday 28 = .ok (.getfield 9, 3) := by decide +kernel
theorem dX12_sunday_31 : decode cX12_sunday 31 = .ok (.iload_n 1, 1) := by decide +kernel
theorem dX12_sunday_32 : decode cX12_sunday 32 = .ok (.iaload, 1) := by decide +kernel
theorem dX12_sunday_33 : decode cX12_sunday 33 = .ok (.ifCond .ge 6, 3) := by decide +kernel
theorem dX12_sunday_36 : decode cX12_sunday 36 = .ok (.bipush (-5), 2) := by decide +kernel
theorem dX12_sunday_38 : decode cX12_sunday 38 = .ok (.ireturn, 1) := by decide +kernel
theorem dX12_sunday_39 : decode cX12_sunday 39 = .ok (.iconst 0, 1) := by decide +kernel
theorem dX12_sunday_40 : decode cX12_sunday 40 = .ok (.istore_n 3, 1) := by decide +kernel
theorem dX12_sunday_41 : decode cX12_sunday 41 = .ok (.iload_n 3, 1) := by decide +kernel
theorem dX12_sunday_42 : decode cX12_sunday 42 = .ok (.aload_n 0, 1) := by decide +kernel
theorem dX12_sunday_43 : decode cX12_sunday 43 = .ok (.getfield 13, 3) := by decide +kernel
theorem dX12_sunday_46 : decode cX12_sunday 46 = .ok (.iload_n 1, 1) := by decide +kernel
theorem dX12_sunday_47 : decode cX12_sunday 47 = .ok (.iaload, 1) := by decide +kernel
theorem dX12_sunday_48 : decode cX12_sunday 48 = .ok (.if_icmp .ge 114, 3) := by decide +kernel
theorem dX12_sunday_51 : decode cX12_sunday 51 = .ok (.aload_n 0, 1) := by decide +kernel
theorem dX12_sunday_52 : decode cX12_sunday 52 = .ok (.getfield 16, 3) := by decide +kernel
theorem dX12_sunday_55 : decode cX12_sunday 55 = .ok (.bipush 60, 2) := by decide +kernel
theorem dX12_sunday_57 : decode cX12_sunday 57 = .ok (.iload_n 1, 1) := by decide +kernel
theorem dX12_sunday_58 : decode cX12_sunday 58 = .ok (.imul, 1) := by decide +kernel
theorem dX12_sunday_59 : decode cX12_sunday 59 = .ok (.iload_n 3, 1) := by decide +kernel
theorem dX12_sunday_60 : decode cX12_sunday 60 = .ok (.iadd, 1) := by decide +kernel
theorem dX12_sunday_61 : decode cX12_sunday 61 = .ok (.laload, 1) := by decide +kernel
theorem dX12_sunday_62 : decode cX12_sunday 62 = .ok (.lstore 4, 2) := by decide +kernel
theorem dX12_sunday_64 : decode cX12_sunday 64 = .ok (.lload 4, 2) := by decide +kernel
theorem dX12_sunday_66 : decode cX12_sunday 66 = .ok (.lconst 0, 1) := by decide +kernel
theorem dX12_sunday_67 : decode cX12_sunday 67 = .ok (.lcmp, 1) := by decide +kernel
theorem dX12_sunday_68 : decode cX12_sunday 68 = .ok (.ifCond .ge 15, 3) := by decide +kernel
theorem dX12_sunday_71 : decode cX12_sunday 71 = .ok (.lload 4, 2) := by decide +kernel
theorem dX12_sunday_73 : decode cX12_sunday 73 = .ok (.ldc2_w 436, 3) := by decide +kernel
theorem dX12_sunday_76 : decode cX12_sunday 76 = .ok (.lcmp, 1) := by decide +kernel
theorem dX12_sunday_77 : decode cX12_sunday 77 = .ok (.ifCond .ge 36, 3) := by decide +kernel
theorem dX12_sunday_80 : decode cX12_sunday 80 = .ok (.goto 30, 3) := by decide +kernel
theorem dX12_sunday_83 : decode cX12_sunday 83 = .ok (.lload 4, 2) := by decide +kernel
theorem dX12_sunday_85 : decode cX12_sunday 85 = .ok (.lconst 0, 1) := by decide +kernel
theorem dX12_sunday_86 : decode cX12_sunday 86 = .ok (.aload_n 0, 1) := by decide +kernel
theorem dX12_sunday_87 : decode cX12_sunday 87 = .ok (.getfield 295, 3) := by decide +kernel
theorem dX12_sunday_90 : decode cX12_sunday 90 = .ok (.iconst 1, 1) := by decide +kernel
theorem dX12_sunday_91 : decode cX12_sunday 91 = .ok (.isub, 1) := by decide +kernel
theorem dX12_sunday_92 : decode cX12_sunday 92 = .ok (.i2l, 1) := by decide +kernel
theorem dX12_sunday_93 : decode cX12_sunday 93 = .ok (.invokestatic 213, 3) := by decide +kernel
theorem dX12_sunday_96 : decode cX12_sunday 96 = .ok (.ifCond .eq 14, 3) := by decide +kernel
theorem dX12_sunday_99 : decode cX12_sunday 99 = .ok (.aload_n 0, 1) := by decide +kernel
theorem dX12_sunday_100 : decode cX12_sunday 100 = .ok (.getfield 70, 3) := by decide +kernel
theorem dX12_sunday_103 : decode cX12_sunday 103 = .ok (.lload 4, 2) := by decide +kernel
theorem dX12_sunday_105 : decode cX12_sunday 105 = .ok (.l2i, 1) := by decide +kernel
theorem dX12_sunday_106 : decode cX12_sunday 106 = .ok (.baload, 1) := by decide +kernel
theorem dX12_sunday_107 : decode cX12_sunday 107 = .ok (.ifCond .eq 6, 3) := by decide +kernel
theorem dX12_sunday_110 : decode cX12_sunday 110 = .ok (.bipush (-4), 2) := by decide +kernel
theorem dX12_sunday_112 : decode cX12_sunday 112 = .ok (.ireturn, 1) := by decide +kernel
theorem dX12_sunday_113 : decode cX12_sunday 113 = .ok (.iconst 0, 1) := by decide +kernel
theorem dX12_sunday_114 : decode cX12_sunday 114 = .ok (.istore 6, 2) := by decide +kernel
theorem dX12_sunday_116 : decode cX12_sunday 116 = .ok (.iload 6, 2) := by decide +kernel
theorem dX12_sunday_118 : decode cX12_sunday 118 = .ok (.iload_n 3, 1) := by decide +kernel
theorem dX12_sunday_119 : decode cX12_sunday 119 = .ok (.if_icmp .ge 37, 3) := by decide +kernel
theorem dX12_sunday_122 : decode cX12_sunday 122 = .ok (.lload 4, 2) := by decide +kernel
theorem dX12_sunday_124 : decode cX12_sunday 124 = .ok (.lconst 0, 1) := by decide +kernel
theorem dX12_sunday_125 : decode cX12_sunday 125 = .ok (.lcmp, 1) := by decide +kernel
theorem dX12_sunday_126 : decode cX12_sunday 126 = .ok (.ifCond .lt 24, 3) := by decide +kernel
theorem dX12_sunday_129 : decode cX12_sunday 129 = .ok (.aload_n 0, 1) := by decide +kernel
theorem dX12_sunday_130 : decode cX12_sunday 130 = .ok (.getfield 16, 3) := by decide +kernel
theorem dX12_sunday_133 : decode cX12_sunday 133 = .ok (.bipush 60, 2) := by decide +kernel
theorem dX12_sunday_135 : decode cX12_sunday 135 = .ok (.iload_n 1, 1) := by decide +kernel
theorem dX12_sunday_136 : decode cX12_sunday 136 = .ok (.imul, 1) := by decide +kernel
theorem dX12_sunday_137 : decode cX12_sunday 137 = .ok (.iload 6, 2) := by decide +kernel
theorem dX12_sunday_139 : decode cX12_sunday 139 = .ok (.iadd, 1) := by decide +kernel
theorem dX12_sunday_140 : decode cX12_sunday 140 = .ok (.laload, 1) := by decide +kernel
theorem dX12_sunday_141 : decode cX12_sunday 141 = .ok (.lload 4, 2) := by decide +kernel
theorem dX12_sunday_143 : decode cX12_sunday 143 = .ok (.lcmp, 1) := by decide +kernel
theorem dX12_sunday_144 : decode cX12_sunday 144 = .ok (.ifCond .ne 6, 3) := by decide +kernel
theorem dX12_sunday_147 : decode cX12_sunday 147 = .ok (.bipush (-4), 2) := by decide +kernel
theorem dX12_sunday_149 : decode cX12_sunday 149 = .ok (.ireturn, 1) := by decide +kernel
theorem dX12_sunday_150 : decode cX12_sunday 150 = .ok (.iinc 6 1, 3) := by decide +kernel
theorem dX12_sunday_153 : decode cX12_sunday 153 = .ok (.goto (-37), 3) := by decide +kernel
theorem dX12_sunday_156 : decode cX12_sunday 156 = .ok (.iinc 3 1, 3) := by decide +kernel
theorem dX12_sunday_159 : decode cX12_sunday 159 = .ok (.goto (-118), 3) := by decide +kernel
theorem dX12_sunday_162 : decode cX12_sunday 162 = .ok (.aload_n 0, 1) := by decide +kernel
theorem dX12_sunday_163 : decode cX12_sunday 163 = .ok (.invokevirtual 310, 3) := by decide +kernel
theorem dX12_sunday_166 : decode cX12_sunday 166 = .ok (.iconst 0, 1) := by decide +kernel
theorem dX12_sunday_167 : decode cX12_sunday 167 = .ok (.istore_n 3, 1) := by decide +kernel
theorem dX12_sunday_168 : decode cX12_sunday 168 = .ok (.iload_n 3, 1) := by decide +kernel
theorem dX12_sunday_169 : decode cX12_sunday 169 = .ok (.sipush 256, 3) := by decide +kernel
theorem dX12_sunday_172 : decode cX12_sunday 172 = .ok (.if_icmp .ge 80, 3) := by decide +kernel
theorem dX12_sunday_175 : decode cX12_sunday 175 = .ok (.aload_n 0, 1) := by decide +kernel
theorem dX12_sunday_176 : decode cX12_sunday 176 = .ok (.getfield 184, 3) := by decide +kernel
theorem dX12_sunday_179 : decode cX12_sunday 179 = .ok (.iload_n 3, 1) := by decide +kernel
theorem dX12_sunday_180 : decode cX12_sunday 180 = .ok (.iconst 0, 1) := by decide +kernel
theorem dX12_sunday_181 : decode cX12_sunday 181 = .ok (.bastore, 1) := by decide +kernel
theorem dX12_sunday_182 : decode cX12_sunday 182 = .ok (.aload_n 0, 1) := by decide +kernel
theorem dX12_sunday_183 : decode cX12_sunday 183 = .ok (.getfield 205, 3) := by decide +kernel
theorem dX12_sunday_186 : decode cX12_sunday 186 = .ok (.iload_n 3, 1) := by decide +kernel
theorem dX12_sunday_187 : decode cX12_sunday 187 = .ok (.iconst 0, 1) := by decide +kernel
theorem dX12_sunday_188 : decode cX12_sunday 188 = .ok (.bastore, 1) := by decide +kernel
theorem dX12_sunday_189 : decode cX12_sunday 189 = .ok (.aload_n 0, 1) := by decide +kernel
theorem dX12_sunday_190 : decode cX12_sunday 190 = .ok (.getfield 181, 3) := by decide +kernel
theorem dX12_sunday_193 : decode cX12_sunday 193 = .ok (.iload_n 3, 1) := by decide +kernel
theorem dX12_sunday_194 : decode cX12_sunday 194 = .ok (.iload_n 3, 1) := by decide +kernel
theorem dX12_sunday_195 : decode cX12_sunday 195 = .ok (.bipush 32, 2) := by decide +kernel
theorem dX12_sunday_197 : decode cX12_sunday 197 = .ok (.idiv, 1) := by decide +kernel
theorem dX12_sunday_198 : decode cX12_sunday 198 = .ok (.aload_n 0, 1) := by decide +kernel
theorem dX12_sunday_199 : decode cX12_sunday 199 = .ok (.getfield 248, 3) := by decide +kernel
theorem dX12_sunday_202 : decode cX12_sunday 202 = .ok (.if_icmp .ge 42, 3) := by decide +kernel
theorem dX12_sunday_205 : decode cX12_sunday 205 = .ok (.iload_n 3, 1) := by decide +kernel
theorem dX12_sunday_206 : decode cX12_sunday 206 = .ok (.bipush 32, 2) := by decide +kernel
theorem dX12_sunday_208 : decode cX12_sunday 208 = .ok (.irem, 1) := by decide +kernel
theorem dX12_sunday_209 : decode cX12_sunday 209 = .ok (.aload_n 0, 1) := by decide +kernel
theorem dX12_sunday_210 : decode cX12_sunday 210 = .ok (.getfield 54, 3) := by decide +kernel
theorem dX12_sunday_213 : decode cX12_sunday 213 = .ok (.iload_n 3, 1) := by decide +kernel
theorem dX12_sunday_214 : decode cX12_sunday 214 = .ok (.bipush 32, 2) := by decide +kernel
theorem dX12_sunday_216 : decode cX12_sunday 216 = .ok (.idiv, 1) := by decide +kernel
theorem dX12_sunday_217 : decode cX12_sunday 217 = .ok (.iaload, 1) := by decide +kernel
theorem dX12_sunday_218 : decode cX12_sunday 218 = .ok (.if_icmp .ge 26, 3) := by decide +kernel
theorem dX12_sunday_221 : decode cX12_sunday 221 = .ok (.aload_n 0, 1) := by decide +kernel
theorem dX12_sunday_222 : decode cX12_sunday 222 = .ok (.iload_n 3, 1) := by decide +kernel
theorem dX12_sunday_223 : decode cX12_sunday 223 = .ok (.bipush 32, 2) := by decide +kernel
theorem dX12_sunday_225 : decode cX12_sunday 225 = .ok (.idiv, 1) := by decide +kernel
theorem dX12_sunday_226 : decode cX12_sunday 226 = .ok (.iload_n 3, 1) := by decide +kernel
theorem dX12_sunday_227 : decode cX12_sunday 227 = .ok (.bipush 32, 2) := by decide +kernel
theorem dX12_sunday_229 : decode cX12_sunday 229 = .ok (.irem, 1) := by decide +kernel
theorem dX12_sunday_230 : decode cX12_sunday 230 = .ok (.aload_n 0, 1) := by decide +kernel
theorem dX12_sunday_231 : decode cX12_sunday 231 = .ok (.getfield 251, 3) := by decide +kernel
theorem dX12_sunday_234 : decode cX12_sunday 234 = .ok (.aload_n 0, 1) := by decide +kernel
theorem dX12_sunday_235 : decode cX12_sunday 235 = .ok (.getfield 251, 3) := by decide +kernel
theorem dX12_sunday_238 : decode cX12_sunday 238 = .ok (.invokevirtual 348, 3) := by decide +kernel
theorem dX12_sunday_241 : decode cX12_sunday 241 = .ok (.goto 4, 3) := by decide +kernel
theorem dX12_sunday_244 : decode cX12_sunday 244 = .ok (.iconst (-1), 1) := by decide +kernel
theorem dX12_sunday_245 : decode cX12_sunday 245 = .ok (.iastore, 1) := by decide +kernel
theorem dX12_sunday_246 : decode cX12_sunday 246 = .ok (.iinc 3 1, 3) := by decide +kernel
theorem dX12_sunday_249 : decode cX12_sunday 249 = .ok (.goto (-81), 3) := by decide +kernel
theorem dX12_sunday_252 : decode cX12_sunday 252 = .ok (.iconst 0, 1) := by decide +kernel
theorem dX12_sunday_253 : decode cX12_sunday 253 = .ok (.istore_n 3, 1) := by decide +kernel
theorem dX12_sunday_254 : decode cX12_sunday 254 = .ok (.iload_n 3, 1) := by decide +kernel
theorem dX12_sunday_255 : decode cX12_sunday 255 = .ok (.aload_n 0, 1) := by decide +kernel
theorem dX12_sunday_256 : decode cX12_sunday 256 = .ok (.getfield 295, 3) := by decide +kernel
theorem dX12_sunday_259 : decode cX12_sunday 259 = .ok (.if_icmp .ge 101, 3) := by decide +kernel
theorem dX12_sunday_262 : decode cX12_sunday 262 = .ok (.aload_n 0, 1) := by decide +kernel
theorem dX12_sunday_263 : decode cX12_sunday 263 = .ok (.getfield 251, 3) := by decide +kernel
theorem dX12_sunday_266 : decode cX12_sunday 266 = .ok (.ifCond .le 94, 3) := by decide +kernel
theorem dX12_sunday_269 : decode cX12_sunday 269 = .ok (.sipush 200, 3) := by decide +kernel
theorem dX12_sunday_272 : decode cX12_sunday 272 = .ok (.iload_n 3, 1) := by decide +kernel
theorem dX12_sunday_273 : decode cX12_sunday 273 = .ok (.imul, 1) := by decide +kernel
theorem dX12_sunday_274 : decode cX12_sunday 274 = .ok (.aload_n 0, 1) := by decide +kernel
theorem dX12_sunday_275 : decode cX12_sunday 275 = .ok (.getfield 251, 3) := by decide +kernel
theorem dX12_sunday_278 : decode cX12_sunday 278 = .ok (.iadd, 1) := by decide +kernel
theorem dX12_sunday_279 : decode cX12_sunday 279 = .ok (.iconst 1, 1) := by decide +kernel
theorem dX12_sunday_280 : decode cX12_sunday 280 = .ok (.isub, 1) := by decide +kernel
theorem dX12_sunday_281 : decode cX12_sunday 281 = .ok (.istore 4, 2) := by decide +kernel
theorem dX12_sunday_283 : decode cX12_sunday 283 = .ok (.aload_n 0, 1) := by decide +kernel
theorem dX12_sunday_284 : decode cX12_sunday 284 = .ok (.getfield 70, 3) := by decide +kernel
theorem dX12_sunday_287 : decode cX12_sunday 287 = .ok (.iload_n 3, 1) := by decide +kernel
theorem dX12_sunday_288 : decode cX12_sunday 288 = .ok (.baload, 1) := by decide +kernel
theorem dX12_sunday_289 : decode cX12_sunday 289 = .ok (.ifCond .ne 65, 3) := by decide +kernel
theorem dX12_sunday_292 : decode cX12_sunday 292 = .ok (.aload_n 0, 1) := by decide +kernel
theorem dX12_sunday_293 : decode cX12_sunday 293 = .ok (.getfield 130, 3) := by decide +kernel
theorem dX12_sunday_296 : decode cX12_sunday 296 = .ok (.iload 4, 2) := by decide +kernel
theorem dX12_sunday_298 : decode cX12_sunday 298 = .ok (.iaload, 1) := by decide +kernel
theorem dX12_sunday_299 : decode cX12_sunday 299 = .ok (.iconst (-1), 1) := by decide +kernel
theorem dX12_sunday_300 : decode cX12_sunday 300 = .ok (.if_icmp .ne 6, 3) := by decide +kernel
theorem dX12_sunday_303 : decode cX12_sunday 303 = .ok (.goto 51, 3) := by decide +kernel
theorem dX12_sunday_306 : decode cX12_sunday 306 = .ok (.iconst 0, 1) := by decide +kernel
theorem dX12_sunday_307 : decode cX12_sunday 307 = .ok (.istore 5, 2) := by decide +kernel
theorem dX12_sunday_309 : decode cX12_sunday 309 = .ok (.iload 5, 2) := by decide +kernel
theorem dX12_sunday_311 : decode cX12_sunday 311 = .ok (.aload_n 0, 1) := by decide +kernel
theorem dX12_sunday_312 : decode cX12_sunday 312 = .ok (.getfield 136, 3) := by decide +kernel
theorem dX12_sunday_315 : decode cX12_sunday 315 = .ok (.iload 4, 2) := by decide +kernel
theorem dX12_sunday_317 : decode cX12_sunday 317 = .ok (.iaload, 1) := by decide +kernel
theorem dX12_sunday_318 : decode cX12_sunday 318 = .ok (.if_icmp .ge 36, 3) := by decide +kernel
theorem dX12_sunday_321 : decode cX12_sunday 321 = .ok (.aload_n 0, 1) := by decide +kernel
theorem dX12_sunday_322 : decode cX12_sunday 322 = .ok (.getfield 205, 3) := by decide +kernel
theorem dX12_sunday_325 : decode cX12_sunday 325 = .ok (.bipush 32, 2) := by decide +kernel
theorem dX12_sunday_327 : decode cX12_sunday 327 = .ok (.aload_n 0, 1) := by decide +kernel
theorem dX12_sunday_328 : decode cX12_sunday 328 = .ok (.getfield 130, 3) := by decide +kernel
theorem dX12_sunday_331 : decode cX12_sunday 331 = .ok (.iload 4, 2) := by decide +kernel
theorem dX12_sunday_333 : decode cX12_sunday 333 = .ok (.iaload, 1) := by decide +kernel
theorem dX12_sunday_334 : decode cX12_sunday 334 = .ok (.imul, 1) := by decide +kernel
theorem dX12_sunday_335 : decode cX12_sunday 335 = .ok (.aload_n 0, 1) := by decide +kernel
theorem dX12_sunday_336 : decode cX12_sunday 336 = .ok (.getfield 133, 3) := by decide +kernel
theorem dX12_sunday_339 : decode cX12_sunday 339 = .ok (.iload 4, 2) := by decide +kernel
theorem dX12_sunday_341 : decode cX12_sunday 341 = .ok (.iaload, 1) := by decide +kernel
theorem dX12_sunday_342 : decode cX12_sunday 342 = .ok (.iadd, 1) := by decide +kernel
theorem dX12_sunday_343 : decode cX12_sunday 343 = .ok (.iload 5, 2) := by decide +kernel
theorem dX12_sunday_345 : decode cX12_sunday 345 = .ok (.iadd, 1) := by decide +kernel
theorem dX12_sunday_346 : decode cX12_sunday 346 = .ok (.iconst 1, 1) := by decide +kernel
theorem dX12_sunday_347 : decode cX12_sunday 347 = .ok (.bastore, 1) := by decide +kernel
theorem dX12_sunday_348 : decode cX12_sunday 348 = .ok (.iinc 5 1, 3) := by decide +kernel
theorem dX12_sunday_351 : decode cX12_sunday 351 = .ok (.goto (-42), 3) := by decide +kernel
theorem dX12_sunday_354 : decode cX12_sunday 354 = .ok (.iinc 3 1, 3) := by decide +kernel
theorem dX12_sunday_357 : decode cX12_sunday 357 = .ok (.goto (-103), 3) := by decide +kernel
theorem dX12_sunday_360 : decode cX12_sunday 360 = .ok (.iconst 0, 1) := by decide +kernel
theorem dX12_sunday_361 : decode cX12_sunday 361 = .ok (.istore_n 3, 1) := by decide +kernel
theorem dX12_sunday_362 : decode cX12_sunday 362 = .ok (.aload_n 0, 1) := by decide +kernel
theorem dX12_sunday_363 : decode cX12_sunday 363 = .ok (.aload_n 0, 1) := by decide +kernel
theorem dX12_sunday_364 : decode cX12_sunday 364 = .ok (.getfield 13, 3) := by decide +kernel
theorem dX12_sunday_367 : decode cX12_sunday 367 = .ok (.iload_n 1, 1) := by decide +kernel
theorem dX12_sunday_368 : decode cX12_sunday 368 = .ok (.iaload, 1) := by decide +kernel
theorem dX12_sunday_369 : decode cX12_sunday 369 = .ok (.putfield 438, 3) := by decide +kernel
theorem dX12_sunday_372 : decode cX12_sunday 372 = .ok (.iconst 0, 1) := by decide +kernel
theorem dX12_sunday_373 : decode cX12_sunday 373 = .ok (.istore 4, 2) := by decide +kernel
theorem dX12_sunday_375 : decode cX12_sunday 375 = .ok (.iload 4, 2) := by decide +kernel
theorem dX12_sunday_377 : decode cX12_sunday 377 = .ok (.aload_n 0, 1) := by decide +kernel
theorem dX12_sunday_378 : decode cX12_sunday 378 = .ok (.getfield 13, 3) := by decide +kernel
theorem dX12_sunday_381 : decode cX12_sunday 381 = .ok (.iload_n 1, 1) := by decide +kernel
theorem dX12_sunday_382 : decode cX12_sunday 382 = .ok (.iaload, 1) := by decide +kernel
theorem dX12_sunday_383 : decode cX12_sunday 383 = .ok (.if_icmp .ge 210, 3) := by decide +kernel
theorem dX12_sunday_386 : decode cX12_sunday 386 = .ok (.aload_n 0, 1) := by decide +kernel
theorem dX12_sunday_387 : decode cX12_sunday 387 = .ok (.getfield 16, 3) := by decide +kernel
theorem dX12_sunday_390 : decode cX12_sunday 390 = .ok (.bipush 60, 2) := by decide +kernel
theorem dX12_sunday_392 : decode cX12_sunday 392 = .ok (.iload_n 1, 1) := by decide +kernel
theorem dX12_sunday_393 : decode cX12_sunday 393 = .ok (.imul, 1) := by decide +kernel
theorem dX12_sunday_394 : decode cX12_sunday 394 = .ok (.iload 4, 2) := by decide +kernel
theorem dX12_sunday_396 : decode cX12_sunday 396 = .ok (.iadd, 1) := by decide +kernel
theorem dX12_sunday_397 : decode cX12_sunday 397 = .ok (.laload, 1) := by decide +kernel
theorem dX12_sunday_398 : decode cX12_sunday 398 = .ok (.l2i, 1) := by decide +kernel
theorem dX12_sunday_399 : decode cX12_sunday 399 = .ok (.istore 5, 2) := by decide +kernel
theorem dX12_sunday_401 : decode cX12_sunday 401 = .ok (.iload 5, 2) := by decide +kernel
theorem dX12_sunday_403 : decode cX12_sunday 403 = .ok (.ifCond .ge 9, 3) := by decide +kernel
theorem dX12_sunday_406 : decode cX12_sunday 406 = .ok (.iload 5, 2) := by decide +kernel
theorem dX12_sunday_408 : decode cX12_sunday 408 = .ok (.ineg, 1) := by decide +kernel
theorem dX12_sunday_409 : decode cX12_sunday 409 = .ok (.goto 10, 3) := by decide +kernel
theorem dX12_sunday_412 : decode cX12_sunday 412 = .ok (.aload_n 0, 1) := by decide +kernel
theorem dX12_sunday_413 : decode cX12_sunday 413 = .ok (.getfield 64, 3) := by decide +kernel
theorem dX12_sunday_416 : decode cX12_sunday 416 = .ok (.iload 5, 2) := by decide +kernel
theorem dX12_sunday_418 : decode cX12_sunday 418 = .ok (.iaload, 1) := by decide +kernel
theorem dX12_sunday_419 : decode cX12_sunday 419 = .ok (.istore 6, 2) := by decide +kernel
theorem dX12_sunday_421 : decode cX12_sunday 421 = .ok (.iload 5, 2) := by decide +kernel
theorem dX12_sunday_423 : decode cX12_sunday 423 = .ok (.ifCond .ge 7, 3) := by decide +kernel
theorem dX12_sunday_426 : decode cX12_sunday 426 = .ok (.iconst 0, 1) := by decide +kernel
theorem dX12_sunday_427 : decode cX12_sunday 427 = .ok (.goto 10, 3) := by decide +kernel
theorem dX12_sunday_430 : decode cX12_sunday 430 = .ok (.aload_n 0, 1) := by decide +kernel
theorem dX12_sunday_431 : decode cX12_sunday 431 = .ok (.getfield 61, 3) := by decide +kernel
theorem dX12_sunday_434 : decode cX12_sunday 434 = .ok (.iload 5, 2) := by decide +kernel
theorem dX12_sunday_436 : decode cX12_sunday 436 = .ok (.iaload, 1) := by decide +kernel
theorem dX12_sunday_437 : decode cX12_sunday 437 = .ok (.istore 7, 2) := by decide +kernel
theorem dX12_sunday_439 : decode cX12_sunday 439 = .ok (.iload 5, 2) := by decide +kernel
theorem dX12_sunday_441 : decode cX12_sunday 441 = .ok (.ifCond .ge 7, 3) := by decide +kernel
theorem dX12_sunday_444 : decode cX12_sunday 444 = .ok (.iconst 0, 1) := by decide +kernel
theorem dX12_sunday_445 : decode cX12_sunday 445 = .ok (.goto 10, 3) := by decide +kernel
theorem dX12_sunday_448 : decode cX12_sunday 448 = .ok (.aload_n 0, 1) := by decide +kernel
theorem dX12_sunday_449 : decode cX12_sunday 449 = .ok (.getfield 67, 3) := by decide +kernel
theorem dX12_sunday_452 : decode cX12_sunday 452 = .ok (.iload 5, 2) := by decide +kernel
theorem dX12_sunday_454 : decode cX12_sunday 454 = .ok (.iaload, 1) := by decide +kernel
theorem dX12_sunday_455 : decode cX12_sunday 455 = .ok (.istore 8, 2) := by decide +kernel
theorem dX12_sunday_457 : decode cX12_sunday 457 = .ok (.iload 5, 2) := by decide +kernel
theorem dX12_sunday_459 : decode cX12_sunday 459 = .ok (.ifCond .lt 18, 3) := by decide +kernel
theorem dX12_sunday_462 : decode cX12_sunday 462 = .ok (.iload 4, 2) := by decide +kernel
theorem dX12_sunday_464 : decode cX12_sunday 464 = .ok (.iload_n 2, 1) := by decide +kernel
theorem dX12_sunday_465 : decode cX12_sunday 465 = .ok (.if_icmp .ge 12, 3) := by decide +kernel
theorem dX12_sunday_468 : decode cX12_sunday 468 = .ok (.aload_n 0, 1) := by decide +kernel
theorem dX12_sunday_469 : decode cX12_sunday 469 = .ok (.iload 5, 2) := by decide +kernel
theorem dX12_sunday_471 : decode cX12_sunday 471 = .ok (.invokevirtual 441, 3) := by decide +kernel
theorem dX12_sunday_474 : decode cX12_sunday 474 = .ok (.goto 4, 3) := by decide +kernel
theorem dX12_sunday_477 : decode cX12_sunday 477 = .ok (.iconst (-1), 1) := by decide +kernel
theorem dX12_sunday_478 : decode cX12_sunday 478 = .ok (.istore 9, 2) := by decide +kernel
theorem dX12_sunday_480 : decode cX12_sunday 480 = .ok (.iload 9, 2) := by decide +kernel
theorem dX12_sunday_482 : decode cX12_sunday 482 = .ok (.iconst (-1), 1) := by decide +kernel
theorem dX12_sunday_483 : decode cX12_sunday 483 = .ok (.if_icmp .ne 26, 3) := by decide +kernel
theorem dX12_sunday_486 : decode cX12_sunday 486 = .ok (.aload_n 0, 1) := by decide +kernel
theorem dX12_sunday_487 : decode cX12_sunday 487 = .ok (.iload 6, 2) := by decide +kernel
theorem dX12_sunday_489 : decode cX12_sunday 489 = .ok (.iload 7, 2) := by decide +kernel
theorem dX12_sunday_491 : decode cX12_sunday 491 = .ok (.iload 8, 2) := by decide +kernel
theorem dX12_sunday_493 : decode cX12_sunday 493 = .ok (.iload 4, 2) := by decide +kernel
theorem dX12_sunday_495 : decode cX12_sunday 495 = .ok (.iload_n 2, 1) := by decide +kernel
theorem dX12_sunday_496 : decode cX12_sunday 496 = .ok (.if_icmp .lt 7, 3) := by decide +kernel
theorem dX12_sunday_499 : decode cX12_sunday 499 = .ok (.iconst 1, 1) := by decide +kernel
theorem dX12_sunday_500 : decode cX12_sunday 500 = .ok (.goto 4, 3) := by decide +kernel
theorem dX12_sunday_503 : decode cX12_sunday 503 = .ok (.iconst 0, 1) := by decide +kernel
theorem dX12_sunday_504 : decode cX12_sunday 504 = .ok (.invokevirtual 444, 3) := by decide +kernel
theorem dX12_sunday_507 : decode cX12_sunday 507 = .ok (.istore 9, 2) := by decide +kernel
theorem dX12_sunday_509 : decode cX12_sunday 509 = .ok (.aload_n 0, 1) := by decide +kernel
theorem dX12_sunday_510 : decode cX12_sunday 510 = .ok (.getfield 202, 3) := by decide +kernel
theorem dX12_sunday_513 : decode cX12_sunday 513 = .ok (.iload 4, 2) := by decide +kernel
theorem dX12_sunday_515 : decode cX12_sunday 515 = .ok (.iload 9, 2) := by decide +kernel
theorem dX12_sunday_517 : decode cX12_sunday 517 = .ok (.iconst (-1), 1) := by decide +kernel
theorem dX12_sunday_518 : decode cX12_sunday 518 = .ok (.if_icmp .ne 7, 3) := by decide +kernel
theorem dX12_sunday_521 : decode cX12_sunday 521 = .ok (.iconst (-1), 1) := by decide +kernel
theorem dX12_sunday_522 : decode cX12_sunday 522 = .ok (.goto 17, 3) := by decide +kernel
theorem dX12_sunday_525 : decode cX12_sunday 525 = .ok (.bipush 100, 2) := by decide +kernel
theorem dX12_sunday_527 : decode cX12_sunday 527 = .ok (.iload 9, 2) := by decide +kernel
theorem dX12_sunday_529 : decode cX12_sunday 529 = .ok (.bipush 32, 2) := by decide +kernel
theorem dX12_sunday_531 : decode cX12_sunday 531 = .ok (.idiv, 1) := by decide +kernel
theorem dX12_sunday_532 : decode cX12_sunday 532 = .ok (.imul, 1) := by decide +kernel
theorem dX12_sunday_533 : decode cX12_sunday 533 = .ok (.iload 9, 2) := by decide +kernel
theorem dX12_sunday_535 : decode cX12_sunday 535 = .ok (.bipush 32, 2) := by decide +kernel
theorem dX12_sunday_537 : decode cX12_sunday 537 = .ok (.irem, 1) := by decide +kernel
theorem dX12_sunday_538 : decode cX12_sunday 538 = .ok (.iadd, 1) := by decide +kernel
theorem dX12_sunday_539 : decode cX12_sunday 539 = .ok (.iastore, 1) := by decide +kernel
theorem dX12_sunday_540 : decode cX12_sunday 540 = .ok (.iload_n 3, 1) := by decide +kernel
theorem dX12_sunday_541 : decode cX12_sunday 541 = .ok (.iload 9, 2) := by decide +kernel
theorem dX12_sunday_543 : decode cX12_sunday 543 = .ok (.iconst (-1), 1) := by decide +kernel
theorem dX12_sunday_544 : decode cX12_sunday 544 = .ok (.if_icmp .ne 7, 3) := by decide +kernel
theorem dX12_sunday_547 : decode cX12_sunday 547 = .ok (.iconst 1, 1) := by decide +kernel
theorem dX12_sunday_548 : decode cX12_sunday 548 = .ok (.goto 4, 3) := by decide +kernel
theorem dX12_sunday_551 : decode cX12_sunday 551 = .ok (.iconst 0, 1) := by decide +kernel
theorem dX12_sunday_552 : decode cX12_sunday 552 = .ok (.iadd, 1) := by decide +kernel
theorem dX12_sunday_553 : decode cX12_sunday 553 = .ok (.istore_n 3, 1) := by decide +kernel
theorem dX12_sunday_554 : decode cX12_sunday 554 = .ok (.iconst 0, 1) := by decide +kernel
theorem dX12_sunday_555 : decode cX12_sunday 555 = .ok (.istore 10, 2) := by decide +kernel
theorem dX12_sunday_557 : decode cX12_sunday 557 = .ok (.iload 9, 2) := by decide +kernel
theorem dX12_sunday_559 : decode cX12_sunday 559 = .ok (.iconst (-1), 1) := by decide +kernel
theorem dX12_sunday_560 : decode cX12_sunday 560 = .ok (.if_icmp .eq 27, 3) := by decide +kernel
theorem dX12_sunday_563 : decode cX12_sunday 563 = .ok (.iload 10, 2) := by decide +kernel
theorem dX12_sunday_565 : decode cX12_sunday 565 = .ok (.iload 6, 2) := by decide +kernel
theorem dX12_sunday_567 : decode cX12_sunday 567 = .ok (.if_icmp .ge 20, 3) := by decide +kernel
theorem dX12_sunday_570 : decode cX12_sunday 570 = .ok (.aload_n 0, 1) := by decide +kernel
theorem dX12_sunday_571 : decode cX12_sunday 571 = .ok (.getfield 184, 3) := by decide +kernel
theorem dX12_sunday_574 : decode cX12_sunday 574 = .ok (.iload 9, 2) := by decide +kernel
theorem dX12_sunday_576 : decode cX12_sunday 576 = .ok (.iload 10, 2) := by decide +kernel
theorem dX12_sunday_578 : decode cX12_sunday 578 = .ok (.iadd, 1) := by decide +kernel
theorem dX12_sunday_579 : decode cX12_sunday 579 = .ok (.iconst 1, 1) := by decide +kernel
theorem dX12_sunday_580 : decode cX12_sunday 580 = .ok (.bastore, 1) := by decide +kernel
theorem dX12_sunday_581 : decode cX12_sunday 581 = .ok (.iinc 10 1, 3) := by decide +kernel
theorem dX12_sunday_584 : decode cX12_sunday 584 = .ok (.goto (-27), 3) := by decide +kernel
theorem dX12_sunday_587 : decode cX12_sunday 587 = .ok (.iinc 4 1, 3) := by decide +kernel
theorem dX12_sunday_590 : decode cX12_sunday 590 = .ok (.goto (-215), 3) := by decide +kernel
theorem dX12_sunday_593 : decode cX12_sunday 593 = .ok (.iload_n 3, 1) := by decide +kernel
theorem dX12_sunday_594 : decode cX12_sunday 594 = .ok (.ireturn, 1) := by decide +kernel
def fX12_sunday_L116 : Nat → Int32 → Int32 → Int32 → Int64 → Int32 → Hp → Option ((Int32 ⊕ Int32) × Hp)
  | 0, _, _, _, _, _, _ => none
  | n + 1, a1, a2, a3, a4, a6, h => br (a3 ≤ a6) (some (.inr (a6), h)) (br (a4 < (0 : Int64)) (lb (a6 + 1) (fun v8 => fX12_sunday_L116 n a1 a2 a3 a4 v8 h)) (gd (ib (((60 : Int32) * a1) + a6) 240) (br ((gJ h 56 0 (ix (((60 : Int32) * a1) + a6))) = a4) (some (.inl (-4), h)) (lb (a6 + 1) (fun v10 => fX12_sunday_L116 n a1 a2 a3 a4 v10 h)))))
def fX12_sunday_L41 : Nat → Int32 → Int32 → Int32 → Hp → Option ((Int32 ⊕ Int32) × Hp)
  | 0, _, _, _, _ => none
  | n + 1, a1, a2, a3, h => gd (ib a1 4) (br ((gI h 55 0 (ix a1)) ≤ a3) (some (.inr (a3), h)) (gd (ib (((60 : Int32) * a1) + a3) 240) (lb (gJ h 56 0 (ix (((60 : Int32) * a1) + a3))) (fun v5 => lb (fun (h7 : Hp) => bd (fX12_sunday_L116 FU a1 a2 a3 v5 0 h7) (fun u14 h11 => ms u14 (fun r15 => some (.inl r15, h11)) (fun v13 => lb (a3 + 1) (fun v16 => fX12_sunday_L41 n a1 a2 v16 h11)))) (fun j6 => br ((0 : Int64) ≤ v5) (br ((fX12_in v5 0 (((gI h 12 0 8) - 1).toInt64) h) = 0) (some (.inl (-4), h)) (gd (ib v5.toInt32 12) (br ((gI h 68 0 (ix v5.toInt32)) = 0) (j6 h) (some (.inl (-4), h))))) (br ((-12 : Int64) ≤ v5) (j6 h) (some (.inl (-4), h))))))))
def fX12_sunday_L168 : Nat → Int32 → Int32 → Int32 → Hp → Option ((Int32) × Hp)
  | 0, _, _, _, _ => none
  | n + 1, a1, a2, a3, h => br (256 ≤ a3) (some ((a3), h)) (gd (ib a3 256) (lb (sI h 106 0 (ix a3) 0) (fun h26 => gd (ib a3 256) (lb (sI h26 113 0 (ix a3) 0) (fun h28 => br ((gI h28 12 0 7) ≤ (a3 / 32)) (gd (ib a3 256) (lb (sI h28 105 0 (ix a3) (-1)) (fun h30 => lb (a3 + 1) (fun v31 => fX12_sunday_L168 n a1 a2 v31 h30)))) (gd (ib (a3 / 32) 8) (br ((gI h28 63 0 (ix (a3 / 32))) ≤ (a3 - a3 / 32 * 32)) (gd (ib a3 256) (lb (sI h28 105 0 (ix a3) (-1)) (fun h34 => lb (a3 + 1) (fun v35 => fX12_sunday_L168 n a1 a2 v35 h34)))) (bd (fX12_ownerOf (a3 / 32) (a3 - a3 / 32 * 32) (gI h28 12 0 5) (gI h28 12 0 5) h28) (fun r36 h37 => gd (ib a3 256) (lb (sI h37 105 0 (ix a3) r36) (fun h39 => lb (a3 + 1) (fun v40 => fX12_sunday_L168 n a1 a2 v40 h39))))))))))))
def fX12_sunday_L309 : Nat → Int32 → Int32 → Int32 → Int32 → Int32 → Hp → Option ((Int32) × Hp)
  | 0, _, _, _, _, _, _ => none
  | n + 1, a1, a2, a3, a4, a5, h => gd (ib a4 2400) (br ((gI h 90 0 (ix a4)) ≤ a5) (some ((a5), h)) (gd (ib a4 2400) (gd (ib a4 2400) (gd (ib ((((32 : Int32) * (gI h 88 0 (ix a4))) + (gI h 89 0 (ix a4))) + a5) 256) (lb (sI h 113 0 (ix ((((32 : Int32) * (gI h 88 0 (ix a4))) + (gI h 89 0 (ix a4))) + a5)) 1) (fun h52 => lb (a5 + 1) (fun v53 => fX12_sunday_L309 n a1 a2 a3 a4 v53 h52)))))))
def fX12_sunday_L254 : Nat → Int32 → Int32 → Int32 → Hp → Option ((Int32) × Hp)
  | 0, _, _, _, _ => none
  | n + 1, a1, a2, a3, h => br ((gI h 12 0 8) ≤ a3) (some ((a3), h)) (br ((gI h 12 0 5) ≤ 0) (some ((a3), h)) (lb ((((200 : Int32) * a3) + (gI h 12 0 5)) - 1) (fun v44 => gd (ib a3 12) (br ((gI h 68 0 (ix a3)) = 0) (gd (ib v44 2400) (br ((gI h 88 0 (ix v44)) = (-1)) (lb (a3 + 1) (fun v58 => fX12_sunday_L254 n a1 a2 v58 h)) (bd (fX12_sunday_L309 FU a1 a2 a3 v44 0 h) (fun v56 h54 => lb (a3 + 1) (fun v57 => fX12_sunday_L254 n a1 a2 v57 h54))))) (lb (a3 + 1) (fun v46 => fX12_sunday_L254 n a1 a2 v46 h))))))
def fX12_sunday_L557 : Nat → Int32 → Int32 → Int32 → Int32 → Int32 → Int32 → Int32 → Hp → Option ((Int32) × Hp)
  | 0, _, _, _, _, _, _, _, _ => none
  | n + 1, a1, a2, a3, a4, a6, a9, a10, h => br (a9 = (-1)) (some ((a10), h)) (br (a6 ≤ a10) (some ((a10), h)) (gd (ib (a9 + a10) 256) (lb (sI h 106 0 (ix (a9 + a10)) 1) (fun h94 => lb (a10 + 1) (fun v95 => fX12_sunday_L557 n a1 a2 a3 a4 a6 a9 v95 h94)))))
def fX12_sunday_L375 : Nat → Int32 → Int32 → Int32 → Int32 → Hp → Option ((Int32 × Int32) × Hp)
  | 0, _, _, _, _, _ => none
  | n + 1, a1, a2, a3, a4, h => gd (ib a1 4) (br ((gI h 55 0 (ix a1)) ≤ a4) (some ((a3, a4), h)) (gd (ib (((60 : Int32) * a1) + a4) 240) (lb ((gJ h 56 0 (ix (((60 : Int32) * a1) + a4))).toInt32) (fun v66 => lb (fun (x68 : Int32) (h69 : Hp) => lb (fun (x71 : Int32) (h72 : Hp) => lb (fun (x74 : Int32) (h75 : Hp) => lb (fun (x77 : Int32) (h78 : Hp) => lb (fun (x80 : Int32) (h81 : Hp) => lb (fun (x83 : Int32) (x84 : Int32) (h85 : Hp) => gd (ib x83 60) (lb (sI h85 112 0 (ix x83) x84) (fun h87 => lb (fun (x89 : Int32) (x90 : Int32) (h91 : Hp) => lb (x89 + x90) (fun v92 => bd (fX12_sunday_L557 FU a1 a2 v92 a4 x68 x80 0 h91) (fun v98 h96 => lb (a4 + 1) (fun v99 => fX12_sunday_L375 n a1 a2 v92 v99 h96)))) (fun j88 => br (x80 = (-1)) (j88 a3 1 h87) (j88 a3 0 h87))))) (fun j82 => br (x80 = (-1)) (j82 a4 (-1) h81) (j82 a4 (((100 : Int32) * (x80 / 32)) + (x80 - x80 / 32 * 32)) h81))) (fun j79 => br (x77 = (-1)) (lb (fun (x101 : Int32) (x102 : Int32) (x103 : Int32) (x104 : Int32) (h105 : Hp) => bd (fX12_bestRun x101 x102 x103 x104 h105) (fun r106 h107 => j79 r106 h107)) (fun j100 => br (a4 < a2) (j100 x68 x71 x74 0 h78) (j100 x68 x71 x74 1 h78))) (j79 x77 h78))) (fun j76 => lb (fun (h109 : Hp) => j76 (-1) h109) (fun j108 => br (v66 < 0) (j108 h75) (br (a2 ≤ a4) (j108 h75) (bd (fX12_ownRun v66 h75) (fun r110 h111 => j76 r110 h111)))))) (fun j73 => br (0 ≤ v66) (gd (ib v66 12) (j73 (gI h72 67 0 (ix v66)) h72)) (j73 0 h72))) (fun j70 => br (0 ≤ v66) (gd (ib v66 12) (j70 (gI h69 65 0 (ix v66)) h69)) (j70 0 h69))) (fun j67 => br (0 ≤ v66) (gd (ib v66 12) (j67 (gI h 66 0 (ix v66)) h)) (j67 (-v66) h))))))
def fX12_sunday (a1 : Int32) (a2 : Int32) (h : Hp) : Option (Int32 × Hp) := lb (sI h 12 0 0 0) (fun h1 => br ((fX12_isPlace a1 h1) = 0) (some ((-2), h1)) (br ((fX12_in a2.toInt64 0 60 h1) = 0) (some ((-2), h1)) (gd (ib a1 4) (br (0 ≤ (gI h1 54 0 (ix a1))) (bd (fX12_sunday_L41 FU a1 a2 0 h1) (fun u21 h18 => ms u21 (fun r22 => some (r22, h18)) (fun v20 => bd (fX12_listens h18) (fun r23 h24 => bd (fX12_sunday_L168 FU a1 a2 0 h24) (fun v43 h41 => bd (fX12_sunday_L254 FU a1 a2 0 h41) (fun v61 h59 => gd (ib a1 4) (lb (sI h59 12 0 77 (gI h59 55 0 (ix a1))) (fun h63 => bd (fX12_sunday_L375 FU a1 a2 0 0 h63) (fun t116 h115 => lb t116.1 (fun v117 => lb t116.2 (fun v118 => some (v117, h115)))))))))))) (some ((-5), h1))))))
set_option maxHeartbeats 4000000 in
set_option maxRecDepth 100000 in
theorem tX12_sunday_L116 {X : Cz} {h0 : Hp} {r : Option AV} {hE : Hp} : ∀ (n : Nat) (a1 : Int32) (a2 : Int32) (a3 : Int32) (a4 : Int64) (a6 : Int32) (h : Hp) (z : (Int32 ⊕ Int32) × Hp), fX12_sunday_L116 n a1 a2 a3 a4 a6 h = some z → lk z r hE (fun v => some (zi v)) (fun t hx => V X mX12_sunday true h0 156 [(0, zr 12 0), (1, zi a1), (2, zi a2), (3, zi a3), (4, zj a4), (6, zi t)] [] hx r hE) → V X mX12_sunday true h0 116 [(0, zr 12 0), (1, zi a1), (2, zi a2), (3, zi a3), (4, zj a4), (6, zi a6)] [] h r hE := by
  intro n
  induction n with
  | zero => intro a1 a2 a3 a4 a6 h z hF k; cases hF
  | succ n ih =>
    intro a1 a2 a3 a4 a6 h z hF k
    rw [fX12_sunday_L116] at hF
    refine v_iload (j := 5) dX12_sunday_116 rfl ?_
    refine v_iload_n (j := 3) dX12_sunday_118 rfl ?_
    refine v_icmp_ge dX12_sunday_119 (by decide : _ = ((156 : Nat) : Int)) (fun q => ?_) (fun q => ?_)
    · replace hF := brT q hF
      cases hF
      exact k
    · replace hF := brF q hF
      refine v_lload (j := 4) dX12_sunday_122 rfl ?_
      refine v_lconst (v := 0) dX12_sunday_124 (by decide) ?_
      refine v_lif_lt (x := a4) (y := (0 : Int64)) dX12_sunday_125 dX12_sunday_126 (by decide : _ = ((150 : Nat) : Int)) (fun q => ?_) (fun q => ?_)
      · replace hF := brT q hF
        obtain ⟨v8, ev8⟩ : ∃ y : Int32, y = a6 + 1 := ⟨_, rfl⟩
        replace hF := lb_use ev8 hF
        refine v_iinc (j := 5) (v := v8) (ls' := [(6, zi v8), (0, zr 12 0), (1, zi a1), (2, zi a2), (3, zi a3), (4, zj a4)]) dX12_sunday_150 rfl (by rw [ev8]; rfl) (by decide) rfl ?_
        clear ev8
        refine v_goto (tgt := 116) dX12_sunday_153 (by decide) ?_
        refine v_sub [1, 2, 3, 4, 5, 0] rfl ?_
        exact ih a1 a2 a3 a4 v8 h _ hF k
      · replace hF := brF q hF
        refine v_aload_n (j := 0) dX12_sunday_129 rfl ?_
        refine v_getL (c := 12) rfl rfl rfl ly12_3 cz12 flX12_16 dX12_sunday_130 ?_
        refine v_bipush (v := 60) dX12_sunday_133 (by decide) ?_
        refine v_iload_n (j := 1) dX12_sunday_135 rfl ?_
        refine v_imul dX12_sunday_136 ?_
        refine v_iload (j := 5) dX12_sunday_137 rfl ?_
        refine v_iadd dX12_sunday_139 ?_
        replace hF := gd_use hF
        obtain ⟨q9, hF⟩ := hF
        refine v_lald rfl q9 dX12_sunday_140 ?_
        refine v_lload (j := 4) dX12_sunday_141 rfl ?_
        refine v_lif_ne (x := (gJ h 56 0 (ix (((60 : Int32) * a1) + a6)))) (y := a4) dX12_sunday_143 dX12_sunday_144 (by decide : _ = ((150 : Nat) : Int)) (fun q => ?_) (fun q => ?_)
        · replace hF := brF q hF
          obtain ⟨v10, ev10⟩ : ∃ y : Int32, y = a6 + 1 := ⟨_, rfl⟩
          replace hF := lb_use ev10 hF
          refine v_iinc (j := 5) (v := v10) (ls' := [(6, zi v10), (0, zr 12 0), (1, zi a1), (2, zi a2), (3, zi a3), (4, zj a4)]) dX12_sunday_150 rfl (by rw [ev10]; rfl) (by decide) rfl ?_
          clear ev10
          refine v_goto (tgt := 116) dX12_sunday_153 (by decide) ?_
          refine v_sub [1, 2, 3, 4, 5, 0] rfl ?_
          exact ih a1 a2 a3 a4 v10 h _ hF k
        · replace hF := brT (Decidable.not_not.mp q) hF
          refine v_bipush (v := (-4)) dX12_sunday_147 (by decide) ?_
          cases hF
          obtain ⟨rfl, rfl⟩ := (k : _ ∧ _)
          exact v_iret rfl dX12_sunday_149
set_option maxHeartbeats 4000000 in
set_option maxRecDepth 100000 in
theorem tX12_sunday_L41 {X : Cz} {h0 : Hp} {r : Option AV} {hE : Hp} : ∀ (n : Nat) (a1 : Int32) (a2 : Int32) (a3 : Int32) (h : Hp) (z : (Int32 ⊕ Int32) × Hp), fX12_sunday_L41 n a1 a2 a3 h = some z → lk z r hE (fun v => some (zi v)) (fun t hx => V X mX12_sunday true h0 162 [(0, zr 12 0), (1, zi a1), (2, zi a2), (3, zi t)] [] hx r hE) → V X mX12_sunday true h0 41 [(0, zr 12 0), (1, zi a1), (2, zi a2), (3, zi a3)] [] h r hE := by
  intro n
  induction n with
  | zero => intro a1 a2 a3 h z hF k; cases hF
  | succ n ih =>
    intro a1 a2 a3 h z hF k
    rw [fX12_sunday_L41] at hF
    refine v_iload_n (j := 3) dX12_sunday_41 rfl ?_
    refine v_aload_n (j := 0) dX12_sunday_42 rfl ?_
    refine v_getL (c := 12) rfl rfl rfl ly12_2 cz12 flX12_13 dX12_sunday_43 ?_
    refine v_iload_n (j := 1) dX12_sunday_46 rfl ?_
    replace hF := gd_use hF
    obtain ⟨q3, hF⟩ := hF
    refine v_iald rfl q3 dX12_sunday_47 ?_
    refine v_icmp_ge dX12_sunday_48 (by decide : _ = ((162 : Nat) : Int)) (fun q => ?_) (fun q => ?_)
    · replace hF := brT q hF
      cases hF
      exact k
    · replace hF := brF q hF
      refine v_aload_n (j := 0) dX12_sunday_51 rfl ?_
      refine v_getL (c := 12) rfl rfl rfl ly12_3 cz12 flX12_16 dX12_sunday_52 ?_
      refine v_bipush (v := 60) dX12_sunday_55 (by decide) ?_
      refine v_iload_n (j := 1) dX12_sunday_57 rfl ?_
      refine v_imul dX12_sunday_58 ?_
      refine v_iload_n (j := 3) dX12_sunday_59 rfl ?_
      refine v_iadd dX12_sunday_60 ?_
      replace hF := gd_use hF
      obtain ⟨q4, hF⟩ := hF
      refine v_lald rfl q4 dX12_sunday_61 ?_
      refine v_topj fun v5 ev5 => ?_
      replace hF := lb_use ev5 hF
      clear ev5
      refine v_lstore (ls' := [(4, zj v5), (0, zr 12 0), (1, zi a1), (2, zi a2), (3, zi a3)]) dX12_sunday_62 (by decide) rfl ?_
      refine v_lload (j := 0) dX12_sunday_64 rfl ?_
      refine v_lconst (v := 0) dX12_sunday_66 (by decide) ?_
      replace hF := lb_ex hF
      obtain ⟨j6, ej6, hF⟩ := hF
      have j6V : ∀ (h7 : Hp), j6 h7 = some z → V X mX12_sunday true h0 113 [(0, zr 12 0), (1, zi a1), (2, zi a2), (3, zi a3), (4, zj v5)] [] h7 r hE := by
        intro h7 hF
        subst ej6
        refine v_iconst (v := 0) dX12_sunday_113 (by decide) ?_
        refine v_istore (ls' := [(6, zi 0), (0, zr 12 0), (1, zi a1), (2, zi a2), (3, zi a3), (4, zj v5)]) dX12_sunday_114 (by decide) rfl ?_
        refine v_sub [1, 2, 3, 4, 5, 0] rfl ?_
        replace hF := bd_use hF
        obtain ⟨u14, h11, ev13, hF⟩ := hF
        rcases u14 with r15 | v13
        · cases hF
          obtain ⟨rfl, rfl⟩ := (k : _ ∧ _)
          exact tX12_sunday_L116 _ a1 a2 a3 v5 0 h7 _ ev13 ⟨rfl, rfl⟩
        replace hF := msR hF
        refine tX12_sunday_L116 _ a1 a2 a3 v5 0 h7 _ ev13 ?_
        clear ev13
        obtain ⟨v16, ev16⟩ : ∃ y : Int32, y = a3 + 1 := ⟨_, rfl⟩
        replace hF := lb_use ev16 hF
        refine v_iinc (j := 3) (v := v16) (ls' := [(3, zi v16), (0, zr 12 0), (1, zi a1), (2, zi a2), (4, zj v5), (6, zi v13)]) dX12_sunday_156 rfl (by rw [ev16]; rfl) (by decide) rfl ?_
        clear ev16
        refine v_goto (tgt := 41) dX12_sunday_159 (by decide) ?_
        refine v_sub [1, 2, 3, 0] rfl ?_
        exact ih a1 a2 v16 h11 _ hF k
      clear ej6
      refine v_lif_ge (x := v5) (y := (0 : Int64)) dX12_sunday_67 dX12_sunday_68 (by decide : _ = ((83 : Nat) : Int)) (fun q => ?_) (fun q => ?_)
      · replace hF := brT q hF
        refine v_lload (j := 0) dX12_sunday_83 rfl ?_
        refine v_lconst (v := 0) dX12_sunday_85 (by decide) ?_
        refine v_aload_n (j := 1) dX12_sunday_86 rfl ?_
        refine v_getI (c := 12) rfl (Or.inl rfl) cz12 flX12_295 dX12_sunday_87 ?_
        refine v_iconst (v := 1) dX12_sunday_90 (by decide) ?_
        refine v_isub dX12_sunday_91 ?_
        refine v_i2l dX12_sunday_92 ?_
        refine v_cS (hm := h) (av := [zj v5, zj 0, zj (((gI h 12 0 8) - 1).toInt64)]) (st := []) (stn := [zi (fX12_in v5 0 (((gI h 12 0 8) - 1).toInt64) h)]) (tX12_in v5 0 (((gI h 12 0 8) - 1).toInt64) h) lcX12_in mlX12_213 sxX12_in rfl ⟨by decide, by decide⟩ (Nat.le_of_ble_eq_true rfl) dX12_sunday_93 rfl rfl ?_
        refine v_if_eq dX12_sunday_96 (by decide : _ = ((110 : Nat) : Int)) (fun q => ?_) (fun q => ?_)
        · replace hF := brT q hF
          refine v_bipush (v := (-4)) dX12_sunday_110 (by decide) ?_
          cases hF
          obtain ⟨rfl, rfl⟩ := (k : _ ∧ _)
          exact v_iret rfl dX12_sunday_112
        · replace hF := brF q hF
          refine v_aload_n (j := 1) dX12_sunday_99 rfl ?_
          refine v_getL (c := 12) rfl rfl rfl ly12_28 cz12 flX12_70 dX12_sunday_100 ?_
          refine v_lload (j := 0) dX12_sunday_103 rfl ?_
          refine v_l2i dX12_sunday_105 ?_
          replace hF := gd_use hF
          obtain ⟨q17, hF⟩ := hF
          refine v_zald rfl q17 dX12_sunday_106 ?_
          refine v_if_eq dX12_sunday_107 (by decide : _ = ((113 : Nat) : Int)) (fun q => ?_) (fun q => ?_)
          · replace hF := brT q hF
            refine v_sub [1, 2, 3, 4, 0] rfl ?_
            exact j6V h hF
          · replace hF := brF q hF
            refine v_bipush (v := (-4)) dX12_sunday_110 (by decide) ?_
            cases hF
            obtain ⟨rfl, rfl⟩ := (k : _ ∧ _)
            exact v_iret rfl dX12_sunday_112
      · replace hF := brF q hF
        refine v_lload (j := 0) dX12_sunday_71 rfl ?_
        refine v_ldc2 dX12_sunday_73 kcX12_436 ?_
        refine v_lif_ge (x := v5) (y := (-12 : Int64)) dX12_sunday_76 dX12_sunday_77 (by decide : _ = ((113 : Nat) : Int)) (fun q => ?_) (fun q => ?_)
        · replace hF := brT q hF
          refine v_sub [1, 2, 3, 4, 0] rfl ?_
          exact j6V h hF
        · replace hF := brF q hF
          refine v_goto (tgt := 110) dX12_sunday_80 (by decide) ?_
          refine v_bipush (v := (-4)) dX12_sunday_110 (by decide) ?_
          cases hF
          obtain ⟨rfl, rfl⟩ := (k : _ ∧ _)
          exact v_iret rfl dX12_sunday_112
set_option maxHeartbeats 4000000 in
set_option maxRecDepth 100000 in
theorem tX12_sunday_L168 {X : Cz} {h0 : Hp} {r : Option AV} {hE : Hp} : ∀ (n : Nat) (a1 : Int32) (a2 : Int32) (a3 : Int32) (h : Hp) (z : (Int32) × Hp), fX12_sunday_L168 n a1 a2 a3 h = some z → V X mX12_sunday true h0 252 [(0, zr 12 0), (1, zi a1), (2, zi a2), (3, zi z.1)] [] z.2 r hE → V X mX12_sunday true h0 168 [(0, zr 12 0), (1, zi a1), (2, zi a2), (3, zi a3)] [] h r hE := by
  intro n
  induction n with
  | zero => intro a1 a2 a3 h z hF k; cases hF
  | succ n ih =>
    intro a1 a2 a3 h z hF k
    rw [fX12_sunday_L168] at hF
    refine v_iload_n (j := 3) dX12_sunday_168 rfl ?_
    refine v_sipush (v := 256) dX12_sunday_169 (by decide) ?_
    refine v_icmp_ge dX12_sunday_172 (by decide : _ = ((252 : Nat) : Int)) (fun q => ?_) (fun q => ?_)
    · replace hF := brT q hF
      cases hF
      exact k
    · replace hF := brF q hF
      refine v_aload_n (j := 0) dX12_sunday_175 rfl ?_
      refine v_getL (c := 12) rfl rfl rfl ly12_69 cz12 flX12_184 dX12_sunday_176 ?_
      refine v_iload_n (j := 3) dX12_sunday_179 rfl ?_
      refine v_iconst (v := 0) dX12_sunday_180 (by decide) ?_
      replace hF := gd_use hF
      obtain ⟨q25, hF⟩ := hF
      refine v_zastL rfl q25 (Or.inl rfl) dX12_sunday_181 ?_
      refine v_toph fun h26 eh26 => ?_
      replace hF := lb_use eh26 hF
      clear eh26
      refine v_aload_n (j := 0) dX12_sunday_182 rfl ?_
      refine v_getL (c := 12) rfl rfl rfl ly12_78 cz12 flX12_205 dX12_sunday_183 ?_
      refine v_iload_n (j := 3) dX12_sunday_186 rfl ?_
      refine v_iconst (v := 0) dX12_sunday_187 (by decide) ?_
      replace hF := gd_use hF
      obtain ⟨q27, hF⟩ := hF
      refine v_zastL rfl q27 (Or.inl rfl) dX12_sunday_188 ?_
      refine v_toph fun h28 eh28 => ?_
      replace hF := lb_use eh28 hF
      clear eh28
      refine v_aload_n (j := 0) dX12_sunday_189 rfl ?_
      refine v_getL (c := 12) rfl rfl rfl ly12_68 cz12 flX12_181 dX12_sunday_190 ?_
      refine v_iload_n (j := 3) dX12_sunday_193 rfl ?_
      refine v_iload_n (j := 3) dX12_sunday_194 rfl ?_
      refine v_bipush (v := 32) dX12_sunday_195 (by decide) ?_
      refine v_idiv dX12_sunday_197 (by decide) ?_
      refine v_aload_n (j := 0) dX12_sunday_198 rfl ?_
      refine v_getI (c := 12) rfl (Or.inl rfl) cz12 flX12_248 dX12_sunday_199 ?_
      refine v_icmp_ge dX12_sunday_202 (by decide : _ = ((244 : Nat) : Int)) (fun q => ?_) (fun q => ?_)
      · replace hF := brT q hF
        refine v_iconst (v := (-1)) dX12_sunday_244 (by decide) ?_
        replace hF := gd_use hF
        obtain ⟨q29, hF⟩ := hF
        refine v_iast rfl q29 dX12_sunday_245 ?_
        refine v_toph fun h30 eh30 => ?_
        replace hF := lb_use eh30 hF
        clear eh30
        obtain ⟨v31, ev31⟩ : ∃ y : Int32, y = a3 + 1 := ⟨_, rfl⟩
        replace hF := lb_use ev31 hF
        refine v_iinc (j := 3) (v := v31) (ls' := [(3, zi v31), (0, zr 12 0), (1, zi a1), (2, zi a2)]) dX12_sunday_246 rfl (by rw [ev31]; rfl) (by decide) rfl ?_
        clear ev31
        refine v_goto (tgt := 168) dX12_sunday_249 (by decide) ?_
        refine v_sub [1, 2, 3, 0] rfl ?_
        exact ih a1 a2 v31 h30 _ hF k
      · replace hF := brF q hF
        refine v_iload_n (j := 3) dX12_sunday_205 rfl ?_
        refine v_bipush (v := 32) dX12_sunday_206 (by decide) ?_
        refine v_irem dX12_sunday_208 (by decide) ?_
        refine v_aload_n (j := 0) dX12_sunday_209 rfl ?_
        refine v_getL (c := 12) rfl rfl rfl ly12_23 cz12 flX12_54 dX12_sunday_210 ?_
        refine v_iload_n (j := 3) dX12_sunday_213 rfl ?_
        refine v_bipush (v := 32) dX12_sunday_214 (by decide) ?_
        refine v_idiv dX12_sunday_216 (by decide) ?_
        replace hF := gd_use hF
        obtain ⟨q32, hF⟩ := hF
        refine v_iald rfl q32 dX12_sunday_217 ?_
        refine v_icmp_ge dX12_sunday_218 (by decide : _ = ((244 : Nat) : Int)) (fun q => ?_) (fun q => ?_)
        · replace hF := brT q hF
          refine v_iconst (v := (-1)) dX12_sunday_244 (by decide) ?_
          replace hF := gd_use hF
          obtain ⟨q33, hF⟩ := hF
          refine v_iast rfl q33 dX12_sunday_245 ?_
          refine v_toph fun h34 eh34 => ?_
          replace hF := lb_use eh34 hF
          clear eh34
          obtain ⟨v35, ev35⟩ : ∃ y : Int32, y = a3 + 1 := ⟨_, rfl⟩
          replace hF := lb_use ev35 hF
          refine v_iinc (j := 3) (v := v35) (ls' := [(3, zi v35), (0, zr 12 0), (1, zi a1), (2, zi a2)]) dX12_sunday_246 rfl (by rw [ev35]; rfl) (by decide) rfl ?_
          clear ev35
          refine v_goto (tgt := 168) dX12_sunday_249 (by decide) ?_
          refine v_sub [1, 2, 3, 0] rfl ?_
          exact ih a1 a2 v35 h34 _ hF k
        · replace hF := brF q hF
          refine v_aload_n (j := 0) dX12_sunday_221 rfl ?_
          refine v_iload_n (j := 3) dX12_sunday_222 rfl ?_
          refine v_bipush (v := 32) dX12_sunday_223 (by decide) ?_
          refine v_idiv dX12_sunday_225 (by decide) ?_
          refine v_iload_n (j := 3) dX12_sunday_226 rfl ?_
          refine v_bipush (v := 32) dX12_sunday_227 (by decide) ?_
          refine v_irem dX12_sunday_229 (by decide) ?_
          refine v_aload_n (j := 0) dX12_sunday_230 rfl ?_
          refine v_getI (c := 12) rfl (Or.inl rfl) cz12 flX12_251 dX12_sunday_231 ?_
          refine v_aload_n (j := 0) dX12_sunday_234 rfl ?_
          refine v_getI (c := 12) rfl (Or.inl rfl) cz12 flX12_251 dX12_sunday_235 ?_
          replace hF := bd_use hF
          obtain ⟨r36, h37, er36, hF⟩ := hF
          refine v_cV (hm := h37) (av := [zi (a3 / 32), zi (a3 - a3 / 32 * 32), zi (gI h28 12 0 5), zi (gI h28 12 0 5)]) (st := [zi a3, zr 105 0]) (stn := [zi r36, zi a3, zr 105 0]) (tX12_ownerOf er36) lcX12_ownerOf mlX12_348 imX12_ownerOf seX12_ownerOf rfl rfl rfl rfl ⟨by decide, by decide⟩ (Nat.le_of_ble_eq_true rfl) dX12_sunday_238 rfl rfl ?_
          clear er36
          refine v_goto (tgt := 245) dX12_sunday_241 (by decide) ?_
          replace hF := gd_use hF
          obtain ⟨q38, hF⟩ := hF
          refine v_iast rfl q38 dX12_sunday_245 ?_
          refine v_toph fun h39 eh39 => ?_
          replace hF := lb_use eh39 hF
          clear eh39
          obtain ⟨v40, ev40⟩ : ∃ y : Int32, y = a3 + 1 := ⟨_, rfl⟩
          replace hF := lb_use ev40 hF
          refine v_iinc (j := 3) (v := v40) (ls' := [(3, zi v40), (0, zr 12 0), (1, zi a1), (2, zi a2)]) dX12_sunday_246 rfl (by rw [ev40]; rfl) (by decide) rfl ?_
          clear ev40
          refine v_goto (tgt := 168) dX12_sunday_249 (by decide) ?_
          refine v_sub [1, 2, 3, 0] rfl ?_
          exact ih a1 a2 v40 h39 _ hF k
set_option maxHeartbeats 4000000 in
set_option maxRecDepth 100000 in
theorem tX12_sunday_L309 {X : Cz} {h0 : Hp} {r : Option AV} {hE : Hp} : ∀ (n : Nat) (a1 : Int32) (a2 : Int32) (a3 : Int32) (a4 : Int32) (a5 : Int32) (h : Hp) (z : (Int32) × Hp), fX12_sunday_L309 n a1 a2 a3 a4 a5 h = some z → V X mX12_sunday true h0 354 [(0, zr 12 0), (1, zi a1), (2, zi a2), (3, zi a3), (4, zi a4), (5, zi z.1)] [] z.2 r hE → V X mX12_sunday true h0 309 [(0, zr 12 0), (1, zi a1), (2, zi a2), (3, zi a3), (4, zi a4), (5, zi a5)] [] h r hE := by
  intro n
  induction n with
  | zero => intro a1 a2 a3 a4 a5 h z hF k; cases hF
  | succ n ih =>
    intro a1 a2 a3 a4 a5 h z hF k
    rw [fX12_sunday_L309] at hF
    refine v_iload (j := 5) dX12_sunday_309 rfl ?_
    refine v_aload_n (j := 0) dX12_sunday_311 rfl ?_
    refine v_getL (c := 12) rfl rfl rfl ly12_50 cz12 flX12_136 dX12_sunday_312 ?_
    refine v_iload (j := 4) dX12_sunday_315 rfl ?_
    replace hF := gd_use hF
    obtain ⟨q48, hF⟩ := hF
    refine v_iald rfl q48 dX12_sunday_317 ?_
    refine v_icmp_ge dX12_sunday_318 (by decide : _ = ((354 : Nat) : Int)) (fun q => ?_) (fun q => ?_)
    · replace hF := brT q hF
      cases hF
      exact k
    · replace hF := brF q hF
      refine v_aload_n (j := 0) dX12_sunday_321 rfl ?_
      refine v_getL (c := 12) rfl rfl rfl ly12_78 cz12 flX12_205 dX12_sunday_322 ?_
      refine v_bipush (v := 32) dX12_sunday_325 (by decide) ?_
      refine v_aload_n (j := 0) dX12_sunday_327 rfl ?_
      refine v_getL (c := 12) rfl rfl rfl ly12_48 cz12 flX12_130 dX12_sunday_328 ?_
      refine v_iload (j := 4) dX12_sunday_331 rfl ?_
      replace hF := gd_use hF
      obtain ⟨q49, hF⟩ := hF
      refine v_iald rfl q49 dX12_sunday_333 ?_
      refine v_imul dX12_sunday_334 ?_
      refine v_aload_n (j := 0) dX12_sunday_335 rfl ?_
      refine v_getL (c := 12) rfl rfl rfl ly12_49 cz12 flX12_133 dX12_sunday_336 ?_
      refine v_iload (j := 4) dX12_sunday_339 rfl ?_
      replace hF := gd_use hF
      obtain ⟨q50, hF⟩ := hF
      refine v_iald rfl q50 dX12_sunday_341 ?_
      refine v_iadd dX12_sunday_342 ?_
      refine v_iload (j := 5) dX12_sunday_343 rfl ?_
      refine v_iadd dX12_sunday_345 ?_
      refine v_iconst (v := 1) dX12_sunday_346 (by decide) ?_
      replace hF := gd_use hF
      obtain ⟨q51, hF⟩ := hF
      refine v_zastL rfl q51 (Or.inr rfl) dX12_sunday_347 ?_
      refine v_toph fun h52 eh52 => ?_
      replace hF := lb_use eh52 hF
      clear eh52
      obtain ⟨v53, ev53⟩ : ∃ y : Int32, y = a5 + 1 := ⟨_, rfl⟩
      replace hF := lb_use ev53 hF
      refine v_iinc (j := 5) (v := v53) (ls' := [(5, zi v53), (0, zr 12 0), (1, zi a1), (2, zi a2), (3, zi a3), (4, zi a4)]) dX12_sunday_348 rfl (by rw [ev53]; rfl) (by decide) rfl ?_
      clear ev53
      refine v_goto (tgt := 309) dX12_sunday_351 (by decide) ?_
      refine v_sub [1, 2, 3, 4, 5, 0] rfl ?_
      exact ih a1 a2 a3 a4 v53 h52 _ hF k
set_option maxHeartbeats 4000000 in
set_option maxRecDepth 100000 in
theorem tX12_sunday_L254 {X : Cz} {h0 : Hp} {r : Option AV} {hE : Hp} : ∀ (n : Nat) (a1 : Int32) (a2 : Int32) (a3 : Int32) (h : Hp) (z : (Int32) × Hp), fX12_sunday_L254 n a1 a2 a3 h = some z → V X mX12_sunday true h0 360 [(0, zr 12 0), (1, zi a1), (2, zi a2), (3, zi z.1)] [] z.2 r hE → V X mX12_sunday true h0 254 [(0, zr 12 0), (1, zi a1), (2, zi a2), (3, zi a3)] [] h r hE := by
  intro n
  induction n with
  | zero => intro a1 a2 a3 h z hF k; cases hF
  | succ n ih =>
    intro a1 a2 a3 h z hF k
    rw [fX12_sunday_L254] at hF
    refine v_iload_n (j := 3) dX12_sunday_254 rfl ?_
    refine v_aload_n (j := 0) dX12_sunday_255 rfl ?_
    refine v_getI (c := 12) rfl (Or.inl rfl) cz12 flX12_295 dX12_sunday_256 ?_
    refine v_icmp_ge dX12_sunday_259 (by decide : _ = ((360 : Nat) : Int)) (fun q => ?_) (fun q => ?_)
    · replace hF := brT q hF
      cases hF
      exact k
    · replace hF := brF q hF
      refine v_aload_n (j := 0) dX12_sunday_262 rfl ?_
      refine v_getI (c := 12) rfl (Or.inl rfl) cz12 flX12_251 dX12_sunday_263 ?_
      refine v_if_le dX12_sunday_266 (by decide : _ = ((360 : Nat) : Int)) (fun q => ?_) (fun q => ?_)
      · replace hF := brT q hF
        cases hF
        exact k
      · replace hF := brF q hF
        refine v_sipush (v := 200) dX12_sunday_269 (by decide) ?_
        refine v_iload_n (j := 3) dX12_sunday_272 rfl ?_
        refine v_imul dX12_sunday_273 ?_
        refine v_aload_n (j := 0) dX12_sunday_274 rfl ?_
        refine v_getI (c := 12) rfl (Or.inl rfl) cz12 flX12_251 dX12_sunday_275 ?_
        refine v_iadd dX12_sunday_278 ?_
        refine v_iconst (v := 1) dX12_sunday_279 (by decide) ?_
        refine v_isub dX12_sunday_280 ?_
        refine v_topi fun v44 ev44 => ?_
        replace hF := lb_use ev44 hF
        clear ev44
        refine v_istore (ls' := [(4, zi v44), (0, zr 12 0), (1, zi a1), (2, zi a2), (3, zi a3)]) dX12_sunday_281 (by decide) rfl ?_
        refine v_aload_n (j := 1) dX12_sunday_283 rfl ?_
        refine v_getL (c := 12) rfl rfl rfl ly12_28 cz12 flX12_70 dX12_sunday_284 ?_
        refine v_iload_n (j := 4) dX12_sunday_287 rfl ?_
        replace hF := gd_use hF
        obtain ⟨q45, hF⟩ := hF
        refine v_zald rfl q45 dX12_sunday_288 ?_
        refine v_if_ne dX12_sunday_289 (by decide : _ = ((354 : Nat) : Int)) (fun q => ?_) (fun q => ?_)
        · replace hF := brF q hF
          obtain ⟨v46, ev46⟩ : ∃ y : Int32, y = a3 + 1 := ⟨_, rfl⟩
          replace hF := lb_use ev46 hF
          refine v_iinc (j := 4) (v := v46) (ls' := [(3, zi v46), (4, zi v44), (0, zr 12 0), (1, zi a1), (2, zi a2)]) dX12_sunday_354 rfl (by rw [ev46]; rfl) (by decide) rfl ?_
          clear ev46
          refine v_goto (tgt := 254) dX12_sunday_357 (by decide) ?_
          refine v_sub [2, 3, 4, 0] rfl ?_
          exact ih a1 a2 v46 h _ hF k
        · replace hF := brT (Decidable.not_not.mp q) hF
          refine v_aload_n (j := 1) dX12_sunday_292 rfl ?_
          refine v_getL (c := 12) rfl rfl rfl ly12_48 cz12 flX12_130 dX12_sunday_293 ?_
          refine v_iload (j := 0) dX12_sunday_296 rfl ?_
          replace hF := gd_use hF
          obtain ⟨q47, hF⟩ := hF
          refine v_iald rfl q47 dX12_sunday_298 ?_
          refine v_iconst (v := (-1)) dX12_sunday_299 (by decide) ?_
          refine v_icmp_ne dX12_sunday_300 (by decide : _ = ((306 : Nat) : Int)) (fun q => ?_) (fun q => ?_)
          · replace hF := brF q hF
            refine v_iconst (v := 0) dX12_sunday_306 (by decide) ?_
            refine v_istore (ls' := [(5, zi 0), (4, zi v44), (0, zr 12 0), (1, zi a1), (2, zi a2), (3, zi a3)]) dX12_sunday_307 (by decide) rfl ?_
            refine v_sub [2, 3, 4, 5, 1, 0] rfl ?_
            replace hF := bd_use hF
            obtain ⟨v56, h54, ev56, hF⟩ := hF
            refine tX12_sunday_L309 _ a1 a2 a3 v44 0 h _ ev56 ?_
            clear ev56
            obtain ⟨v57, ev57⟩ : ∃ y : Int32, y = a3 + 1 := ⟨_, rfl⟩
            replace hF := lb_use ev57 hF
            refine v_iinc (j := 3) (v := v57) (ls' := [(3, zi v57), (0, zr 12 0), (1, zi a1), (2, zi a2), (4, zi v44), (5, zi v56)]) dX12_sunday_354 rfl (by rw [ev57]; rfl) (by decide) rfl ?_
            clear ev57
            refine v_goto (tgt := 254) dX12_sunday_357 (by decide) ?_
            refine v_sub [1, 2, 3, 0] rfl ?_
            exact ih a1 a2 v57 h54 _ hF k
          · replace hF := brT (Decidable.not_not.mp q) hF
            refine v_goto (tgt := 354) dX12_sunday_303 (by decide) ?_
            obtain ⟨v58, ev58⟩ : ∃ y : Int32, y = a3 + 1 := ⟨_, rfl⟩
            replace hF := lb_use ev58 hF
            refine v_iinc (j := 4) (v := v58) (ls' := [(3, zi v58), (4, zi v44), (0, zr 12 0), (1, zi a1), (2, zi a2)]) dX12_sunday_354 rfl (by rw [ev58]; rfl) (by decide) rfl ?_
            clear ev58
            refine v_goto (tgt := 254) dX12_sunday_357 (by decide) ?_
            refine v_sub [2, 3, 4, 0] rfl ?_
            exact ih a1 a2 v58 h _ hF k
set_option maxHeartbeats 4000000 in
set_option maxRecDepth 100000 in
theorem tX12_sunday_L557 {X : Cz} {h0 : Hp} {r : Option AV} {hE : Hp} : ∀ (n : Nat) (a1 : Int32) (a2 : Int32) (a3 : Int32) (a4 : Int32) (a6 : Int32) (a9 : Int32) (a10 : Int32) (h : Hp) (z : (Int32) × Hp), fX12_sunday_L557 n a1 a2 a3 a4 a6 a9 a10 h = some z → V X mX12_sunday true h0 587 [(0, zr 12 0), (1, zi a1), (2, zi a2), (3, zi a3), (4, zi a4), (6, zi a6), (9, zi a9), (10, zi z.1)] [] z.2 r hE → V X mX12_sunday true h0 557 [(0, zr 12 0), (1, zi a1), (2, zi a2), (3, zi a3), (4, zi a4), (6, zi a6), (9, zi a9), (10, zi a10)] [] h r hE := by
  intro n
  induction n with
  | zero => intro a1 a2 a3 a4 a6 a9 a10 h z hF k; cases hF
  | succ n ih =>
    intro a1 a2 a3 a4 a6 a9 a10 h z hF k
    rw [fX12_sunday_L557] at hF
    refine v_iload (j := 6) dX12_sunday_557 rfl ?_
    refine v_iconst (v := (-1)) dX12_sunday_559 (by decide) ?_
    refine v_icmp_eq dX12_sunday_560 (by decide : _ = ((587 : Nat) : Int)) (fun q => ?_) (fun q => ?_)
    · replace hF := brT q hF
      cases hF
      exact k
    · replace hF := brF q hF
      refine v_iload (j := 7) dX12_sunday_563 rfl ?_
      refine v_iload (j := 5) dX12_sunday_565 rfl ?_
      refine v_icmp_ge dX12_sunday_567 (by decide : _ = ((587 : Nat) : Int)) (fun q => ?_) (fun q => ?_)
      · replace hF := brT q hF
        cases hF
        exact k
      · replace hF := brF q hF
        refine v_aload_n (j := 0) dX12_sunday_570 rfl ?_
        refine v_getL (c := 12) rfl rfl rfl ly12_69 cz12 flX12_184 dX12_sunday_571 ?_
        refine v_iload (j := 6) dX12_sunday_574 rfl ?_
        refine v_iload (j := 7) dX12_sunday_576 rfl ?_
        refine v_iadd dX12_sunday_578 ?_
        refine v_iconst (v := 1) dX12_sunday_579 (by decide) ?_
        replace hF := gd_use hF
        obtain ⟨q93, hF⟩ := hF
        refine v_zastL rfl q93 (Or.inr rfl) dX12_sunday_580 ?_
        refine v_toph fun h94 eh94 => ?_
        replace hF := lb_use eh94 hF
        clear eh94
        obtain ⟨v95, ev95⟩ : ∃ y : Int32, y = a10 + 1 := ⟨_, rfl⟩
        replace hF := lb_use ev95 hF
        refine v_iinc (j := 7) (v := v95) (ls' := [(10, zi v95), (0, zr 12 0), (1, zi a1), (2, zi a2), (3, zi a3), (4, zi a4), (6, zi a6), (9, zi a9)]) dX12_sunday_581 rfl (by rw [ev95]; rfl) (by decide) rfl ?_
        clear ev95
        refine v_goto (tgt := 557) dX12_sunday_584 (by decide) ?_
        refine v_sub [1, 2, 3, 4, 5, 6, 7, 0] rfl ?_
        exact ih a1 a2 a3 a4 a6 a9 v95 h94 _ hF k
set_option maxHeartbeats 4000000 in
set_option maxRecDepth 100000 in
theorem tX12_sunday_L375 {X : Cz} {h0 : Hp} {r : Option AV} {hE : Hp} : ∀ (n : Nat) (a1 : Int32) (a2 : Int32) (a3 : Int32) (a4 : Int32) (h : Hp) (z : (Int32 × Int32) × Hp), fX12_sunday_L375 n a1 a2 a3 a4 h = some z → V X mX12_sunday true h0 593 [(0, zr 12 0), (1, zi a1), (2, zi a2), (3, zi z.1.1), (4, zi z.1.2)] [] z.2 r hE → V X mX12_sunday true h0 375 [(0, zr 12 0), (1, zi a1), (2, zi a2), (3, zi a3), (4, zi a4)] [] h r hE := by
  intro n
  induction n with
  | zero => intro a1 a2 a3 a4 h z hF k; cases hF
  | succ n ih =>
    intro a1 a2 a3 a4 h z hF k
    rw [fX12_sunday_L375] at hF
    refine v_iload (j := 4) dX12_sunday_375 rfl ?_
    refine v_aload_n (j := 0) dX12_sunday_377 rfl ?_
    refine v_getL (c := 12) rfl rfl rfl ly12_2 cz12 flX12_13 dX12_sunday_378 ?_
    refine v_iload_n (j := 1) dX12_sunday_381 rfl ?_
    replace hF := gd_use hF
    obtain ⟨q64, hF⟩ := hF
    refine v_iald rfl q64 dX12_sunday_382 ?_
    refine v_icmp_ge dX12_sunday_383 (by decide : _ = ((593 : Nat) : Int)) (fun q => ?_) (fun q => ?_)
    · replace hF := brT q hF
      cases hF
      exact k
    · replace hF := brF q hF
      refine v_aload_n (j := 0) dX12_sunday_386 rfl ?_
      refine v_getL (c := 12) rfl rfl rfl ly12_3 cz12 flX12_16 dX12_sunday_387 ?_
      refine v_bipush (v := 60) dX12_sunday_390 (by decide) ?_
      refine v_iload_n (j := 1) dX12_sunday_392 rfl ?_
      refine v_imul dX12_sunday_393 ?_
      refine v_iload (j := 4) dX12_sunday_394 rfl ?_
      refine v_iadd dX12_sunday_396 ?_
      replace hF := gd_use hF
      obtain ⟨q65, hF⟩ := hF
      refine v_lald rfl q65 dX12_sunday_397 ?_
      refine v_l2i dX12_sunday_398 ?_
      refine v_topi fun v66 ev66 => ?_
      replace hF := lb_use ev66 hF
      clear ev66
      refine v_istore (ls' := [(5, zi v66), (0, zr 12 0), (1, zi a1), (2, zi a2), (3, zi a3), (4, zi a4)]) dX12_sunday_399 (by decide) rfl ?_
      refine v_iload (j := 0) dX12_sunday_401 rfl ?_
      replace hF := lb_ex hF
      obtain ⟨j67, ej67, hF⟩ := hF
      have j67V : ∀ (x68 : Int32) (h69 : Hp), j67 x68 h69 = some z → V X mX12_sunday true h0 419 [(0, zr 12 0), (1, zi a1), (2, zi a2), (3, zi a3), (4, zi a4), (5, zi v66)] [zi x68] h69 r hE := by
        intro x68 h69 hF
        subst ej67
        refine v_istore (ls' := [(6, zi x68), (0, zr 12 0), (1, zi a1), (2, zi a2), (3, zi a3), (4, zi a4), (5, zi v66)]) dX12_sunday_419 (by decide) rfl ?_
        refine v_iload (j := 6) dX12_sunday_421 rfl ?_
        replace hF := lb_ex hF
        obtain ⟨j70, ej70, hF⟩ := hF
        have j70V : ∀ (x71 : Int32) (h72 : Hp), j70 x71 h72 = some z → V X mX12_sunday true h0 437 [(0, zr 12 0), (1, zi a1), (2, zi a2), (3, zi a3), (4, zi a4), (5, zi v66), (6, zi x68)] [zi x71] h72 r hE := by
          intro x71 h72 hF
          subst ej70
          refine v_istore (ls' := [(7, zi x71), (0, zr 12 0), (1, zi a1), (2, zi a2), (3, zi a3), (4, zi a4), (5, zi v66), (6, zi x68)]) dX12_sunday_437 (by decide) rfl ?_
          refine v_iload (j := 6) dX12_sunday_439 rfl ?_
          replace hF := lb_ex hF
          obtain ⟨j73, ej73, hF⟩ := hF
          have j73V : ∀ (x74 : Int32) (h75 : Hp), j73 x74 h75 = some z → V X mX12_sunday true h0 455 [(0, zr 12 0), (1, zi a1), (2, zi a2), (3, zi a3), (4, zi a4), (5, zi v66), (6, zi x68), (7, zi x71)] [zi x74] h75 r hE := by
            intro x74 h75 hF
            subst ej73
            refine v_istore (ls' := [(8, zi x74), (0, zr 12 0), (1, zi a1), (2, zi a2), (3, zi a3), (4, zi a4), (5, zi v66), (6, zi x68), (7, zi x71)]) dX12_sunday_455 (by decide) rfl ?_
            refine v_iload (j := 6) dX12_sunday_457 rfl ?_
            replace hF := lb_ex hF
            obtain ⟨j76, ej76, hF⟩ := hF
            have j76V : ∀ (x77 : Int32) (h78 : Hp), j76 x77 h78 = some z → V X mX12_sunday true h0 478 [(0, zr 12 0), (1, zi a1), (2, zi a2), (3, zi a3), (4, zi a4), (6, zi x68), (7, zi x71), (8, zi x74)] [zi x77] h78 r hE := by
              intro x77 h78 hF
              subst ej76
              refine v_istore (ls' := [(9, zi x77), (0, zr 12 0), (1, zi a1), (2, zi a2), (3, zi a3), (4, zi a4), (6, zi x68), (7, zi x71), (8, zi x74)]) dX12_sunday_478 (by decide) rfl ?_
              refine v_iload (j := 0) dX12_sunday_480 rfl ?_
              refine v_iconst (v := (-1)) dX12_sunday_482 (by decide) ?_
              replace hF := lb_ex hF
              obtain ⟨j79, ej79, hF⟩ := hF
              have j79V : ∀ (x80 : Int32) (h81 : Hp), j79 x80 h81 = some z → V X mX12_sunday true h0 509 [(0, zr 12 0), (1, zi a1), (2, zi a2), (3, zi a3), (4, zi a4), (6, zi x68), (9, zi x80)] [] h81 r hE := by
                intro x80 h81 hF
                subst ej79
                refine v_aload_n (j := 0) dX12_sunday_509 rfl ?_
                refine v_getL (c := 12) rfl rfl rfl ly12_76 cz12 flX12_202 dX12_sunday_510 ?_
                refine v_iload (j := 4) dX12_sunday_513 rfl ?_
                refine v_iload (j := 6) dX12_sunday_515 rfl ?_
                refine v_iconst (v := (-1)) dX12_sunday_517 (by decide) ?_
                replace hF := lb_ex hF
                obtain ⟨j82, ej82, hF⟩ := hF
                have j82V : ∀ (x83 : Int32) (x84 : Int32) (h85 : Hp), j82 x83 x84 h85 = some z → V X mX12_sunday true h0 539 [(0, zr 12 0), (1, zi a1), (2, zi a2), (3, zi a3), (4, zi a4), (6, zi x68), (9, zi x80)] [zi x84, zi x83, zr 112 0] h85 r hE := by
                  intro x83 x84 h85 hF
                  subst ej82
                  replace hF := gd_use hF
                  obtain ⟨q86, hF⟩ := hF
                  refine v_iast rfl q86 dX12_sunday_539 ?_
                  refine v_toph fun h87 eh87 => ?_
                  replace hF := lb_use eh87 hF
                  clear eh87
                  refine v_iload_n (j := 3) dX12_sunday_540 rfl ?_
                  refine v_iload (j := 6) dX12_sunday_541 rfl ?_
                  refine v_iconst (v := (-1)) dX12_sunday_543 (by decide) ?_
                  replace hF := lb_ex hF
                  obtain ⟨j88, ej88, hF⟩ := hF
                  have j88V : ∀ (x89 : Int32) (x90 : Int32) (h91 : Hp), j88 x89 x90 h91 = some z → V X mX12_sunday true h0 552 [(0, zr 12 0), (1, zi a1), (2, zi a2), (4, zi a4), (6, zi x68), (9, zi x80)] [zi x90, zi x89] h91 r hE := by
                    intro x89 x90 h91 hF
                    subst ej88
                    refine v_iadd dX12_sunday_552 ?_
                    refine v_topi fun v92 ev92 => ?_
                    replace hF := lb_use ev92 hF
                    clear ev92
                    refine v_istore_n (ls' := [(3, zi v92), (0, zr 12 0), (1, zi a1), (2, zi a2), (4, zi a4), (6, zi x68), (9, zi x80)]) dX12_sunday_553 (by decide) rfl ?_
                    refine v_iconst (v := 0) dX12_sunday_554 (by decide) ?_
                    refine v_istore (ls' := [(10, zi 0), (3, zi v92), (0, zr 12 0), (1, zi a1), (2, zi a2), (4, zi a4), (6, zi x68), (9, zi x80)]) dX12_sunday_555 (by decide) rfl ?_
                    refine v_sub [2, 3, 4, 1, 5, 6, 7, 0] rfl ?_
                    replace hF := bd_use hF
                    obtain ⟨v98, h96, ev98, hF⟩ := hF
                    refine tX12_sunday_L557 _ a1 a2 v92 a4 x68 x80 0 h91 _ ev98 ?_
                    clear ev98
                    obtain ⟨v99, ev99⟩ : ∃ y : Int32, y = a4 + 1 := ⟨_, rfl⟩
                    replace hF := lb_use ev99 hF
                    refine v_iinc (j := 4) (v := v99) (ls' := [(4, zi v99), (0, zr 12 0), (1, zi a1), (2, zi a2), (3, zi v92), (6, zi x68), (9, zi x80), (10, zi v98)]) dX12_sunday_587 rfl (by rw [ev99]; rfl) (by decide) rfl ?_
                    clear ev99
                    refine v_goto (tgt := 375) dX12_sunday_590 (by decide) ?_
                    refine v_sub [1, 2, 3, 4, 0] rfl ?_
                    exact ih a1 a2 v92 v99 h96 _ hF k
                  clear ej88
                  refine v_icmp_ne dX12_sunday_544 (by decide : _ = ((551 : Nat) : Int)) (fun q => ?_) (fun q => ?_)
                  · replace hF := brF q hF
                    refine v_iconst (v := 0) dX12_sunday_551 (by decide) ?_
                    refine v_sub [0, 1, 2, 4, 5, 6] rfl ?_
                    exact j88V a3 0 h87 hF
                  · replace hF := brT (Decidable.not_not.mp q) hF
                    refine v_iconst (v := 1) dX12_sunday_547 (by decide) ?_
                    refine v_goto (tgt := 552) dX12_sunday_548 (by decide) ?_
                    refine v_sub [0, 1, 2, 4, 5, 6] rfl ?_
                    exact j88V a3 1 h87 hF
                clear ej82
                refine v_icmp_ne dX12_sunday_518 (by decide : _ = ((525 : Nat) : Int)) (fun q => ?_) (fun q => ?_)
                · replace hF := brF q hF
                  refine v_bipush (v := 100) dX12_sunday_525 (by decide) ?_
                  refine v_iload (j := 6) dX12_sunday_527 rfl ?_
                  refine v_bipush (v := 32) dX12_sunday_529 (by decide) ?_
                  refine v_idiv dX12_sunday_531 (by decide) ?_
                  refine v_imul dX12_sunday_532 ?_
                  refine v_iload (j := 6) dX12_sunday_533 rfl ?_
                  refine v_bipush (v := 32) dX12_sunday_535 (by decide) ?_
                  refine v_irem dX12_sunday_537 (by decide) ?_
                  refine v_iadd dX12_sunday_538 ?_
                  exact j82V a4 (((100 : Int32) * (x80 / 32)) + (x80 - x80 / 32 * 32)) h81 hF
                · replace hF := brT (Decidable.not_not.mp q) hF
                  refine v_iconst (v := (-1)) dX12_sunday_521 (by decide) ?_
                  refine v_goto (tgt := 539) dX12_sunday_522 (by decide) ?_
                  exact j82V a4 (-1) h81 hF
              clear ej79
              refine v_icmp_ne dX12_sunday_483 (by decide : _ = ((509 : Nat) : Int)) (fun q => ?_) (fun q => ?_)
              · replace hF := brF q hF
                refine v_sub [1, 2, 3, 4, 5, 6, 0] rfl ?_
                exact j79V x77 h78 hF
              · replace hF := brT (Decidable.not_not.mp q) hF
                refine v_aload_n (j := 1) dX12_sunday_486 rfl ?_
                refine v_iload (j := 6) dX12_sunday_487 rfl ?_
                refine v_iload (j := 7) dX12_sunday_489 rfl ?_
                refine v_iload (j := 8) dX12_sunday_491 rfl ?_
                refine v_iload (j := 5) dX12_sunday_493 rfl ?_
                refine v_iload_n (j := 3) dX12_sunday_495 rfl ?_
                replace hF := lb_ex hF
                obtain ⟨j100, ej100, hF⟩ := hF
                have j100V : ∀ (x101 : Int32) (x102 : Int32) (x103 : Int32) (x104 : Int32) (h105 : Hp), j100 x101 x102 x103 x104 h105 = some z → V X mX12_sunday true h0 504 [(0, zr 12 0), (1, zi a1), (2, zi a2), (3, zi a3), (4, zi a4), (6, zi x68)] [zi x104, zi x103, zi x102, zi x101, zr 12 0] h105 r hE := by
                  intro x101 x102 x103 x104 h105 hF
                  subst ej100
                  replace hF := bd_use hF
                  obtain ⟨r106, h107, er106, hF⟩ := hF
                  refine v_cV (hm := h107) (av := [zi x101, zi x102, zi x103, zi x104]) (st := []) (stn := [zi r106]) (tX12_bestRun er106) lcX12_bestRun mlX12_444 imX12_bestRun seX12_bestRun rfl rfl rfl rfl ⟨by decide, by decide⟩ (Nat.le_of_ble_eq_true rfl) dX12_sunday_504 rfl rfl ?_
                  clear er106
                  refine v_istore (ls' := [(9, zi r106), (0, zr 12 0), (1, zi a1), (2, zi a2), (3, zi a3), (4, zi a4), (6, zi x68)]) dX12_sunday_507 (by decide) rfl ?_
                  refine v_sub [1, 2, 3, 4, 5, 6, 0] rfl ?_
                  exact j79V r106 h107 hF
                clear ej100
                refine v_icmp_lt dX12_sunday_496 (by decide : _ = ((503 : Nat) : Int)) (fun q => ?_) (fun q => ?_)
                · replace hF := brT q hF
                  refine v_iconst (v := 0) dX12_sunday_503 (by decide) ?_
                  refine v_sub [1, 2, 3, 4, 5, 6] rfl ?_
                  exact j100V x68 x71 x74 0 h78 hF
                · replace hF := brF q hF
                  refine v_iconst (v := 1) dX12_sunday_499 (by decide) ?_
                  refine v_goto (tgt := 504) dX12_sunday_500 (by decide) ?_
                  refine v_sub [1, 2, 3, 4, 5, 6] rfl ?_
                  exact j100V x68 x71 x74 1 h78 hF
            clear ej76
            replace hF := lb_ex hF
            obtain ⟨j108, ej108, hF⟩ := hF
            have j108V : ∀ (h109 : Hp), j108 h109 = some z → V X mX12_sunday true h0 477 [(0, zr 12 0), (1, zi a1), (2, zi a2), (3, zi a3), (4, zi a4), (6, zi x68), (7, zi x71), (8, zi x74)] [] h109 r hE := by
              intro h109 hF
              subst ej108
              refine v_iconst (v := (-1)) dX12_sunday_477 (by decide) ?_
              exact j76V (-1) h109 hF
            clear ej108
            refine v_if_lt dX12_sunday_459 (by decide : _ = ((477 : Nat) : Int)) (fun q => ?_) (fun q => ?_)
            · replace hF := brT q hF
              refine v_sub [1, 2, 3, 4, 5, 7, 8, 0] rfl ?_
              exact j108V h75 hF
            · replace hF := brF q hF
              refine v_iload (j := 5) dX12_sunday_462 rfl ?_
              refine v_iload_n (j := 3) dX12_sunday_464 rfl ?_
              refine v_icmp_ge dX12_sunday_465 (by decide : _ = ((477 : Nat) : Int)) (fun q => ?_) (fun q => ?_)
              · replace hF := brT q hF
                refine v_sub [1, 2, 3, 4, 5, 7, 8, 0] rfl ?_
                exact j108V h75 hF
              · replace hF := brF q hF
                refine v_aload_n (j := 1) dX12_sunday_468 rfl ?_
                refine v_iload (j := 6) dX12_sunday_469 rfl ?_
                replace hF := bd_use hF
                obtain ⟨r110, h111, er110, hF⟩ := hF
                refine v_cV (hm := h111) (av := [zi v66]) (st := []) (stn := [zi r110]) (tX12_ownRun er110) lcX12_ownRun mlX12_441 imX12_ownRun seX12_ownRun rfl rfl rfl rfl ⟨by decide, by decide⟩ (Nat.le_of_ble_eq_true rfl) dX12_sunday_471 rfl rfl ?_
                clear er110
                refine v_goto (tgt := 478) dX12_sunday_474 (by decide) ?_
                refine v_sub [1, 2, 3, 4, 5, 7, 8, 0] rfl ?_
                exact j76V r110 h111 hF
          clear ej73
          refine v_if_ge dX12_sunday_441 (by decide : _ = ((448 : Nat) : Int)) (fun q => ?_) (fun q => ?_)
          · replace hF := brT q hF
            refine v_aload_n (j := 1) dX12_sunday_448 rfl ?_
            refine v_getL (c := 12) rfl rfl rfl ly12_27 cz12 flX12_67 dX12_sunday_449 ?_
            refine v_iload (j := 6) dX12_sunday_452 rfl ?_
            replace hF := gd_use hF
            obtain ⟨q112, hF⟩ := hF
            refine v_iald rfl q112 dX12_sunday_454 ?_
            refine v_sub [1, 2, 3, 4, 5, 6, 7, 0] rfl ?_
            exact j73V (gI h72 67 0 (ix v66)) h72 hF
          · replace hF := brF q hF
            refine v_iconst (v := 0) dX12_sunday_444 (by decide) ?_
            refine v_goto (tgt := 455) dX12_sunday_445 (by decide) ?_
            refine v_sub [1, 2, 3, 4, 5, 6, 7, 0] rfl ?_
            exact j73V 0 h72 hF
        clear ej70
        refine v_if_ge dX12_sunday_423 (by decide : _ = ((430 : Nat) : Int)) (fun q => ?_) (fun q => ?_)
        · replace hF := brT q hF
          refine v_aload_n (j := 1) dX12_sunday_430 rfl ?_
          refine v_getL (c := 12) rfl rfl rfl ly12_25 cz12 flX12_61 dX12_sunday_431 ?_
          refine v_iload (j := 6) dX12_sunday_434 rfl ?_
          replace hF := gd_use hF
          obtain ⟨q113, hF⟩ := hF
          refine v_iald rfl q113 dX12_sunday_436 ?_
          refine v_sub [1, 2, 3, 4, 5, 6, 0] rfl ?_
          exact j70V (gI h69 65 0 (ix v66)) h69 hF
        · replace hF := brF q hF
          refine v_iconst (v := 0) dX12_sunday_426 (by decide) ?_
          refine v_goto (tgt := 437) dX12_sunday_427 (by decide) ?_
          refine v_sub [1, 2, 3, 4, 5, 6, 0] rfl ?_
          exact j70V 0 h69 hF
      clear ej67
      refine v_if_ge dX12_sunday_403 (by decide : _ = ((412 : Nat) : Int)) (fun q => ?_) (fun q => ?_)
      · replace hF := brT q hF
        refine v_aload_n (j := 1) dX12_sunday_412 rfl ?_
        refine v_getL (c := 12) rfl rfl rfl ly12_26 cz12 flX12_64 dX12_sunday_413 ?_
        refine v_iload (j := 0) dX12_sunday_416 rfl ?_
        replace hF := gd_use hF
        obtain ⟨q114, hF⟩ := hF
        refine v_iald rfl q114 dX12_sunday_418 ?_
        refine v_sub [1, 2, 3, 4, 5, 0] rfl ?_
        exact j67V (gI h 66 0 (ix v66)) h hF
      · replace hF := brF q hF
        refine v_iload (j := 0) dX12_sunday_406 rfl ?_
        refine v_ineg dX12_sunday_408 ?_
        refine v_goto (tgt := 419) dX12_sunday_409 (by decide) ?_
        refine v_sub [1, 2, 3, 4, 5, 0] rfl ?_
        exact j67V (-v66) h hF
set_option maxHeartbeats 4000000 in
set_option maxRecDepth 100000 in
theorem tX12_sunday {X : Cz} {a1 : Int32} {a2 : Int32} {h hE : Hp} {rE : Int32} (hF : fX12_sunday a1 a2 h = some (rE, hE)) : Ct X mX12_sunday true [zr 12 0, zi a1, zi a2] h (some (zi rE)) hE := by
  refine Ct_of (by decide) (Nat.le_of_ble_eq_true rfl) (ls := [(0, zr 12 0), (1, zi a1), (2, zi a2)]) rfl ?_
  unfold fX12_sunday at hF
  refine v_aload_n (j := 0) dX12_sunday_0 rfl ?_
  refine v_iconst (v := 0) dX12_sunday_1 (by decide) ?_
  refine v_putI (c := 12) rfl rfl (Nat.le_of_ble_eq_true rfl) cz12 flX12_208 dX12_sunday_2 ?_
  refine v_toph fun h1 eh1 => ?_
  replace hF := lb_use eh1 hF
  clear eh1
  refine v_iload_n (j := 1) dX12_sunday_5 rfl ?_
  refine v_cS (hm := h1) (av := [zi a1]) (st := []) (stn := [zi (fX12_isPlace a1 h1)]) (tX12_isPlace a1 h1) lcX12_isPlace mlX12_217 sxX12_isPlace rfl ⟨by decide, by decide⟩ (Nat.le_of_ble_eq_true rfl) dX12_sunday_6 rfl rfl ?_
  refine v_if_eq dX12_sunday_9 (by decide : _ = ((24 : Nat) : Int)) (fun q => ?_) (fun q => ?_)
  · replace hF := brT q hF
    refine v_bipush (v := (-2)) dX12_sunday_24 (by decide) ?_
    obtain ⟨rfl, rfl⟩ := ret_use hF
    exact v_iret rfl dX12_sunday_26
  · replace hF := brF q hF
    refine v_iload_n (j := 2) dX12_sunday_12 rfl ?_
    refine v_i2l dX12_sunday_13 ?_
    refine v_lconst (v := 0) dX12_sunday_14 (by decide) ?_
    refine v_ldc2 dX12_sunday_15 kcX12_225 ?_
    refine v_cS (hm := h1) (av := [zj a2.toInt64, zj 0, zj 60]) (st := []) (stn := [zi (fX12_in a2.toInt64 0 60 h1)]) (tX12_in a2.toInt64 0 60 h1) lcX12_in mlX12_213 sxX12_in rfl ⟨by decide, by decide⟩ (Nat.le_of_ble_eq_true rfl) dX12_sunday_18 rfl rfl ?_
    refine v_if_ne dX12_sunday_21 (by decide : _ = ((27 : Nat) : Int)) (fun q => ?_) (fun q => ?_)
    · replace hF := brF q hF
      refine v_aload_n (j := 0) dX12_sunday_27 rfl ?_
      refine v_getL (c := 12) rfl rfl rfl ly12_1 cz12 flX12_9 dX12_sunday_28 ?_
      refine v_iload_n (j := 1) dX12_sunday_31 rfl ?_
      replace hF := gd_use hF
      obtain ⟨q2, hF⟩ := hF
      refine v_iald rfl q2 dX12_sunday_32 ?_
      refine v_if_ge dX12_sunday_33 (by decide : _ = ((39 : Nat) : Int)) (fun q => ?_) (fun q => ?_)
      · replace hF := brT q hF
        refine v_iconst (v := 0) dX12_sunday_39 (by decide) ?_
        refine v_istore_n (ls' := [(3, zi 0), (0, zr 12 0), (1, zi a1), (2, zi a2)]) dX12_sunday_40 (by decide) rfl ?_
        refine v_sub [1, 2, 3, 0] rfl ?_
        replace hF := bd_use hF
        obtain ⟨u21, h18, ev20, hF⟩ := hF
        rcases u21 with r22 | v20
        · obtain ⟨rfl, rfl⟩ := ret_use hF
          exact tX12_sunday_L41 _ a1 a2 0 h1 _ ev20 ⟨rfl, rfl⟩
        replace hF := msR hF
        refine tX12_sunday_L41 _ a1 a2 0 h1 _ ev20 ?_
        clear ev20
        refine v_aload_n (j := 0) dX12_sunday_162 rfl ?_
        replace hF := bd_use hF
        obtain ⟨r23, h24, er23, hF⟩ := hF
        refine v_cV (hm := h24) (av := []) (st := []) (stn := []) (tX12_listens er23) lcX12_listens mlX12_310 imX12_listens seX12_listens rfl rfl rfl rfl ⟨by decide, by decide⟩ (Nat.le_of_ble_eq_true rfl) dX12_sunday_163 rfl rfl ?_
        clear er23
        refine v_iconst (v := 0) dX12_sunday_166 (by decide) ?_
        refine v_istore_n (ls' := [(3, zi 0), (0, zr 12 0), (1, zi a1), (2, zi a2)]) dX12_sunday_167 (by decide) rfl ?_
        refine v_sub [1, 2, 3, 0] rfl ?_
        replace hF := bd_use hF
        obtain ⟨v43, h41, ev43, hF⟩ := hF
        refine tX12_sunday_L168 _ a1 a2 0 h24 _ ev43 ?_
        clear ev43
        refine v_iconst (v := 0) dX12_sunday_252 (by decide) ?_
        refine v_istore_n (ls' := [(3, zi 0), (0, zr 12 0), (1, zi a1), (2, zi a2)]) dX12_sunday_253 (by decide) rfl ?_
        refine v_sub [1, 2, 3, 0] rfl ?_
        replace hF := bd_use hF
        obtain ⟨v61, h59, ev61, hF⟩ := hF
        refine tX12_sunday_L254 _ a1 a2 0 h41 _ ev61 ?_
        clear ev61
        refine v_iconst (v := 0) dX12_sunday_360 (by decide) ?_
        refine v_istore_n (ls' := [(3, zi 0), (0, zr 12 0), (1, zi a1), (2, zi a2)]) dX12_sunday_361 (by decide) rfl ?_
        refine v_aload_n (j := 1) dX12_sunday_362 rfl ?_
        refine v_aload_n (j := 1) dX12_sunday_363 rfl ?_
        refine v_getL (c := 12) rfl rfl rfl ly12_2 cz12 flX12_13 dX12_sunday_364 ?_
        refine v_iload_n (j := 2) dX12_sunday_367 rfl ?_
        replace hF := gd_use hF
        obtain ⟨q62, hF⟩ := hF
        refine v_iald rfl q62 dX12_sunday_368 ?_
        refine v_putI (c := 12) rfl rfl (Nat.le_of_ble_eq_true rfl) cz12 flX12_438 dX12_sunday_369 ?_
        refine v_toph fun h63 eh63 => ?_
        replace hF := lb_use eh63 hF
        clear eh63
        refine v_iconst (v := 0) dX12_sunday_372 (by decide) ?_
        refine v_istore (ls' := [(4, zi 0), (3, zi 0), (0, zr 12 0), (1, zi a1), (2, zi a2)]) dX12_sunday_373 (by decide) rfl ?_
        refine v_sub [2, 3, 4, 1, 0] rfl ?_
        replace hF := bd_use hF
        obtain ⟨t116, h115, et116, hF⟩ := hF
        refine tX12_sunday_L375 _ a1 a2 0 0 h63 _ et116 ?_
        clear et116
        obtain ⟨v117, v118⟩ := t116
        replace hF := lb_use (x := v117) rfl hF
        replace hF := lb_use (x := v118) rfl hF
        refine v_iload_n (j := 3) dX12_sunday_593 rfl ?_
        obtain ⟨rfl, rfl⟩ := ret_use hF
        exact v_iret rfl dX12_sunday_594
      · replace hF := brF q hF
        refine v_bipush (v := (-5)) dX12_sunday_36 (by decide) ?_
        obtain ⟨rfl, rfl⟩ := ret_use hF
        exact v_iret rfl dX12_sunday_38
    · replace hF := brT (Decidable.not_not.mp q) hF
      refine v_bipush (v := (-2)) dX12_sunday_24 (by decide) ?_
      obtain ⟨rfl, rfl⟩ := ret_use hF
      exact v_iret rfl dX12_sunday_26
