theorem dX12_glance_0 : decode cX12_glance 0 = .ok (.aload_n 0, 1) := by decide +kernel
theorem dX12_glance_1 : decode cX12_glance 1 = .ok (.iconst 0, 1) := by decide +kernel
theorem dX12_glance_2 : decode cX12_glance 2 = .ok (.putfield 107, 3) := by decide +kernel
theorem dX12_glance_5 : decode cX12_glance 5 = .ok (.iload_n 1, 1) := by decide +kernel
theorem dX12_glance_6 : decode cX12_glance 6 = .ok (.iload_n 2, 1) := by decide +kernel
theorem dX12_glance_7 : decode cX12_glance 7 = .ok (.iload_n 3, 1) := by decide +kernel
theorem dX12_glance_8 : decode cX12_glance 8 = .ok (.iload 5, 2) := by decide +kernel
theorem dX12_glance_10 : decode cX12_glance 10 = .ok (.invokestatic 386, 3) := by decide +kernel
theorem dX12_glance_13 : decode cX12_glance 13 = .ok (.ifCond .eq 21, 3) := by decide +kernel
theorem dX12_glance_16 : decode cX12_glance 16 = .ok (.iload_n 2, 1) := by decide +kernel
theorem dX12_glance_17 : decode cX12_glance 17 = .ok (.iload_n 1, 1) := by decide +kernel
theorem dX12_glance_18 : decode cX12_glance 18 = .ok (.if_icmp .eq 16, 3) := by decide +kernel
theorem dX12_glance_21 : decode cX12_glance 21 = .ok (.iload 4, 2) := by decide +kernel
theorem dX12_glance_23 : decode cX12_glance 23 = .ok (.i2l, 1) := by decide +kernel
theorem dX12_glance_24 : decode cX12_glance 24 = .ok (.lconst 0, 1) := by decide +kernel
theorem dX12_glance_25 : decode cX12_glance 25 = .ok (.ldc2_w 380, 3) := by decide +kernel
theorem dX12_glance_28 : decode cX12_glance 28 = .ok (.invokestatic 117, 3) := by decide +kernel
theorem dX12_glance_31 : decode cX12_glance 31 = .ok (.ifCond .ne 7, 3) := by decide +kernel
theorem dX12_glance_34 : decode cX12_glance 34 = .ok (.ldc2_w 375, 3) := by decide +kernel
theorem dX12_glance_37 : decode cX12_glance 37 = .ok (.lreturn, 1) := by decide +kernel
theorem dX12_glance_38 : decode cX12_glance 38 = .ok (.lconst 0, 1) := by decide +kernel
theorem dX12_glance_39 : decode cX12_glance 39 = .ok (.lstore 6, 2) := by decide +kernel
theorem dX12_glance_41 : decode cX12_glance 41 = .ok (.lconst 0, 1) := by decide +kernel
theorem dX12_glance_42 : decode cX12_glance 42 = .ok (.lstore 8, 2) := by decide +kernel
theorem dX12_glance_44 : decode cX12_glance 44 = .ok (.lconst 0, 1) := by decide +kernel
theorem dX12_glance_45 : decode cX12_glance 45 = .ok (.lstore 10, 2) := by decide +kernel
theorem dX12_glance_47 : decode cX12_glance 47 = .ok (.lconst 0, 1) := by decide +kernel
theorem dX12_glance_48 : decode cX12_glance 48 = .ok (.lstore 12, 2) := by decide +kernel
theorem dX12_glance_50 : decode cX12_glance 50 = .ok (.iconst 0, 1) := by decide +kernel
theorem dX12_glance_51 : decode cX12_glance 51 = .ok (.istore 14, 2) := by decide +kernel
theorem dX12_glance_53 : decode cX12_glance 53 = .ok (.iload 14, 2) := by decide +kernel
theorem dX12_glance_55 : decode cX12_glance 55 = .ok (.aload_n 0, 1) := by decide +kernel
theorem dX12_glance_56 : decode cX12_glance 56 = .ok (.getfield 13, 3) := by decide +kernel
theorem dX12_glance_59 : decode cX12_glance 59 = .ok (.iconst 3, 1) := by decide +kernel
theorem dX12_glance_60 : decode cX12_glance 60 = .ok (.iaload, 1) := by decide +kernel
theorem dX12_glance_61 : decode cX12_glance 61 = .ok (.if_icmp .ge 107, 3) := by decide +kernel
theorem dX12_glance_64 : decode cX12_glance 64 = .ok (.aload_n 0, 1) := by decide +kernel
theorem dX12_glance_65 : decode cX12_glance 65 = .ok (.iload 14, 2) := by decide +kernel
theorem dX12_glance_67 : decode cX12_glance 67 = .ok (.iload_n 1, 1) := by decide +kernel
theorem dX12_glance_68 : decode cX12_glance 68 = .ok (.iload_n 2, 1) := by decide +kernel
theorem dX12_glance_69 : decode cX12_glance 69 = .ok (.iload_n 3, 1) := by decide +kernel
theorem dX12_glance_70 : decode cX12_glance 70 = .ok (.invokevirtual 390, 3) := by decide +kernel
theorem dX12_glance_73 : decode cX12_glance 73 = .ok (.lstore 15, 2) := by decide +kernel
theorem dX12_glance_75 : decode cX12_glance 75 = .ok (.aload_n 0, 1) := by decide +kernel
theorem dX12_glance_76 : decode cX12_glance 76 = .ok (.getfield 13, 3) := by decide +kernel
theorem dX12_glance_79 : decode cX12_glance 79 = .ok (.bipush 63, 2) := by decide +kernel
theorem dX12_glance_81 : decode cX12_glance 81 = .ok (.iconst 3, 1) := by decide +kernel
theorem dX12_glance_82 : decode cX12_glance 82 = .ok (.iload 14, 2) := by decide +kernel
theorem dX12_glance_84 : decode cX12_glance 84 = .ok (.imul, 1) := by decide +kernel
theorem dX12_glance_85 : decode cX12_glance 85 = .ok (.iadd, 1) := by decide +kernel
theorem dX12_glance_86 : decode cX12_glance 86 = .ok (.iconst 2, 1) := by decide +kernel
theorem dX12_glance_87 : decode cX12_glance 87 = .ok (.iadd, 1) := by decide +kernel
theorem dX12_glance_88 : decode cX12_glance 88 = .ok (.iaload, 1) := by decide +kernel
theorem dX12_glance_89 : decode cX12_glance 89 = .ok (.iload 4, 2) := by decide +kernel
theorem dX12_glance_91 : decode cX12_glance 91 = .ok (.isub, 1) := by decide +kernel
theorem dX12_glance_92 : decode cX12_glance 92 = .ok (.i2l, 1) := by decide +kernel
theorem dX12_glance_93 : decode cX12_glance 93 = .ok (.lstore 17, 2) := by decide +kernel
theorem dX12_glance_95 : decode cX12_glance 95 = .ok (.aload_n 0, 1) := by decide +kernel
theorem dX12_glance_96 : decode cX12_glance 96 = .ok (.getfield 13, 3) := by decide +kernel
theorem dX12_glance_99 : decode cX12_glance 99 = .ok (.bipush 63, 2) := by decide +kernel
theorem dX12_glance_101 : decode cX12_glance 101 = .ok (.iconst 3, 1) := by decide +kernel
theorem dX12_glance_102 : decode cX12_glance 102 = .ok (.iload 14, 2) := by decide +kernel
theorem dX12_glance_104 : decode cX12_glance 104 = .ok (.imul, 1) := by decide +kernel
theorem dX12_glance_105 : decode cX12_glance 105 = .ok (.iadd, 1) := by decide +kernel
theorem dX12_glance_106 : decode cX12_glance 106 = .ok (.iconst 1, 1) := by decide +kernel
theorem dX12_glance_107 : decode cX12_glance 107 = .ok (.iadd, 1) := by decide +kernel
theorem dX12_glance_108 : decode cX12_glance 108 = .ok (.iaload, 1) := by decide +kernel
theorem dX12_glance_109 : decode cX12_glance 109 = .ok (.iload_n 3, 1) := by decide +kernel
theorem dX12_glance_110 : decode cX12_glance 110 = .ok (.isub, 1) := by decide +kernel
theorem dX12_glance_111 : decode cX12_glance 111 = .ok (.istore 19, 2) := by decide +kernel
theorem dX12_glance_113 : decode cX12_glance 113 = .ok (.lload 6, 2) := by decide +kernel
theorem dX12_glance_115 : decode cX12_glance 115 = .ok (.lload 15, 2) := by decide +kernel
theorem dX12_glance_117 : decode cX12_glance 117 = .ok (.ladd, 1) := by decide +kernel
theorem dX12_glance_118 : decode cX12_glance 118 = .ok (.lstore 6, 2) := by decide +kernel
theorem dX12_glance_120 : decode cX12_glance 120 = .ok (.lload 8, 2) := by decide +kernel
theorem dX12_glance_122 : decode cX12_glance 122 = .ok (.lload 15, 2) := by decide +kernel
theorem dX12_glance_124 : decode cX12_glance 124 = .ok (.lload 17, 2) := by decide +kernel
theorem dX12_glance_126 : decode cX12_glance 126 = .ok (.lmul, 1) := by decide +kernel
theorem dX12_glance_127 : decode cX12_glance 127 = .ok (.ladd, 1) := by decide +kernel
theorem dX12_glance_128 : decode cX12_glance 128 = .ok (.lstore 8, 2) := by decide +kernel
theorem dX12_glance_130 : decode cX12_glance 130 = .ok (.lload 10, 2) := by decide +kernel
theorem dX12_glance_132 : decode cX12_glance 132 = .ok (.lload 15, 2) := by decide +kernel
theorem dX12_glance_134 : decode cX12_glance 134 = .ok (.iload 19, 2) := by decide +kernel
theorem dX12_glance_136 : decode cX12_glance 136 = .ok (.i2l, 1) := by decide +kernel
theorem dX12_glance_137 : decode cX12_glance 137 = .ok (.lmul, 1) := by decide +kernel
theorem dX12_glance_138 : decode cX12_glance 138 = .ok (.lload 17, 2) := by decide +kernel
theorem dX12_glance_140 : decode cX12_glance 140 = .ok (.lmul, 1) := by decide +kernel
theorem dX12_glance_141 : decode cX12_glance 141 = .ok (.ladd, 1) := by decide +kernel
theorem dX12_glance_142 : decode cX12_glance 142 = .ok (.lstore 10, 2) := by decide +kernel
theorem dX12_glance_144 : decode cX12_glance 144 = .ok (.lload 12, 2) := by decide +kernel
theorem dX12_glance_146 : decode cX12_glance 146 = .ok (.lload 15, 2) := by decide +kernel
theorem dX12_glance_148 : decode cX12_glance 148 = .ok (.iload_n 1, 1) := by decide +kernel
theorem dX12_glance_149 : decode cX12_glance 149 = .ok (.iload_n 2, 1) := by decide +kernel
theorem dX12_glance_150 : decode cX12_glance 150 = .ok (.isub, 1) := by decide +kernel
theorem dX12_glance_151 : decode cX12_glance 151 = .ok (.iload 19, 2) := by decide +kernel
theorem dX12_glance_153 : decode cX12_glance 153 = .ok (.isub, 1) := by decide +kernel
theorem dX12_glance_154 : decode cX12_glance 154 = .ok (.i2l, 1) := by decide +kernel
theorem dX12_glance_155 : decode cX12_glance 155 = .ok (.lmul, 1) := by decide +kernel
theorem dX12_glance_156 : decode cX12_glance 156 = .ok (.lload 17, 2) := by decide +kernel
theorem dX12_glance_158 : decode cX12_glance 158 = .ok (.lmul, 1) := by decide +kernel
theorem dX12_glance_159 : decode cX12_glance 159 = .ok (.ladd, 1) := by decide +kernel
theorem dX12_glance_160 : decode cX12_glance 160 = .ok (.lstore 12, 2) := by decide +kernel
theorem dX12_glance_162 : decode cX12_glance 162 = .ok (.iinc 14 1, 3) := by decide +kernel
theorem dX12_glance_165 : decode cX12_glance 165 = .ok (.goto (-112), 3) := by decide +kernel
theorem dX12_glance_168 : decode cX12_glance 168 = .ok (.lload 6, 2) := by decide +kernel
theorem dX12_glance_170 : decode cX12_glance 170 = .ok (.lconst 0, 1) := by decide +kernel
theorem dX12_glance_171 : decode cX12_glance 171 = .ok (.lcmp, 1) := by decide +kernel
theorem dX12_glance_172 : decode cX12_glance 172 = .ok (.ifCond .ne 7, 3) := by decide +kernel
theorem dX12_glance_175 : decode cX12_glance 175 = .ok (.ldc2_w 375, 3) := by decide +kernel
theorem dX12_glance_178 : decode cX12_glance 178 = .ok (.lreturn, 1) := by decide +kernel
theorem dX12_glance_179 : decode cX12_glance 179 = .ok (.lload 10, 2) := by decide +kernel
theorem dX12_glance_181 : decode cX12_glance 181 = .ok (.lconst 0, 1) := by decide +kernel
theorem dX12_glance_182 : decode cX12_glance 182 = .ok (.lcmp, 1) := by decide +kernel
theorem dX12_glance_183 : decode cX12_glance 183 = .ok (.ifCond .le 8, 3) := by decide +kernel
theorem dX12_glance_186 : decode cX12_glance 186 = .ok (.lload 10, 2) := by decide +kernel
theorem dX12_glance_188 : decode cX12_glance 188 = .ok (.goto 4, 3) := by decide +kernel
theorem dX12_glance_191 : decode cX12_glance 191 = .ok (.lconst 0, 1) := by decide +kernel
theorem dX12_glance_192 : decode cX12_glance 192 = .ok (.lload 12, 2) := by decide +kernel
theorem dX12_glance_194 : decode cX12_glance 194 = .ok (.lconst 0, 1) := by decide +kernel
theorem dX12_glance_195 : decode cX12_glance 195 = .ok (.lcmp, 1) := by decide +kernel
theorem dX12_glance_196 : decode cX12_glance 196 = .ok (.ifCond .le 8, 3) := by decide +kernel
theorem dX12_glance_199 : decode cX12_glance 199 = .ok (.lload 12, 2) := by decide +kernel
theorem dX12_glance_201 : decode cX12_glance 201 = .ok (.goto 4, 3) := by decide +kernel
theorem dX12_glance_204 : decode cX12_glance 204 = .ok (.lconst 0, 1) := by decide +kernel
theorem dX12_glance_205 : decode cX12_glance 205 = .ok (.ladd, 1) := by decide +kernel
theorem dX12_glance_206 : decode cX12_glance 206 = .ok (.lload 8, 2) := by decide +kernel
theorem dX12_glance_208 : decode cX12_glance 208 = .ok (.lconst 0, 1) := by decide +kernel
theorem dX12_glance_209 : decode cX12_glance 209 = .ok (.lcmp, 1) := by decide +kernel
theorem dX12_glance_210 : decode cX12_glance 210 = .ok (.ifCond .le 8, 3) := by decide +kernel
theorem dX12_glance_213 : decode cX12_glance 213 = .ok (.lload 8, 2) := by decide +kernel
theorem dX12_glance_215 : decode cX12_glance 215 = .ok (.goto 4, 3) := by decide +kernel
theorem dX12_glance_218 : decode cX12_glance 218 = .ok (.lconst 0, 1) := by decide +kernel
theorem dX12_glance_219 : decode cX12_glance 219 = .ok (.iload_n 1, 1) := by decide +kernel
theorem dX12_glance_220 : decode cX12_glance 220 = .ok (.iload_n 2, 1) := by decide +kernel
theorem dX12_glance_221 : decode cX12_glance 221 = .ok (.isub, 1) := by decide +kernel
theorem dX12_glance_222 : decode cX12_glance 222 = .ok (.i2l, 1) := by decide +kernel
theorem dX12_glance_223 : decode cX12_glance 223 = .ok (.lmul, 1) := by decide +kernel
theorem dX12_glance_224 : decode cX12_glance 224 = .ok (.lsub, 1) := by decide +kernel
theorem dX12_glance_225 : decode cX12_glance 225 = .ok (.lstore 14, 2) := by decide +kernel
theorem dX12_glance_227 : decode cX12_glance 227 = .ok (.lload 6, 2) := by decide +kernel
theorem dX12_glance_229 : decode cX12_glance 229 = .ok (.iload_n 1, 1) := by decide +kernel
theorem dX12_glance_230 : decode cX12_glance 230 = .ok (.iload_n 2, 1) := by decide +kernel
theorem dX12_glance_231 : decode cX12_glance 231 = .ok (.isub, 1) := by decide +kernel
theorem dX12_glance_232 : decode cX12_glance 232 = .ok (.i2l, 1) := by decide +kernel
theorem dX12_glance_233 : decode cX12_glance 233 = .ok (.lmul, 1) := by decide +kernel
theorem dX12_glance_234 : decode cX12_glance 234 = .ok (.lstore 16, 2) := by decide +kernel
theorem dX12_glance_236 : decode cX12_glance 236 = .ok (.lload 14, 2) := by decide +kernel
theorem dX12_glance_238 : decode cX12_glance 238 = .ok (.lload 16, 2) := by decide +kernel
theorem dX12_glance_240 : decode cX12_glance 240 = .ok (.invokestatic 393, 3) := by decide +kernel
theorem dX12_glance_243 : decode cX12_glance 243 = .ok (.lstore 18, 2) := by decide +kernel
theorem dX12_glance_245 : decode cX12_glance 245 = .ok (.iload 5, 2) := by decide +kernel
theorem dX12_glance_247 : decode cX12_glance 247 = .ok (.ifCond .ne 11, 3) := by decide +kernel
theorem dX12_glance_250 : decode cX12_glance 250 = .ok (.lload 14, 2) := by decide +kernel
theorem dX12_glance_252 : decode cX12_glance 252 = .ok (.lload 18, 2) := by decide +kernel
theorem dX12_glance_254 : decode cX12_glance 254 = .ok (.ldiv, 1) := by decide +kernel
theorem dX12_glance_255 : decode cX12_glance 255 = .ok (.goto 8, 3) := by decide +kernel
theorem dX12_glance_258 : decode cX12_glance 258 = .ok (.lload 16, 2) := by decide +kernel
theorem dX12_glance_260 : decode cX12_glance 260 = .ok (.lload 18, 2) := by decide +kernel
theorem dX12_glance_262 : decode cX12_glance 262 = .ok (.ldiv, 1) := by decide +kernel
theorem dX12_glance_263 : decode cX12_glance 263 = .ok (.lreturn, 1) := by decide +kernel
set_option maxHeartbeats 4000000 in
set_option maxRecDepth 100000 in
theorem x_X12_glance_219 {p : Program} {l : Launch} {e : Env} {s : State} {m : MethodId} {args : Array Value} {below : List Frame} {meth : Method} {c : Code} {D : va_G} {K : Nat → ClassId} {A : Nat → Prop} {ad : Nat → Nat} {rest : va_W} (C : xC p s m args meth c D K A RX12 cX12_glance 20 (some .long)) (z : Int64 × xS) : ∀ (y1 : Int32) (y2 : Int32) (y5 : Int32) (y6 : Int64) (t0 : Int64) (t1 : Int64) (σ : xS), F_X12_glance_219  y1 y2 y5 y6 t0 t1 σ = some z → X p l e (xR 2 49) s m args below meth c D A 20 (xQl below D K A args s z.1 (RW K ad rest z.2)) 0 0 219 [(1, .int y1), (2, .int y2), (5, .int y5), (6, .long y6)] [.long t1, .long t0] (RW K ad rest σ) := by
  intro y1 y2 y5 y6 t0 t1 σ hF
  unfold F_X12_glance_219 at hF
  refine x_iload_n C 0 1 dX12_glance_219 rfl rfl ?_
  refine x_iload_n C 1 2 dX12_glance_220 rfl rfl ?_
  refine x_isub C dX12_glance_221 ?_
  refine x_i2l C dX12_glance_222 ?_
  refine x_lmul C dX12_glance_223 ?_
  refine x_lsub C dX12_glance_224 ?_
  refine x_topL hF (fun x23 hF => ?_)
  refine x_lstore C [(14, .long x23), (1, .int y1), (2, .int y2), (5, .int y5), (6, .long y6)] dX12_glance_225 (by decide) rfl ?_
  refine x_lload C 4 6 dX12_glance_227 rfl ?_
  refine x_iload_n C 1 1 dX12_glance_229 rfl rfl ?_
  refine x_iload_n C 2 2 dX12_glance_230 rfl rfl ?_
  refine x_isub C dX12_glance_231 ?_
  refine x_i2l C dX12_glance_232 ?_
  refine x_lmul C dX12_glance_233 ?_
  refine x_topL hF (fun x24 hF => ?_)
  refine x_lstore C [(16, .long x24), (14, .long x23), (1, .int y1), (2, .int y2), (5, .int y5), (6, .long y6)] dX12_glance_234 (by decide) rfl ?_
  refine x_lload C 1 14 dX12_glance_236 rfl ?_
  refine x_lload C 0 16 dX12_glance_238 rfl ?_
  refine x_callSL C (wf := RW K ad rest) (As := [.long x23, .long x24]) (rest := []) dX12_glance_240 ml_X12_393 rfl rfl (Nat.le_of_ble_eq_true rfl) ⟨Nat.le_of_ble_eq_true rfl, Nat.le_of_ble_eq_true rfl⟩ ⟨Nat.zero_le _, Nat.zero_le _⟩ (fun q9 hq9 => c_X12_common l D K ad rest x23 x24 σ q9 hq9) hF (fun v26 σ25 hF => ?_)
  refine x_lstore C [(18, .long v26), (16, .long x24), (14, .long x23), (1, .int y1), (2, .int y2), (5, .int y5), (6, .long y6)] dX12_glance_243 (by decide) rfl ?_
  refine x_iload C 5 5 dX12_glance_245 rfl ?_
  refine x_if_ne C 258 dX12_glance_247 (by decide) hF (fun hF => ?_) (fun hF => ?_)
  · refine x_lload C 1 16 dX12_glance_258 rfl ?_
    refine x_lload C 0 18 dX12_glance_260 rfl ?_
    refine x_ldiv C dX12_glance_262 hF (fun hF => ?_)
    exact x_lret C dX12_glance_263 rfl (congrArg Prod.fst (Option.some.inj hF)) (congrArg (fun q9 : Int64 × xS => RW K ad rest q9.2) (Option.some.inj hF))
  · refine x_lload C 2 14 dX12_glance_250 rfl ?_
    refine x_lload C 0 18 dX12_glance_252 rfl ?_
    refine x_ldiv C dX12_glance_254 hF (fun hF => ?_)
    refine x_goto C 263 dX12_glance_255 (by decide) ?_
    exact x_lret C dX12_glance_263 rfl (congrArg Prod.fst (Option.some.inj hF)) (congrArg (fun q9 : Int64 × xS => RW K ad rest q9.2) (Option.some.inj hF))
set_option maxHeartbeats 4000000 in
set_option maxRecDepth 100000 in
theorem x_X12_glance_205 {p : Program} {l : Launch} {e : Env} {s : State} {m : MethodId} {args : Array Value} {below : List Frame} {meth : Method} {c : Code} {D : va_G} {K : Nat → ClassId} {A : Nat → Prop} {ad : Nat → Nat} {rest : va_W} (C : xC p s m args meth c D K A RX12 cX12_glance 20 (some .long)) (z : Int64 × xS) : ∀ (y1 : Int32) (y2 : Int32) (y5 : Int32) (y6 : Int64) (y8 : Int64) (t0 : Int64) (t1 : Int64) (σ : xS), F_X12_glance_205  y1 y2 y5 y6 y8 t0 t1 σ = some z → X p l e (xR 2 49) s m args below meth c D A 20 (xQl below D K A args s z.1 (RW K ad rest z.2)) 0 0 205 [(1, .int y1), (2, .int y2), (5, .int y5), (6, .long y6), (8, .long y8)] [.long t1, .long t0] (RW K ad rest σ) := by
  intro y1 y2 y5 y6 y8 t0 t1 σ hF
  unfold F_X12_glance_205 at hF
  refine x_ladd C dX12_glance_205 ?_
  refine x_lload C 4 8 dX12_glance_206 rfl ?_
  refine x_lconst C 0 dX12_glance_208 (by decide +kernel) ?_
  refine x_lcmp C dX12_glance_209 ?_
  refine x_if_le C 218 dX12_glance_210 (by decide) hF (fun hF => ?_) (fun hF => ?_)
  · refine x_lconst C 0 dX12_glance_218 (by decide +kernel) ?_
    refine x_loc [(1, .int y1), (2, .int y2), (5, .int y5), (6, .long y6)] [0, 1, 2, 3] rfl ?_
    exact x_X12_glance_219 C z y1 y2 y5 y6 (t0 + t1) 0 σ hF
  · refine x_lload C 4 8 dX12_glance_213 rfl ?_
    refine x_goto C 219 dX12_glance_215 (by decide) ?_
    refine x_loc [(1, .int y1), (2, .int y2), (5, .int y5), (6, .long y6)] [0, 1, 2, 3] rfl ?_
    exact x_X12_glance_219 C z y1 y2 y5 y6 (t0 + t1) y8 σ hF
set_option maxHeartbeats 4000000 in
set_option maxRecDepth 100000 in
theorem x_X12_glance_192 {p : Program} {l : Launch} {e : Env} {s : State} {m : MethodId} {args : Array Value} {below : List Frame} {meth : Method} {c : Code} {D : va_G} {K : Nat → ClassId} {A : Nat → Prop} {ad : Nat → Nat} {rest : va_W} (C : xC p s m args meth c D K A RX12 cX12_glance 20 (some .long)) (z : Int64 × xS) : ∀ (y1 : Int32) (y2 : Int32) (y5 : Int32) (y6 : Int64) (y8 : Int64) (y12 : Int64) (t0 : Int64) (σ : xS), F_X12_glance_192  y1 y2 y5 y6 y8 y12 t0 σ = some z → X p l e (xR 2 49) s m args below meth c D A 20 (xQl below D K A args s z.1 (RW K ad rest z.2)) 0 0 192 [(1, .int y1), (2, .int y2), (5, .int y5), (6, .long y6), (8, .long y8), (12, .long y12)] [.long t0] (RW K ad rest σ) := by
  intro y1 y2 y5 y6 y8 y12 t0 σ hF
  unfold F_X12_glance_192 at hF
  refine x_lload C 5 12 dX12_glance_192 rfl ?_
  refine x_lconst C 0 dX12_glance_194 (by decide +kernel) ?_
  refine x_lcmp C dX12_glance_195 ?_
  refine x_if_le C 204 dX12_glance_196 (by decide) hF (fun hF => ?_) (fun hF => ?_)
  · refine x_lconst C 0 dX12_glance_204 (by decide +kernel) ?_
    refine x_loc [(1, .int y1), (2, .int y2), (5, .int y5), (6, .long y6), (8, .long y8)] [0, 1, 2, 3, 4] rfl ?_
    exact x_X12_glance_205 C z y1 y2 y5 y6 y8 t0 0 σ hF
  · refine x_lload C 5 12 dX12_glance_199 rfl ?_
    refine x_goto C 205 dX12_glance_201 (by decide) ?_
    refine x_loc [(1, .int y1), (2, .int y2), (5, .int y5), (6, .long y6), (8, .long y8)] [0, 1, 2, 3, 4] rfl ?_
    exact x_X12_glance_205 C z y1 y2 y5 y6 y8 t0 y12 σ hF
set_option maxHeartbeats 4000000 in
set_option maxRecDepth 100000 in
theorem x_X12_glance_53 {p : Program} {l : Launch} {e : Env} {s : State} {m : MethodId} {args : Array Value} {below : List Frame} {meth : Method} {c : Code} {D : va_G} {K : Nat → ClassId} {A : Nat → Prop} {ad : Nat → Nat} {rest : va_W} (C : xC p s m args meth c D K A RX12 cX12_glance 20 (some .long)) (z : Int64 × xS) : ∀ (n : Nat) (y1 : Int32) (y2 : Int32) (y3 : Int32) (y4 : Int32) (y5 : Int32) (y6 : Int64) (y8 : Int64) (y10 : Int64) (y12 : Int64) (y14 : Int32) (σ : xS), F_X12_glance_53  n y1 y2 y3 y4 y5 y6 y8 y10 y12 y14 σ = some z → X p l e (xR 2 49) s m args below meth c D A 20 (xQl below D K A args s z.1 (RW K ad rest z.2)) 0 0 53 [(0, .ref (ad 0)), (1, .int y1), (2, .int y2), (3, .int y3), (4, .int y4), (5, .int y5), (6, .long y6), (8, .long y8), (10, .long y10), (12, .long y12), (14, .int y14)] [] (RW K ad rest σ) := by
  intro n
  induction n with
  | zero =>
    intro y1 y2 y3 y4 y5 y6 y8 y10 y12 y14 σ hF
    cases hF
  | succ n ih =>
    intro y1 y2 y3 y4 y5 y6 y8 y10 y12 y14 σ hF
    rw [F_X12_glance_53] at hF
    refine x_iload C 10 14 dX12_glance_53 rfl ?_
    refine x_aload_n C 0 0 dX12_glance_55 rfl rfl ?_
    refine x_get C 0 dX12_glance_56 fl_X12_13 (RW_o K ad rest σ) rfl ?_
    refine x_iconst C 3 dX12_glance_59 (by decide +kernel) ?_
    refine x_iald C 2 dX12_glance_60 (RW_a3 K ad rest σ) hF (fun v11 hF => ?_)
    refine x_icmp_ge C 168 dX12_glance_61 (by decide) hF (fun hF => ?_) (fun hF => ?_)
    · refine x_lload C 6 6 dX12_glance_168 rfl ?_
      refine x_lconst C 0 dX12_glance_170 (by decide +kernel) ?_
      refine x_lcmp C dX12_glance_171 ?_
      refine x_if_ne C 179 dX12_glance_172 (by decide) hF (fun hF => ?_) (fun hF => ?_)
      · refine x_lload C 8 10 dX12_glance_179 rfl ?_
        refine x_lconst C 0 dX12_glance_181 (by decide +kernel) ?_
        refine x_lcmp C dX12_glance_182 ?_
        refine x_if_le C 191 dX12_glance_183 (by decide) hF (fun hF => ?_) (fun hF => ?_)
        · refine x_lconst C 0 dX12_glance_191 (by decide +kernel) ?_
          refine x_loc [(1, .int y1), (2, .int y2), (5, .int y5), (6, .long y6), (8, .long y8), (12, .long y12)] [1, 2, 5, 6, 7, 9] rfl ?_
          exact x_X12_glance_192 C z y1 y2 y5 y6 y8 y12 0 σ hF
        · refine x_lload C 8 10 dX12_glance_186 rfl ?_
          refine x_goto C 192 dX12_glance_188 (by decide) ?_
          refine x_loc [(1, .int y1), (2, .int y2), (5, .int y5), (6, .long y6), (8, .long y8), (12, .long y12)] [1, 2, 5, 6, 7, 9] rfl ?_
          exact x_X12_glance_192 C z y1 y2 y5 y6 y8 y12 y10 σ hF
      · refine x_ldc2 C (-1000000000000000000) dX12_glance_175 cl_X12_375 ?_
        exact x_lret C dX12_glance_178 rfl (congrArg Prod.fst (Option.some.inj hF)) (congrArg (fun q9 : Int64 × xS => RW K ad rest q9.2) (Option.some.inj hF))
    · refine x_aload_n C 0 0 dX12_glance_64 rfl rfl ?_
      refine x_iload C 10 14 dX12_glance_65 rfl ?_
      refine x_iload_n C 1 1 dX12_glance_67 rfl rfl ?_
      refine x_iload_n C 2 2 dX12_glance_68 rfl rfl ?_
      refine x_iload_n C 3 3 dX12_glance_69 rfl rfl ?_
      refine x_callVL C (wf := RW K ad rest) (As := [.int y14, .int y1, .int y2, .int y3]) (rest := []) dX12_glance_70 ml_X12_390 rfl rfl (Nat.le_of_ble_eq_true rfl) 0 (RW_o K ad rest σ) rfl ⟨Nat.le_of_ble_eq_true rfl, Nat.le_of_ble_eq_true rfl⟩ ⟨Nat.zero_le _, Nat.zero_le _⟩ (fun q9 hq9 => c_X12_showing l D K ad rest y14 y1 y2 y3 σ q9 hq9) hF (fun v13 σ12 hF => ?_)
      refine x_lstore C [(15, .long v13), (0, .ref (ad 0)), (1, .int y1), (2, .int y2), (3, .int y3), (4, .int y4), (5, .int y5), (6, .long y6), (8, .long y8), (10, .long y10), (12, .long y12), (14, .int y14)] dX12_glance_73 (by decide) rfl ?_
      refine x_aload_n C 1 0 dX12_glance_75 rfl rfl ?_
      refine x_get C 0 dX12_glance_76 fl_X12_13 (RW_o K ad rest σ12) rfl ?_
      refine x_bipush C 63 dX12_glance_79 (by decide +kernel) ?_
      refine x_iconst C 3 dX12_glance_81 (by decide +kernel) ?_
      refine x_iload C 11 14 dX12_glance_82 rfl ?_
      refine x_imul C dX12_glance_84 ?_
      refine x_iadd C dX12_glance_85 ?_
      refine x_iconst C 2 dX12_glance_86 (by decide +kernel) ?_
      refine x_iadd C dX12_glance_87 ?_
      refine x_iald C 2 dX12_glance_88 (RW_a3 K ad rest σ12) hF (fun v14 hF => ?_)
      refine x_iload C 5 4 dX12_glance_89 rfl ?_
      refine x_isub C dX12_glance_91 ?_
      refine x_i2l C dX12_glance_92 ?_
      refine x_topL hF (fun x15 hF => ?_)
      refine x_lstore C [(17, .long x15), (15, .long v13), (0, .ref (ad 0)), (1, .int y1), (2, .int y2), (3, .int y3), (4, .int y4), (5, .int y5), (6, .long y6), (8, .long y8), (10, .long y10), (12, .long y12), (14, .int y14)] dX12_glance_93 (by decide) rfl ?_
      refine x_aload_n C 2 0 dX12_glance_95 rfl rfl ?_
      refine x_get C 0 dX12_glance_96 fl_X12_13 (RW_o K ad rest σ12) rfl ?_
      refine x_bipush C 63 dX12_glance_99 (by decide +kernel) ?_
      refine x_iconst C 3 dX12_glance_101 (by decide +kernel) ?_
      refine x_iload C 12 14 dX12_glance_102 rfl ?_
      refine x_imul C dX12_glance_104 ?_
      refine x_iadd C dX12_glance_105 ?_
      refine x_iconst C 1 dX12_glance_106 (by decide +kernel) ?_
      refine x_iadd C dX12_glance_107 ?_
      refine x_iald C 2 dX12_glance_108 (RW_a3 K ad rest σ12) hF (fun v16 hF => ?_)
      refine x_iload_n C 5 3 dX12_glance_109 rfl rfl ?_
      refine x_isub C dX12_glance_110 ?_
      refine x_topI hF (fun x17 hF => ?_)
      refine x_istore C [(19, .int x17), (17, .long x15), (15, .long v13), (0, .ref (ad 0)), (1, .int y1), (2, .int y2), (3, .int y3), (4, .int y4), (5, .int y5), (6, .long y6), (8, .long y8), (10, .long y10), (12, .long y12), (14, .int y14)] dX12_glance_111 (by decide) rfl ?_
      refine x_lload C 9 6 dX12_glance_113 rfl ?_
      refine x_lload C 2 15 dX12_glance_115 rfl ?_
      refine x_ladd C dX12_glance_117 ?_
      refine x_topL hF (fun x18 hF => ?_)
      refine x_lstore C [(6, .long x18), (19, .int x17), (17, .long x15), (15, .long v13), (0, .ref (ad 0)), (1, .int y1), (2, .int y2), (3, .int y3), (4, .int y4), (5, .int y5), (8, .long y8), (10, .long y10), (12, .long y12), (14, .int y14)] dX12_glance_118 (by decide) rfl ?_
      refine x_lload C 10 8 dX12_glance_120 rfl ?_
      refine x_lload C 3 15 dX12_glance_122 rfl ?_
      refine x_lload C 2 17 dX12_glance_124 rfl ?_
      refine x_lmul C dX12_glance_126 ?_
      refine x_ladd C dX12_glance_127 ?_
      refine x_topL hF (fun x19 hF => ?_)
      refine x_lstore C [(8, .long x19), (6, .long x18), (19, .int x17), (17, .long x15), (15, .long v13), (0, .ref (ad 0)), (1, .int y1), (2, .int y2), (3, .int y3), (4, .int y4), (5, .int y5), (10, .long y10), (12, .long y12), (14, .int y14)] dX12_glance_128 (by decide) rfl ?_
      refine x_lload C 11 10 dX12_glance_130 rfl ?_
      refine x_lload C 4 15 dX12_glance_132 rfl ?_
      refine x_iload C 2 19 dX12_glance_134 rfl ?_
      refine x_i2l C dX12_glance_136 ?_
      refine x_lmul C dX12_glance_137 ?_
      refine x_lload C 3 17 dX12_glance_138 rfl ?_
      refine x_lmul C dX12_glance_140 ?_
      refine x_ladd C dX12_glance_141 ?_
      refine x_topL hF (fun x20 hF => ?_)
      refine x_lstore C [(10, .long x20), (8, .long x19), (6, .long x18), (19, .int x17), (17, .long x15), (15, .long v13), (0, .ref (ad 0)), (1, .int y1), (2, .int y2), (3, .int y3), (4, .int y4), (5, .int y5), (12, .long y12), (14, .int y14)] dX12_glance_142 (by decide) rfl ?_
      refine x_lload C 12 12 dX12_glance_144 rfl ?_
      refine x_lload C 5 15 dX12_glance_146 rfl ?_
      refine x_iload_n C 7 1 dX12_glance_148 rfl rfl ?_
      refine x_iload_n C 8 2 dX12_glance_149 rfl rfl ?_
      refine x_isub C dX12_glance_150 ?_
      refine x_iload C 3 19 dX12_glance_151 rfl ?_
      refine x_isub C dX12_glance_153 ?_
      refine x_i2l C dX12_glance_154 ?_
      refine x_lmul C dX12_glance_155 ?_
      refine x_lload C 4 17 dX12_glance_156 rfl ?_
      refine x_lmul C dX12_glance_158 ?_
      refine x_ladd C dX12_glance_159 ?_
      refine x_topL hF (fun x21 hF => ?_)
      refine x_lstore C [(12, .long x21), (10, .long x20), (8, .long x19), (6, .long x18), (19, .int x17), (17, .long x15), (15, .long v13), (0, .ref (ad 0)), (1, .int y1), (2, .int y2), (3, .int y3), (4, .int y4), (5, .int y5), (14, .int y14)] dX12_glance_160 (by decide) rfl ?_
      refine x_iincN C 1 13 (fun x22 => [(14, .int x22), (12, .long x21), (10, .long x20), (8, .long x19), (6, .long x18), (19, .int x17), (17, .long x15), (15, .long v13), (0, .ref (ad 0)), (1, .int y1), (2, .int y2), (3, .int y3), (4, .int y4), (5, .int y5)]) dX12_glance_162 rfl (by decide +kernel) (by decide) (fun _ => rfl) hF (fun x22 hF => ?_)
      refine x_goto C 53 dX12_glance_165 (by decide) ?_
      refine x_loc [(0, .ref (ad 0)), (1, .int y1), (2, .int y2), (3, .int y3), (4, .int y4), (5, .int y5), (6, .long x18), (8, .long x19), (10, .long x20), (12, .long x21), (14, .int x22)] [8, 9, 10, 11, 12, 13, 4, 3, 2, 1, 0] rfl ?_
      exact ih y1 y2 y3 y4 y5 x18 x19 x20 x21 x22 σ12 hF
set_option maxHeartbeats 4000000 in
set_option maxRecDepth 100000 in
theorem c_X12_glance (l : Launch) (D : va_G) (K : Nat → ClassId) (ad : Nat → Nat) (rest : va_W) (a1 : Int32) (a2 : Int32) (a3 : Int32) (a4 : Int32) (a5 : Int32) (σ : xS) (z : Int64 × xS) (hF : F_X12_glance a1 a2 a3 a4 a5 σ = some z) : CL l D K yX12_glance cX12_glance 20 (some .long) 2 49 [.ref (ad 0), .int a1, .int a2, .int a3, .int a4, .int a5] (RW K ad rest σ) z.1 (RW K ad rest z.2) := by
  refine x_enterL [(0, .ref (ad 0)), (1, .int a1), (2, .int a2), (3, .int a3), (4, .int a4), (5, .int a5)] pnX12 (Nat.le_of_ble_eq_true rfl) rfl ?_
  intro p e s m args below meth c A C
  unfold F_X12_glance at hF
  refine x_aload_n C 0 0 dX12_glance_0 rfl rfl ?_
  refine x_iconst C 0 dX12_glance_1 (by decide +kernel) ?_
  refine x_put C 0 dX12_glance_2 fl_X12_107 fm_X12_0 rfl rfl (RW_o K ad rest σ) (Nat.le_of_ble_eq_true rfl) (RW_s0 K ad rest σ _) ?_
  refine x_st (wf := RW K ad rest) hF (fun σ1 hF => ?_)
  refine x_iload_n C 1 1 dX12_glance_5 rfl rfl ?_
  refine x_iload_n C 2 2 dX12_glance_6 rfl rfl ?_
  refine x_iload_n C 3 3 dX12_glance_7 rfl rfl ?_
  refine x_iload C 5 5 dX12_glance_8 rfl ?_
  refine x_callSI C (wf := RW K ad rest) (As := [.int a1, .int a2, .int a3, .int a5]) (rest := []) dX12_glance_10 ml_X12_386 rfl rfl (Nat.le_of_ble_eq_true rfl) ⟨Nat.le_of_ble_eq_true rfl, Nat.le_of_ble_eq_true rfl⟩ ⟨Nat.zero_le _, Nat.zero_le _⟩ (fun q9 hq9 => c_X12_isGlance l D K ad rest a1 a2 a3 a5 σ1 q9 hq9) hF (fun v3 σ2 hF => ?_)
  refine x_if_eq C 34 dX12_glance_13 (by decide) hF (fun hF => ?_) (fun hF => ?_)
  · refine x_ldc2 C (-1000000000000000000) dX12_glance_34 cl_X12_375 ?_
    exact x_lret C dX12_glance_37 rfl (congrArg Prod.fst (Option.some.inj hF)) (congrArg (fun q9 : Int64 × xS => RW K ad rest q9.2) (Option.some.inj hF))
  · refine x_iload_n C 2 2 dX12_glance_16 rfl rfl ?_
    refine x_iload_n C 1 1 dX12_glance_17 rfl rfl ?_
    refine x_icmp_eq C 34 dX12_glance_18 (by decide) hF (fun hF => ?_) (fun hF => ?_)
    · refine x_ldc2 C (-1000000000000000000) dX12_glance_34 cl_X12_375 ?_
      exact x_lret C dX12_glance_37 rfl (congrArg Prod.fst (Option.some.inj hF)) (congrArg (fun q9 : Int64 × xS => RW K ad rest q9.2) (Option.some.inj hF))
    · refine x_iload C 4 4 dX12_glance_21 rfl ?_
      refine x_i2l C dX12_glance_23 ?_
      refine x_lconst C 0 dX12_glance_24 (by decide +kernel) ?_
      refine x_ldc2 C 9999 dX12_glance_25 cl_X12_380 ?_
      refine x_callSI C (wf := RW K ad rest) (As := [.long (a4.toInt64), .long 0, .long 9999]) (rest := []) dX12_glance_28 ml_X12_117 rfl rfl (Nat.le_of_ble_eq_true rfl) ⟨Nat.le_of_ble_eq_true rfl, Nat.le_of_ble_eq_true rfl⟩ ⟨Nat.zero_le _, Nat.zero_le _⟩ (fun q9 hq9 => c_X12_in l D K ad rest (a4.toInt64) 0 9999 σ2 q9 hq9) hF (fun v5 σ4 hF => ?_)
      refine x_if_ne C 38 dX12_glance_31 (by decide) hF (fun hF => ?_) (fun hF => ?_)
      · refine x_lconst C 0 dX12_glance_38 (by decide +kernel) ?_
        refine x_topL hF (fun x6 hF => ?_)
        refine x_lstore C [(6, .long x6), (0, .ref (ad 0)), (1, .int a1), (2, .int a2), (3, .int a3), (4, .int a4), (5, .int a5)] dX12_glance_39 (by decide) rfl ?_
        refine x_lconst C 0 dX12_glance_41 (by decide +kernel) ?_
        refine x_topL hF (fun x7 hF => ?_)
        refine x_lstore C [(8, .long x7), (6, .long x6), (0, .ref (ad 0)), (1, .int a1), (2, .int a2), (3, .int a3), (4, .int a4), (5, .int a5)] dX12_glance_42 (by decide) rfl ?_
        refine x_lconst C 0 dX12_glance_44 (by decide +kernel) ?_
        refine x_topL hF (fun x8 hF => ?_)
        refine x_lstore C [(10, .long x8), (8, .long x7), (6, .long x6), (0, .ref (ad 0)), (1, .int a1), (2, .int a2), (3, .int a3), (4, .int a4), (5, .int a5)] dX12_glance_45 (by decide) rfl ?_
        refine x_lconst C 0 dX12_glance_47 (by decide +kernel) ?_
        refine x_topL hF (fun x9 hF => ?_)
        refine x_lstore C [(12, .long x9), (10, .long x8), (8, .long x7), (6, .long x6), (0, .ref (ad 0)), (1, .int a1), (2, .int a2), (3, .int a3), (4, .int a4), (5, .int a5)] dX12_glance_48 (by decide) rfl ?_
        refine x_iconst C 0 dX12_glance_50 (by decide +kernel) ?_
        refine x_topI hF (fun x10 hF => ?_)
        refine x_istore C [(14, .int x10), (12, .long x9), (10, .long x8), (8, .long x7), (6, .long x6), (0, .ref (ad 0)), (1, .int a1), (2, .int a2), (3, .int a3), (4, .int a4), (5, .int a5)] dX12_glance_51 (by decide) rfl ?_
        refine x_loc [(0, .ref (ad 0)), (1, .int a1), (2, .int a2), (3, .int a3), (4, .int a4), (5, .int a5), (6, .long x6), (8, .long x7), (10, .long x8), (12, .long x9), (14, .int x10)] [5, 6, 7, 8, 9, 10, 4, 3, 2, 1, 0] rfl ?_
        exact x_X12_glance_53 C z FU a1 a2 a3 a4 a5 x6 x7 x8 x9 x10 σ4 hF
      · refine x_ldc2 C (-1000000000000000000) dX12_glance_34 cl_X12_375 ?_
        exact x_lret C dX12_glance_37 rfl (congrArg Prod.fst (Option.some.inj hF)) (congrArg (fun q9 : Int64 × xS => RW K ad rest q9.2) (Option.some.inj hF))
theorem dX12_canLie_0 : decode cX12_canLie 0 = .ok (.iload_n 1, 1) := by decide +kernel
theorem dX12_canLie_1 : decode cX12_canLie 1 = .ok (.i2l, 1) := by decide +kernel
theorem dX12_canLie_2 : decode cX12_canLie 2 = .ok (.lconst 0, 1) := by decide +kernel
theorem dX12_canLie_3 : decode cX12_canLie 3 = .ok (.iconst 1, 1) := by decide +kernel
theorem dX12_canLie_4 : decode cX12_canLie 4 = .ok (.aload_n 0, 1) := by decide +kernel
theorem dX12_canLie_5 : decode cX12_canLie 5 = .ok (.getfield 13, 3) := by decide +kernel
theorem dX12_canLie_8 : decode cX12_canLie 8 = .ok (.iconst 0, 1) := by decide +kernel
theorem dX12_canLie_9 : decode cX12_canLie 9 = .ok (.iaload, 1) := by decide +kernel
theorem dX12_canLie_10 : decode cX12_canLie 10 = .ok (.ishl, 1) := by decide +kernel
theorem dX12_canLie_11 : decode cX12_canLie 11 = .ok (.i2l, 1) := by decide +kernel
theorem dX12_canLie_12 : decode cX12_canLie 12 = .ok (.lconst 1, 1) := by decide +kernel
theorem dX12_canLie_13 : decode cX12_canLie 13 = .ok (.lsub, 1) := by decide +kernel
theorem dX12_canLie_14 : decode cX12_canLie 14 = .ok (.invokestatic 117, 3) := by decide +kernel
theorem dX12_canLie_17 : decode cX12_canLie 17 = .ok (.istore_n 2, 1) := by decide +kernel
theorem dX12_canLie_18 : decode cX12_canLie 18 = .ok (.iconst 0, 1) := by decide +kernel
theorem dX12_canLie_19 : decode cX12_canLie 19 = .ok (.istore_n 3, 1) := by decide +kernel
theorem dX12_canLie_20 : decode cX12_canLie 20 = .ok (.iload_n 3, 1) := by decide +kernel
theorem dX12_canLie_21 : decode cX12_canLie 21 = .ok (.aload_n 0, 1) := by decide +kernel
theorem dX12_canLie_22 : decode cX12_canLie 22 = .ok (.getfield 13, 3) := by decide +kernel
theorem dX12_canLie_25 : decode cX12_canLie 25 = .ok (.iconst 0, 1) := by decide +kernel
theorem dX12_canLie_26 : decode cX12_canLie 26 = .ok (.iaload, 1) := by decide +kernel
theorem dX12_canLie_27 : decode cX12_canLie 27 = .ok (.if_icmp .ge 37, 3) := by decide +kernel
theorem dX12_canLie_30 : decode cX12_canLie 30 = .ok (.iload_n 2, 1) := by decide +kernel
theorem dX12_canLie_31 : decode cX12_canLie 31 = .ok (.ifCond .eq 25, 3) := by decide +kernel
theorem dX12_canLie_34 : decode cX12_canLie 34 = .ok (.iload_n 1, 1) := by decide +kernel
theorem dX12_canLie_35 : decode cX12_canLie 35 = .ok (.iload_n 3, 1) := by decide +kernel
theorem dX12_canLie_36 : decode cX12_canLie 36 = .ok (.invokestatic 397, 3) := by decide +kernel
theorem dX12_canLie_39 : decode cX12_canLie 39 = .ok (.ifCond .eq 13, 3) := by decide +kernel
theorem dX12_canLie_42 : decode cX12_canLie 42 = .ok (.aload_n 0, 1) := by decide +kernel
theorem dX12_canLie_43 : decode cX12_canLie 43 = .ok (.iload_n 3, 1) := by decide +kernel
theorem dX12_canLie_44 : decode cX12_canLie 44 = .ok (.iconst 4, 1) := by decide +kernel
theorem dX12_canLie_45 : decode cX12_canLie 45 = .ok (.invokevirtual 150, 3) := by decide +kernel
theorem dX12_canLie_48 : decode cX12_canLie 48 = .ok (.iconst 2, 1) := by decide +kernel
theorem dX12_canLie_49 : decode cX12_canLie 49 = .ok (.if_icmp .eq 7, 3) := by decide +kernel
theorem dX12_canLie_52 : decode cX12_canLie 52 = .ok (.iconst 1, 1) := by decide +kernel
theorem dX12_canLie_53 : decode cX12_canLie 53 = .ok (.goto 4, 3) := by decide +kernel
theorem dX12_canLie_56 : decode cX12_canLie 56 = .ok (.iconst 0, 1) := by decide +kernel
theorem dX12_canLie_57 : decode cX12_canLie 57 = .ok (.istore_n 2, 1) := by decide +kernel
theorem dX12_canLie_58 : decode cX12_canLie 58 = .ok (.iinc 3 1, 3) := by decide +kernel
theorem dX12_canLie_61 : decode cX12_canLie 61 = .ok (.goto (-41), 3) := by decide +kernel
theorem dX12_canLie_64 : decode cX12_canLie 64 = .ok (.iload_n 2, 1) := by decide +kernel
theorem dX12_canLie_65 : decode cX12_canLie 65 = .ok (.ireturn, 1) := by decide +kernel
set_option maxHeartbeats 4000000 in
set_option maxRecDepth 100000 in
theorem x_X12_canLie_56 {p : Program} {l : Launch} {e : Env} {s : State} {m : MethodId} {args : Array Value} {below : List Frame} {meth : Method} {c : Code} {D : va_G} {K : Nat → ClassId} {A : Nat → Prop} {ad : Nat → Nat} {rest : va_W} (C : xC p s m args meth c D K A RX12 cX12_canLie 4 (some .boolean)) (z : Int32 × xS) (k_20 : Int32 → Int32 → Int32 → xS → Option (Int32 × xS)) (H_20 : ∀ (y1 : Int32) (y2 : Int32) (y3 : Int32) (σ : xS), k_20 y1 y2 y3 σ = some z → X p l e (xR 1 25) s m args below meth c D A 4 (xQi below D K A args s z.1 (RW K ad rest z.2)) 0 0 20 [(0, .ref (ad 0)), (1, .int y1), (2, .int y2), (3, .int y3)] [] (RW K ad rest σ)) : ∀ (y1 : Int32) (y3 : Int32) (σ : xS), F_X12_canLie_56 k_20 y1 y3 σ = some z → X p l e (xR 1 25) s m args below meth c D A 4 (xQi below D K A args s z.1 (RW K ad rest z.2)) 0 0 56 [(0, .ref (ad 0)), (1, .int y1), (3, .int y3)] [] (RW K ad rest σ) := by
  intro y1 y3 σ hF
  unfold F_X12_canLie_56 at hF
  refine x_iconst C 0 dX12_canLie_56 (by decide +kernel) ?_
  refine x_topI hF (fun x10 hF => ?_)
  refine x_istore_n C [(2, .int x10), (0, .ref (ad 0)), (1, .int y1), (3, .int y3)] dX12_canLie_57 rfl (by decide) rfl ?_
  refine x_iincN C 1 3 (fun x11 => [(3, .int x11), (2, .int x10), (0, .ref (ad 0)), (1, .int y1)]) dX12_canLie_58 rfl (by decide +kernel) (by decide) (fun _ => rfl) hF (fun x11 hF => ?_)
  refine x_goto C 20 dX12_canLie_61 (by decide) ?_
  refine x_loc [(0, .ref (ad 0)), (1, .int y1), (2, .int x10), (3, .int x11)] [2, 3, 1, 0] rfl ?_
  exact H_20 y1 x10 x11 σ hF
set_option maxHeartbeats 4000000 in
set_option maxRecDepth 100000 in
theorem x_X12_canLie_52 {p : Program} {l : Launch} {e : Env} {s : State} {m : MethodId} {args : Array Value} {below : List Frame} {meth : Method} {c : Code} {D : va_G} {K : Nat → ClassId} {A : Nat → Prop} {ad : Nat → Nat} {rest : va_W} (C : xC p s m args meth c D K A RX12 cX12_canLie 4 (some .boolean)) (z : Int32 × xS) (k_20 : Int32 → Int32 → Int32 → xS → Option (Int32 × xS)) (H_20 : ∀ (y1 : Int32) (y2 : Int32) (y3 : Int32) (σ : xS), k_20 y1 y2 y3 σ = some z → X p l e (xR 1 25) s m args below meth c D A 4 (xQi below D K A args s z.1 (RW K ad rest z.2)) 0 0 20 [(0, .ref (ad 0)), (1, .int y1), (2, .int y2), (3, .int y3)] [] (RW K ad rest σ)) : ∀ (y1 : Int32) (y3 : Int32) (σ : xS), F_X12_canLie_52 k_20 y1 y3 σ = some z → X p l e (xR 1 25) s m args below meth c D A 4 (xQi below D K A args s z.1 (RW K ad rest z.2)) 0 0 52 [(0, .ref (ad 0)), (1, .int y1), (3, .int y3)] [] (RW K ad rest σ) := by
  intro y1 y3 σ hF
  unfold F_X12_canLie_52 at hF
  refine x_iconst C 1 dX12_canLie_52 (by decide +kernel) ?_
  refine x_goto C 57 dX12_canLie_53 (by decide) ?_
  refine x_topI hF (fun x12 hF => ?_)
  refine x_istore_n C [(2, .int x12), (0, .ref (ad 0)), (1, .int y1), (3, .int y3)] dX12_canLie_57 rfl (by decide) rfl ?_
  refine x_iincN C 1 3 (fun x13 => [(3, .int x13), (2, .int x12), (0, .ref (ad 0)), (1, .int y1)]) dX12_canLie_58 rfl (by decide +kernel) (by decide) (fun _ => rfl) hF (fun x13 hF => ?_)
  refine x_goto C 20 dX12_canLie_61 (by decide) ?_
  refine x_loc [(0, .ref (ad 0)), (1, .int y1), (2, .int x12), (3, .int x13)] [2, 3, 1, 0] rfl ?_
  exact H_20 y1 x12 x13 σ hF
set_option maxHeartbeats 4000000 in
set_option maxRecDepth 100000 in
theorem x_X12_canLie_20 {p : Program} {l : Launch} {e : Env} {s : State} {m : MethodId} {args : Array Value} {below : List Frame} {meth : Method} {c : Code} {D : va_G} {K : Nat → ClassId} {A : Nat → Prop} {ad : Nat → Nat} {rest : va_W} (C : xC p s m args meth c D K A RX12 cX12_canLie 4 (some .boolean)) (z : Int32 × xS) : ∀ (n : Nat) (y1 : Int32) (y2 : Int32) (y3 : Int32) (σ : xS), F_X12_canLie_20  n y1 y2 y3 σ = some z → X p l e (xR 1 25) s m args below meth c D A 4 (xQi below D K A args s z.1 (RW K ad rest z.2)) 0 0 20 [(0, .ref (ad 0)), (1, .int y1), (2, .int y2), (3, .int y3)] [] (RW K ad rest σ) := by
  intro n
  induction n with
  | zero =>
    intro y1 y2 y3 σ hF
    cases hF
  | succ n ih =>
    intro y1 y2 y3 σ hF
    rw [F_X12_canLie_20] at hF
    refine x_iload_n C 3 3 dX12_canLie_20 rfl rfl ?_
    refine x_aload_n C 0 0 dX12_canLie_21 rfl rfl ?_
    refine x_get C 0 dX12_canLie_22 fl_X12_13 (RW_o K ad rest σ) rfl ?_
    refine x_iconst C 0 dX12_canLie_25 (by decide +kernel) ?_
    refine x_iald C 2 dX12_canLie_26 (RW_a3 K ad rest σ) hF (fun v5 hF => ?_)
    refine x_icmp_ge C 64 dX12_canLie_27 (by decide) hF (fun hF => ?_) (fun hF => ?_)
    · refine x_iload_n C 2 2 dX12_canLie_64 rfl rfl ?_
      have hz := (cz_some hF).1
      replace hF := (cz_some hF).2
      exact x_zret C dX12_canLie_65 rfl hz (congrArg Prod.fst (Option.some.inj hF)) (congrArg (fun q9 : Int32 × xS => RW K ad rest q9.2) (Option.some.inj hF))
    · refine x_iload_n C 2 2 dX12_canLie_30 rfl rfl ?_
      refine x_if_eq C 56 dX12_canLie_31 (by decide) hF (fun hF => ?_) (fun hF => ?_)
      · refine x_loc [(0, .ref (ad 0)), (1, .int y1), (3, .int y3)] [0, 1, 3] rfl ?_
        exact x_X12_canLie_56 C z ((F_X12_canLie_20 n)) ih y1 y3 σ hF
      · refine x_iload_n C 1 1 dX12_canLie_34 rfl rfl ?_
        refine x_iload_n C 3 3 dX12_canLie_35 rfl rfl ?_
        refine x_callSI C (wf := RW K ad rest) (As := [.int y1, .int y3]) (rest := []) dX12_canLie_36 ml_X12_397 rfl rfl (Nat.le_of_ble_eq_true rfl) ⟨Nat.le_of_ble_eq_true rfl, Nat.le_of_ble_eq_true rfl⟩ ⟨Nat.zero_le _, Nat.zero_le _⟩ (fun q9 hq9 => c_X12_is l D K ad rest y1 y3 σ q9 hq9) hF (fun v7 σ6 hF => ?_)
        refine x_if_eq C 52 dX12_canLie_39 (by decide) hF (fun hF => ?_) (fun hF => ?_)
        · refine x_loc [(0, .ref (ad 0)), (1, .int y1), (3, .int y3)] [0, 1, 3] rfl ?_
          exact x_X12_canLie_52 C z ((F_X12_canLie_20 n)) ih y1 y3 σ6 hF
        · refine x_aload_n C 0 0 dX12_canLie_42 rfl rfl ?_
          refine x_iload_n C 3 3 dX12_canLie_43 rfl rfl ?_
          refine x_iconst C 4 dX12_canLie_44 (by decide +kernel) ?_
          refine x_callVI C (wf := RW K ad rest) (As := [.int y3, .int 4]) (rest := []) dX12_canLie_45 ml_X12_150 rfl rfl (Nat.le_of_ble_eq_true rfl) 0 (RW_o K ad rest σ6) rfl ⟨Nat.le_of_ble_eq_true rfl, Nat.le_of_ble_eq_true rfl⟩ ⟨Nat.zero_le _, Nat.zero_le _⟩ (fun q9 hq9 => c_X12_ofBook l D K ad rest y3 4 σ6 q9 hq9) hF (fun v9 σ8 hF => ?_)
          refine x_iconst C 2 dX12_canLie_48 (by decide +kernel) ?_
          refine x_icmp_eq C 56 dX12_canLie_49 (by decide) hF (fun hF => ?_) (fun hF => ?_)
          · refine x_loc [(0, .ref (ad 0)), (1, .int y1), (3, .int y3)] [0, 1, 3] rfl ?_
            exact x_X12_canLie_56 C z ((F_X12_canLie_20 n)) ih y1 y3 σ8 hF
          · refine x_loc [(0, .ref (ad 0)), (1, .int y1), (3, .int y3)] [0, 1, 3] rfl ?_
            exact x_X12_canLie_52 C z ((F_X12_canLie_20 n)) ih y1 y3 σ8 hF
set_option maxHeartbeats 4000000 in
set_option maxRecDepth 100000 in
theorem c_X12_canLie (l : Launch) (D : va_G) (K : Nat → ClassId) (ad : Nat → Nat) (rest : va_W) (a1 : Int32) (σ : xS) (z : Int32 × xS) (hF : F_X12_canLie a1 σ = some z) : CI l D K yX12_canLie cX12_canLie 4 (some .boolean) 1 25 [.ref (ad 0), .int a1] (RW K ad rest σ) z.1 (RW K ad rest z.2) := by
  refine x_enterI [(0, .ref (ad 0)), (1, .int a1)] pnX12 (Nat.le_of_ble_eq_true rfl) rfl ?_
  intro p e s m args below meth c A C
  unfold F_X12_canLie at hF
  refine x_iload_n C 1 1 dX12_canLie_0 rfl rfl ?_
  refine x_i2l C dX12_canLie_1 ?_
  refine x_lconst C 0 dX12_canLie_2 (by decide +kernel) ?_
  refine x_iconst C 1 dX12_canLie_3 (by decide +kernel) ?_
  refine x_aload_n C 0 0 dX12_canLie_4 rfl rfl ?_
  refine x_get C 0 dX12_canLie_5 fl_X12_13 (RW_o K ad rest σ) rfl ?_
  refine x_iconst C 0 dX12_canLie_8 (by decide +kernel) ?_
  refine x_iald C 2 dX12_canLie_9 (RW_a3 K ad rest σ) hF (fun v1 hF => ?_)
  refine x_ishl C dX12_canLie_10 ?_
  refine x_i2l C dX12_canLie_11 ?_
  refine x_lconst C 1 dX12_canLie_12 (by decide +kernel) ?_
  refine x_lsub C dX12_canLie_13 ?_
  refine x_callSI C (wf := RW K ad rest) (As := [.long (a1.toInt64), .long 0, .long ((((1 : Int32) <<< (v1 &&& 31)).toInt64) - 1)]) (rest := []) dX12_canLie_14 ml_X12_117 rfl rfl (Nat.le_of_ble_eq_true rfl) ⟨Nat.le_of_ble_eq_true rfl, Nat.le_of_ble_eq_true rfl⟩ ⟨Nat.zero_le _, Nat.zero_le _⟩ (fun q9 hq9 => c_X12_in l D K ad rest (a1.toInt64) 0 ((((1 : Int32) <<< (v1 &&& 31)).toInt64) - 1) σ q9 hq9) hF (fun v3 σ2 hF => ?_)
  refine x_istore_n C [(2, .int v3), (0, .ref (ad 0)), (1, .int a1)] dX12_canLie_17 rfl (by decide) rfl ?_
  refine x_iconst C 0 dX12_canLie_18 (by decide +kernel) ?_
  refine x_topI hF (fun x4 hF => ?_)
  refine x_istore_n C [(3, .int x4), (2, .int v3), (0, .ref (ad 0)), (1, .int a1)] dX12_canLie_19 rfl (by decide) rfl ?_
  refine x_loc [(0, .ref (ad 0)), (1, .int a1), (2, .int v3), (3, .int x4)] [2, 3, 1, 0] rfl ?_
  exact x_X12_canLie_20 C z FU a1 v3 x4 σ2 hF
theorem dX12_crowdOf_0 : decode cX12_crowdOf 0 = .ok (.iconst 0, 1) := by decide +kernel
theorem dX12_crowdOf_1 : decode cX12_crowdOf 1 = .ok (.istore_n 2, 1) := by decide +kernel
theorem dX12_crowdOf_2 : decode cX12_crowdOf 2 = .ok (.aload_n 0, 1) := by decide +kernel
theorem dX12_crowdOf_3 : decode cX12_crowdOf 3 = .ok (.iconst 0, 1) := by decide +kernel
theorem dX12_crowdOf_4 : decode cX12_crowdOf 4 = .ok (.putfield 333, 3) := by decide +kernel
theorem dX12_crowdOf_7 : decode cX12_crowdOf 7 = .ok (.iconst 0, 1) := by decide +kernel
theorem dX12_crowdOf_8 : decode cX12_crowdOf 8 = .ok (.istore_n 3, 1) := by decide +kernel
theorem dX12_crowdOf_9 : decode cX12_crowdOf 9 = .ok (.iload_n 3, 1) := by decide +kernel
theorem dX12_crowdOf_10 : decode cX12_crowdOf 10 = .ok (.aload_n 0, 1) := by decide +kernel
theorem dX12_crowdOf_11 : decode cX12_crowdOf 11 = .ok (.getfield 13, 3) := by decide +kernel
theorem dX12_crowdOf_14 : decode cX12_crowdOf 14 = .ok (.iconst 0, 1) := by decide +kernel
theorem dX12_crowdOf_15 : decode cX12_crowdOf 15 = .ok (.iaload, 1) := by decide +kernel
theorem dX12_crowdOf_16 : decode cX12_crowdOf 16 = .ok (.if_icmp .ge 29, 3) := by decide +kernel
theorem dX12_crowdOf_19 : decode cX12_crowdOf 19 = .ok (.iload_n 2, 1) := by decide +kernel
theorem dX12_crowdOf_20 : decode cX12_crowdOf 20 = .ok (.iload_n 1, 1) := by decide +kernel
theorem dX12_crowdOf_21 : decode cX12_crowdOf 21 = .ok (.iload_n 3, 1) := by decide +kernel
theorem dX12_crowdOf_22 : decode cX12_crowdOf 22 = .ok (.invokestatic 397, 3) := by decide +kernel
theorem dX12_crowdOf_25 : decode cX12_crowdOf 25 = .ok (.ifCond .eq 11, 3) := by decide +kernel
theorem dX12_crowdOf_28 : decode cX12_crowdOf 28 = .ok (.aload_n 0, 1) := by decide +kernel
theorem dX12_crowdOf_29 : decode cX12_crowdOf 29 = .ok (.iload_n 3, 1) := by decide +kernel
theorem dX12_crowdOf_30 : decode cX12_crowdOf 30 = .ok (.invokevirtual 354, 3) := by decide +kernel
theorem dX12_crowdOf_33 : decode cX12_crowdOf 33 = .ok (.goto 4, 3) := by decide +kernel
theorem dX12_crowdOf_36 : decode cX12_crowdOf 36 = .ok (.iconst 0, 1) := by decide +kernel
theorem dX12_crowdOf_37 : decode cX12_crowdOf 37 = .ok (.iadd, 1) := by decide +kernel
theorem dX12_crowdOf_38 : decode cX12_crowdOf 38 = .ok (.istore_n 2, 1) := by decide +kernel
theorem dX12_crowdOf_39 : decode cX12_crowdOf 39 = .ok (.iinc 3 1, 3) := by decide +kernel
theorem dX12_crowdOf_42 : decode cX12_crowdOf 42 = .ok (.goto (-33), 3) := by decide +kernel
theorem dX12_crowdOf_45 : decode cX12_crowdOf 45 = .ok (.iload_n 2, 1) := by decide +kernel
theorem dX12_crowdOf_46 : decode cX12_crowdOf 46 = .ok (.ireturn, 1) := by decide +kernel
set_option maxHeartbeats 4000000 in
set_option maxRecDepth 100000 in
theorem x_X12_crowdOf_37 {p : Program} {l : Launch} {e : Env} {s : State} {m : MethodId} {args : Array Value} {below : List Frame} {meth : Method} {c : Code} {D : va_G} {K : Nat → ClassId} {A : Nat → Prop} {ad : Nat → Nat} {rest : va_W} (C : xC p s m args meth c D K A RX12 cX12_crowdOf 4 (some .int)) (z : Int32 × xS) (k_9 : Int32 → Int32 → Int32 → xS → Option (Int32 × xS)) (H_9 : ∀ (y1 : Int32) (y2 : Int32) (y3 : Int32) (σ : xS), k_9 y1 y2 y3 σ = some z → X p l e (xR 5 123) s m args below meth c D A 4 (xQi below D K A args s z.1 (RW K ad rest z.2)) 0 0 9 [(0, .ref (ad 0)), (1, .int y1), (2, .int y2), (3, .int y3)] [] (RW K ad rest σ)) : ∀ (y1 : Int32) (y3 : Int32) (t0 : Int32) (t1 : Int32) (σ : xS), F_X12_crowdOf_37 k_9 y1 y3 t0 t1 σ = some z → X p l e (xR 5 123) s m args below meth c D A 4 (xQi below D K A args s z.1 (RW K ad rest z.2)) 0 0 37 [(0, .ref (ad 0)), (1, .int y1), (3, .int y3)] [.int t1, .int t0] (RW K ad rest σ) := by
  intro y1 y3 t0 t1 σ hF
  unfold F_X12_crowdOf_37 at hF
  refine x_iadd C dX12_crowdOf_37 ?_
  refine x_topI hF (fun x9 hF => ?_)
  refine x_istore_n C [(2, .int x9), (0, .ref (ad 0)), (1, .int y1), (3, .int y3)] dX12_crowdOf_38 rfl (by decide) rfl ?_
  refine x_iincN C 1 3 (fun x10 => [(3, .int x10), (2, .int x9), (0, .ref (ad 0)), (1, .int y1)]) dX12_crowdOf_39 rfl (by decide +kernel) (by decide) (fun _ => rfl) hF (fun x10 hF => ?_)
  refine x_goto C 9 dX12_crowdOf_42 (by decide) ?_
  refine x_loc [(0, .ref (ad 0)), (1, .int y1), (2, .int x9), (3, .int x10)] [2, 3, 1, 0] rfl ?_
  exact H_9 y1 x9 x10 σ hF
set_option maxHeartbeats 4000000 in
set_option maxRecDepth 100000 in
theorem x_X12_crowdOf_9 {p : Program} {l : Launch} {e : Env} {s : State} {m : MethodId} {args : Array Value} {below : List Frame} {meth : Method} {c : Code} {D : va_G} {K : Nat → ClassId} {A : Nat → Prop} {ad : Nat → Nat} {rest : va_W} (C : xC p s m args meth c D K A RX12 cX12_crowdOf 4 (some .int)) (z : Int32 × xS) : ∀ (n : Nat) (y1 : Int32) (y2 : Int32) (y3 : Int32) (σ : xS), F_X12_crowdOf_9  n y1 y2 y3 σ = some z → X p l e (xR 5 123) s m args below meth c D A 4 (xQi below D K A args s z.1 (RW K ad rest z.2)) 0 0 9 [(0, .ref (ad 0)), (1, .int y1), (2, .int y2), (3, .int y3)] [] (RW K ad rest σ) := by
  intro n
  induction n with
  | zero =>
    intro y1 y2 y3 σ hF
    cases hF
  | succ n ih =>
    intro y1 y2 y3 σ hF
    rw [F_X12_crowdOf_9] at hF
    refine x_iload_n C 3 3 dX12_crowdOf_9 rfl rfl ?_
    refine x_aload_n C 0 0 dX12_crowdOf_10 rfl rfl ?_
    refine x_get C 0 dX12_crowdOf_11 fl_X12_13 (RW_o K ad rest σ) rfl ?_
    refine x_iconst C 0 dX12_crowdOf_14 (by decide +kernel) ?_
    refine x_iald C 2 dX12_crowdOf_15 (RW_a3 K ad rest σ) hF (fun v4 hF => ?_)
    refine x_icmp_ge C 45 dX12_crowdOf_16 (by decide) hF (fun hF => ?_) (fun hF => ?_)
    · refine x_iload_n C 2 2 dX12_crowdOf_45 rfl rfl ?_
      exact x_iret C dX12_crowdOf_46 rfl (congrArg Prod.fst (Option.some.inj hF)) (congrArg (fun q9 : Int32 × xS => RW K ad rest q9.2) (Option.some.inj hF))
    · refine x_iload_n C 2 2 dX12_crowdOf_19 rfl rfl ?_
      refine x_iload_n C 1 1 dX12_crowdOf_20 rfl rfl ?_
      refine x_iload_n C 3 3 dX12_crowdOf_21 rfl rfl ?_
      refine x_callSI C (wf := RW K ad rest) (As := [.int y1, .int y3]) (rest := [.int y2]) dX12_crowdOf_22 ml_X12_397 rfl rfl (Nat.le_of_ble_eq_true rfl) ⟨Nat.le_of_ble_eq_true rfl, Nat.le_of_ble_eq_true rfl⟩ ⟨Nat.zero_le _, Nat.zero_le _⟩ (fun q9 hq9 => c_X12_is l D K ad rest y1 y3 σ q9 hq9) hF (fun v6 σ5 hF => ?_)
      refine x_if_eq C 36 dX12_crowdOf_25 (by decide) hF (fun hF => ?_) (fun hF => ?_)
      · refine x_iconst C 0 dX12_crowdOf_36 (by decide +kernel) ?_
        refine x_loc [(0, .ref (ad 0)), (1, .int y1), (3, .int y3)] [0, 1, 3] rfl ?_
        exact x_X12_crowdOf_37 C z ((F_X12_crowdOf_9 n)) ih y1 y3 y2 0 σ5 hF
      · refine x_aload_n C 0 0 dX12_crowdOf_28 rfl rfl ?_
        refine x_iload_n C 3 3 dX12_crowdOf_29 rfl rfl ?_
        refine x_callVI C (wf := RW K ad rest) (As := [.int y3]) (rest := [.int y2]) dX12_crowdOf_30 ml_X12_354 rfl rfl (Nat.le_of_ble_eq_true rfl) 0 (RW_o K ad rest σ5) rfl ⟨Nat.le_of_ble_eq_true rfl, Nat.le_of_ble_eq_true rfl⟩ ⟨Nat.zero_le _, Nat.zero_le _⟩ (fun q9 hq9 => c_X12_drawsOf l D K ad rest y3 σ5 q9 hq9) hF (fun v8 σ7 hF => ?_)
        refine x_goto C 37 dX12_crowdOf_33 (by decide) ?_
        refine x_loc [(0, .ref (ad 0)), (1, .int y1), (3, .int y3)] [0, 1, 3] rfl ?_
        exact x_X12_crowdOf_37 C z ((F_X12_crowdOf_9 n)) ih y1 y3 y2 v8 σ7 hF
set_option maxHeartbeats 4000000 in
set_option maxRecDepth 100000 in
theorem c_X12_crowdOf (l : Launch) (D : va_G) (K : Nat → ClassId) (ad : Nat → Nat) (rest : va_W) (a1 : Int32) (σ : xS) (z : Int32 × xS) (hF : F_X12_crowdOf a1 σ = some z) : CI l D K yX12_crowdOf cX12_crowdOf 4 (some .int) 5 123 [.ref (ad 0), .int a1] (RW K ad rest σ) z.1 (RW K ad rest z.2) := by
  refine x_enterI [(0, .ref (ad 0)), (1, .int a1)] pnX12 (Nat.le_of_ble_eq_true rfl) rfl ?_
  intro p e s m args below meth c A C
  unfold F_X12_crowdOf at hF
  refine x_iconst C 0 dX12_crowdOf_0 (by decide +kernel) ?_
  refine x_topI hF (fun x1 hF => ?_)
  refine x_istore_n C [(2, .int x1), (0, .ref (ad 0)), (1, .int a1)] dX12_crowdOf_1 rfl (by decide) rfl ?_
  refine x_aload_n C 1 0 dX12_crowdOf_2 rfl rfl ?_
  refine x_iconst C 0 dX12_crowdOf_3 (by decide +kernel) ?_
  refine x_put C 0 dX12_crowdOf_4 fl_X12_333 fm_X12_34 rfl rfl (RW_o K ad rest σ) (Nat.le_of_ble_eq_true rfl) (RW_s34 K ad rest σ _) ?_
  refine x_st (wf := RW K ad rest) hF (fun σ2 hF => ?_)
  refine x_iconst C 0 dX12_crowdOf_7 (by decide +kernel) ?_
  refine x_topI hF (fun x3 hF => ?_)
  refine x_istore_n C [(3, .int x3), (2, .int x1), (0, .ref (ad 0)), (1, .int a1)] dX12_crowdOf_8 rfl (by decide) rfl ?_
  refine x_loc [(0, .ref (ad 0)), (1, .int a1), (2, .int x1), (3, .int x3)] [2, 3, 1, 0] rfl ?_
  exact x_X12_crowdOf_9 C z FU a1 x1 x3 σ2 hF
theorem dX12_incomeOf_0 : decode cX12_incomeOf 0 = .ok (.aload_n 0, 1) := by decide +kernel
theorem dX12_incomeOf_1 : decode cX12_incomeOf 1 = .ok (.iload_n 1, 1) := by decide +kernel
theorem dX12_incomeOf_2 : decode cX12_incomeOf 2 = .ok (.invokevirtual 400, 3) := by decide +kernel
theorem dX12_incomeOf_5 : decode cX12_incomeOf 5 = .ok (.istore_n 2, 1) := by decide +kernel
theorem dX12_incomeOf_6 : decode cX12_incomeOf 6 = .ok (.lconst 0, 1) := by decide +kernel
theorem dX12_incomeOf_7 : decode cX12_incomeOf 7 = .ok (.lstore_n 3, 1) := by decide +kernel
theorem dX12_incomeOf_8 : decode cX12_incomeOf 8 = .ok (.iconst 0, 1) := by decide +kernel
theorem dX12_incomeOf_9 : decode cX12_incomeOf 9 = .ok (.istore 5, 2) := by decide +kernel
theorem dX12_incomeOf_11 : decode cX12_incomeOf 11 = .ok (.iload 5, 2) := by decide +kernel
theorem dX12_incomeOf_13 : decode cX12_incomeOf 13 = .ok (.aload_n 0, 1) := by decide +kernel
theorem dX12_incomeOf_14 : decode cX12_incomeOf 14 = .ok (.getfield 13, 3) := by decide +kernel
theorem dX12_incomeOf_17 : decode cX12_incomeOf 17 = .ok (.iconst 0, 1) := by decide +kernel
theorem dX12_incomeOf_18 : decode cX12_incomeOf 18 = .ok (.iaload, 1) := by decide +kernel
theorem dX12_incomeOf_19 : decode cX12_incomeOf 19 = .ok (.if_icmp .ge 78, 3) := by decide +kernel
theorem dX12_incomeOf_22 : decode cX12_incomeOf 22 = .ok (.aload_n 0, 1) := by decide +kernel
theorem dX12_incomeOf_23 : decode cX12_incomeOf 23 = .ok (.iload 5, 2) := by decide +kernel
theorem dX12_incomeOf_25 : decode cX12_incomeOf 25 = .ok (.iconst 4, 1) := by decide +kernel
theorem dX12_incomeOf_26 : decode cX12_incomeOf 26 = .ok (.invokevirtual 150, 3) := by decide +kernel
theorem dX12_incomeOf_29 : decode cX12_incomeOf 29 = .ok (.istore 6, 2) := by decide +kernel
theorem dX12_incomeOf_31 : decode cX12_incomeOf 31 = .ok (.aload_n 0, 1) := by decide +kernel
theorem dX12_incomeOf_32 : decode cX12_incomeOf 32 = .ok (.iload_n 1, 1) := by decide +kernel
theorem dX12_incomeOf_33 : decode cX12_incomeOf 33 = .ok (.iload 5, 2) := by decide +kernel
theorem dX12_incomeOf_35 : decode cX12_incomeOf 35 = .ok (.invokestatic 397, 3) := by decide +kernel
theorem dX12_incomeOf_38 : decode cX12_incomeOf 38 = .ok (.ifCond .eq 7, 3) := by decide +kernel
theorem dX12_incomeOf_41 : decode cX12_incomeOf 41 = .ok (.iconst 1, 1) := by decide +kernel
theorem dX12_incomeOf_42 : decode cX12_incomeOf 42 = .ok (.goto 15, 3) := by decide +kernel
theorem dX12_incomeOf_45 : decode cX12_incomeOf 45 = .ok (.iload 6, 2) := by decide +kernel
theorem dX12_incomeOf_47 : decode cX12_incomeOf 47 = .ok (.iconst 1, 1) := by decide +kernel
theorem dX12_incomeOf_48 : decode cX12_incomeOf 48 = .ok (.if_icmp .ne 7, 3) := by decide +kernel
theorem dX12_incomeOf_51 : decode cX12_incomeOf 51 = .ok (.iconst 0, 1) := by decide +kernel
theorem dX12_incomeOf_52 : decode cX12_incomeOf 52 = .ok (.goto 5, 3) := by decide +kernel
theorem dX12_incomeOf_55 : decode cX12_incomeOf 55 = .ok (.iload 6, 2) := by decide +kernel
theorem dX12_incomeOf_57 : decode cX12_incomeOf 57 = .ok (.putfield 330, 3) := by decide +kernel
theorem dX12_incomeOf_60 : decode cX12_incomeOf 60 = .ok (.aload_n 0, 1) := by decide +kernel
theorem dX12_incomeOf_61 : decode cX12_incomeOf 61 = .ok (.iload_n 2, 1) := by decide +kernel
theorem dX12_incomeOf_62 : decode cX12_incomeOf 62 = .ok (.putfield 336, 3) := by decide +kernel
theorem dX12_incomeOf_65 : decode cX12_incomeOf 65 = .ok (.lload_n 3, 1) := by decide +kernel
theorem dX12_incomeOf_66 : decode cX12_incomeOf 66 = .ok (.aload_n 0, 1) := by decide +kernel
theorem dX12_incomeOf_67 : decode cX12_incomeOf 67 = .ok (.iload 5, 2) := by decide +kernel
theorem dX12_incomeOf_69 : decode cX12_incomeOf 69 = .ok (.iconst 3, 1) := by decide +kernel
theorem dX12_incomeOf_70 : decode cX12_incomeOf 70 = .ok (.invokevirtual 150, 3) := by decide +kernel
theorem dX12_incomeOf_73 : decode cX12_incomeOf 73 = .ok (.i2l, 1) := by decide +kernel
theorem dX12_incomeOf_74 : decode cX12_incomeOf 74 = .ok (.aload_n 0, 1) := by decide +kernel
theorem dX12_incomeOf_75 : decode cX12_incomeOf 75 = .ok (.iload 5, 2) := by decide +kernel
theorem dX12_incomeOf_77 : decode cX12_incomeOf 77 = .ok (.aload_n 0, 1) := by decide +kernel
theorem dX12_incomeOf_78 : decode cX12_incomeOf 78 = .ok (.iload 5, 2) := by decide +kernel
theorem dX12_incomeOf_80 : decode cX12_incomeOf 80 = .ok (.iconst 3, 1) := by decide +kernel
theorem dX12_incomeOf_81 : decode cX12_incomeOf 81 = .ok (.invokevirtual 150, 3) := by decide +kernel
theorem dX12_incomeOf_84 : decode cX12_incomeOf 84 = .ok (.invokevirtual 351, 3) := by decide +kernel
theorem dX12_incomeOf_87 : decode cX12_incomeOf 87 = .ok (.i2l, 1) := by decide +kernel
theorem dX12_incomeOf_88 : decode cX12_incomeOf 88 = .ok (.lmul, 1) := by decide +kernel
theorem dX12_incomeOf_89 : decode cX12_incomeOf 89 = .ok (.ladd, 1) := by decide +kernel
theorem dX12_incomeOf_90 : decode cX12_incomeOf 90 = .ok (.lstore_n 3, 1) := by decide +kernel
theorem dX12_incomeOf_91 : decode cX12_incomeOf 91 = .ok (.iinc 5 1, 3) := by decide +kernel
theorem dX12_incomeOf_94 : decode cX12_incomeOf 94 = .ok (.goto (-83), 3) := by decide +kernel
theorem dX12_incomeOf_97 : decode cX12_incomeOf 97 = .ok (.lload_n 3, 1) := by decide +kernel
theorem dX12_incomeOf_98 : decode cX12_incomeOf 98 = .ok (.lreturn, 1) := by decide +kernel
set_option maxHeartbeats 4000000 in
set_option maxRecDepth 100000 in
theorem x_X12_incomeOf_57 {p : Program} {l : Launch} {e : Env} {s : State} {m : MethodId} {args : Array Value} {below : List Frame} {meth : Method} {c : Code} {D : va_G} {K : Nat → ClassId} {A : Nat → Prop} {ad : Nat → Nat} {rest : va_W} (C : xC p s m args meth c D K A RX12 cX12_incomeOf 7 (some .long)) (z : Int64 × xS) (k_11 : Int32 → Int32 → Int64 → Int32 → xS → Option (Int64 × xS)) (H_11 : ∀ (y1 : Int32) (y2 : Int32) (y3 : Int64) (y5 : Int32) (σ : xS), k_11 y1 y2 y3 y5 σ = some z → X p l e (xR 6 146) s m args below meth c D A 7 (xQl below D K A args s z.1 (RW K ad rest z.2)) 0 0 11 [(0, .ref (ad 0)), (1, .int y1), (2, .int y2), (3, .long y3), (5, .int y5)] [] (RW K ad rest σ)) : ∀ (y1 : Int32) (y2 : Int32) (y3 : Int64) (y5 : Int32) (t1 : Int32) (σ : xS), F_X12_incomeOf_57 k_11 y1 y2 y3 y5 t1 σ = some z → X p l e (xR 6 146) s m args below meth c D A 7 (xQl below D K A args s z.1 (RW K ad rest z.2)) 0 0 57 [(0, .ref (ad 0)), (1, .int y1), (2, .int y2), (3, .long y3), (5, .int y5)] [.int t1, .ref (ad 0)] (RW K ad rest σ) := by
  intro y1 y2 y3 y5 t1 σ hF
  unfold F_X12_incomeOf_57 at hF
  refine x_put C 0 dX12_incomeOf_57 fl_X12_330 fm_X12_33 rfl rfl (RW_o K ad rest σ) (Nat.le_of_ble_eq_true rfl) (RW_s33 K ad rest σ _) ?_
  refine x_st (wf := RW K ad rest) hF (fun σ10 hF => ?_)
  refine x_aload_n C 0 0 dX12_incomeOf_60 rfl rfl ?_
  refine x_iload_n C 2 2 dX12_incomeOf_61 rfl rfl ?_
  refine x_put C 0 dX12_incomeOf_62 fl_X12_336 fm_X12_35 rfl rfl (RW_o K ad rest σ10) (Nat.le_of_ble_eq_true rfl) (RW_s35 K ad rest σ10 _) ?_
  refine x_st (wf := RW K ad rest) hF (fun σ11 hF => ?_)
  refine x_lload_n C 3 3 dX12_incomeOf_65 rfl rfl ?_
  refine x_aload_n C 0 0 dX12_incomeOf_66 rfl rfl ?_
  refine x_iload C 4 5 dX12_incomeOf_67 rfl ?_
  refine x_iconst C 3 dX12_incomeOf_69 (by decide +kernel) ?_
  refine x_callVI C (wf := RW K ad rest) (As := [.int y5, .int 3]) (rest := [.long y3]) dX12_incomeOf_70 ml_X12_150 rfl rfl (Nat.le_of_ble_eq_true rfl) 0 (RW_o K ad rest σ11) rfl ⟨Nat.le_of_ble_eq_true rfl, Nat.le_of_ble_eq_true rfl⟩ ⟨Nat.zero_le _, Nat.zero_le _⟩ (fun q9 hq9 => c_X12_ofBook l D K ad rest y5 3 σ11 q9 hq9) hF (fun v13 σ12 hF => ?_)
  refine x_i2l C dX12_incomeOf_73 ?_
  refine x_aload_n C 0 0 dX12_incomeOf_74 rfl rfl ?_
  refine x_iload C 4 5 dX12_incomeOf_75 rfl ?_
  refine x_aload_n C 0 0 dX12_incomeOf_77 rfl rfl ?_
  refine x_iload C 4 5 dX12_incomeOf_78 rfl ?_
  refine x_iconst C 3 dX12_incomeOf_80 (by decide +kernel) ?_
  refine x_callVI C (wf := RW K ad rest) (As := [.int y5, .int 3]) (rest := [.int y5, .ref (ad 0), .long (v13.toInt64), .long y3]) dX12_incomeOf_81 ml_X12_150 rfl rfl (Nat.le_of_ble_eq_true rfl) 0 (RW_o K ad rest σ12) rfl ⟨Nat.le_of_ble_eq_true rfl, Nat.le_of_ble_eq_true rfl⟩ ⟨Nat.zero_le _, Nat.zero_le _⟩ (fun q9 hq9 => c_X12_ofBook l D K ad rest y5 3 σ12 q9 hq9) hF (fun v15 σ14 hF => ?_)
  refine x_callVI C (wf := RW K ad rest) (As := [.int y5, .int v15]) (rest := [.long (v13.toInt64), .long y3]) dX12_incomeOf_84 ml_X12_351 rfl rfl (Nat.le_of_ble_eq_true rfl) 0 (RW_o K ad rest σ14) rfl ⟨Nat.le_of_ble_eq_true rfl, Nat.le_of_ble_eq_true rfl⟩ ⟨Nat.zero_le _, Nat.zero_le _⟩ (fun q9 hq9 => c_X12_sells l D K ad rest y5 v15 σ14 q9 hq9) hF (fun v17 σ16 hF => ?_)
  refine x_i2l C dX12_incomeOf_87 ?_
  refine x_lmul C dX12_incomeOf_88 ?_
  refine x_ladd C dX12_incomeOf_89 ?_
  refine x_topL hF (fun x18 hF => ?_)
  refine x_lstore_n C [(3, .long x18), (0, .ref (ad 0)), (1, .int y1), (2, .int y2), (5, .int y5)] dX12_incomeOf_90 rfl (by decide) rfl ?_
  refine x_iincN C 1 4 (fun x19 => [(5, .int x19), (3, .long x18), (0, .ref (ad 0)), (1, .int y1), (2, .int y2)]) dX12_incomeOf_91 rfl (by decide +kernel) (by decide) (fun _ => rfl) hF (fun x19 hF => ?_)
  refine x_goto C 11 dX12_incomeOf_94 (by decide) ?_
  refine x_loc [(0, .ref (ad 0)), (1, .int y1), (2, .int y2), (3, .long x18), (5, .int x19)] [2, 3, 4, 1, 0] rfl ?_
  exact H_11 y1 y2 x18 x19 σ16 hF
set_option maxHeartbeats 4000000 in
set_option maxRecDepth 100000 in
theorem x_X12_incomeOf_11 {p : Program} {l : Launch} {e : Env} {s : State} {m : MethodId} {args : Array Value} {below : List Frame} {meth : Method} {c : Code} {D : va_G} {K : Nat → ClassId} {A : Nat → Prop} {ad : Nat → Nat} {rest : va_W} (C : xC p s m args meth c D K A RX12 cX12_incomeOf 7 (some .long)) (z : Int64 × xS) : ∀ (n : Nat) (y1 : Int32) (y2 : Int32) (y3 : Int64) (y5 : Int32) (σ : xS), F_X12_incomeOf_11  n y1 y2 y3 y5 σ = some z → X p l e (xR 6 146) s m args below meth c D A 7 (xQl below D K A args s z.1 (RW K ad rest z.2)) 0 0 11 [(0, .ref (ad 0)), (1, .int y1), (2, .int y2), (3, .long y3), (5, .int y5)] [] (RW K ad rest σ) := by
  intro n
  induction n with
  | zero =>
    intro y1 y2 y3 y5 σ hF
    cases hF
  | succ n ih =>
    intro y1 y2 y3 y5 σ hF
    rw [F_X12_incomeOf_11] at hF
    refine x_iload C 4 5 dX12_incomeOf_11 rfl ?_
    refine x_aload_n C 0 0 dX12_incomeOf_13 rfl rfl ?_
    refine x_get C 0 dX12_incomeOf_14 fl_X12_13 (RW_o K ad rest σ) rfl ?_
    refine x_iconst C 0 dX12_incomeOf_17 (by decide +kernel) ?_
    refine x_iald C 2 dX12_incomeOf_18 (RW_a3 K ad rest σ) hF (fun v5 hF => ?_)
    refine x_icmp_ge C 97 dX12_incomeOf_19 (by decide) hF (fun hF => ?_) (fun hF => ?_)
    · refine x_lload_n C 3 3 dX12_incomeOf_97 rfl rfl ?_
      exact x_lret C dX12_incomeOf_98 rfl (congrArg Prod.fst (Option.some.inj hF)) (congrArg (fun q9 : Int64 × xS => RW K ad rest q9.2) (Option.some.inj hF))
    · refine x_aload_n C 0 0 dX12_incomeOf_22 rfl rfl ?_
      refine x_iload C 4 5 dX12_incomeOf_23 rfl ?_
      refine x_iconst C 4 dX12_incomeOf_25 (by decide +kernel) ?_
      refine x_callVI C (wf := RW K ad rest) (As := [.int y5, .int 4]) (rest := []) dX12_incomeOf_26 ml_X12_150 rfl rfl (Nat.le_of_ble_eq_true rfl) 0 (RW_o K ad rest σ) rfl ⟨Nat.le_of_ble_eq_true rfl, Nat.le_of_ble_eq_true rfl⟩ ⟨Nat.zero_le _, Nat.zero_le _⟩ (fun q9 hq9 => c_X12_ofBook l D K ad rest y5 4 σ q9 hq9) hF (fun v7 σ6 hF => ?_)
      refine x_istore C [(6, .int v7), (0, .ref (ad 0)), (1, .int y1), (2, .int y2), (3, .long y3), (5, .int y5)] dX12_incomeOf_29 (by decide) rfl ?_
      refine x_aload_n C 1 0 dX12_incomeOf_31 rfl rfl ?_
      refine x_iload_n C 2 1 dX12_incomeOf_32 rfl rfl ?_
      refine x_iload C 5 5 dX12_incomeOf_33 rfl ?_
      refine x_callSI C (wf := RW K ad rest) (As := [.int y1, .int y5]) (rest := [.ref (ad 0)]) dX12_incomeOf_35 ml_X12_397 rfl rfl (Nat.le_of_ble_eq_true rfl) ⟨Nat.le_of_ble_eq_true rfl, Nat.le_of_ble_eq_true rfl⟩ ⟨Nat.zero_le _, Nat.zero_le _⟩ (fun q9 hq9 => c_X12_is l D K ad rest y1 y5 σ6 q9 hq9) hF (fun v9 σ8 hF => ?_)
      refine x_if_eq C 45 dX12_incomeOf_38 (by decide) hF (fun hF => ?_) (fun hF => ?_)
      · refine x_iload C 0 6 dX12_incomeOf_45 rfl ?_
        refine x_iconst C 1 dX12_incomeOf_47 (by decide +kernel) ?_
        refine x_icmp_ne C 55 dX12_incomeOf_48 (by decide) hF (fun hF => ?_) (fun hF => ?_)
        · refine x_iload C 0 6 dX12_incomeOf_55 rfl ?_
          refine x_loc [(0, .ref (ad 0)), (1, .int y1), (2, .int y2), (3, .long y3), (5, .int y5)] [1, 2, 3, 4, 5] rfl ?_
          exact x_X12_incomeOf_57 C z ((F_X12_incomeOf_11 n)) ih y1 y2 y3 y5 v7 σ8 hF
        · refine x_iconst C 0 dX12_incomeOf_51 (by decide +kernel) ?_
          refine x_goto C 57 dX12_incomeOf_52 (by decide) ?_
          refine x_loc [(0, .ref (ad 0)), (1, .int y1), (2, .int y2), (3, .long y3), (5, .int y5)] [1, 2, 3, 4, 5] rfl ?_
          exact x_X12_incomeOf_57 C z ((F_X12_incomeOf_11 n)) ih y1 y2 y3 y5 0 σ8 hF
      · refine x_iconst C 1 dX12_incomeOf_41 (by decide +kernel) ?_
        refine x_goto C 57 dX12_incomeOf_42 (by decide) ?_
        refine x_loc [(0, .ref (ad 0)), (1, .int y1), (2, .int y2), (3, .long y3), (5, .int y5)] [1, 2, 3, 4, 5] rfl ?_
        exact x_X12_incomeOf_57 C z ((F_X12_incomeOf_11 n)) ih y1 y2 y3 y5 1 σ8 hF
set_option maxHeartbeats 4000000 in
set_option maxRecDepth 100000 in
theorem c_X12_incomeOf (l : Launch) (D : va_G) (K : Nat → ClassId) (ad : Nat → Nat) (rest : va_W) (a1 : Int32) (σ : xS) (z : Int64 × xS) (hF : F_X12_incomeOf a1 σ = some z) : CL l D K yX12_incomeOf cX12_incomeOf 7 (some .long) 6 146 [.ref (ad 0), .int a1] (RW K ad rest σ) z.1 (RW K ad rest z.2) := by
  refine x_enterL [(0, .ref (ad 0)), (1, .int a1)] pnX12 (Nat.le_of_ble_eq_true rfl) rfl ?_
  intro p e s m args below meth c A C
  unfold F_X12_incomeOf at hF
  refine x_aload_n C 0 0 dX12_incomeOf_0 rfl rfl ?_
  refine x_iload_n C 1 1 dX12_incomeOf_1 rfl rfl ?_
  refine x_callVI C (wf := RW K ad rest) (As := [.int a1]) (rest := []) dX12_incomeOf_2 ml_X12_400 rfl rfl (Nat.le_of_ble_eq_true rfl) 0 (RW_o K ad rest σ) rfl ⟨Nat.le_of_ble_eq_true rfl, Nat.le_of_ble_eq_true rfl⟩ ⟨Nat.zero_le _, Nat.zero_le _⟩ (fun q9 hq9 => c_X12_crowdOf l D K ad rest a1 σ q9 hq9) hF (fun v2 σ1 hF => ?_)
  refine x_istore_n C [(2, .int v2), (0, .ref (ad 0)), (1, .int a1)] dX12_incomeOf_5 rfl (by decide) rfl ?_
  refine x_lconst C 0 dX12_incomeOf_6 (by decide +kernel) ?_
  refine x_topL hF (fun x3 hF => ?_)
  refine x_lstore_n C [(3, .long x3), (2, .int v2), (0, .ref (ad 0)), (1, .int a1)] dX12_incomeOf_7 rfl (by decide) rfl ?_
  refine x_iconst C 0 dX12_incomeOf_8 (by decide +kernel) ?_
  refine x_topI hF (fun x4 hF => ?_)
  refine x_istore C [(5, .int x4), (3, .long x3), (2, .int v2), (0, .ref (ad 0)), (1, .int a1)] dX12_incomeOf_9 (by decide) rfl ?_
  refine x_loc [(0, .ref (ad 0)), (1, .int a1), (2, .int v2), (3, .long x3), (5, .int x4)] [3, 4, 2, 1, 0] rfl ?_
  exact x_X12_incomeOf_11 C z FU a1 v2 x3 x4 σ1 hF
theorem dX12_income_0 : decode cX12_income 0 = .ok (.aload_n 0, 1) := by decide +kernel
theorem dX12_income_1 : decode cX12_income 1 = .ok (.iconst 0, 1) := by decide +kernel
theorem dX12_income_2 : decode cX12_income 2 = .ok (.putfield 107, 3) := by decide +kernel
theorem dX12_income_5 : decode cX12_income 5 = .ok (.aload_n 0, 1) := by decide +kernel
theorem dX12_income_6 : decode cX12_income 6 = .ok (.iload_n 1, 1) := by decide +kernel
theorem dX12_income_7 : decode cX12_income 7 = .ok (.invokevirtual 403, 3) := by decide +kernel
theorem dX12_income_10 : decode cX12_income 10 = .ok (.ifCond .eq 11, 3) := by decide +kernel
theorem dX12_income_13 : decode cX12_income 13 = .ok (.aload_n 0, 1) := by decide +kernel
theorem dX12_income_14 : decode cX12_income 14 = .ok (.iload_n 1, 1) := by decide +kernel
theorem dX12_income_15 : decode cX12_income 15 = .ok (.invokevirtual 406, 3) := by decide +kernel
theorem dX12_income_18 : decode cX12_income 18 = .ok (.goto 6, 3) := by decide +kernel
theorem dX12_income_21 : decode cX12_income 21 = .ok (.ldc2_w 375, 3) := by decide +kernel
theorem dX12_income_24 : decode cX12_income 24 = .ok (.lreturn, 1) := by decide +kernel
set_option maxHeartbeats 4000000 in
set_option maxRecDepth 100000 in
theorem c_X12_income (l : Launch) (D : va_G) (K : Nat → ClassId) (ad : Nat → Nat) (rest : va_W) (a1 : Int32) (σ : xS) (z : Int64 × xS) (hF : F_X12_income a1 σ = some z) : CL l D K yX12_income cX12_income 2 (some .long) 7 172 [.ref (ad 0), .int a1] (RW K ad rest σ) z.1 (RW K ad rest z.2) := by
  refine x_enterL [(0, .ref (ad 0)), (1, .int a1)] pnX12 (Nat.le_of_ble_eq_true rfl) rfl ?_
  intro p e s m args below meth c A C
  unfold F_X12_income at hF
  refine x_aload_n C 0 0 dX12_income_0 rfl rfl ?_
  refine x_iconst C 0 dX12_income_1 (by decide +kernel) ?_
  refine x_put C 0 dX12_income_2 fl_X12_107 fm_X12_0 rfl rfl (RW_o K ad rest σ) (Nat.le_of_ble_eq_true rfl) (RW_s0 K ad rest σ _) ?_
  refine x_st (wf := RW K ad rest) hF (fun σ1 hF => ?_)
  refine x_aload_n C 0 0 dX12_income_5 rfl rfl ?_
  refine x_iload_n C 1 1 dX12_income_6 rfl rfl ?_
  refine x_callVI C (wf := RW K ad rest) (As := [.int a1]) (rest := []) dX12_income_7 ml_X12_403 rfl rfl (Nat.le_of_ble_eq_true rfl) 0 (RW_o K ad rest σ1) rfl ⟨Nat.le_of_ble_eq_true rfl, Nat.le_of_ble_eq_true rfl⟩ ⟨Nat.zero_le _, Nat.zero_le _⟩ (fun q9 hq9 => c_X12_canLie l D K ad rest a1 σ1 q9 hq9) hF (fun v3 σ2 hF => ?_)
  refine x_if_eq C 21 dX12_income_10 (by decide) hF (fun hF => ?_) (fun hF => ?_)
  · refine x_ldc2 C (-1000000000000000000) dX12_income_21 cl_X12_375 ?_
    exact x_lret C dX12_income_24 rfl (congrArg Prod.fst (Option.some.inj hF)) (congrArg (fun q9 : Int64 × xS => RW K ad rest q9.2) (Option.some.inj hF))
  · refine x_aload_n C 0 0 dX12_income_13 rfl rfl ?_
    refine x_iload_n C 1 1 dX12_income_14 rfl rfl ?_
    refine x_callVL C (wf := RW K ad rest) (As := [.int a1]) (rest := []) dX12_income_15 ml_X12_406 rfl rfl (Nat.le_of_ble_eq_true rfl) 0 (RW_o K ad rest σ2) rfl ⟨Nat.le_of_ble_eq_true rfl, Nat.le_of_ble_eq_true rfl⟩ ⟨Nat.zero_le _, Nat.zero_le _⟩ (fun q9 hq9 => c_X12_incomeOf l D K ad rest a1 σ2 q9 hq9) hF (fun v5 σ4 hF => ?_)
    refine x_goto C 24 dX12_income_18 (by decide) ?_
    exact x_lret C dX12_income_24 rfl (congrArg Prod.fst (Option.some.inj hF)) (congrArg (fun q9 : Int64 × xS => RW K ad rest q9.2) (Option.some.inj hF))
theorem dX12_bits_0 : decode cX12_bits 0 = .ok (.iconst 0, 1) := by decide +kernel
theorem dX12_bits_1 : decode cX12_bits 1 = .ok (.istore_n 1, 1) := by decide +kernel
theorem dX12_bits_2 : decode cX12_bits 2 = .ok (.iconst 0, 1) := by decide +kernel
theorem dX12_bits_3 : decode cX12_bits 3 = .ok (.istore_n 2, 1) := by decide +kernel
theorem dX12_bits_4 : decode cX12_bits 4 = .ok (.iload_n 2, 1) := by decide +kernel
theorem dX12_bits_5 : decode cX12_bits 5 = .ok (.bipush 10, 2) := by decide +kernel
theorem dX12_bits_7 : decode cX12_bits 7 = .ok (.if_icmp .ge 17, 3) := by decide +kernel
theorem dX12_bits_10 : decode cX12_bits 10 = .ok (.iload_n 1, 1) := by decide +kernel
theorem dX12_bits_11 : decode cX12_bits 11 = .ok (.iload_n 0, 1) := by decide +kernel
theorem dX12_bits_12 : decode cX12_bits 12 = .ok (.iload_n 2, 1) := by decide +kernel
theorem dX12_bits_13 : decode cX12_bits 13 = .ok (.ishr, 1) := by decide +kernel
theorem dX12_bits_14 : decode cX12_bits 14 = .ok (.iconst 1, 1) := by decide +kernel
theorem dX12_bits_15 : decode cX12_bits 15 = .ok (.iand, 1) := by decide +kernel
theorem dX12_bits_16 : decode cX12_bits 16 = .ok (.iadd, 1) := by decide +kernel
theorem dX12_bits_17 : decode cX12_bits 17 = .ok (.istore_n 1, 1) := by decide +kernel
theorem dX12_bits_18 : decode cX12_bits 18 = .ok (.iinc 2 1, 3) := by decide +kernel
theorem dX12_bits_21 : decode cX12_bits 21 = .ok (.goto (-17), 3) := by decide +kernel
theorem dX12_bits_24 : decode cX12_bits 24 = .ok (.iload_n 1, 1) := by decide +kernel
theorem dX12_bits_25 : decode cX12_bits 25 = .ok (.ireturn, 1) := by decide +kernel
set_option maxHeartbeats 4000000 in
set_option maxRecDepth 100000 in
theorem x_X12_bits_4 {p : Program} {l : Launch} {e : Env} {s : State} {m : MethodId} {args : Array Value} {below : List Frame} {meth : Method} {c : Code} {D : va_G} {K : Nat → ClassId} {A : Nat → Prop} {ad : Nat → Nat} {rest : va_W} (C : xC p s m args meth c D K A RX12 cX12_bits 3 (some .int)) (z : Int32 × xS) : ∀ (n : Nat) (y0 : Int32) (y1 : Int32) (y2 : Int32) (σ : xS), F_X12_bits_4  n y0 y1 y2 σ = some z → X p l e (xR 0 0) s m args below meth c D A 3 (xQi below D K A args s z.1 (RW K ad rest z.2)) 0 0 4 [(0, .int y0), (1, .int y1), (2, .int y2)] [] (RW K ad rest σ) := by
  intro n
  induction n with
  | zero =>
    intro y0 y1 y2 σ hF
    cases hF
  | succ n ih =>
    intro y0 y1 y2 σ hF
    rw [F_X12_bits_4] at hF
    refine x_iload_n C 2 2 dX12_bits_4 rfl rfl ?_
    refine x_bipush C 10 dX12_bits_5 (by decide +kernel) ?_
    refine x_icmp_ge C 24 dX12_bits_7 (by decide) hF (fun hF => ?_) (fun hF => ?_)
    · refine x_iload_n C 1 1 dX12_bits_24 rfl rfl ?_
      exact x_iret C dX12_bits_25 rfl (congrArg Prod.fst (Option.some.inj hF)) (congrArg (fun q9 : Int32 × xS => RW K ad rest q9.2) (Option.some.inj hF))
    · refine x_iload_n C 1 1 dX12_bits_10 rfl rfl ?_
      refine x_iload_n C 0 0 dX12_bits_11 rfl rfl ?_
      refine x_iload_n C 2 2 dX12_bits_12 rfl rfl ?_
      refine x_ishr C dX12_bits_13 ?_
      refine x_iconst C 1 dX12_bits_14 (by decide +kernel) ?_
      refine x_iand C dX12_bits_15 ?_
      refine x_iadd C dX12_bits_16 ?_
      refine x_topI hF (fun x3 hF => ?_)
      refine x_istore_n C [(1, .int x3), (0, .int y0), (2, .int y2)] dX12_bits_17 rfl (by decide) rfl ?_
      refine x_iincN C 1 2 (fun x4 => [(2, .int x4), (1, .int x3), (0, .int y0)]) dX12_bits_18 rfl (by decide +kernel) (by decide) (fun _ => rfl) hF (fun x4 hF => ?_)
      refine x_goto C 4 dX12_bits_21 (by decide) ?_
      refine x_loc [(0, .int y0), (1, .int x3), (2, .int x4)] [2, 1, 0] rfl ?_
      exact ih y0 x3 x4 σ hF
set_option maxHeartbeats 4000000 in
set_option maxRecDepth 100000 in
theorem c_X12_bits (l : Launch) (D : va_G) (K : Nat → ClassId) (ad : Nat → Nat) (rest : va_W) (a1 : Int32) (σ : xS) (z : Int32 × xS) (hF : F_X12_bits a1 σ = some z) : CI l D K yX12_bits cX12_bits 3 (some .int) 0 0 [.int a1] (RW K ad rest σ) z.1 (RW K ad rest z.2) := by
  refine x_enterI [(0, .int a1)] pnX12 (Nat.le_of_ble_eq_true rfl) rfl ?_
  intro p e s m args below meth c A C
  unfold F_X12_bits at hF
  refine x_iconst C 0 dX12_bits_0 (by decide +kernel) ?_
  refine x_topI hF (fun x1 hF => ?_)
  refine x_istore_n C [(1, .int x1), (0, .int a1)] dX12_bits_1 rfl (by decide) rfl ?_
  refine x_iconst C 0 dX12_bits_2 (by decide +kernel) ?_
  refine x_topI hF (fun x2 hF => ?_)
  refine x_istore_n C [(2, .int x2), (1, .int x1), (0, .int a1)] dX12_bits_3 rfl (by decide) rfl ?_
  refine x_loc [(0, .int a1), (1, .int x1), (2, .int x2)] [2, 1, 0] rfl ?_
  exact x_X12_bits_4 C z FU a1 x1 x2 σ hF
theorem dX12_best_0 : decode cX12_best 0 = .ok (.aload_n 0, 1) := by decide +kernel
theorem dX12_best_1 : decode cX12_best 1 = .ok (.iconst 0, 1) := by decide +kernel
theorem dX12_best_2 : decode cX12_best 2 = .ok (.putfield 107, 3) := by decide +kernel
theorem dX12_best_5 : decode cX12_best 5 = .ok (.iload_n 1, 1) := by decide +kernel
theorem dX12_best_6 : decode cX12_best 6 = .ok (.i2l, 1) := by decide +kernel
theorem dX12_best_7 : decode cX12_best 7 = .ok (.lconst 0, 1) := by decide +kernel
theorem dX12_best_8 : decode cX12_best 8 = .ok (.ldc2_w 206, 3) := by decide +kernel
theorem dX12_best_11 : decode cX12_best 11 = .ok (.invokestatic 117, 3) := by decide +kernel
theorem dX12_best_14 : decode cX12_best 14 = .ok (.ifCond .eq 15, 3) := by decide +kernel
theorem dX12_best_17 : decode cX12_best 17 = .ok (.iload_n 2, 1) := by decide +kernel
theorem dX12_best_18 : decode cX12_best 18 = .ok (.i2l, 1) := by decide +kernel
theorem dX12_best_19 : decode cX12_best 19 = .ok (.lconst 0, 1) := by decide +kernel
theorem dX12_best_20 : decode cX12_best 20 = .ok (.ldc2_w 130, 3) := by decide +kernel
theorem dX12_best_23 : decode cX12_best 23 = .ok (.invokestatic 117, 3) := by decide +kernel
theorem dX12_best_26 : decode cX12_best 26 = .ok (.ifCond .ne 5, 3) := by decide +kernel
theorem dX12_best_29 : decode cX12_best 29 = .ok (.iconst (-1), 1) := by decide +kernel
theorem dX12_best_30 : decode cX12_best 30 = .ok (.ireturn, 1) := by decide +kernel
theorem dX12_best_31 : decode cX12_best 31 = .ok (.ldc2_w 202, 3) := by decide +kernel
theorem dX12_best_34 : decode cX12_best 34 = .ok (.lstore_n 3, 1) := by decide +kernel
theorem dX12_best_35 : decode cX12_best 35 = .ok (.iconst 0, 1) := by decide +kernel
theorem dX12_best_36 : decode cX12_best 36 = .ok (.istore 5, 2) := by decide +kernel
theorem dX12_best_38 : decode cX12_best 38 = .ok (.iconst 0, 1) := by decide +kernel
theorem dX12_best_39 : decode cX12_best 39 = .ok (.istore 6, 2) := by decide +kernel
theorem dX12_best_41 : decode cX12_best 41 = .ok (.iconst 0, 1) := by decide +kernel
theorem dX12_best_42 : decode cX12_best 42 = .ok (.istore 7, 2) := by decide +kernel
theorem dX12_best_44 : decode cX12_best 44 = .ok (.iload 7, 2) := by decide +kernel
theorem dX12_best_46 : decode cX12_best 46 = .ok (.iconst 1, 1) := by decide +kernel
theorem dX12_best_47 : decode cX12_best 47 = .ok (.aload_n 0, 1) := by decide +kernel
theorem dX12_best_48 : decode cX12_best 48 = .ok (.getfield 13, 3) := by decide +kernel
theorem dX12_best_51 : decode cX12_best 51 = .ok (.iconst 0, 1) := by decide +kernel
theorem dX12_best_52 : decode cX12_best 52 = .ok (.iaload, 1) := by decide +kernel
theorem dX12_best_53 : decode cX12_best 53 = .ok (.ishl, 1) := by decide +kernel
theorem dX12_best_54 : decode cX12_best 54 = .ok (.if_icmp .ge 69, 3) := by decide +kernel
theorem dX12_best_57 : decode cX12_best 57 = .ok (.iload 7, 2) := by decide +kernel
theorem dX12_best_59 : decode cX12_best 59 = .ok (.invokestatic 409, 3) := by decide +kernel
theorem dX12_best_62 : decode cX12_best 62 = .ok (.iload_n 1, 1) := by decide +kernel
theorem dX12_best_63 : decode cX12_best 63 = .ok (.if_icmp .gt 54, 3) := by decide +kernel
theorem dX12_best_66 : decode cX12_best 66 = .ok (.aload_n 0, 1) := by decide +kernel
theorem dX12_best_67 : decode cX12_best 67 = .ok (.iload 7, 2) := by decide +kernel
theorem dX12_best_69 : decode cX12_best 69 = .ok (.invokevirtual 403, 3) := by decide +kernel
theorem dX12_best_72 : decode cX12_best 72 = .ok (.ifCond .eq 45, 3) := by decide +kernel
theorem dX12_best_75 : decode cX12_best 75 = .ok (.aload_n 0, 1) := by decide +kernel
theorem dX12_best_76 : decode cX12_best 76 = .ok (.iload 7, 2) := by decide +kernel
theorem dX12_best_78 : decode cX12_best 78 = .ok (.invokevirtual 406, 3) := by decide +kernel
theorem dX12_best_81 : decode cX12_best 81 = .ok (.lstore 8, 2) := by decide +kernel
theorem dX12_best_83 : decode cX12_best 83 = .ok (.lload 8, 2) := by decide +kernel
theorem dX12_best_85 : decode cX12_best 85 = .ok (.lload_n 3, 1) := by decide +kernel
theorem dX12_best_86 : decode cX12_best 86 = .ok (.lcmp, 1) := by decide +kernel
theorem dX12_best_87 : decode cX12_best 87 = .ok (.ifCond .le 13, 3) := by decide +kernel
theorem dX12_best_90 : decode cX12_best 90 = .ok (.lload 8, 2) := by decide +kernel
theorem dX12_best_92 : decode cX12_best 92 = .ok (.lstore_n 3, 1) := by decide +kernel
theorem dX12_best_93 : decode cX12_best 93 = .ok (.iload 7, 2) := by decide +kernel
theorem dX12_best_95 : decode cX12_best 95 = .ok (.istore 5, 2) := by decide +kernel
theorem dX12_best_97 : decode cX12_best 97 = .ok (.iconst 0, 1) := by decide +kernel
theorem dX12_best_98 : decode cX12_best 98 = .ok (.istore 6, 2) := by decide +kernel
theorem dX12_best_100 : decode cX12_best 100 = .ok (.iload 6, 2) := by decide +kernel
theorem dX12_best_102 : decode cX12_best 102 = .ok (.lload 8, 2) := by decide +kernel
theorem dX12_best_104 : decode cX12_best 104 = .ok (.lload_n 3, 1) := by decide +kernel
theorem dX12_best_105 : decode cX12_best 105 = .ok (.lcmp, 1) := by decide +kernel
theorem dX12_best_106 : decode cX12_best 106 = .ok (.ifCond .ne 7, 3) := by decide +kernel
theorem dX12_best_109 : decode cX12_best 109 = .ok (.iconst 1, 1) := by decide +kernel
theorem dX12_best_110 : decode cX12_best 110 = .ok (.goto 4, 3) := by decide +kernel
theorem dX12_best_113 : decode cX12_best 113 = .ok (.iconst 0, 1) := by decide +kernel
theorem dX12_best_114 : decode cX12_best 114 = .ok (.iadd, 1) := by decide +kernel
theorem dX12_best_115 : decode cX12_best 115 = .ok (.istore 6, 2) := by decide +kernel
theorem dX12_best_117 : decode cX12_best 117 = .ok (.iinc 7 1, 3) := by decide +kernel
theorem dX12_best_120 : decode cX12_best 120 = .ok (.goto (-76), 3) := by decide +kernel
theorem dX12_best_123 : decode cX12_best 123 = .ok (.iload_n 2, 1) := by decide +kernel
theorem dX12_best_124 : decode cX12_best 124 = .ok (.ifCond .ne 8, 3) := by decide +kernel
theorem dX12_best_127 : decode cX12_best 127 = .ok (.iload 5, 2) := by decide +kernel
theorem dX12_best_129 : decode cX12_best 129 = .ok (.goto 19, 3) := by decide +kernel
theorem dX12_best_132 : decode cX12_best 132 = .ok (.iload_n 2, 1) := by decide +kernel
theorem dX12_best_133 : decode cX12_best 133 = .ok (.iconst 1, 1) := by decide +kernel
theorem dX12_best_134 : decode cX12_best 134 = .ok (.if_icmp .ne 12, 3) := by decide +kernel
theorem dX12_best_137 : decode cX12_best 137 = .ok (.aload_n 0, 1) := by decide +kernel
theorem dX12_best_138 : decode cX12_best 138 = .ok (.iload 5, 2) := by decide +kernel
theorem dX12_best_140 : decode cX12_best 140 = .ok (.invokevirtual 400, 3) := by decide +kernel
theorem dX12_best_143 : decode cX12_best 143 = .ok (.goto 5, 3) := by decide +kernel
theorem dX12_best_146 : decode cX12_best 146 = .ok (.iload 6, 2) := by decide +kernel
theorem dX12_best_148 : decode cX12_best 148 = .ok (.ireturn, 1) := by decide +kernel
set_option maxHeartbeats 4000000 in
set_option maxRecDepth 100000 in
theorem x_X12_best_114 {p : Program} {l : Launch} {e : Env} {s : State} {m : MethodId} {args : Array Value} {below : List Frame} {meth : Method} {c : Code} {D : va_G} {K : Nat → ClassId} {A : Nat → Prop} {ad : Nat → Nat} {rest : va_W} (C : xC p s m args meth c D K A RX12 cX12_best 10 (some .int)) (z : Int32 × xS) (k_44 : Int32 → Int32 → Int64 → Int32 → Int32 → Int32 → xS → Option (Int32 × xS)) (H_44 : ∀ (y1 : Int32) (y2 : Int32) (y3 : Int64) (y5 : Int32) (y6 : Int32) (y7 : Int32) (σ : xS), k_44 y1 y2 y3 y5 y6 y7 σ = some z → X p l e (xR 7 172) s m args below meth c D A 10 (xQi below D K A args s z.1 (RW K ad rest z.2)) 0 0 44 [(0, .ref (ad 0)), (1, .int y1), (2, .int y2), (3, .long y3), (5, .int y5), (6, .int y6), (7, .int y7)] [] (RW K ad rest σ)) : ∀ (y1 : Int32) (y2 : Int32) (y3 : Int64) (y5 : Int32) (y7 : Int32) (t0 : Int32) (t1 : Int32) (σ : xS), F_X12_best_114 k_44 y1 y2 y3 y5 y7 t0 t1 σ = some z → X p l e (xR 7 172) s m args below meth c D A 10 (xQi below D K A args s z.1 (RW K ad rest z.2)) 0 0 114 [(0, .ref (ad 0)), (1, .int y1), (2, .int y2), (3, .long y3), (5, .int y5), (7, .int y7)] [.int t1, .int t0] (RW K ad rest σ) := by
  intro y1 y2 y3 y5 y7 t0 t1 σ hF
  unfold F_X12_best_114 at hF
  refine x_iadd C dX12_best_114 ?_
  refine x_topI hF (fun x22 hF => ?_)
  refine x_istore C [(6, .int x22), (0, .ref (ad 0)), (1, .int y1), (2, .int y2), (3, .long y3), (5, .int y5), (7, .int y7)] dX12_best_115 (by decide) rfl ?_
  refine x_iincN C 1 6 (fun x23 => [(7, .int x23), (6, .int x22), (0, .ref (ad 0)), (1, .int y1), (2, .int y2), (3, .long y3), (5, .int y5)]) dX12_best_117 rfl (by decide +kernel) (by decide) (fun _ => rfl) hF (fun x23 hF => ?_)
  refine x_goto C 44 dX12_best_120 (by decide) ?_
  refine x_loc [(0, .ref (ad 0)), (1, .int y1), (2, .int y2), (3, .long y3), (5, .int y5), (6, .int x22), (7, .int x23)] [2, 3, 4, 5, 6, 1, 0] rfl ?_
  exact H_44 y1 y2 y3 y5 x22 x23 σ hF
set_option maxHeartbeats 4000000 in
set_option maxRecDepth 100000 in
theorem x_X12_best_100 {p : Program} {l : Launch} {e : Env} {s : State} {m : MethodId} {args : Array Value} {below : List Frame} {meth : Method} {c : Code} {D : va_G} {K : Nat → ClassId} {A : Nat → Prop} {ad : Nat → Nat} {rest : va_W} (C : xC p s m args meth c D K A RX12 cX12_best 10 (some .int)) (z : Int32 × xS) (k_44 : Int32 → Int32 → Int64 → Int32 → Int32 → Int32 → xS → Option (Int32 × xS)) (H_44 : ∀ (y1 : Int32) (y2 : Int32) (y3 : Int64) (y5 : Int32) (y6 : Int32) (y7 : Int32) (σ : xS), k_44 y1 y2 y3 y5 y6 y7 σ = some z → X p l e (xR 7 172) s m args below meth c D A 10 (xQi below D K A args s z.1 (RW K ad rest z.2)) 0 0 44 [(0, .ref (ad 0)), (1, .int y1), (2, .int y2), (3, .long y3), (5, .int y5), (6, .int y6), (7, .int y7)] [] (RW K ad rest σ)) : ∀ (y1 : Int32) (y2 : Int32) (y3 : Int64) (y5 : Int32) (y6 : Int32) (y7 : Int32) (y8 : Int64) (σ : xS), F_X12_best_100 k_44 y1 y2 y3 y5 y6 y7 y8 σ = some z → X p l e (xR 7 172) s m args below meth c D A 10 (xQi below D K A args s z.1 (RW K ad rest z.2)) 0 0 100 [(0, .ref (ad 0)), (1, .int y1), (2, .int y2), (3, .long y3), (5, .int y5), (6, .int y6), (7, .int y7), (8, .long y8)] [] (RW K ad rest σ) := by
  intro y1 y2 y3 y5 y6 y7 y8 σ hF
  unfold F_X12_best_100 at hF
  refine x_iload C 5 6 dX12_best_100 rfl ?_
  refine x_lload C 7 8 dX12_best_102 rfl ?_
  refine x_lload_n C 3 3 dX12_best_104 rfl rfl ?_
  refine x_lcmp C dX12_best_105 ?_
  refine x_if_ne C 113 dX12_best_106 (by decide) hF (fun hF => ?_) (fun hF => ?_)
  · refine x_iconst C 0 dX12_best_113 (by decide +kernel) ?_
    refine x_loc [(0, .ref (ad 0)), (1, .int y1), (2, .int y2), (3, .long y3), (5, .int y5), (7, .int y7)] [0, 1, 2, 3, 4, 6] rfl ?_
    exact x_X12_best_114 C z k_44 H_44 y1 y2 y3 y5 y7 y6 0 σ hF
  · refine x_iconst C 1 dX12_best_109 (by decide +kernel) ?_
    refine x_goto C 114 dX12_best_110 (by decide) ?_
    refine x_loc [(0, .ref (ad 0)), (1, .int y1), (2, .int y2), (3, .long y3), (5, .int y5), (7, .int y7)] [0, 1, 2, 3, 4, 6] rfl ?_
    exact x_X12_best_114 C z k_44 H_44 y1 y2 y3 y5 y7 y6 1 σ hF
set_option maxHeartbeats 4000000 in
set_option maxRecDepth 100000 in
theorem x_X12_best_44 {p : Program} {l : Launch} {e : Env} {s : State} {m : MethodId} {args : Array Value} {below : List Frame} {meth : Method} {c : Code} {D : va_G} {K : Nat → ClassId} {A : Nat → Prop} {ad : Nat → Nat} {rest : va_W} (C : xC p s m args meth c D K A RX12 cX12_best 10 (some .int)) (z : Int32 × xS) : ∀ (n : Nat) (y1 : Int32) (y2 : Int32) (y3 : Int64) (y5 : Int32) (y6 : Int32) (y7 : Int32) (σ : xS), F_X12_best_44  n y1 y2 y3 y5 y6 y7 σ = some z → X p l e (xR 7 172) s m args below meth c D A 10 (xQi below D K A args s z.1 (RW K ad rest z.2)) 0 0 44 [(0, .ref (ad 0)), (1, .int y1), (2, .int y2), (3, .long y3), (5, .int y5), (6, .int y6), (7, .int y7)] [] (RW K ad rest σ) := by
  intro n
  induction n with
  | zero =>
    intro y1 y2 y3 y5 y6 y7 σ hF
    cases hF
  | succ n ih =>
    intro y1 y2 y3 y5 y6 y7 σ hF
    rw [F_X12_best_44] at hF
    refine x_iload C 6 7 dX12_best_44 rfl ?_
    refine x_iconst C 1 dX12_best_46 (by decide +kernel) ?_
    refine x_aload_n C 0 0 dX12_best_47 rfl rfl ?_
    refine x_get C 0 dX12_best_48 fl_X12_13 (RW_o K ad rest σ) rfl ?_
    refine x_iconst C 0 dX12_best_51 (by decide +kernel) ?_
    refine x_iald C 2 dX12_best_52 (RW_a3 K ad rest σ) hF (fun v10 hF => ?_)
    refine x_ishl C dX12_best_53 ?_
    refine x_icmp_ge C 123 dX12_best_54 (by decide) hF (fun hF => ?_) (fun hF => ?_)
    · refine x_iload_n C 2 2 dX12_best_123 rfl rfl ?_
      refine x_if_ne C 132 dX12_best_124 (by decide) hF (fun hF => ?_) (fun hF => ?_)
      · refine x_iload_n C 2 2 dX12_best_132 rfl rfl ?_
        refine x_iconst C 1 dX12_best_133 (by decide +kernel) ?_
        refine x_icmp_ne C 146 dX12_best_134 (by decide) hF (fun hF => ?_) (fun hF => ?_)
        · refine x_iload C 5 6 dX12_best_146 rfl ?_
          exact x_iret C dX12_best_148 rfl (congrArg Prod.fst (Option.some.inj hF)) (congrArg (fun q9 : Int32 × xS => RW K ad rest q9.2) (Option.some.inj hF))
        · refine x_aload_n C 0 0 dX12_best_137 rfl rfl ?_
          refine x_iload C 4 5 dX12_best_138 rfl ?_
          refine x_callVI C (wf := RW K ad rest) (As := [.int y5]) (rest := []) dX12_best_140 ml_X12_400 rfl rfl (Nat.le_of_ble_eq_true rfl) 0 (RW_o K ad rest σ) rfl ⟨Nat.le_of_ble_eq_true rfl, Nat.le_of_ble_eq_true rfl⟩ ⟨Nat.zero_le _, Nat.zero_le _⟩ (fun q9 hq9 => c_X12_crowdOf l D K ad rest y5 σ q9 hq9) hF (fun v12 σ11 hF => ?_)
          refine x_goto C 148 dX12_best_143 (by decide) ?_
          exact x_iret C dX12_best_148 rfl (congrArg Prod.fst (Option.some.inj hF)) (congrArg (fun q9 : Int32 × xS => RW K ad rest q9.2) (Option.some.inj hF))
      · refine x_iload C 4 5 dX12_best_127 rfl ?_
        refine x_goto C 148 dX12_best_129 (by decide) ?_
        exact x_iret C dX12_best_148 rfl (congrArg Prod.fst (Option.some.inj hF)) (congrArg (fun q9 : Int32 × xS => RW K ad rest q9.2) (Option.some.inj hF))
    · refine x_iload C 6 7 dX12_best_57 rfl ?_
      refine x_callSI C (wf := RW K ad rest) (As := [.int y7]) (rest := []) dX12_best_59 ml_X12_409 rfl rfl (Nat.le_of_ble_eq_true rfl) ⟨Nat.le_of_ble_eq_true rfl, Nat.le_of_ble_eq_true rfl⟩ ⟨Nat.zero_le _, Nat.zero_le _⟩ (fun q9 hq9 => c_X12_bits l D K ad rest y7 σ q9 hq9) hF (fun v14 σ13 hF => ?_)
      refine x_iload_n C 1 1 dX12_best_62 rfl rfl ?_
      refine x_icmp_gt C 117 dX12_best_63 (by decide) hF (fun hF => ?_) (fun hF => ?_)
      · refine x_iincN C 1 6 (fun x15 => [(7, .int x15), (0, .ref (ad 0)), (1, .int y1), (2, .int y2), (3, .long y3), (5, .int y5), (6, .int y6)]) dX12_best_117 rfl (by decide +kernel) (by decide) (fun _ => rfl) hF (fun x15 hF => ?_)
        refine x_goto C 44 dX12_best_120 (by decide) ?_
        refine x_loc [(0, .ref (ad 0)), (1, .int y1), (2, .int y2), (3, .long y3), (5, .int y5), (6, .int y6), (7, .int x15)] [1, 2, 3, 4, 5, 6, 0] rfl ?_
        exact ih y1 y2 y3 y5 y6 x15 σ13 hF
      · refine x_aload_n C 0 0 dX12_best_66 rfl rfl ?_
        refine x_iload C 6 7 dX12_best_67 rfl ?_
        refine x_callVI C (wf := RW K ad rest) (As := [.int y7]) (rest := []) dX12_best_69 ml_X12_403 rfl rfl (Nat.le_of_ble_eq_true rfl) 0 (RW_o K ad rest σ13) rfl ⟨Nat.le_of_ble_eq_true rfl, Nat.le_of_ble_eq_true rfl⟩ ⟨Nat.zero_le _, Nat.zero_le _⟩ (fun q9 hq9 => c_X12_canLie l D K ad rest y7 σ13 q9 hq9) hF (fun v17 σ16 hF => ?_)
        refine x_if_eq C 117 dX12_best_72 (by decide) hF (fun hF => ?_) (fun hF => ?_)
        · refine x_iincN C 1 6 (fun x18 => [(7, .int x18), (0, .ref (ad 0)), (1, .int y1), (2, .int y2), (3, .long y3), (5, .int y5), (6, .int y6)]) dX12_best_117 rfl (by decide +kernel) (by decide) (fun _ => rfl) hF (fun x18 hF => ?_)
          refine x_goto C 44 dX12_best_120 (by decide) ?_
          refine x_loc [(0, .ref (ad 0)), (1, .int y1), (2, .int y2), (3, .long y3), (5, .int y5), (6, .int y6), (7, .int x18)] [1, 2, 3, 4, 5, 6, 0] rfl ?_
          exact ih y1 y2 y3 y5 y6 x18 σ16 hF
        · refine x_aload_n C 0 0 dX12_best_75 rfl rfl ?_
          refine x_iload C 6 7 dX12_best_76 rfl ?_
          refine x_callVL C (wf := RW K ad rest) (As := [.int y7]) (rest := []) dX12_best_78 ml_X12_406 rfl rfl (Nat.le_of_ble_eq_true rfl) 0 (RW_o K ad rest σ16) rfl ⟨Nat.le_of_ble_eq_true rfl, Nat.le_of_ble_eq_true rfl⟩ ⟨Nat.zero_le _, Nat.zero_le _⟩ (fun q9 hq9 => c_X12_incomeOf l D K ad rest y7 σ16 q9 hq9) hF (fun v20 σ19 hF => ?_)
          refine x_lstore C [(8, .long v20), (0, .ref (ad 0)), (1, .int y1), (2, .int y2), (3, .long y3), (5, .int y5), (6, .int y6), (7, .int y7)] dX12_best_81 (by decide) rfl ?_
          refine x_lload C 0 8 dX12_best_83 rfl ?_
          refine x_lload_n C 4 3 dX12_best_85 rfl rfl ?_
          refine x_lcmp C dX12_best_86 ?_
          refine x_if_le C 100 dX12_best_87 (by decide) hF (fun hF => ?_) (fun hF => ?_)
          · refine x_loc [(0, .ref (ad 0)), (1, .int y1), (2, .int y2), (3, .long y3), (5, .int y5), (6, .int y6), (7, .int y7), (8, .long v20)] [1, 2, 3, 4, 5, 6, 7, 0] rfl ?_
            exact x_X12_best_100 C z ((F_X12_best_44 n)) ih y1 y2 y3 y5 y6 y7 v20 σ19 hF
          · refine x_lload C 0 8 dX12_best_90 rfl ?_
            refine x_lstore_n C [(3, .long v20), (8, .long v20), (0, .ref (ad 0)), (1, .int y1), (2, .int y2), (5, .int y5), (6, .int y6), (7, .int y7)] dX12_best_92 rfl (by decide) rfl ?_
            refine x_iload C 7 7 dX12_best_93 rfl ?_
            refine x_istore C [(5, .int y7), (3, .long v20), (8, .long v20), (0, .ref (ad 0)), (1, .int y1), (2, .int y2), (6, .int y6), (7, .int y7)] dX12_best_95 (by decide) rfl ?_
            refine x_iconst C 0 dX12_best_97 (by decide +kernel) ?_
            refine x_topI hF (fun x21 hF => ?_)
            refine x_istore C [(6, .int x21), (5, .int y7), (3, .long v20), (8, .long v20), (0, .ref (ad 0)), (1, .int y1), (2, .int y2), (7, .int y7)] dX12_best_98 (by decide) rfl ?_
            refine x_loc [(0, .ref (ad 0)), (1, .int y1), (2, .int y2), (3, .long v20), (5, .int y7), (6, .int x21), (7, .int y7), (8, .long v20)] [4, 5, 6, 2, 1, 0, 7, 3] rfl ?_
            exact x_X12_best_100 C z ((F_X12_best_44 n)) ih y1 y2 v20 y7 x21 y7 v20 σ19 hF
set_option maxHeartbeats 4000000 in
set_option maxRecDepth 100000 in
theorem c_X12_best (l : Launch) (D : va_G) (K : Nat → ClassId) (ad : Nat → Nat) (rest : va_W) (a1 : Int32) (a2 : Int32) (σ : xS) (z : Int32 × xS) (hF : F_X12_best a1 a2 σ = some z) : CI l D K yX12_best cX12_best 10 (some .int) 7 172 [.ref (ad 0), .int a1, .int a2] (RW K ad rest σ) z.1 (RW K ad rest z.2) := by
  refine x_enterI [(0, .ref (ad 0)), (1, .int a1), (2, .int a2)] pnX12 (Nat.le_of_ble_eq_true rfl) rfl ?_
  intro p e s m args below meth c A C
  unfold F_X12_best at hF
  refine x_aload_n C 0 0 dX12_best_0 rfl rfl ?_
  refine x_iconst C 0 dX12_best_1 (by decide +kernel) ?_
  refine x_put C 0 dX12_best_2 fl_X12_107 fm_X12_0 rfl rfl (RW_o K ad rest σ) (Nat.le_of_ble_eq_true rfl) (RW_s0 K ad rest σ _) ?_
  refine x_st (wf := RW K ad rest) hF (fun σ1 hF => ?_)
  refine x_iload_n C 1 1 dX12_best_5 rfl rfl ?_
  refine x_i2l C dX12_best_6 ?_
  refine x_lconst C 0 dX12_best_7 (by decide +kernel) ?_
  refine x_ldc2 C 10 dX12_best_8 cl_X12_206 ?_
  refine x_callSI C (wf := RW K ad rest) (As := [.long (a1.toInt64), .long 0, .long 10]) (rest := []) dX12_best_11 ml_X12_117 rfl rfl (Nat.le_of_ble_eq_true rfl) ⟨Nat.le_of_ble_eq_true rfl, Nat.le_of_ble_eq_true rfl⟩ ⟨Nat.zero_le _, Nat.zero_le _⟩ (fun q9 hq9 => c_X12_in l D K ad rest (a1.toInt64) 0 10 σ1 q9 hq9) hF (fun v3 σ2 hF => ?_)
  refine x_if_eq C 29 dX12_best_14 (by decide) hF (fun hF => ?_) (fun hF => ?_)
  · refine x_iconst C (-1) dX12_best_29 (by decide +kernel) ?_
    exact x_iret C dX12_best_30 rfl (congrArg Prod.fst (Option.some.inj hF)) (congrArg (fun q9 : Int32 × xS => RW K ad rest q9.2) (Option.some.inj hF))
  · refine x_iload_n C 2 2 dX12_best_17 rfl rfl ?_
    refine x_i2l C dX12_best_18 ?_
    refine x_lconst C 0 dX12_best_19 (by decide +kernel) ?_
    refine x_ldc2 C 2 dX12_best_20 cl_X12_130 ?_
    refine x_callSI C (wf := RW K ad rest) (As := [.long (a2.toInt64), .long 0, .long 2]) (rest := []) dX12_best_23 ml_X12_117 rfl rfl (Nat.le_of_ble_eq_true rfl) ⟨Nat.le_of_ble_eq_true rfl, Nat.le_of_ble_eq_true rfl⟩ ⟨Nat.zero_le _, Nat.zero_le _⟩ (fun q9 hq9 => c_X12_in l D K ad rest (a2.toInt64) 0 2 σ2 q9 hq9) hF (fun v5 σ4 hF => ?_)
    refine x_if_ne C 31 dX12_best_26 (by decide) hF (fun hF => ?_) (fun hF => ?_)
    · refine x_ldc2 C (-1) dX12_best_31 cl_X12_202 ?_
      refine x_topL hF (fun x6 hF => ?_)
      refine x_lstore_n C [(3, .long x6), (0, .ref (ad 0)), (1, .int a1), (2, .int a2)] dX12_best_34 rfl (by decide) rfl ?_
      refine x_iconst C 0 dX12_best_35 (by decide +kernel) ?_
      refine x_topI hF (fun x7 hF => ?_)
      refine x_istore C [(5, .int x7), (3, .long x6), (0, .ref (ad 0)), (1, .int a1), (2, .int a2)] dX12_best_36 (by decide) rfl ?_
      refine x_iconst C 0 dX12_best_38 (by decide +kernel) ?_
      refine x_topI hF (fun x8 hF => ?_)
      refine x_istore C [(6, .int x8), (5, .int x7), (3, .long x6), (0, .ref (ad 0)), (1, .int a1), (2, .int a2)] dX12_best_39 (by decide) rfl ?_
      refine x_iconst C 0 dX12_best_41 (by decide +kernel) ?_
      refine x_topI hF (fun x9 hF => ?_)
      refine x_istore C [(7, .int x9), (6, .int x8), (5, .int x7), (3, .long x6), (0, .ref (ad 0)), (1, .int a1), (2, .int a2)] dX12_best_42 (by decide) rfl ?_
      refine x_loc [(0, .ref (ad 0)), (1, .int a1), (2, .int a2), (3, .long x6), (5, .int x7), (6, .int x8), (7, .int x9)] [4, 5, 6, 3, 2, 1, 0] rfl ?_
      exact x_X12_best_44 C z FU a1 a2 x6 x7 x8 x9 σ4 hF
    · refine x_iconst C (-1) dX12_best_29 (by decide +kernel) ?_
      exact x_iret C dX12_best_30 rfl (congrArg Prod.fst (Option.some.inj hF)) (congrArg (fun q9 : Int32 × xS => RW K ad rest q9.2) (Option.some.inj hF))
theorem dX12_card_0 : decode cX12_card 0 = .ok (.aload_n 0, 1) := by decide +kernel
theorem dX12_card_1 : decode cX12_card 1 = .ok (.iconst 0, 1) := by decide +kernel
theorem dX12_card_2 : decode cX12_card 2 = .ok (.putfield 107, 3) := by decide +kernel
theorem dX12_card_5 : decode cX12_card 5 = .ok (.iload_n 1, 1) := by decide +kernel
theorem dX12_card_6 : decode cX12_card 6 = .ok (.i2l, 1) := by decide +kernel
theorem dX12_card_7 : decode cX12_card 7 = .ok (.lconst 0, 1) := by decide +kernel
theorem dX12_card_8 : decode cX12_card 8 = .ok (.ldc2_w 124, 3) := by decide +kernel
theorem dX12_card_11 : decode cX12_card 11 = .ok (.invokestatic 117, 3) := by decide +kernel
theorem dX12_card_14 : decode cX12_card 14 = .ok (.ifCond .eq 27, 3) := by decide +kernel
theorem dX12_card_17 : decode cX12_card 17 = .ok (.iload_n 2, 1) := by decide +kernel
theorem dX12_card_18 : decode cX12_card 18 = .ok (.i2l, 1) := by decide +kernel
theorem dX12_card_19 : decode cX12_card 19 = .ok (.lconst 0, 1) := by decide +kernel
theorem dX12_card_20 : decode cX12_card 20 = .ok (.ldc2_w 128, 3) := by decide +kernel
theorem dX12_card_23 : decode cX12_card 23 = .ok (.invokestatic 117, 3) := by decide +kernel
theorem dX12_card_26 : decode cX12_card 26 = .ok (.ifCond .eq 15, 3) := by decide +kernel
theorem dX12_card_29 : decode cX12_card 29 = .ok (.iload_n 3, 1) := by decide +kernel
theorem dX12_card_30 : decode cX12_card 30 = .ok (.i2l, 1) := by decide +kernel
theorem dX12_card_31 : decode cX12_card 31 = .ok (.lconst 0, 1) := by decide +kernel
theorem dX12_card_32 : decode cX12_card 32 = .ok (.ldc2_w 126, 3) := by decide +kernel
theorem dX12_card_35 : decode cX12_card 35 = .ok (.invokestatic 117, 3) := by decide +kernel
theorem dX12_card_38 : decode cX12_card 38 = .ok (.ifCond .ne 9, 3) := by decide +kernel
theorem dX12_card_41 : decode cX12_card 41 = .ok (.aload_n 0, 1) := by decide +kernel
theorem dX12_card_42 : decode cX12_card 42 = .ok (.iconst (-1), 1) := by decide +kernel
theorem dX12_card_43 : decode cX12_card 43 = .ok (.invokevirtual 121, 3) := by decide +kernel
theorem dX12_card_46 : decode cX12_card 46 = .ok (.ireturn, 1) := by decide +kernel
theorem dX12_card_47 : decode cX12_card 47 = .ok (.aload_n 0, 1) := by decide +kernel
theorem dX12_card_48 : decode cX12_card 48 = .ok (.getfield 13, 3) := by decide +kernel
theorem dX12_card_51 : decode cX12_card 51 = .ok (.iconst 4, 1) := by decide +kernel
theorem dX12_card_52 : decode cX12_card 52 = .ok (.iaload, 1) := by decide +kernel
theorem dX12_card_53 : decode cX12_card 53 = .ok (.istore 4, 2) := by decide +kernel
theorem dX12_card_55 : decode cX12_card 55 = .ok (.iload 4, 2) := by decide +kernel
theorem dX12_card_57 : decode cX12_card 57 = .ok (.bipush 8, 2) := by decide +kernel
theorem dX12_card_59 : decode cX12_card 59 = .ok (.if_icmp .ne 10, 3) := by decide +kernel
theorem dX12_card_62 : decode cX12_card 62 = .ok (.aload_n 0, 1) := by decide +kernel
theorem dX12_card_63 : decode cX12_card 63 = .ok (.bipush (-5), 2) := by decide +kernel
theorem dX12_card_65 : decode cX12_card 65 = .ok (.invokevirtual 121, 3) := by decide +kernel
theorem dX12_card_68 : decode cX12_card 68 = .ok (.ireturn, 1) := by decide +kernel
theorem dX12_card_69 : decode cX12_card 69 = .ok (.aload_n 0, 1) := by decide +kernel
theorem dX12_card_70 : decode cX12_card 70 = .ok (.getfield 13, 3) := by decide +kernel
theorem dX12_card_73 : decode cX12_card 73 = .ok (.bipush 99, 2) := by decide +kernel
theorem dX12_card_75 : decode cX12_card 75 = .ok (.iconst 3, 1) := by decide +kernel
theorem dX12_card_76 : decode cX12_card 76 = .ok (.iload 4, 2) := by decide +kernel
theorem dX12_card_78 : decode cX12_card 78 = .ok (.imul, 1) := by decide +kernel
theorem dX12_card_79 : decode cX12_card 79 = .ok (.iadd, 1) := by decide +kernel
theorem dX12_card_80 : decode cX12_card 80 = .ok (.iload_n 1, 1) := by decide +kernel
theorem dX12_card_81 : decode cX12_card 81 = .ok (.iastore, 1) := by decide +kernel
theorem dX12_card_82 : decode cX12_card 82 = .ok (.aload_n 0, 1) := by decide +kernel
theorem dX12_card_83 : decode cX12_card 83 = .ok (.getfield 13, 3) := by decide +kernel
theorem dX12_card_86 : decode cX12_card 86 = .ok (.bipush 99, 2) := by decide +kernel
theorem dX12_card_88 : decode cX12_card 88 = .ok (.iconst 3, 1) := by decide +kernel
theorem dX12_card_89 : decode cX12_card 89 = .ok (.iload 4, 2) := by decide +kernel
theorem dX12_card_91 : decode cX12_card 91 = .ok (.imul, 1) := by decide +kernel
theorem dX12_card_92 : decode cX12_card 92 = .ok (.iadd, 1) := by decide +kernel
theorem dX12_card_93 : decode cX12_card 93 = .ok (.iconst 1, 1) := by decide +kernel
theorem dX12_card_94 : decode cX12_card 94 = .ok (.iadd, 1) := by decide +kernel
theorem dX12_card_95 : decode cX12_card 95 = .ok (.iload_n 2, 1) := by decide +kernel
theorem dX12_card_96 : decode cX12_card 96 = .ok (.iastore, 1) := by decide +kernel
theorem dX12_card_97 : decode cX12_card 97 = .ok (.aload_n 0, 1) := by decide +kernel
theorem dX12_card_98 : decode cX12_card 98 = .ok (.getfield 13, 3) := by decide +kernel
theorem dX12_card_101 : decode cX12_card 101 = .ok (.bipush 99, 2) := by decide +kernel
theorem dX12_card_103 : decode cX12_card 103 = .ok (.iconst 3, 1) := by decide +kernel
theorem dX12_card_104 : decode cX12_card 104 = .ok (.iload 4, 2) := by decide +kernel
theorem dX12_card_106 : decode cX12_card 106 = .ok (.imul, 1) := by decide +kernel
theorem dX12_card_107 : decode cX12_card 107 = .ok (.iadd, 1) := by decide +kernel
theorem dX12_card_108 : decode cX12_card 108 = .ok (.iconst 2, 1) := by decide +kernel
theorem dX12_card_109 : decode cX12_card 109 = .ok (.iadd, 1) := by decide +kernel
theorem dX12_card_110 : decode cX12_card 110 = .ok (.iload_n 3, 1) := by decide +kernel
theorem dX12_card_111 : decode cX12_card 111 = .ok (.iastore, 1) := by decide +kernel
theorem dX12_card_112 : decode cX12_card 112 = .ok (.aload_n 0, 1) := by decide +kernel
theorem dX12_card_113 : decode cX12_card 113 = .ok (.getfield 13, 3) := by decide +kernel
theorem dX12_card_116 : decode cX12_card 116 = .ok (.iconst 4, 1) := by decide +kernel
theorem dX12_card_117 : decode cX12_card 117 = .ok (.dup2, 1) := by decide +kernel
theorem dX12_card_118 : decode cX12_card 118 = .ok (.iaload, 1) := by decide +kernel
theorem dX12_card_119 : decode cX12_card 119 = .ok (.iconst 1, 1) := by decide +kernel
theorem dX12_card_120 : decode cX12_card 120 = .ok (.iadd, 1) := by decide +kernel
theorem dX12_card_121 : decode cX12_card 121 = .ok (.iastore, 1) := by decide +kernel
theorem dX12_card_122 : decode cX12_card 122 = .ok (.aload_n 0, 1) := by decide +kernel
theorem dX12_card_123 : decode cX12_card 123 = .ok (.iload 4, 2) := by decide +kernel
theorem dX12_card_125 : decode cX12_card 125 = .ok (.invokevirtual 121, 3) := by decide +kernel
theorem dX12_card_128 : decode cX12_card 128 = .ok (.ireturn, 1) := by decide +kernel
set_option maxHeartbeats 4000000 in
set_option maxRecDepth 100000 in
theorem x_X12_card_41 {p : Program} {l : Launch} {e : Env} {s : State} {m : MethodId} {args : Array Value} {below : List Frame} {meth : Method} {c : Code} {D : va_G} {K : Nat → ClassId} {A : Nat → Prop} {ad : Nat → Nat} {rest : va_W} (C : xC p s m args meth c D K A RX12 cX12_card 5 (some .int)) (z : Int32 × xS) : ∀  (σ : xS), F_X12_card_41  σ = some z → X p l e (xR 1 25) s m args below meth c D A 5 (xQi below D K A args s z.1 (RW K ad rest z.2)) 0 0 41 [(0, .ref (ad 0))] [] (RW K ad rest σ) := by
  intro σ hF
  unfold F_X12_card_41 at hF
  refine x_aload_n C 0 0 dX12_card_41 rfl rfl ?_
  refine x_iconst C (-1) dX12_card_42 (by decide +kernel) ?_
  refine x_callVI C (wf := RW K ad rest) (As := [.int ((-1))]) (rest := []) dX12_card_43 ml_X12_121 rfl rfl (Nat.le_of_ble_eq_true rfl) 0 (RW_o K ad rest σ) rfl ⟨Nat.le_of_ble_eq_true rfl, Nat.le_of_ble_eq_true rfl⟩ ⟨Nat.zero_le _, Nat.zero_le _⟩ (fun q9 hq9 => c_X12_tell l D K ad rest ((-1)) σ q9 hq9) hF (fun v19 σ18 hF => ?_)
  exact x_iret C dX12_card_46 rfl (congrArg Prod.fst (Option.some.inj hF)) (congrArg (fun q9 : Int32 × xS => RW K ad rest q9.2) (Option.some.inj hF))
set_option maxHeartbeats 4000000 in
set_option maxRecDepth 100000 in
theorem c_X12_card (l : Launch) (D : va_G) (K : Nat → ClassId) (ad : Nat → Nat) (rest : va_W) (a1 : Int32) (a2 : Int32) (a3 : Int32) (σ : xS) (z : Int32 × xS) (hF : F_X12_card a1 a2 a3 σ = some z) : CI l D K yX12_card cX12_card 5 (some .int) 1 25 [.ref (ad 0), .int a1, .int a2, .int a3] (RW K ad rest σ) z.1 (RW K ad rest z.2) := by
  refine x_enterI [(0, .ref (ad 0)), (1, .int a1), (2, .int a2), (3, .int a3)] pnX12 (Nat.le_of_ble_eq_true rfl) rfl ?_
  intro p e s m args below meth c A C
  unfold F_X12_card at hF
  refine x_aload_n C 0 0 dX12_card_0 rfl rfl ?_
  refine x_iconst C 0 dX12_card_1 (by decide +kernel) ?_
  refine x_put C 0 dX12_card_2 fl_X12_107 fm_X12_0 rfl rfl (RW_o K ad rest σ) (Nat.le_of_ble_eq_true rfl) (RW_s0 K ad rest σ _) ?_
  refine x_st (wf := RW K ad rest) hF (fun σ1 hF => ?_)
  refine x_iload_n C 1 1 dX12_card_5 rfl rfl ?_
  refine x_i2l C dX12_card_6 ?_
  refine x_lconst C 0 dX12_card_7 (by decide +kernel) ?_
  refine x_ldc2 C 9 dX12_card_8 cl_X12_124 ?_
  refine x_callSI C (wf := RW K ad rest) (As := [.long (a1.toInt64), .long 0, .long 9]) (rest := []) dX12_card_11 ml_X12_117 rfl rfl (Nat.le_of_ble_eq_true rfl) ⟨Nat.le_of_ble_eq_true rfl, Nat.le_of_ble_eq_true rfl⟩ ⟨Nat.zero_le _, Nat.zero_le _⟩ (fun q9 hq9 => c_X12_in l D K ad rest (a1.toInt64) 0 9 σ1 q9 hq9) hF (fun v3 σ2 hF => ?_)
  refine x_if_eq C 41 dX12_card_14 (by decide) hF (fun hF => ?_) (fun hF => ?_)
  · refine x_loc [(0, .ref (ad 0))] [0] rfl ?_
    exact x_X12_card_41 C z σ2 hF
  · refine x_iload_n C 2 2 dX12_card_17 rfl rfl ?_
    refine x_i2l C dX12_card_18 ?_
    refine x_lconst C 0 dX12_card_19 (by decide +kernel) ?_
    refine x_ldc2 C 99 dX12_card_20 cl_X12_128 ?_
    refine x_callSI C (wf := RW K ad rest) (As := [.long (a2.toInt64), .long 0, .long 99]) (rest := []) dX12_card_23 ml_X12_117 rfl rfl (Nat.le_of_ble_eq_true rfl) ⟨Nat.le_of_ble_eq_true rfl, Nat.le_of_ble_eq_true rfl⟩ ⟨Nat.zero_le _, Nat.zero_le _⟩ (fun q9 hq9 => c_X12_in l D K ad rest (a2.toInt64) 0 99 σ2 q9 hq9) hF (fun v5 σ4 hF => ?_)
    refine x_if_eq C 41 dX12_card_26 (by decide) hF (fun hF => ?_) (fun hF => ?_)
    · refine x_loc [(0, .ref (ad 0))] [0] rfl ?_
      exact x_X12_card_41 C z σ4 hF
    · refine x_iload_n C 3 3 dX12_card_29 rfl rfl ?_
      refine x_i2l C dX12_card_30 ?_
      refine x_lconst C 0 dX12_card_31 (by decide +kernel) ?_
      refine x_ldc2 C 999 dX12_card_32 cl_X12_126 ?_
      refine x_callSI C (wf := RW K ad rest) (As := [.long (a3.toInt64), .long 0, .long 999]) (rest := []) dX12_card_35 ml_X12_117 rfl rfl (Nat.le_of_ble_eq_true rfl) ⟨Nat.le_of_ble_eq_true rfl, Nat.le_of_ble_eq_true rfl⟩ ⟨Nat.zero_le _, Nat.zero_le _⟩ (fun q9 hq9 => c_X12_in l D K ad rest (a3.toInt64) 0 999 σ4 q9 hq9) hF (fun v7 σ6 hF => ?_)
      refine x_if_ne C 47 dX12_card_38 (by decide) hF (fun hF => ?_) (fun hF => ?_)
      · refine x_aload_n C 0 0 dX12_card_47 rfl rfl ?_
        refine x_get C 0 dX12_card_48 fl_X12_13 (RW_o K ad rest σ6) rfl ?_
        refine x_iconst C 4 dX12_card_51 (by decide +kernel) ?_
        refine x_iald C 2 dX12_card_52 (RW_a3 K ad rest σ6) hF (fun v8 hF => ?_)
        refine x_istore C [(4, .int v8), (0, .ref (ad 0)), (1, .int a1), (2, .int a2), (3, .int a3)] dX12_card_53 (by decide) rfl ?_
        refine x_iload C 0 4 dX12_card_55 rfl ?_
        refine x_bipush C 8 dX12_card_57 (by decide +kernel) ?_
        refine x_icmp_ne C 69 dX12_card_59 (by decide) hF (fun hF => ?_) (fun hF => ?_)
        · refine x_aload_n C 1 0 dX12_card_69 rfl rfl ?_
          refine x_get C 0 dX12_card_70 fl_X12_13 (RW_o K ad rest σ6) rfl ?_
          refine x_bipush C 99 dX12_card_73 (by decide +kernel) ?_
          refine x_iconst C 3 dX12_card_75 (by decide +kernel) ?_
          refine x_iload C 0 4 dX12_card_76 rfl ?_
          refine x_imul C dX12_card_78 ?_
          refine x_iadd C dX12_card_79 ?_
          refine x_iload_n C 2 1 dX12_card_80 rfl rfl ?_
          refine x_iast C 2 dX12_card_81 (RW_a3 K ad rest σ6) hF (RW_s3 K ad rest σ6 _) (fun hF => ?_)
          refine x_st (wf := RW K ad rest) hF (fun σ9 hF => ?_)
          refine x_aload_n C 1 0 dX12_card_82 rfl rfl ?_
          refine x_get C 0 dX12_card_83 fl_X12_13 (RW_o K ad rest σ9) rfl ?_
          refine x_bipush C 99 dX12_card_86 (by decide +kernel) ?_
          refine x_iconst C 3 dX12_card_88 (by decide +kernel) ?_
          refine x_iload C 0 4 dX12_card_89 rfl ?_
          refine x_imul C dX12_card_91 ?_
          refine x_iadd C dX12_card_92 ?_
          refine x_iconst C 1 dX12_card_93 (by decide +kernel) ?_
          refine x_iadd C dX12_card_94 ?_
          refine x_iload_n C 3 2 dX12_card_95 rfl rfl ?_
          refine x_iast C 2 dX12_card_96 (RW_a3 K ad rest σ9) hF (RW_s3 K ad rest σ9 _) (fun hF => ?_)
          refine x_st (wf := RW K ad rest) hF (fun σ10 hF => ?_)
          refine x_aload_n C 1 0 dX12_card_97 rfl rfl ?_
          refine x_get C 0 dX12_card_98 fl_X12_13 (RW_o K ad rest σ10) rfl ?_
          refine x_bipush C 99 dX12_card_101 (by decide +kernel) ?_
          refine x_iconst C 3 dX12_card_103 (by decide +kernel) ?_
          refine x_iload C 0 4 dX12_card_104 rfl ?_
          refine x_imul C dX12_card_106 ?_
          refine x_iadd C dX12_card_107 ?_
          refine x_iconst C 2 dX12_card_108 (by decide +kernel) ?_
          refine x_iadd C dX12_card_109 ?_
          refine x_iload_n C 4 3 dX12_card_110 rfl rfl ?_
          refine x_iast C 2 dX12_card_111 (RW_a3 K ad rest σ10) hF (RW_s3 K ad rest σ10 _) (fun hF => ?_)
          refine x_st (wf := RW K ad rest) hF (fun σ11 hF => ?_)
          refine x_aload_n C 1 0 dX12_card_112 rfl rfl ?_
          refine x_get C 0 dX12_card_113 fl_X12_13 (RW_o K ad rest σ11) rfl ?_
          refine x_iconst C 4 dX12_card_116 (by decide +kernel) ?_
          refine x_dup2 C rfl rfl dX12_card_117 ?_
          refine x_iald C 2 dX12_card_118 (RW_a3 K ad rest σ11) hF (fun v12 hF => ?_)
          refine x_iconst C 1 dX12_card_119 (by decide +kernel) ?_
          refine x_iadd C dX12_card_120 ?_
          refine x_iast C 2 dX12_card_121 (RW_a3 K ad rest σ11) hF (RW_s3 K ad rest σ11 _) (fun hF => ?_)
          refine x_st (wf := RW K ad rest) hF (fun σ13 hF => ?_)
          refine x_aload_n C 1 0 dX12_card_122 rfl rfl ?_
          refine x_iload C 0 4 dX12_card_123 rfl ?_
          refine x_callVI C (wf := RW K ad rest) (As := [.int v8]) (rest := []) dX12_card_125 ml_X12_121 rfl rfl (Nat.le_of_ble_eq_true rfl) 0 (RW_o K ad rest σ13) rfl ⟨Nat.le_of_ble_eq_true rfl, Nat.le_of_ble_eq_true rfl⟩ ⟨Nat.zero_le _, Nat.zero_le _⟩ (fun q9 hq9 => c_X12_tell l D K ad rest v8 σ13 q9 hq9) hF (fun v15 σ14 hF => ?_)
          exact x_iret C dX12_card_128 rfl (congrArg Prod.fst (Option.some.inj hF)) (congrArg (fun q9 : Int32 × xS => RW K ad rest q9.2) (Option.some.inj hF))
        · refine x_aload_n C 1 0 dX12_card_62 rfl rfl ?_
          refine x_bipush C (-5) dX12_card_63 (by decide +kernel) ?_
          refine x_callVI C (wf := RW K ad rest) (As := [.int ((-5))]) (rest := []) dX12_card_65 ml_X12_121 rfl rfl (Nat.le_of_ble_eq_true rfl) 0 (RW_o K ad rest σ6) rfl ⟨Nat.le_of_ble_eq_true rfl, Nat.le_of_ble_eq_true rfl⟩ ⟨Nat.zero_le _, Nat.zero_le _⟩ (fun q9 hq9 => c_X12_tell l D K ad rest ((-5)) σ6 q9 hq9) hF (fun v17 σ16 hF => ?_)
          exact x_iret C dX12_card_68 rfl (congrArg Prod.fst (Option.some.inj hF)) (congrArg (fun q9 : Int32 × xS => RW K ad rest q9.2) (Option.some.inj hF))
      · refine x_loc [(0, .ref (ad 0))] [0] rfl ?_
        exact x_X12_card_41 C z σ6 hF
theorem dX12_isCard_0 : decode cX12_isCard 0 = .ok (.iload_n 1, 1) := by decide +kernel
theorem dX12_isCard_1 : decode cX12_isCard 1 = .ok (.i2l, 1) := by decide +kernel
theorem dX12_isCard_2 : decode cX12_isCard 2 = .ok (.lconst 0, 1) := by decide +kernel
theorem dX12_isCard_3 : decode cX12_isCard 3 = .ok (.aload_n 0, 1) := by decide +kernel
theorem dX12_isCard_4 : decode cX12_isCard 4 = .ok (.getfield 13, 3) := by decide +kernel
theorem dX12_isCard_7 : decode cX12_isCard 7 = .ok (.iconst 4, 1) := by decide +kernel
theorem dX12_isCard_8 : decode cX12_isCard 8 = .ok (.iaload, 1) := by decide +kernel
theorem dX12_isCard_9 : decode cX12_isCard 9 = .ok (.i2l, 1) := by decide +kernel
theorem dX12_isCard_10 : decode cX12_isCard 10 = .ok (.lconst 1, 1) := by decide +kernel
theorem dX12_isCard_11 : decode cX12_isCard 11 = .ok (.lsub, 1) := by decide +kernel
theorem dX12_isCard_12 : decode cX12_isCard 12 = .ok (.invokestatic 117, 3) := by decide +kernel
theorem dX12_isCard_15 : decode cX12_isCard 15 = .ok (.ireturn, 1) := by decide +kernel
set_option maxHeartbeats 4000000 in
set_option maxRecDepth 100000 in
theorem c_X12_isCard (l : Launch) (D : va_G) (K : Nat → ClassId) (ad : Nat → Nat) (rest : va_W) (a1 : Int32) (σ : xS) (z : Int32 × xS) (hF : F_X12_isCard a1 σ = some z) : CI l D K yX12_isCard cX12_isCard 2 (some .boolean) 1 25 [.ref (ad 0), .int a1] (RW K ad rest σ) z.1 (RW K ad rest z.2) := by
  refine x_enterI [(0, .ref (ad 0)), (1, .int a1)] pnX12 (Nat.le_of_ble_eq_true rfl) rfl ?_
  intro p e s m args below meth c A C
  unfold F_X12_isCard at hF
  refine x_iload_n C 1 1 dX12_isCard_0 rfl rfl ?_
  refine x_i2l C dX12_isCard_1 ?_
  refine x_lconst C 0 dX12_isCard_2 (by decide +kernel) ?_
  refine x_aload_n C 0 0 dX12_isCard_3 rfl rfl ?_
  refine x_get C 0 dX12_isCard_4 fl_X12_13 (RW_o K ad rest σ) rfl ?_
  refine x_iconst C 4 dX12_isCard_7 (by decide +kernel) ?_
  refine x_iald C 2 dX12_isCard_8 (RW_a3 K ad rest σ) hF (fun v1 hF => ?_)
  refine x_i2l C dX12_isCard_9 ?_
  refine x_lconst C 1 dX12_isCard_10 (by decide +kernel) ?_
  refine x_lsub C dX12_isCard_11 ?_
  refine x_callSI C (wf := RW K ad rest) (As := [.long (a1.toInt64), .long 0, .long ((v1.toInt64) - 1)]) (rest := []) dX12_isCard_12 ml_X12_117 rfl rfl (Nat.le_of_ble_eq_true rfl) ⟨Nat.le_of_ble_eq_true rfl, Nat.le_of_ble_eq_true rfl⟩ ⟨Nat.zero_le _, Nat.zero_le _⟩ (fun q9 hq9 => c_X12_in l D K ad rest (a1.toInt64) 0 ((v1.toInt64) - 1) σ q9 hq9) hF (fun v3 σ2 hF => ?_)
  have hz := (cz_some hF).1
  replace hF := (cz_some hF).2
  exact x_zret C dX12_isCard_15 rfl hz (congrArg Prod.fst (Option.some.inj hF)) (congrArg (fun q9 : Int32 × xS => RW K ad rest q9.2) (Option.some.inj hF))
theorem dX12_uncard_0 : decode cX12_uncard 0 = .ok (.aload_n 0, 1) := by decide +kernel
theorem dX12_uncard_1 : decode cX12_uncard 1 = .ok (.iconst 0, 1) := by decide +kernel
theorem dX12_uncard_2 : decode cX12_uncard 2 = .ok (.putfield 107, 3) := by decide +kernel
theorem dX12_uncard_5 : decode cX12_uncard 5 = .ok (.aload_n 0, 1) := by decide +kernel
theorem dX12_uncard_6 : decode cX12_uncard 6 = .ok (.iload_n 1, 1) := by decide +kernel
theorem dX12_uncard_7 : decode cX12_uncard 7 = .ok (.invokevirtual 412, 3) := by decide +kernel
theorem dX12_uncard_10 : decode cX12_uncard 10 = .ok (.ifCond .ne 10, 3) := by decide +kernel
theorem dX12_uncard_13 : decode cX12_uncard 13 = .ok (.aload_n 0, 1) := by decide +kernel
theorem dX12_uncard_14 : decode cX12_uncard 14 = .ok (.bipush (-2), 2) := by decide +kernel
theorem dX12_uncard_16 : decode cX12_uncard 16 = .ok (.invokevirtual 121, 3) := by decide +kernel
theorem dX12_uncard_19 : decode cX12_uncard 19 = .ok (.ireturn, 1) := by decide +kernel
theorem dX12_uncard_20 : decode cX12_uncard 20 = .ok (.aload_n 0, 1) := by decide +kernel
theorem dX12_uncard_21 : decode cX12_uncard 21 = .ok (.bipush 99, 2) := by decide +kernel
theorem dX12_uncard_23 : decode cX12_uncard 23 = .ok (.iconst 3, 1) := by decide +kernel
theorem dX12_uncard_24 : decode cX12_uncard 24 = .ok (.iload_n 1, 1) := by decide +kernel
theorem dX12_uncard_25 : decode cX12_uncard 25 = .ok (.aload_n 0, 1) := by decide +kernel
theorem dX12_uncard_26 : decode cX12_uncard 26 = .ok (.getfield 13, 3) := by decide +kernel
theorem dX12_uncard_29 : decode cX12_uncard 29 = .ok (.iconst 4, 1) := by decide +kernel
theorem dX12_uncard_30 : decode cX12_uncard 30 = .ok (.iaload, 1) := by decide +kernel
theorem dX12_uncard_31 : decode cX12_uncard 31 = .ok (.invokevirtual 153, 3) := by decide +kernel
theorem dX12_uncard_34 : decode cX12_uncard 34 = .ok (.aload_n 0, 1) := by decide +kernel
theorem dX12_uncard_35 : decode cX12_uncard 35 = .ok (.getfield 13, 3) := by decide +kernel
theorem dX12_uncard_38 : decode cX12_uncard 38 = .ok (.iconst 4, 1) := by decide +kernel
theorem dX12_uncard_39 : decode cX12_uncard 39 = .ok (.dup2, 1) := by decide +kernel
theorem dX12_uncard_40 : decode cX12_uncard 40 = .ok (.iaload, 1) := by decide +kernel
theorem dX12_uncard_41 : decode cX12_uncard 41 = .ok (.iconst 1, 1) := by decide +kernel
theorem dX12_uncard_42 : decode cX12_uncard 42 = .ok (.isub, 1) := by decide +kernel
theorem dX12_uncard_43 : decode cX12_uncard 43 = .ok (.iastore, 1) := by decide +kernel
theorem dX12_uncard_44 : decode cX12_uncard 44 = .ok (.aload_n 0, 1) := by decide +kernel
theorem dX12_uncard_45 : decode cX12_uncard 45 = .ok (.aload_n 0, 1) := by decide +kernel
theorem dX12_uncard_46 : decode cX12_uncard 46 = .ok (.getfield 13, 3) := by decide +kernel
theorem dX12_uncard_49 : decode cX12_uncard 49 = .ok (.iconst 4, 1) := by decide +kernel
theorem dX12_uncard_50 : decode cX12_uncard 50 = .ok (.iaload, 1) := by decide +kernel
theorem dX12_uncard_51 : decode cX12_uncard 51 = .ok (.invokevirtual 121, 3) := by decide +kernel
theorem dX12_uncard_54 : decode cX12_uncard 54 = .ok (.ireturn, 1) := by decide +kernel
set_option maxHeartbeats 4000000 in
set_option maxRecDepth 100000 in
theorem c_X12_uncard (l : Launch) (D : va_G) (K : Nat → ClassId) (ad : Nat → Nat) (rest : va_W) (a1 : Int32) (σ : xS) (z : Int32 × xS) (hF : F_X12_uncard a1 σ = some z) : CI l D K yX12_uncard cX12_uncard 2 (some .int) 2 46 [.ref (ad 0), .int a1] (RW K ad rest σ) z.1 (RW K ad rest z.2) := by
  refine x_enterI [(0, .ref (ad 0)), (1, .int a1)] pnX12 (Nat.le_of_ble_eq_true rfl) rfl ?_
  intro p e s m args below meth c A C
  unfold F_X12_uncard at hF
  refine x_aload_n C 0 0 dX12_uncard_0 rfl rfl ?_
  refine x_iconst C 0 dX12_uncard_1 (by decide +kernel) ?_
  refine x_put C 0 dX12_uncard_2 fl_X12_107 fm_X12_0 rfl rfl (RW_o K ad rest σ) (Nat.le_of_ble_eq_true rfl) (RW_s0 K ad rest σ _) ?_
  refine x_st (wf := RW K ad rest) hF (fun σ1 hF => ?_)
  refine x_aload_n C 0 0 dX12_uncard_5 rfl rfl ?_
  refine x_iload_n C 1 1 dX12_uncard_6 rfl rfl ?_
  refine x_callVI C (wf := RW K ad rest) (As := [.int a1]) (rest := []) dX12_uncard_7 ml_X12_412 rfl rfl (Nat.le_of_ble_eq_true rfl) 0 (RW_o K ad rest σ1) rfl ⟨Nat.le_of_ble_eq_true rfl, Nat.le_of_ble_eq_true rfl⟩ ⟨Nat.zero_le _, Nat.zero_le _⟩ (fun q9 hq9 => c_X12_isCard l D K ad rest a1 σ1 q9 hq9) hF (fun v3 σ2 hF => ?_)
  refine x_if_ne C 20 dX12_uncard_10 (by decide) hF (fun hF => ?_) (fun hF => ?_)
  · refine x_aload_n C 0 0 dX12_uncard_20 rfl rfl ?_
    refine x_bipush C 99 dX12_uncard_21 (by decide +kernel) ?_
    refine x_iconst C 3 dX12_uncard_23 (by decide +kernel) ?_
    refine x_iload_n C 1 1 dX12_uncard_24 rfl rfl ?_
    refine x_aload_n C 0 0 dX12_uncard_25 rfl rfl ?_
    refine x_get C 0 dX12_uncard_26 fl_X12_13 (RW_o K ad rest σ2) rfl ?_
    refine x_iconst C 4 dX12_uncard_29 (by decide +kernel) ?_
    refine x_iald C 2 dX12_uncard_30 (RW_a3 K ad rest σ2) hF (fun v4 hF => ?_)
    refine x_callVV C (wf := RW K ad rest) (As := [.int 99, .int 3, .int a1, .int v4]) (rest := []) dX12_uncard_31 ml_X12_153 rfl rfl (Nat.le_of_ble_eq_true rfl) 0 (RW_o K ad rest σ2) rfl ⟨Nat.le_of_ble_eq_true rfl, Nat.le_of_ble_eq_true rfl⟩ ⟨Nat.zero_le _, Nat.zero_le _⟩ (fun q9 hq9 => c_X12_out l D K ad rest 99 3 a1 v4 σ2 q9 hq9) hF (fun _ σ5 hF => ?_)
    refine x_aload_n C 0 0 dX12_uncard_34 rfl rfl ?_
    refine x_get C 0 dX12_uncard_35 fl_X12_13 (RW_o K ad rest σ5) rfl ?_
    refine x_iconst C 4 dX12_uncard_38 (by decide +kernel) ?_
    refine x_dup2 C rfl rfl dX12_uncard_39 ?_
    refine x_iald C 2 dX12_uncard_40 (RW_a3 K ad rest σ5) hF (fun v6 hF => ?_)
    refine x_iconst C 1 dX12_uncard_41 (by decide +kernel) ?_
    refine x_isub C dX12_uncard_42 ?_
    refine x_iast C 2 dX12_uncard_43 (RW_a3 K ad rest σ5) hF (RW_s3 K ad rest σ5 _) (fun hF => ?_)
    refine x_st (wf := RW K ad rest) hF (fun σ7 hF => ?_)
    refine x_aload_n C 0 0 dX12_uncard_44 rfl rfl ?_
    refine x_aload_n C 0 0 dX12_uncard_45 rfl rfl ?_
    refine x_get C 0 dX12_uncard_46 fl_X12_13 (RW_o K ad rest σ7) rfl ?_
    refine x_iconst C 4 dX12_uncard_49 (by decide +kernel) ?_
    refine x_iald C 2 dX12_uncard_50 (RW_a3 K ad rest σ7) hF (fun v8 hF => ?_)
    refine x_callVI C (wf := RW K ad rest) (As := [.int v8]) (rest := []) dX12_uncard_51 ml_X12_121 rfl rfl (Nat.le_of_ble_eq_true rfl) 0 (RW_o K ad rest σ7) rfl ⟨Nat.le_of_ble_eq_true rfl, Nat.le_of_ble_eq_true rfl⟩ ⟨Nat.zero_le _, Nat.zero_le _⟩ (fun q9 hq9 => c_X12_tell l D K ad rest v8 σ7 q9 hq9) hF (fun v10 σ9 hF => ?_)
    exact x_iret C dX12_uncard_54 rfl (congrArg Prod.fst (Option.some.inj hF)) (congrArg (fun q9 : Int32 × xS => RW K ad rest q9.2) (Option.some.inj hF))
  · refine x_aload_n C 0 0 dX12_uncard_13 rfl rfl ?_
    refine x_bipush C (-2) dX12_uncard_14 (by decide +kernel) ?_
    refine x_callVI C (wf := RW K ad rest) (As := [.int ((-2))]) (rest := []) dX12_uncard_16 ml_X12_121 rfl rfl (Nat.le_of_ble_eq_true rfl) 0 (RW_o K ad rest σ2) rfl ⟨Nat.le_of_ble_eq_true rfl, Nat.le_of_ble_eq_true rfl⟩ ⟨Nat.zero_le _, Nat.zero_le _⟩ (fun q9 hq9 => c_X12_tell l D K ad rest ((-2)) σ2 q9 hq9) hF (fun v12 σ11 hF => ?_)
    exact x_iret C dX12_uncard_19 rfl (congrArg Prod.fst (Option.some.inj hF)) (congrArg (fun q9 : Int32 × xS => RW K ad rest q9.2) (Option.some.inj hF))
theorem dX12_wantsOf_0 : decode cX12_wantsOf 0 = .ok (.aload_n 0, 1) := by decide +kernel
theorem dX12_wantsOf_1 : decode cX12_wantsOf 1 = .ok (.iload_n 2, 1) := by decide +kernel
theorem dX12_wantsOf_2 : decode cX12_wantsOf 2 = .ok (.invokevirtual 348, 3) := by decide +kernel
theorem dX12_wantsOf_5 : decode cX12_wantsOf 5 = .ok (.aload_n 0, 1) := by decide +kernel
theorem dX12_wantsOf_6 : decode cX12_wantsOf 6 = .ok (.iconst 2, 1) := by decide +kernel
theorem dX12_wantsOf_7 : decode cX12_wantsOf 7 = .ok (.iload_n 2, 1) := by decide +kernel
theorem dX12_wantsOf_8 : decode cX12_wantsOf 8 = .ok (.aload_n 0, 1) := by decide +kernel
theorem dX12_wantsOf_9 : decode cX12_wantsOf 9 = .ok (.iload_n 2, 1) := by decide +kernel
theorem dX12_wantsOf_10 : decode cX12_wantsOf 10 = .ok (.iconst 3, 1) := by decide +kernel
theorem dX12_wantsOf_11 : decode cX12_wantsOf 11 = .ok (.invokevirtual 150, 3) := by decide +kernel
theorem dX12_wantsOf_14 : decode cX12_wantsOf 14 = .ok (.aload_n 0, 1) := by decide +kernel
theorem dX12_wantsOf_15 : decode cX12_wantsOf 15 = .ok (.getfield 13, 3) := by decide +kernel
theorem dX12_wantsOf_18 : decode cX12_wantsOf 18 = .ok (.bipush 99, 2) := by decide +kernel
theorem dX12_wantsOf_20 : decode cX12_wantsOf 20 = .ok (.iconst 3, 1) := by decide +kernel
theorem dX12_wantsOf_21 : decode cX12_wantsOf 21 = .ok (.iload_n 1, 1) := by decide +kernel
theorem dX12_wantsOf_22 : decode cX12_wantsOf 22 = .ok (.imul, 1) := by decide +kernel
theorem dX12_wantsOf_23 : decode cX12_wantsOf 23 = .ok (.iadd, 1) := by decide +kernel
theorem dX12_wantsOf_24 : decode cX12_wantsOf 24 = .ok (.iconst 1, 1) := by decide +kernel
theorem dX12_wantsOf_25 : decode cX12_wantsOf 25 = .ok (.iadd, 1) := by decide +kernel
theorem dX12_wantsOf_26 : decode cX12_wantsOf 26 = .ok (.iaload, 1) := by decide +kernel
theorem dX12_wantsOf_27 : decode cX12_wantsOf 27 = .ok (.bipush 50, 2) := by decide +kernel
theorem dX12_wantsOf_29 : decode cX12_wantsOf 29 = .ok (.bipush 100, 2) := by decide +kernel
theorem dX12_wantsOf_31 : decode cX12_wantsOf 31 = .ok (.invokevirtual 342, 3) := by decide +kernel
theorem dX12_wantsOf_34 : decode cX12_wantsOf 34 = .ok (.ireturn, 1) := by decide +kernel
set_option maxHeartbeats 4000000 in
set_option maxRecDepth 100000 in
theorem c_X12_wantsOf (l : Launch) (D : va_G) (K : Nat → ClassId) (ad : Nat → Nat) (rest : va_W) (a1 : Int32) (a2 : Int32) (σ : xS) (z : Int32 × xS) (hF : F_X12_wantsOf a1 a2 σ = some z) : CI l D K yX12_wantsOf cX12_wantsOf 3 (some .int) 4 102 [.ref (ad 0), .int a1, .int a2] (RW K ad rest σ) z.1 (RW K ad rest z.2) := by
  refine x_enterI [(0, .ref (ad 0)), (1, .int a1), (2, .int a2)] pnX12 (Nat.le_of_ble_eq_true rfl) rfl ?_
  intro p e s m args below meth c A C
  unfold F_X12_wantsOf at hF
  refine x_aload_n C 0 0 dX12_wantsOf_0 rfl rfl ?_
  refine x_iload_n C 2 2 dX12_wantsOf_1 rfl rfl ?_
  refine x_callVV C (wf := RW K ad rest) (As := [.int a2]) (rest := []) dX12_wantsOf_2 ml_X12_348 rfl rfl (Nat.le_of_ble_eq_true rfl) 0 (RW_o K ad rest σ) rfl ⟨Nat.le_of_ble_eq_true rfl, Nat.le_of_ble_eq_true rfl⟩ ⟨Nat.zero_le _, Nat.zero_le _⟩ (fun q9 hq9 => c_X12_asTold l D K ad rest a2 σ q9 hq9) hF (fun _ σ1 hF => ?_)
  refine x_aload_n C 0 0 dX12_wantsOf_5 rfl rfl ?_
  refine x_iconst C 2 dX12_wantsOf_6 (by decide +kernel) ?_
  refine x_iload_n C 2 2 dX12_wantsOf_7 rfl rfl ?_
  refine x_aload_n C 0 0 dX12_wantsOf_8 rfl rfl ?_
  refine x_iload_n C 2 2 dX12_wantsOf_9 rfl rfl ?_
  refine x_iconst C 3 dX12_wantsOf_10 (by decide +kernel) ?_
  refine x_callVI C (wf := RW K ad rest) (As := [.int a2, .int 3]) (rest := [.int a2, .int 2, .ref (ad 0)]) dX12_wantsOf_11 ml_X12_150 rfl rfl (Nat.le_of_ble_eq_true rfl) 0 (RW_o K ad rest σ1) rfl ⟨Nat.le_of_ble_eq_true rfl, Nat.le_of_ble_eq_true rfl⟩ ⟨Nat.zero_le _, Nat.zero_le _⟩ (fun q9 hq9 => c_X12_ofBook l D K ad rest a2 3 σ1 q9 hq9) hF (fun v3 σ2 hF => ?_)
  refine x_aload_n C 0 0 dX12_wantsOf_14 rfl rfl ?_
  refine x_get C 0 dX12_wantsOf_15 fl_X12_13 (RW_o K ad rest σ2) rfl ?_
  refine x_bipush C 99 dX12_wantsOf_18 (by decide +kernel) ?_
  refine x_iconst C 3 dX12_wantsOf_20 (by decide +kernel) ?_
  refine x_iload_n C 1 1 dX12_wantsOf_21 rfl rfl ?_
  refine x_imul C dX12_wantsOf_22 ?_
  refine x_iadd C dX12_wantsOf_23 ?_
  refine x_iconst C 1 dX12_wantsOf_24 (by decide +kernel) ?_
  refine x_iadd C dX12_wantsOf_25 ?_
  refine x_iald C 2 dX12_wantsOf_26 (RW_a3 K ad rest σ2) hF (fun v4 hF => ?_)
  refine x_bipush C 50 dX12_wantsOf_27 (by decide +kernel) ?_
  refine x_bipush C 100 dX12_wantsOf_29 (by decide +kernel) ?_
  refine x_callVI C (wf := RW K ad rest) (As := [.int 2, .int a2, .int v3, .int v4, .int 50, .int 100]) (rest := []) dX12_wantsOf_31 ml_X12_342 rfl rfl (Nat.le_of_ble_eq_true rfl) 0 (RW_o K ad rest σ2) rfl ⟨Nat.le_of_ble_eq_true rfl, Nat.le_of_ble_eq_true rfl⟩ ⟨Nat.zero_le _, Nat.zero_le _⟩ (fun q9 hq9 => c_X12_tells l D K ad rest 2 a2 v3 v4 50 100 σ2 q9 hq9) hF (fun v6 σ5 hF => ?_)
  exact x_iret C dX12_wantsOf_34 rfl (congrArg Prod.fst (Option.some.inj hF)) (congrArg (fun q9 : Int32 × xS => RW K ad rest q9.2) (Option.some.inj hF))
theorem dX12_wants_0 : decode cX12_wants 0 = .ok (.aload_n 0, 1) := by decide +kernel
theorem dX12_wants_1 : decode cX12_wants 1 = .ok (.iconst 0, 1) := by decide +kernel
theorem dX12_wants_2 : decode cX12_wants 2 = .ok (.putfield 107, 3) := by decide +kernel
theorem dX12_wants_5 : decode cX12_wants 5 = .ok (.aload_n 0, 1) := by decide +kernel
theorem dX12_wants_6 : decode cX12_wants 6 = .ok (.iload_n 1, 1) := by decide +kernel
theorem dX12_wants_7 : decode cX12_wants 7 = .ok (.invokevirtual 412, 3) := by decide +kernel
theorem dX12_wants_10 : decode cX12_wants 10 = .ok (.ifCond .eq 20, 3) := by decide +kernel
theorem dX12_wants_13 : decode cX12_wants 13 = .ok (.aload_n 0, 1) := by decide +kernel
theorem dX12_wants_14 : decode cX12_wants 14 = .ok (.iload_n 2, 1) := by decide +kernel
theorem dX12_wants_15 : decode cX12_wants 15 = .ok (.invokevirtual 140, 3) := by decide +kernel
theorem dX12_wants_18 : decode cX12_wants 18 = .ok (.ifCond .eq 12, 3) := by decide +kernel
theorem dX12_wants_21 : decode cX12_wants 21 = .ok (.aload_n 0, 1) := by decide +kernel
theorem dX12_wants_22 : decode cX12_wants 22 = .ok (.iload_n 1, 1) := by decide +kernel
theorem dX12_wants_23 : decode cX12_wants 23 = .ok (.iload_n 2, 1) := by decide +kernel
theorem dX12_wants_24 : decode cX12_wants 24 = .ok (.invokevirtual 415, 3) := by decide +kernel
theorem dX12_wants_27 : decode cX12_wants 27 = .ok (.goto 4, 3) := by decide +kernel
theorem dX12_wants_30 : decode cX12_wants 30 = .ok (.iconst (-1), 1) := by decide +kernel
theorem dX12_wants_31 : decode cX12_wants 31 = .ok (.ireturn, 1) := by decide +kernel
set_option maxHeartbeats 4000000 in
set_option maxRecDepth 100000 in
theorem c_X12_wants (l : Launch) (D : va_G) (K : Nat → ClassId) (ad : Nat → Nat) (rest : va_W) (a1 : Int32) (a2 : Int32) (σ : xS) (z : Int32 × xS) (hF : F_X12_wants a1 a2 σ = some z) : CI l D K yX12_wants cX12_wants 3 (some .int) 5 124 [.ref (ad 0), .int a1, .int a2] (RW K ad rest σ) z.1 (RW K ad rest z.2) := by
  refine x_enterI [(0, .ref (ad 0)), (1, .int a1), (2, .int a2)] pnX12 (Nat.le_of_ble_eq_true rfl) rfl ?_
  intro p e s m args below meth c A C
  unfold F_X12_wants at hF
  refine x_aload_n C 0 0 dX12_wants_0 rfl rfl ?_
  refine x_iconst C 0 dX12_wants_1 (by decide +kernel) ?_
  refine x_put C 0 dX12_wants_2 fl_X12_107 fm_X12_0 rfl rfl (RW_o K ad rest σ) (Nat.le_of_ble_eq_true rfl) (RW_s0 K ad rest σ _) ?_
  refine x_st (wf := RW K ad rest) hF (fun σ1 hF => ?_)
  refine x_aload_n C 0 0 dX12_wants_5 rfl rfl ?_
  refine x_iload_n C 1 1 dX12_wants_6 rfl rfl ?_
  refine x_callVI C (wf := RW K ad rest) (As := [.int a1]) (rest := []) dX12_wants_7 ml_X12_412 rfl rfl (Nat.le_of_ble_eq_true rfl) 0 (RW_o K ad rest σ1) rfl ⟨Nat.le_of_ble_eq_true rfl, Nat.le_of_ble_eq_true rfl⟩ ⟨Nat.zero_le _, Nat.zero_le _⟩ (fun q9 hq9 => c_X12_isCard l D K ad rest a1 σ1 q9 hq9) hF (fun v3 σ2 hF => ?_)
  refine x_if_eq C 30 dX12_wants_10 (by decide) hF (fun hF => ?_) (fun hF => ?_)
  · refine x_iconst C (-1) dX12_wants_30 (by decide +kernel) ?_
    exact x_iret C dX12_wants_31 rfl (congrArg Prod.fst (Option.some.inj hF)) (congrArg (fun q9 : Int32 × xS => RW K ad rest q9.2) (Option.some.inj hF))
  · refine x_aload_n C 0 0 dX12_wants_13 rfl rfl ?_
    refine x_iload_n C 2 2 dX12_wants_14 rfl rfl ?_
    refine x_callVI C (wf := RW K ad rest) (As := [.int a2]) (rest := []) dX12_wants_15 ml_X12_140 rfl rfl (Nat.le_of_ble_eq_true rfl) 0 (RW_o K ad rest σ2) rfl ⟨Nat.le_of_ble_eq_true rfl, Nat.le_of_ble_eq_true rfl⟩ ⟨Nat.zero_le _, Nat.zero_le _⟩ (fun q9 hq9 => c_X12_isBook l D K ad rest a2 σ2 q9 hq9) hF (fun v5 σ4 hF => ?_)
    refine x_if_eq C 30 dX12_wants_18 (by decide) hF (fun hF => ?_) (fun hF => ?_)
    · refine x_iconst C (-1) dX12_wants_30 (by decide +kernel) ?_
      exact x_iret C dX12_wants_31 rfl (congrArg Prod.fst (Option.some.inj hF)) (congrArg (fun q9 : Int32 × xS => RW K ad rest q9.2) (Option.some.inj hF))
    · refine x_aload_n C 0 0 dX12_wants_21 rfl rfl ?_
      refine x_iload_n C 1 1 dX12_wants_22 rfl rfl ?_
      refine x_iload_n C 2 2 dX12_wants_23 rfl rfl ?_
      refine x_callVI C (wf := RW K ad rest) (As := [.int a1, .int a2]) (rest := []) dX12_wants_24 ml_X12_415 rfl rfl (Nat.le_of_ble_eq_true rfl) 0 (RW_o K ad rest σ4) rfl ⟨Nat.le_of_ble_eq_true rfl, Nat.le_of_ble_eq_true rfl⟩ ⟨Nat.zero_le _, Nat.zero_le _⟩ (fun q9 hq9 => c_X12_wantsOf l D K ad rest a1 a2 σ4 q9 hq9) hF (fun v7 σ6 hF => ?_)
      refine x_goto C 31 dX12_wants_27 (by decide) ?_
      exact x_iret C dX12_wants_31 rfl (congrArg Prod.fst (Option.some.inj hF)) (congrArg (fun q9 : Int32 × xS => RW K ad rest q9.2) (Option.some.inj hF))
theorem dX12_findKeeps_0 : decode cX12_findKeeps 0 = .ok (.aload_n 0, 1) := by decide +kernel
theorem dX12_findKeeps_1 : decode cX12_findKeeps 1 = .ok (.getfield 13, 3) := by decide +kernel
theorem dX12_findKeeps_4 : decode cX12_findKeeps 4 = .ok (.iconst 0, 1) := by decide +kernel
theorem dX12_findKeeps_5 : decode cX12_findKeeps 5 = .ok (.iaload, 1) := by decide +kernel
theorem dX12_findKeeps_6 : decode cX12_findKeeps 6 = .ok (.istore_n 1, 1) := by decide +kernel
theorem dX12_findKeeps_7 : decode cX12_findKeeps 7 = .ok (.iconst 0, 1) := by decide +kernel
theorem dX12_findKeeps_8 : decode cX12_findKeeps 8 = .ok (.istore_n 2, 1) := by decide +kernel
theorem dX12_findKeeps_9 : decode cX12_findKeeps 9 = .ok (.iload_n 2, 1) := by decide +kernel
theorem dX12_findKeeps_10 : decode cX12_findKeeps 10 = .ok (.aload_n 0, 1) := by decide +kernel
theorem dX12_findKeeps_11 : decode cX12_findKeeps 11 = .ok (.getfield 13, 3) := by decide +kernel
theorem dX12_findKeeps_14 : decode cX12_findKeeps 14 = .ok (.iconst 4, 1) := by decide +kernel
theorem dX12_findKeeps_15 : decode cX12_findKeeps 15 = .ok (.iaload, 1) := by decide +kernel
theorem dX12_findKeeps_16 : decode cX12_findKeeps 16 = .ok (.if_icmp .ge 77, 3) := by decide +kernel
theorem dX12_findKeeps_19 : decode cX12_findKeeps 19 = .ok (.iconst 0, 1) := by decide +kernel
theorem dX12_findKeeps_20 : decode cX12_findKeeps 20 = .ok (.istore_n 3, 1) := by decide +kernel
theorem dX12_findKeeps_21 : decode cX12_findKeeps 21 = .ok (.iload_n 3, 1) := by decide +kernel
theorem dX12_findKeeps_22 : decode cX12_findKeeps 22 = .ok (.iload_n 1, 1) := by decide +kernel
theorem dX12_findKeeps_23 : decode cX12_findKeeps 23 = .ok (.if_icmp .ge 64, 3) := by decide +kernel
theorem dX12_findKeeps_26 : decode cX12_findKeeps 26 = .ok (.aload_n 0, 1) := by decide +kernel
theorem dX12_findKeeps_27 : decode cX12_findKeeps 27 = .ok (.getfield 95, 3) := by decide +kernel
theorem dX12_findKeeps_30 : decode cX12_findKeeps 30 = .ok (.bipush 10, 2) := by decide +kernel
theorem dX12_findKeeps_32 : decode cX12_findKeeps 32 = .ok (.iload_n 2, 1) := by decide +kernel
theorem dX12_findKeeps_33 : decode cX12_findKeeps 33 = .ok (.imul, 1) := by decide +kernel
theorem dX12_findKeeps_34 : decode cX12_findKeeps 34 = .ok (.iload_n 3, 1) := by decide +kernel
theorem dX12_findKeeps_35 : decode cX12_findKeeps 35 = .ok (.iadd, 1) := by decide +kernel
theorem dX12_findKeeps_36 : decode cX12_findKeeps 36 = .ok (.aload_n 0, 1) := by decide +kernel
theorem dX12_findKeeps_37 : decode cX12_findKeeps 37 = .ok (.getfield 13, 3) := by decide +kernel
theorem dX12_findKeeps_40 : decode cX12_findKeeps 40 = .ok (.bipush 99, 2) := by decide +kernel
theorem dX12_findKeeps_42 : decode cX12_findKeeps 42 = .ok (.iconst 3, 1) := by decide +kernel
theorem dX12_findKeeps_43 : decode cX12_findKeeps 43 = .ok (.iload_n 2, 1) := by decide +kernel
theorem dX12_findKeeps_44 : decode cX12_findKeeps 44 = .ok (.imul, 1) := by decide +kernel
theorem dX12_findKeeps_45 : decode cX12_findKeeps 45 = .ok (.iadd, 1) := by decide +kernel
theorem dX12_findKeeps_46 : decode cX12_findKeeps 46 = .ok (.iaload, 1) := by decide +kernel
theorem dX12_findKeeps_47 : decode cX12_findKeeps 47 = .ok (.aload_n 0, 1) := by decide +kernel
theorem dX12_findKeeps_48 : decode cX12_findKeeps 48 = .ok (.iload_n 3, 1) := by decide +kernel
theorem dX12_findKeeps_49 : decode cX12_findKeeps 49 = .ok (.iconst 0, 1) := by decide +kernel
theorem dX12_findKeeps_50 : decode cX12_findKeeps 50 = .ok (.invokevirtual 150, 3) := by decide +kernel
theorem dX12_findKeeps_53 : decode cX12_findKeeps 53 = .ok (.if_icmp .ne 26, 3) := by decide +kernel
theorem dX12_findKeeps_56 : decode cX12_findKeeps 56 = .ok (.aload_n 0, 1) := by decide +kernel
theorem dX12_findKeeps_57 : decode cX12_findKeeps 57 = .ok (.getfield 13, 3) := by decide +kernel
theorem dX12_findKeeps_60 : decode cX12_findKeeps 60 = .ok (.bipush 99, 2) := by decide +kernel
theorem dX12_findKeeps_62 : decode cX12_findKeeps 62 = .ok (.iconst 3, 1) := by decide +kernel
theorem dX12_findKeeps_63 : decode cX12_findKeeps 63 = .ok (.iload_n 2, 1) := by decide +kernel
theorem dX12_findKeeps_64 : decode cX12_findKeeps 64 = .ok (.imul, 1) := by decide +kernel
theorem dX12_findKeeps_65 : decode cX12_findKeeps 65 = .ok (.iadd, 1) := by decide +kernel
theorem dX12_findKeeps_66 : decode cX12_findKeeps 66 = .ok (.iconst 2, 1) := by decide +kernel
theorem dX12_findKeeps_67 : decode cX12_findKeeps 67 = .ok (.iadd, 1) := by decide +kernel
theorem dX12_findKeeps_68 : decode cX12_findKeeps 68 = .ok (.iaload, 1) := by decide +kernel
theorem dX12_findKeeps_69 : decode cX12_findKeeps 69 = .ok (.aload_n 0, 1) := by decide +kernel
theorem dX12_findKeeps_70 : decode cX12_findKeeps 70 = .ok (.iload_n 2, 1) := by decide +kernel
theorem dX12_findKeeps_71 : decode cX12_findKeeps 71 = .ok (.iload_n 3, 1) := by decide +kernel
theorem dX12_findKeeps_72 : decode cX12_findKeeps 72 = .ok (.invokevirtual 415, 3) := by decide +kernel
theorem dX12_findKeeps_75 : decode cX12_findKeeps 75 = .ok (.imul, 1) := by decide +kernel
theorem dX12_findKeeps_76 : decode cX12_findKeeps 76 = .ok (.goto 4, 3) := by decide +kernel
theorem dX12_findKeeps_79 : decode cX12_findKeeps 79 = .ok (.iconst (-1), 1) := by decide +kernel
theorem dX12_findKeeps_80 : decode cX12_findKeeps 80 = .ok (.iastore, 1) := by decide +kernel
theorem dX12_findKeeps_81 : decode cX12_findKeeps 81 = .ok (.iinc 3 1, 3) := by decide +kernel
theorem dX12_findKeeps_84 : decode cX12_findKeeps 84 = .ok (.goto (-63), 3) := by decide +kernel
theorem dX12_findKeeps_87 : decode cX12_findKeeps 87 = .ok (.iinc 2 1, 3) := by decide +kernel
theorem dX12_findKeeps_90 : decode cX12_findKeeps 90 = .ok (.goto (-81), 3) := by decide +kernel
theorem dX12_findKeeps_93 : decode cX12_findKeeps 93 = .ok (.iconst 0, 1) := by decide +kernel
theorem dX12_findKeeps_94 : decode cX12_findKeeps 94 = .ok (.istore_n 2, 1) := by decide +kernel
theorem dX12_findKeeps_95 : decode cX12_findKeeps 95 = .ok (.iload_n 2, 1) := by decide +kernel
theorem dX12_findKeeps_96 : decode cX12_findKeeps 96 = .ok (.iconst 1, 1) := by decide +kernel
theorem dX12_findKeeps_97 : decode cX12_findKeeps 97 = .ok (.iload_n 1, 1) := by decide +kernel
theorem dX12_findKeeps_98 : decode cX12_findKeeps 98 = .ok (.ishl, 1) := by decide +kernel
theorem dX12_findKeeps_99 : decode cX12_findKeeps 99 = .ok (.if_icmp .ge 27, 3) := by decide +kernel
theorem dX12_findKeeps_102 : decode cX12_findKeeps 102 = .ok (.aload_n 0, 1) := by decide +kernel
theorem dX12_findKeeps_103 : decode cX12_findKeeps 103 = .ok (.getfield 92, 3) := by decide +kernel
theorem dX12_findKeeps_106 : decode cX12_findKeeps 106 = .ok (.sipush 1024, 3) := by decide +kernel
theorem dX12_findKeeps_109 : decode cX12_findKeeps 109 = .ok (.aload_n 0, 1) := by decide +kernel
theorem dX12_findKeeps_110 : decode cX12_findKeeps 110 = .ok (.getfield 13, 3) := by decide +kernel
theorem dX12_findKeeps_113 : decode cX12_findKeeps 113 = .ok (.iconst 4, 1) := by decide +kernel
theorem dX12_findKeeps_114 : decode cX12_findKeeps 114 = .ok (.iaload, 1) := by decide +kernel
theorem dX12_findKeeps_115 : decode cX12_findKeeps 115 = .ok (.imul, 1) := by decide +kernel
theorem dX12_findKeeps_116 : decode cX12_findKeeps 116 = .ok (.iload_n 2, 1) := by decide +kernel
theorem dX12_findKeeps_117 : decode cX12_findKeeps 117 = .ok (.iadd, 1) := by decide +kernel
theorem dX12_findKeeps_118 : decode cX12_findKeeps 118 = .ok (.iconst 0, 1) := by decide +kernel
theorem dX12_findKeeps_119 : decode cX12_findKeeps 119 = .ok (.iastore, 1) := by decide +kernel
theorem dX12_findKeeps_120 : decode cX12_findKeeps 120 = .ok (.iinc 2 1, 3) := by decide +kernel
theorem dX12_findKeeps_123 : decode cX12_findKeeps 123 = .ok (.goto (-28), 3) := by decide +kernel
theorem dX12_findKeeps_126 : decode cX12_findKeeps 126 = .ok (.aload_n 0, 1) := by decide +kernel
theorem dX12_findKeeps_127 : decode cX12_findKeeps 127 = .ok (.getfield 13, 3) := by decide +kernel
theorem dX12_findKeeps_130 : decode cX12_findKeeps 130 = .ok (.iconst 4, 1) := by decide +kernel
theorem dX12_findKeeps_131 : decode cX12_findKeeps 131 = .ok (.iaload, 1) := by decide +kernel
theorem dX12_findKeeps_132 : decode cX12_findKeeps 132 = .ok (.iconst 1, 1) := by decide +kernel
theorem dX12_findKeeps_133 : decode cX12_findKeeps 133 = .ok (.isub, 1) := by decide +kernel
theorem dX12_findKeeps_134 : decode cX12_findKeeps 134 = .ok (.istore_n 2, 1) := by decide +kernel
theorem dX12_findKeeps_135 : decode cX12_findKeeps 135 = .ok (.iload_n 2, 1) := by decide +kernel
theorem dX12_findKeeps_136 : decode cX12_findKeeps 136 = .ok (.ifCond .lt 148, 3) := by decide +kernel
theorem dX12_findKeeps_139 : decode cX12_findKeeps 139 = .ok (.iconst 0, 1) := by decide +kernel
theorem dX12_findKeeps_140 : decode cX12_findKeeps 140 = .ok (.istore_n 3, 1) := by decide +kernel
theorem dX12_findKeeps_141 : decode cX12_findKeeps 141 = .ok (.iload_n 3, 1) := by decide +kernel
theorem dX12_findKeeps_142 : decode cX12_findKeeps 142 = .ok (.iconst 1, 1) := by decide +kernel
theorem dX12_findKeeps_143 : decode cX12_findKeeps 143 = .ok (.iload_n 1, 1) := by decide +kernel
theorem dX12_findKeeps_144 : decode cX12_findKeeps 144 = .ok (.ishl, 1) := by decide +kernel
theorem dX12_findKeeps_145 : decode cX12_findKeeps 145 = .ok (.if_icmp .ge 133, 3) := by decide +kernel
theorem dX12_findKeeps_148 : decode cX12_findKeeps 148 = .ok (.aload_n 0, 1) := by decide +kernel
theorem dX12_findKeeps_149 : decode cX12_findKeeps 149 = .ok (.getfield 92, 3) := by decide +kernel
theorem dX12_findKeeps_152 : decode cX12_findKeeps 152 = .ok (.sipush 1024, 3) := by decide +kernel
theorem dX12_findKeeps_155 : decode cX12_findKeeps 155 = .ok (.iload_n 2, 1) := by decide +kernel
theorem dX12_findKeeps_156 : decode cX12_findKeeps 156 = .ok (.iconst 1, 1) := by decide +kernel
theorem dX12_findKeeps_157 : decode cX12_findKeeps 157 = .ok (.iadd, 1) := by decide +kernel
theorem dX12_findKeeps_158 : decode cX12_findKeeps 158 = .ok (.imul, 1) := by decide +kernel
theorem dX12_findKeeps_159 : decode cX12_findKeeps 159 = .ok (.iload_n 3, 1) := by decide +kernel
theorem dX12_findKeeps_160 : decode cX12_findKeeps 160 = .ok (.iadd, 1) := by decide +kernel
theorem dX12_findKeeps_161 : decode cX12_findKeeps 161 = .ok (.iaload, 1) := by decide +kernel
theorem dX12_findKeeps_162 : decode cX12_findKeeps 162 = .ok (.istore 4, 2) := by decide +kernel
theorem dX12_findKeeps_164 : decode cX12_findKeeps 164 = .ok (.iconst 0, 1) := by decide +kernel
theorem dX12_findKeeps_165 : decode cX12_findKeeps 165 = .ok (.istore 5, 2) := by decide +kernel
theorem dX12_findKeeps_167 : decode cX12_findKeeps 167 = .ok (.iload 5, 2) := by decide +kernel
theorem dX12_findKeeps_169 : decode cX12_findKeeps 169 = .ok (.iload_n 1, 1) := by decide +kernel
theorem dX12_findKeeps_170 : decode cX12_findKeeps 170 = .ok (.if_icmp .ge 88, 3) := by decide +kernel
theorem dX12_findKeeps_173 : decode cX12_findKeeps 173 = .ok (.iload_n 3, 1) := by decide +kernel
theorem dX12_findKeeps_174 : decode cX12_findKeeps 174 = .ok (.iload 5, 2) := by decide +kernel
theorem dX12_findKeeps_176 : decode cX12_findKeeps 176 = .ok (.invokestatic 397, 3) := by decide +kernel
theorem dX12_findKeeps_179 : decode cX12_findKeeps 179 = .ok (.ifCond .ne 19, 3) := by decide +kernel
theorem dX12_findKeeps_182 : decode cX12_findKeeps 182 = .ok (.aload_n 0, 1) := by decide +kernel
theorem dX12_findKeeps_183 : decode cX12_findKeeps 183 = .ok (.getfield 95, 3) := by decide +kernel
theorem dX12_findKeeps_186 : decode cX12_findKeeps 186 = .ok (.bipush 10, 2) := by decide +kernel
theorem dX12_findKeeps_188 : decode cX12_findKeeps 188 = .ok (.iload_n 2, 1) := by decide +kernel
theorem dX12_findKeeps_189 : decode cX12_findKeeps 189 = .ok (.imul, 1) := by decide +kernel
theorem dX12_findKeeps_190 : decode cX12_findKeeps 190 = .ok (.iload 5, 2) := by decide +kernel
theorem dX12_findKeeps_192 : decode cX12_findKeeps 192 = .ok (.iadd, 1) := by decide +kernel
theorem dX12_findKeeps_193 : decode cX12_findKeeps 193 = .ok (.iaload, 1) := by decide +kernel
theorem dX12_findKeeps_194 : decode cX12_findKeeps 194 = .ok (.iconst (-1), 1) := by decide +kernel
theorem dX12_findKeeps_195 : decode cX12_findKeeps 195 = .ok (.if_icmp .ne 7, 3) := by decide +kernel
theorem dX12_findKeeps_198 : decode cX12_findKeeps 198 = .ok (.iconst (-1), 1) := by decide +kernel
theorem dX12_findKeeps_199 : decode cX12_findKeeps 199 = .ok (.goto 35, 3) := by decide +kernel
theorem dX12_findKeeps_202 : decode cX12_findKeeps 202 = .ok (.aload_n 0, 1) := by decide +kernel
theorem dX12_findKeeps_203 : decode cX12_findKeeps 203 = .ok (.getfield 95, 3) := by decide +kernel
theorem dX12_findKeeps_206 : decode cX12_findKeeps 206 = .ok (.bipush 10, 2) := by decide +kernel
theorem dX12_findKeeps_208 : decode cX12_findKeeps 208 = .ok (.iload_n 2, 1) := by decide +kernel
theorem dX12_findKeeps_209 : decode cX12_findKeeps 209 = .ok (.imul, 1) := by decide +kernel
theorem dX12_findKeeps_210 : decode cX12_findKeeps 210 = .ok (.iload 5, 2) := by decide +kernel
theorem dX12_findKeeps_212 : decode cX12_findKeeps 212 = .ok (.iadd, 1) := by decide +kernel
theorem dX12_findKeeps_213 : decode cX12_findKeeps 213 = .ok (.iaload, 1) := by decide +kernel
theorem dX12_findKeeps_214 : decode cX12_findKeeps 214 = .ok (.aload_n 0, 1) := by decide +kernel
theorem dX12_findKeeps_215 : decode cX12_findKeeps 215 = .ok (.getfield 92, 3) := by decide +kernel
theorem dX12_findKeeps_218 : decode cX12_findKeeps 218 = .ok (.sipush 1024, 3) := by decide +kernel
theorem dX12_findKeeps_221 : decode cX12_findKeeps 221 = .ok (.iload_n 2, 1) := by decide +kernel
theorem dX12_findKeeps_222 : decode cX12_findKeeps 222 = .ok (.iconst 1, 1) := by decide +kernel
theorem dX12_findKeeps_223 : decode cX12_findKeeps 223 = .ok (.iadd, 1) := by decide +kernel
theorem dX12_findKeeps_224 : decode cX12_findKeeps 224 = .ok (.imul, 1) := by decide +kernel
theorem dX12_findKeeps_225 : decode cX12_findKeeps 225 = .ok (.iload_n 3, 1) := by decide +kernel
theorem dX12_findKeeps_226 : decode cX12_findKeeps 226 = .ok (.iconst 1, 1) := by decide +kernel
theorem dX12_findKeeps_227 : decode cX12_findKeeps 227 = .ok (.iload 5, 2) := by decide +kernel
theorem dX12_findKeeps_229 : decode cX12_findKeeps 229 = .ok (.ishl, 1) := by decide +kernel
theorem dX12_findKeeps_230 : decode cX12_findKeeps 230 = .ok (.ior, 1) := by decide +kernel
theorem dX12_findKeeps_231 : decode cX12_findKeeps 231 = .ok (.iadd, 1) := by decide +kernel
theorem dX12_findKeeps_232 : decode cX12_findKeeps 232 = .ok (.iaload, 1) := by decide +kernel
theorem dX12_findKeeps_233 : decode cX12_findKeeps 233 = .ok (.iadd, 1) := by decide +kernel
theorem dX12_findKeeps_234 : decode cX12_findKeeps 234 = .ok (.istore 6, 2) := by decide +kernel
theorem dX12_findKeeps_236 : decode cX12_findKeeps 236 = .ok (.iload 6, 2) := by decide +kernel
theorem dX12_findKeeps_238 : decode cX12_findKeeps 238 = .ok (.iload 4, 2) := by decide +kernel
theorem dX12_findKeeps_240 : decode cX12_findKeeps 240 = .ok (.if_icmp .le 8, 3) := by decide +kernel
theorem dX12_findKeeps_243 : decode cX12_findKeeps 243 = .ok (.iload 6, 2) := by decide +kernel
theorem dX12_findKeeps_245 : decode cX12_findKeeps 245 = .ok (.goto 5, 3) := by decide +kernel
theorem dX12_findKeeps_248 : decode cX12_findKeeps 248 = .ok (.iload 4, 2) := by decide +kernel
theorem dX12_findKeeps_250 : decode cX12_findKeeps 250 = .ok (.istore 4, 2) := by decide +kernel
theorem dX12_findKeeps_252 : decode cX12_findKeeps 252 = .ok (.iinc 5 1, 3) := by decide +kernel
theorem dX12_findKeeps_255 : decode cX12_findKeeps 255 = .ok (.goto (-88), 3) := by decide +kernel
theorem dX12_findKeeps_258 : decode cX12_findKeeps 258 = .ok (.aload_n 0, 1) := by decide +kernel
theorem dX12_findKeeps_259 : decode cX12_findKeeps 259 = .ok (.getfield 92, 3) := by decide +kernel
theorem dX12_findKeeps_262 : decode cX12_findKeeps 262 = .ok (.sipush 1024, 3) := by decide +kernel
theorem dX12_findKeeps_265 : decode cX12_findKeeps 265 = .ok (.iload_n 2, 1) := by decide +kernel
theorem dX12_findKeeps_266 : decode cX12_findKeeps 266 = .ok (.imul, 1) := by decide +kernel
theorem dX12_findKeeps_267 : decode cX12_findKeeps 267 = .ok (.iload_n 3, 1) := by decide +kernel
theorem dX12_findKeeps_268 : decode cX12_findKeeps 268 = .ok (.iadd, 1) := by decide +kernel
theorem dX12_findKeeps_269 : decode cX12_findKeeps 269 = .ok (.iload 4, 2) := by decide +kernel
theorem dX12_findKeeps_271 : decode cX12_findKeeps 271 = .ok (.iastore, 1) := by decide +kernel
theorem dX12_findKeeps_272 : decode cX12_findKeeps 272 = .ok (.iinc 3 1, 3) := by decide +kernel
theorem dX12_findKeeps_275 : decode cX12_findKeeps 275 = .ok (.goto (-134), 3) := by decide +kernel
theorem dX12_findKeeps_278 : decode cX12_findKeeps 278 = .ok (.iinc 2 (-1), 3) := by decide +kernel
theorem dX12_findKeeps_281 : decode cX12_findKeeps 281 = .ok (.goto (-146), 3) := by decide +kernel
theorem dX12_findKeeps_284 : decode cX12_findKeeps 284 = .ok (.return_, 1) := by decide +kernel
set_option maxHeartbeats 4000000 in
set_option maxRecDepth 100000 in
theorem x_X12_findKeeps_80 {p : Program} {l : Launch} {e : Env} {s : State} {m : MethodId} {args : Array Value} {below : List Frame} {meth : Method} {c : Code} {D : va_G} {K : Nat → ClassId} {A : Nat → Prop} {ad : Nat → Nat} {rest : va_W} (C : xC p s m args meth c D K A RX12 cX12_findKeeps 7 none) (z : Unit × xS) (k_9 : Int32 → Int32 → xS → Option (Unit × xS)) (H_9 : ∀ (y1 : Int32) (y2 : Int32) (σ : xS), k_9 y1 y2 σ = some z → X p l e (xR 5 124) s m args below meth c D A 7 (xQv below D K A args s (RW K ad rest z.2)) 0 0 9 [(0, .ref (ad 0)), (1, .int y1), (2, .int y2)] [] (RW K ad rest σ)) (k_21 : Int32 → Int32 → Int32 → xS → Option (Unit × xS)) (H_21 : ∀ (y1 : Int32) (y2 : Int32) (y3 : Int32) (σ : xS), k_21 y1 y2 y3 σ = some z → X p l e (xR 5 124) s m args below meth c D A 7 (xQv below D K A args s (RW K ad rest z.2)) 0 0 21 [(0, .ref (ad 0)), (1, .int y1), (2, .int y2), (3, .int y3)] [] (RW K ad rest σ)) : ∀ (y1 : Int32) (y2 : Int32) (y3 : Int32) (t1 : Int32) (t2 : Int32) (σ : xS), F_X12_findKeeps_80 k_9 k_21 y1 y2 y3 t1 t2 σ = some z → X p l e (xR 5 124) s m args below meth c D A 7 (xQv below D K A args s (RW K ad rest z.2)) 0 0 80 [(0, .ref (ad 0)), (1, .int y1), (2, .int y2), (3, .int y3)] [.int t2, .int t1, .ref (ad 40)] (RW K ad rest σ) := by
  intro y1 y2 y3 t1 t2 σ hF
  unfold F_X12_findKeeps_80 at hF
  refine x_iast C 18 dX12_findKeeps_80 (RW_a39 K ad rest σ) hF (RW_s39 K ad rest σ _) (fun hF => ?_)
  refine x_st (wf := RW K ad rest) hF (fun σ19 hF => ?_)
  refine x_iincN C 1 3 (fun x20 => [(3, .int x20), (0, .ref (ad 0)), (1, .int y1), (2, .int y2)]) dX12_findKeeps_81 rfl (by decide +kernel) (by decide) (fun _ => rfl) hF (fun x20 hF => ?_)
  refine x_goto C 21 dX12_findKeeps_84 (by decide) ?_
  refine x_loc [(0, .ref (ad 0)), (1, .int y1), (2, .int y2), (3, .int x20)] [1, 2, 3, 0] rfl ?_
  exact H_21 y1 y2 x20 σ19 hF
set_option maxHeartbeats 4000000 in
set_option maxRecDepth 100000 in
theorem x_X12_findKeeps_21 {p : Program} {l : Launch} {e : Env} {s : State} {m : MethodId} {args : Array Value} {below : List Frame} {meth : Method} {c : Code} {D : va_G} {K : Nat → ClassId} {A : Nat → Prop} {ad : Nat → Nat} {rest : va_W} (C : xC p s m args meth c D K A RX12 cX12_findKeeps 7 none) (z : Unit × xS) (k_9 : Int32 → Int32 → xS → Option (Unit × xS)) (H_9 : ∀ (y1 : Int32) (y2 : Int32) (σ : xS), k_9 y1 y2 σ = some z → X p l e (xR 5 124) s m args below meth c D A 7 (xQv below D K A args s (RW K ad rest z.2)) 0 0 9 [(0, .ref (ad 0)), (1, .int y1), (2, .int y2)] [] (RW K ad rest σ)) : ∀ (n : Nat) (y1 : Int32) (y2 : Int32) (y3 : Int32) (σ : xS), F_X12_findKeeps_21 k_9 n y1 y2 y3 σ = some z → X p l e (xR 5 124) s m args below meth c D A 7 (xQv below D K A args s (RW K ad rest z.2)) 0 0 21 [(0, .ref (ad 0)), (1, .int y1), (2, .int y2), (3, .int y3)] [] (RW K ad rest σ) := by
  intro n
  induction n with
  | zero =>
    intro y1 y2 y3 σ hF
    cases hF
  | succ n ih =>
    intro y1 y2 y3 σ hF
    rw [F_X12_findKeeps_21] at hF
    refine x_iload_n C 3 3 dX12_findKeeps_21 rfl rfl ?_
    refine x_iload_n C 1 1 dX12_findKeeps_22 rfl rfl ?_
    refine x_icmp_ge C 87 dX12_findKeeps_23 (by decide) hF (fun hF => ?_) (fun hF => ?_)
    · refine x_iincN C 1 2 (fun x11 => [(2, .int x11), (0, .ref (ad 0)), (1, .int y1), (3, .int y3)]) dX12_findKeeps_87 rfl (by decide +kernel) (by decide) (fun _ => rfl) hF (fun x11 hF => ?_)
      refine x_goto C 9 dX12_findKeeps_90 (by decide) ?_
      refine x_loc [(0, .ref (ad 0)), (1, .int y1), (2, .int x11)] [1, 2, 0] rfl ?_
      exact H_9 y1 x11 σ hF
    · refine x_aload_n C 0 0 dX12_findKeeps_26 rfl rfl ?_
      refine x_get C 0 dX12_findKeeps_27 fl_X12_95 (RW_o K ad rest σ) rfl ?_
      refine x_bipush C 10 dX12_findKeeps_30 (by decide +kernel) ?_
      refine x_iload_n C 2 2 dX12_findKeeps_32 rfl rfl ?_
      refine x_imul C dX12_findKeeps_33 ?_
      refine x_iload_n C 3 3 dX12_findKeeps_34 rfl rfl ?_
      refine x_iadd C dX12_findKeeps_35 ?_
      refine x_aload_n C 0 0 dX12_findKeeps_36 rfl rfl ?_
      refine x_get C 0 dX12_findKeeps_37 fl_X12_13 (RW_o K ad rest σ) rfl ?_
      refine x_bipush C 99 dX12_findKeeps_40 (by decide +kernel) ?_
      refine x_iconst C 3 dX12_findKeeps_42 (by decide +kernel) ?_
      refine x_iload_n C 2 2 dX12_findKeeps_43 rfl rfl ?_
      refine x_imul C dX12_findKeeps_44 ?_
      refine x_iadd C dX12_findKeeps_45 ?_
      refine x_iald C 2 dX12_findKeeps_46 (RW_a3 K ad rest σ) hF (fun v12 hF => ?_)
      refine x_aload_n C 0 0 dX12_findKeeps_47 rfl rfl ?_
      refine x_iload_n C 3 3 dX12_findKeeps_48 rfl rfl ?_
      refine x_iconst C 0 dX12_findKeeps_49 (by decide +kernel) ?_
      refine x_callVI C (wf := RW K ad rest) (As := [.int y3, .int 0]) (rest := [.int v12, .int ((10 * y2) + y3), .ref (ad 40)]) dX12_findKeeps_50 ml_X12_150 rfl rfl (Nat.le_of_ble_eq_true rfl) 0 (RW_o K ad rest σ) rfl ⟨Nat.le_of_ble_eq_true rfl, Nat.le_of_ble_eq_true rfl⟩ ⟨Nat.zero_le _, Nat.zero_le _⟩ (fun q9 hq9 => c_X12_ofBook l D K ad rest y3 0 σ q9 hq9) hF (fun v14 σ13 hF => ?_)
      refine x_icmp_ne C 79 dX12_findKeeps_53 (by decide) hF (fun hF => ?_) (fun hF => ?_)
      · refine x_iconst C (-1) dX12_findKeeps_79 (by decide +kernel) ?_
        exact x_X12_findKeeps_80 C z k_9 H_9 ((F_X12_findKeeps_21 k_9 n)) ih y1 y2 y3 ((10 * y2) + y3) ((-1)) σ13 hF
      · refine x_aload_n C 0 0 dX12_findKeeps_56 rfl rfl ?_
        refine x_get C 0 dX12_findKeeps_57 fl_X12_13 (RW_o K ad rest σ13) rfl ?_
        refine x_bipush C 99 dX12_findKeeps_60 (by decide +kernel) ?_
        refine x_iconst C 3 dX12_findKeeps_62 (by decide +kernel) ?_
        refine x_iload_n C 2 2 dX12_findKeeps_63 rfl rfl ?_
        refine x_imul C dX12_findKeeps_64 ?_
        refine x_iadd C dX12_findKeeps_65 ?_
        refine x_iconst C 2 dX12_findKeeps_66 (by decide +kernel) ?_
        refine x_iadd C dX12_findKeeps_67 ?_
        refine x_iald C 2 dX12_findKeeps_68 (RW_a3 K ad rest σ13) hF (fun v15 hF => ?_)
        refine x_aload_n C 0 0 dX12_findKeeps_69 rfl rfl ?_
        refine x_iload_n C 2 2 dX12_findKeeps_70 rfl rfl ?_
        refine x_iload_n C 3 3 dX12_findKeeps_71 rfl rfl ?_
        refine x_callVI C (wf := RW K ad rest) (As := [.int y2, .int y3]) (rest := [.int v15, .int ((10 * y2) + y3), .ref (ad 40)]) dX12_findKeeps_72 ml_X12_415 rfl rfl (Nat.le_of_ble_eq_true rfl) 0 (RW_o K ad rest σ13) rfl ⟨Nat.le_of_ble_eq_true rfl, Nat.le_of_ble_eq_true rfl⟩ ⟨Nat.zero_le _, Nat.zero_le _⟩ (fun q9 hq9 => c_X12_wantsOf l D K ad rest y2 y3 σ13 q9 hq9) hF (fun v17 σ16 hF => ?_)
        refine x_imul C dX12_findKeeps_75 ?_
        refine x_goto C 80 dX12_findKeeps_76 (by decide) ?_
        exact x_X12_findKeeps_80 C z k_9 H_9 ((F_X12_findKeeps_21 k_9 n)) ih y1 y2 y3 ((10 * y2) + y3) (v15 * v17) σ16 hF
set_option maxHeartbeats 4000000 in
set_option maxRecDepth 100000 in
theorem x_X12_findKeeps_234 {p : Program} {l : Launch} {e : Env} {s : State} {m : MethodId} {args : Array Value} {below : List Frame} {meth : Method} {c : Code} {D : va_G} {K : Nat → ClassId} {A : Nat → Prop} {ad : Nat → Nat} {rest : va_W} (C : xC p s m args meth c D K A RX12 cX12_findKeeps 7 none) (z : Unit × xS) (k_135 : Int32 → Int32 → xS → Option (Unit × xS)) (H_135 : ∀ (y1 : Int32) (y2 : Int32) (σ : xS), k_135 y1 y2 σ = some z → X p l e (xR 5 124) s m args below meth c D A 7 (xQv below D K A args s (RW K ad rest z.2)) 0 0 135 [(0, .ref (ad 0)), (1, .int y1), (2, .int y2)] [] (RW K ad rest σ)) (k_141 : Int32 → Int32 → Int32 → xS → Option (Unit × xS)) (H_141 : ∀ (y1 : Int32) (y2 : Int32) (y3 : Int32) (σ : xS), k_141 y1 y2 y3 σ = some z → X p l e (xR 5 124) s m args below meth c D A 7 (xQv below D K A args s (RW K ad rest z.2)) 0 0 141 [(0, .ref (ad 0)), (1, .int y1), (2, .int y2), (3, .int y3)] [] (RW K ad rest σ)) (k_167 : Int32 → Int32 → Int32 → Int32 → Int32 → xS → Option (Unit × xS)) (H_167 : ∀ (y1 : Int32) (y2 : Int32) (y3 : Int32) (y4 : Int32) (y5 : Int32) (σ : xS), k_167 y1 y2 y3 y4 y5 σ = some z → X p l e (xR 5 124) s m args below meth c D A 7 (xQv below D K A args s (RW K ad rest z.2)) 0 0 167 [(0, .ref (ad 0)), (1, .int y1), (2, .int y2), (3, .int y3), (4, .int y4), (5, .int y5)] [] (RW K ad rest σ)) : ∀ (y1 : Int32) (y2 : Int32) (y3 : Int32) (y4 : Int32) (y5 : Int32) (t0 : Int32) (σ : xS), F_X12_findKeeps_234 k_135 k_141 k_167 y1 y2 y3 y4 y5 t0 σ = some z → X p l e (xR 5 124) s m args below meth c D A 7 (xQv below D K A args s (RW K ad rest z.2)) 0 0 234 [(0, .ref (ad 0)), (1, .int y1), (2, .int y2), (3, .int y3), (4, .int y4), (5, .int y5)] [.int t0] (RW K ad rest σ) := by
  intro y1 y2 y3 y4 y5 t0 σ hF
  unfold F_X12_findKeeps_234 at hF
  refine x_istore C [(6, .int t0), (0, .ref (ad 0)), (1, .int y1), (2, .int y2), (3, .int y3), (4, .int y4), (5, .int y5)] dX12_findKeeps_234 (by decide) rfl ?_
  refine x_iload C 0 6 dX12_findKeeps_236 rfl ?_
  refine x_iload C 5 4 dX12_findKeeps_238 rfl ?_
  refine x_icmp_le C 248 dX12_findKeeps_240 (by decide) hF (fun hF => ?_) (fun hF => ?_)
  · refine x_iload C 5 4 dX12_findKeeps_248 rfl ?_
    refine x_istore C [(4, .int y4), (6, .int t0), (0, .ref (ad 0)), (1, .int y1), (2, .int y2), (3, .int y3), (5, .int y5)] dX12_findKeeps_250 (by decide) rfl ?_
    refine x_iincN C 1 6 (fun x31 => [(5, .int x31), (4, .int y4), (6, .int t0), (0, .ref (ad 0)), (1, .int y1), (2, .int y2), (3, .int y3)]) dX12_findKeeps_252 rfl (by decide +kernel) (by decide) (fun _ => rfl) hF (fun x31 hF => ?_)
    refine x_goto C 167 dX12_findKeeps_255 (by decide) ?_
    refine x_loc [(0, .ref (ad 0)), (1, .int y1), (2, .int y2), (3, .int y3), (4, .int y4), (5, .int x31)] [3, 4, 5, 6, 1, 0] rfl ?_
    exact H_167 y1 y2 y3 y4 x31 σ hF
  · refine x_iload C 0 6 dX12_findKeeps_243 rfl ?_
    refine x_goto C 250 dX12_findKeeps_245 (by decide) ?_
    refine x_istore C [(4, .int t0), (6, .int t0), (0, .ref (ad 0)), (1, .int y1), (2, .int y2), (3, .int y3), (5, .int y5)] dX12_findKeeps_250 (by decide) rfl ?_
    refine x_iincN C 1 6 (fun x32 => [(5, .int x32), (4, .int t0), (6, .int t0), (0, .ref (ad 0)), (1, .int y1), (2, .int y2), (3, .int y3)]) dX12_findKeeps_252 rfl (by decide +kernel) (by decide) (fun _ => rfl) hF (fun x32 hF => ?_)
    refine x_goto C 167 dX12_findKeeps_255 (by decide) ?_
    refine x_loc [(0, .ref (ad 0)), (1, .int y1), (2, .int y2), (3, .int y3), (4, .int t0), (5, .int x32)] [3, 4, 5, 6, 1, 0] rfl ?_
    exact H_167 y1 y2 y3 t0 x32 σ hF
set_option maxHeartbeats 4000000 in
set_option maxRecDepth 100000 in
theorem x_X12_findKeeps_198 {p : Program} {l : Launch} {e : Env} {s : State} {m : MethodId} {args : Array Value} {below : List Frame} {meth : Method} {c : Code} {D : va_G} {K : Nat → ClassId} {A : Nat → Prop} {ad : Nat → Nat} {rest : va_W} (C : xC p s m args meth c D K A RX12 cX12_findKeeps 7 none) (z : Unit × xS) (k_135 : Int32 → Int32 → xS → Option (Unit × xS)) (H_135 : ∀ (y1 : Int32) (y2 : Int32) (σ : xS), k_135 y1 y2 σ = some z → X p l e (xR 5 124) s m args below meth c D A 7 (xQv below D K A args s (RW K ad rest z.2)) 0 0 135 [(0, .ref (ad 0)), (1, .int y1), (2, .int y2)] [] (RW K ad rest σ)) (k_141 : Int32 → Int32 → Int32 → xS → Option (Unit × xS)) (H_141 : ∀ (y1 : Int32) (y2 : Int32) (y3 : Int32) (σ : xS), k_141 y1 y2 y3 σ = some z → X p l e (xR 5 124) s m args below meth c D A 7 (xQv below D K A args s (RW K ad rest z.2)) 0 0 141 [(0, .ref (ad 0)), (1, .int y1), (2, .int y2), (3, .int y3)] [] (RW K ad rest σ)) (k_167 : Int32 → Int32 → Int32 → Int32 → Int32 → xS → Option (Unit × xS)) (H_167 : ∀ (y1 : Int32) (y2 : Int32) (y3 : Int32) (y4 : Int32) (y5 : Int32) (σ : xS), k_167 y1 y2 y3 y4 y5 σ = some z → X p l e (xR 5 124) s m args below meth c D A 7 (xQv below D K A args s (RW K ad rest z.2)) 0 0 167 [(0, .ref (ad 0)), (1, .int y1), (2, .int y2), (3, .int y3), (4, .int y4), (5, .int y5)] [] (RW K ad rest σ)) : ∀ (y1 : Int32) (y2 : Int32) (y3 : Int32) (y4 : Int32) (y5 : Int32) (σ : xS), F_X12_findKeeps_198 k_135 k_141 k_167 y1 y2 y3 y4 y5 σ = some z → X p l e (xR 5 124) s m args below meth c D A 7 (xQv below D K A args s (RW K ad rest z.2)) 0 0 198 [(0, .ref (ad 0)), (1, .int y1), (2, .int y2), (3, .int y3), (4, .int y4), (5, .int y5)] [] (RW K ad rest σ) := by
  intro y1 y2 y3 y4 y5 σ hF
  unfold F_X12_findKeeps_198 at hF
  refine x_iconst C (-1) dX12_findKeeps_198 (by decide +kernel) ?_
  refine x_goto C 234 dX12_findKeeps_199 (by decide) ?_
  exact x_X12_findKeeps_234 C z k_135 H_135 k_141 H_141 k_167 H_167 y1 y2 y3 y4 y5 ((-1)) σ hF
set_option maxHeartbeats 4000000 in
set_option maxRecDepth 100000 in
theorem x_X12_findKeeps_167 {p : Program} {l : Launch} {e : Env} {s : State} {m : MethodId} {args : Array Value} {below : List Frame} {meth : Method} {c : Code} {D : va_G} {K : Nat → ClassId} {A : Nat → Prop} {ad : Nat → Nat} {rest : va_W} (C : xC p s m args meth c D K A RX12 cX12_findKeeps 7 none) (z : Unit × xS) (k_135 : Int32 → Int32 → xS → Option (Unit × xS)) (H_135 : ∀ (y1 : Int32) (y2 : Int32) (σ : xS), k_135 y1 y2 σ = some z → X p l e (xR 5 124) s m args below meth c D A 7 (xQv below D K A args s (RW K ad rest z.2)) 0 0 135 [(0, .ref (ad 0)), (1, .int y1), (2, .int y2)] [] (RW K ad rest σ)) (k_141 : Int32 → Int32 → Int32 → xS → Option (Unit × xS)) (H_141 : ∀ (y1 : Int32) (y2 : Int32) (y3 : Int32) (σ : xS), k_141 y1 y2 y3 σ = some z → X p l e (xR 5 124) s m args below meth c D A 7 (xQv below D K A args s (RW K ad rest z.2)) 0 0 141 [(0, .ref (ad 0)), (1, .int y1), (2, .int y2), (3, .int y3)] [] (RW K ad rest σ)) : ∀ (n : Nat) (y1 : Int32) (y2 : Int32) (y3 : Int32) (y4 : Int32) (y5 : Int32) (σ : xS), F_X12_findKeeps_167 k_135 k_141 n y1 y2 y3 y4 y5 σ = some z → X p l e (xR 5 124) s m args below meth c D A 7 (xQv below D K A args s (RW K ad rest z.2)) 0 0 167 [(0, .ref (ad 0)), (1, .int y1), (2, .int y2), (3, .int y3), (4, .int y4), (5, .int y5)] [] (RW K ad rest σ) := by
  intro n
  induction n with
  | zero =>
    intro y1 y2 y3 y4 y5 σ hF
    cases hF
  | succ n ih =>
    intro y1 y2 y3 y4 y5 σ hF
    rw [F_X12_findKeeps_167] at hF
    refine x_iload C 5 5 dX12_findKeeps_167 rfl ?_
    refine x_iload_n C 1 1 dX12_findKeeps_169 rfl rfl ?_
    refine x_icmp_ge C 258 dX12_findKeeps_170 (by decide) hF (fun hF => ?_) (fun hF => ?_)
    · refine x_aload_n C 0 0 dX12_findKeeps_258 rfl rfl ?_
      refine x_get C 0 dX12_findKeeps_259 fl_X12_92 (RW_o K ad rest σ) rfl ?_
      refine x_sipush C 1024 dX12_findKeeps_262 (by decide +kernel) ?_
      refine x_iload_n C 2 2 dX12_findKeeps_265 rfl rfl ?_
      refine x_imul C dX12_findKeeps_266 ?_
      refine x_iload_n C 3 3 dX12_findKeeps_267 rfl rfl ?_
      refine x_iadd C dX12_findKeeps_268 ?_
      refine x_iload C 4 4 dX12_findKeeps_269 rfl ?_
      refine x_iast C 17 dX12_findKeeps_271 (RW_a38 K ad rest σ) hF (RW_s38 K ad rest σ _) (fun hF => ?_)
      refine x_st (wf := RW K ad rest) hF (fun σ24 hF => ?_)
      refine x_iincN C 1 3 (fun x25 => [(3, .int x25), (0, .ref (ad 0)), (1, .int y1), (2, .int y2), (4, .int y4), (5, .int y5)]) dX12_findKeeps_272 rfl (by decide +kernel) (by decide) (fun _ => rfl) hF (fun x25 hF => ?_)
      refine x_goto C 141 dX12_findKeeps_275 (by decide) ?_
      refine x_loc [(0, .ref (ad 0)), (1, .int y1), (2, .int y2), (3, .int x25)] [1, 2, 3, 0] rfl ?_
      exact H_141 y1 y2 x25 σ24 hF
    · refine x_iload_n C 3 3 dX12_findKeeps_173 rfl rfl ?_
      refine x_iload C 5 5 dX12_findKeeps_174 rfl ?_
      refine x_callSI C (wf := RW K ad rest) (As := [.int y3, .int y5]) (rest := []) dX12_findKeeps_176 ml_X12_397 rfl rfl (Nat.le_of_ble_eq_true rfl) ⟨Nat.le_of_ble_eq_true rfl, Nat.le_of_ble_eq_true rfl⟩ ⟨Nat.zero_le _, Nat.zero_le _⟩ (fun q9 hq9 => c_X12_is l D K ad rest y3 y5 σ q9 hq9) hF (fun v27 σ26 hF => ?_)
      refine x_if_ne C 198 dX12_findKeeps_179 (by decide) hF (fun hF => ?_) (fun hF => ?_)
      · exact x_X12_findKeeps_198 C z k_135 H_135 k_141 H_141 ((F_X12_findKeeps_167 k_135 k_141 n)) ih y1 y2 y3 y4 y5 σ26 hF
      · refine x_aload_n C 0 0 dX12_findKeeps_182 rfl rfl ?_
        refine x_get C 0 dX12_findKeeps_183 fl_X12_95 (RW_o K ad rest σ26) rfl ?_
        refine x_bipush C 10 dX12_findKeeps_186 (by decide +kernel) ?_
        refine x_iload_n C 2 2 dX12_findKeeps_188 rfl rfl ?_
        refine x_imul C dX12_findKeeps_189 ?_
        refine x_iload C 5 5 dX12_findKeeps_190 rfl ?_
        refine x_iadd C dX12_findKeeps_192 ?_
        refine x_iald C 18 dX12_findKeeps_193 (RW_a39 K ad rest σ26) hF (fun v28 hF => ?_)
        refine x_iconst C (-1) dX12_findKeeps_194 (by decide +kernel) ?_
        refine x_icmp_ne C 202 dX12_findKeeps_195 (by decide) hF (fun hF => ?_) (fun hF => ?_)
        · refine x_aload_n C 0 0 dX12_findKeeps_202 rfl rfl ?_
          refine x_get C 0 dX12_findKeeps_203 fl_X12_95 (RW_o K ad rest σ26) rfl ?_
          refine x_bipush C 10 dX12_findKeeps_206 (by decide +kernel) ?_
          refine x_iload_n C 2 2 dX12_findKeeps_208 rfl rfl ?_
          refine x_imul C dX12_findKeeps_209 ?_
          refine x_iload C 5 5 dX12_findKeeps_210 rfl ?_
          refine x_iadd C dX12_findKeeps_212 ?_
          refine x_iald C 18 dX12_findKeeps_213 (RW_a39 K ad rest σ26) hF (fun v29 hF => ?_)
          refine x_aload_n C 0 0 dX12_findKeeps_214 rfl rfl ?_
          refine x_get C 0 dX12_findKeeps_215 fl_X12_92 (RW_o K ad rest σ26) rfl ?_
          refine x_sipush C 1024 dX12_findKeeps_218 (by decide +kernel) ?_
          refine x_iload_n C 2 2 dX12_findKeeps_221 rfl rfl ?_
          refine x_iconst C 1 dX12_findKeeps_222 (by decide +kernel) ?_
          refine x_iadd C dX12_findKeeps_223 ?_
          refine x_imul C dX12_findKeeps_224 ?_
          refine x_iload_n C 3 3 dX12_findKeeps_225 rfl rfl ?_
          refine x_iconst C 1 dX12_findKeeps_226 (by decide +kernel) ?_
          refine x_iload C 5 5 dX12_findKeeps_227 rfl ?_
          refine x_ishl C dX12_findKeeps_229 ?_
          refine x_ior C dX12_findKeeps_230 ?_
          refine x_iadd C dX12_findKeeps_231 ?_
          refine x_iald C 17 dX12_findKeeps_232 (RW_a38 K ad rest σ26) hF (fun v30 hF => ?_)
          refine x_iadd C dX12_findKeeps_233 ?_
          exact x_X12_findKeeps_234 C z k_135 H_135 k_141 H_141 ((F_X12_findKeeps_167 k_135 k_141 n)) ih y1 y2 y3 y4 y5 (v29 + v30) σ26 hF
        · exact x_X12_findKeeps_198 C z k_135 H_135 k_141 H_141 ((F_X12_findKeeps_167 k_135 k_141 n)) ih y1 y2 y3 y4 y5 σ26 hF
set_option maxHeartbeats 4000000 in
set_option maxRecDepth 100000 in
theorem x_X12_findKeeps_141 {p : Program} {l : Launch} {e : Env} {s : State} {m : MethodId} {args : Array Value} {below : List Frame} {meth : Method} {c : Code} {D : va_G} {K : Nat → ClassId} {A : Nat → Prop} {ad : Nat → Nat} {rest : va_W} (C : xC p s m args meth c D K A RX12 cX12_findKeeps 7 none) (z : Unit × xS) (k_135 : Int32 → Int32 → xS → Option (Unit × xS)) (H_135 : ∀ (y1 : Int32) (y2 : Int32) (σ : xS), k_135 y1 y2 σ = some z → X p l e (xR 5 124) s m args below meth c D A 7 (xQv below D K A args s (RW K ad rest z.2)) 0 0 135 [(0, .ref (ad 0)), (1, .int y1), (2, .int y2)] [] (RW K ad rest σ)) : ∀ (n : Nat) (y1 : Int32) (y2 : Int32) (y3 : Int32) (σ : xS), F_X12_findKeeps_141 k_135 n y1 y2 y3 σ = some z → X p l e (xR 5 124) s m args below meth c D A 7 (xQv below D K A args s (RW K ad rest z.2)) 0 0 141 [(0, .ref (ad 0)), (1, .int y1), (2, .int y2), (3, .int y3)] [] (RW K ad rest σ) := by
  intro n
  induction n with
  | zero =>
    intro y1 y2 y3 σ hF
    cases hF
  | succ n ih =>
    intro y1 y2 y3 σ hF
    rw [F_X12_findKeeps_141] at hF
    refine x_iload_n C 3 3 dX12_findKeeps_141 rfl rfl ?_
    refine x_iconst C 1 dX12_findKeeps_142 (by decide +kernel) ?_
    refine x_iload_n C 1 1 dX12_findKeeps_143 rfl rfl ?_
    refine x_ishl C dX12_findKeeps_144 ?_
    refine x_icmp_ge C 278 dX12_findKeeps_145 (by decide) hF (fun hF => ?_) (fun hF => ?_)
    · refine x_iincN C (-1) 2 (fun x21 => [(2, .int x21), (0, .ref (ad 0)), (1, .int y1), (3, .int y3)]) dX12_findKeeps_278 rfl (by decide +kernel) (by decide) (fun _ => rfl) hF (fun x21 hF => ?_)
      refine x_goto C 135 dX12_findKeeps_281 (by decide) ?_
      refine x_loc [(0, .ref (ad 0)), (1, .int y1), (2, .int x21)] [1, 2, 0] rfl ?_
      exact H_135 y1 x21 σ hF
    · refine x_aload_n C 0 0 dX12_findKeeps_148 rfl rfl ?_
      refine x_get C 0 dX12_findKeeps_149 fl_X12_92 (RW_o K ad rest σ) rfl ?_
      refine x_sipush C 1024 dX12_findKeeps_152 (by decide +kernel) ?_
      refine x_iload_n C 2 2 dX12_findKeeps_155 rfl rfl ?_
      refine x_iconst C 1 dX12_findKeeps_156 (by decide +kernel) ?_
      refine x_iadd C dX12_findKeeps_157 ?_
      refine x_imul C dX12_findKeeps_158 ?_
      refine x_iload_n C 3 3 dX12_findKeeps_159 rfl rfl ?_
      refine x_iadd C dX12_findKeeps_160 ?_
      refine x_iald C 17 dX12_findKeeps_161 (RW_a38 K ad rest σ) hF (fun v22 hF => ?_)
      refine x_istore C [(4, .int v22), (0, .ref (ad 0)), (1, .int y1), (2, .int y2), (3, .int y3)] dX12_findKeeps_162 (by decide) rfl ?_
      refine x_iconst C 0 dX12_findKeeps_164 (by decide +kernel) ?_
      refine x_topI hF (fun x23 hF => ?_)
      refine x_istore C [(5, .int x23), (4, .int v22), (0, .ref (ad 0)), (1, .int y1), (2, .int y2), (3, .int y3)] dX12_findKeeps_165 (by decide) rfl ?_
      refine x_loc [(0, .ref (ad 0)), (1, .int y1), (2, .int y2), (3, .int y3), (4, .int v22), (5, .int x23)] [2, 3, 4, 5, 1, 0] rfl ?_
      exact x_X12_findKeeps_167 C z k_135 H_135 ((F_X12_findKeeps_141 k_135 n)) ih FU y1 y2 y3 v22 x23 σ hF
set_option maxHeartbeats 4000000 in
set_option maxRecDepth 100000 in
theorem x_X12_findKeeps_135 {p : Program} {l : Launch} {e : Env} {s : State} {m : MethodId} {args : Array Value} {below : List Frame} {meth : Method} {c : Code} {D : va_G} {K : Nat → ClassId} {A : Nat → Prop} {ad : Nat → Nat} {rest : va_W} (C : xC p s m args meth c D K A RX12 cX12_findKeeps 7 none) (z : Unit × xS) : ∀ (n : Nat) (y1 : Int32) (y2 : Int32) (σ : xS), F_X12_findKeeps_135  n y1 y2 σ = some z → X p l e (xR 5 124) s m args below meth c D A 7 (xQv below D K A args s (RW K ad rest z.2)) 0 0 135 [(0, .ref (ad 0)), (1, .int y1), (2, .int y2)] [] (RW K ad rest σ) := by
  intro n
  induction n with
  | zero =>
    intro y1 y2 σ hF
    cases hF
  | succ n ih =>
    intro y1 y2 σ hF
    rw [F_X12_findKeeps_135] at hF
    refine x_iload_n C 2 2 dX12_findKeeps_135 rfl rfl ?_
    refine x_if_lt C 284 dX12_findKeeps_136 (by decide) hF (fun hF => ?_) (fun hF => ?_)
    · exact x_vret C dX12_findKeeps_284 rfl (congrArg (fun q9 : Unit × xS => RW K ad rest q9.2) (Option.some.inj hF))
    · refine x_iconst C 0 dX12_findKeeps_139 (by decide +kernel) ?_
      refine x_topI hF (fun x18 hF => ?_)
      refine x_istore_n C [(3, .int x18), (0, .ref (ad 0)), (1, .int y1), (2, .int y2)] dX12_findKeeps_140 rfl (by decide) rfl ?_
      refine x_loc [(0, .ref (ad 0)), (1, .int y1), (2, .int y2), (3, .int x18)] [1, 2, 3, 0] rfl ?_
      exact x_X12_findKeeps_141 C z ((F_X12_findKeeps_135 n)) ih FU y1 y2 x18 σ hF
set_option maxHeartbeats 4000000 in
set_option maxRecDepth 100000 in
theorem x_X12_findKeeps_95 {p : Program} {l : Launch} {e : Env} {s : State} {m : MethodId} {args : Array Value} {below : List Frame} {meth : Method} {c : Code} {D : va_G} {K : Nat → ClassId} {A : Nat → Prop} {ad : Nat → Nat} {rest : va_W} (C : xC p s m args meth c D K A RX12 cX12_findKeeps 7 none) (z : Unit × xS) : ∀ (n : Nat) (y1 : Int32) (y2 : Int32) (σ : xS), F_X12_findKeeps_95  n y1 y2 σ = some z → X p l e (xR 5 124) s m args below meth c D A 7 (xQv below D K A args s (RW K ad rest z.2)) 0 0 95 [(0, .ref (ad 0)), (1, .int y1), (2, .int y2)] [] (RW K ad rest σ) := by
  intro n
  induction n with
  | zero =>
    intro y1 y2 σ hF
    cases hF
  | succ n ih =>
    intro y1 y2 σ hF
    rw [F_X12_findKeeps_95] at hF
    refine x_iload_n C 2 2 dX12_findKeeps_95 rfl rfl ?_
    refine x_iconst C 1 dX12_findKeeps_96 (by decide +kernel) ?_
    refine x_iload_n C 1 1 dX12_findKeeps_97 rfl rfl ?_
    refine x_ishl C dX12_findKeeps_98 ?_
    refine x_icmp_ge C 126 dX12_findKeeps_99 (by decide) hF (fun hF => ?_) (fun hF => ?_)
    · refine x_aload_n C 0 0 dX12_findKeeps_126 rfl rfl ?_
      refine x_get C 0 dX12_findKeeps_127 fl_X12_13 (RW_o K ad rest σ) rfl ?_
      refine x_iconst C 4 dX12_findKeeps_130 (by decide +kernel) ?_
      refine x_iald C 2 dX12_findKeeps_131 (RW_a3 K ad rest σ) hF (fun v6 hF => ?_)
      refine x_iconst C 1 dX12_findKeeps_132 (by decide +kernel) ?_
      refine x_isub C dX12_findKeeps_133 ?_
      refine x_topI hF (fun x7 hF => ?_)
      refine x_istore_n C [(2, .int x7), (0, .ref (ad 0)), (1, .int y1)] dX12_findKeeps_134 rfl (by decide) rfl ?_
      refine x_loc [(0, .ref (ad 0)), (1, .int y1), (2, .int x7)] [1, 2, 0] rfl ?_
      exact x_X12_findKeeps_135 C z FU y1 x7 σ hF
    · refine x_aload_n C 0 0 dX12_findKeeps_102 rfl rfl ?_
      refine x_get C 0 dX12_findKeeps_103 fl_X12_92 (RW_o K ad rest σ) rfl ?_
      refine x_sipush C 1024 dX12_findKeeps_106 (by decide +kernel) ?_
      refine x_aload_n C 0 0 dX12_findKeeps_109 rfl rfl ?_
      refine x_get C 0 dX12_findKeeps_110 fl_X12_13 (RW_o K ad rest σ) rfl ?_
      refine x_iconst C 4 dX12_findKeeps_113 (by decide +kernel) ?_
      refine x_iald C 2 dX12_findKeeps_114 (RW_a3 K ad rest σ) hF (fun v8 hF => ?_)
      refine x_imul C dX12_findKeeps_115 ?_
      refine x_iload_n C 2 2 dX12_findKeeps_116 rfl rfl ?_
      refine x_iadd C dX12_findKeeps_117 ?_
      refine x_iconst C 0 dX12_findKeeps_118 (by decide +kernel) ?_
      refine x_iast C 17 dX12_findKeeps_119 (RW_a38 K ad rest σ) hF (RW_s38 K ad rest σ _) (fun hF => ?_)
      refine x_st (wf := RW K ad rest) hF (fun σ9 hF => ?_)
      refine x_iincN C 1 2 (fun x10 => [(2, .int x10), (0, .ref (ad 0)), (1, .int y1)]) dX12_findKeeps_120 rfl (by decide +kernel) (by decide) (fun _ => rfl) hF (fun x10 hF => ?_)
      refine x_goto C 95 dX12_findKeeps_123 (by decide) ?_
      refine x_loc [(0, .ref (ad 0)), (1, .int y1), (2, .int x10)] [1, 2, 0] rfl ?_
      exact ih y1 x10 σ9 hF
set_option maxHeartbeats 4000000 in
set_option maxRecDepth 100000 in
theorem x_X12_findKeeps_9 {p : Program} {l : Launch} {e : Env} {s : State} {m : MethodId} {args : Array Value} {below : List Frame} {meth : Method} {c : Code} {D : va_G} {K : Nat → ClassId} {A : Nat → Prop} {ad : Nat → Nat} {rest : va_W} (C : xC p s m args meth c D K A RX12 cX12_findKeeps 7 none) (z : Unit × xS) : ∀ (n : Nat) (y1 : Int32) (y2 : Int32) (σ : xS), F_X12_findKeeps_9  n y1 y2 σ = some z → X p l e (xR 5 124) s m args below meth c D A 7 (xQv below D K A args s (RW K ad rest z.2)) 0 0 9 [(0, .ref (ad 0)), (1, .int y1), (2, .int y2)] [] (RW K ad rest σ) := by
  intro n
  induction n with
  | zero =>
    intro y1 y2 σ hF
    cases hF
  | succ n ih =>
    intro y1 y2 σ hF
    rw [F_X12_findKeeps_9] at hF
    refine x_iload_n C 2 2 dX12_findKeeps_9 rfl rfl ?_
    refine x_aload_n C 0 0 dX12_findKeeps_10 rfl rfl ?_
    refine x_get C 0 dX12_findKeeps_11 fl_X12_13 (RW_o K ad rest σ) rfl ?_
    refine x_iconst C 4 dX12_findKeeps_14 (by decide +kernel) ?_
    refine x_iald C 2 dX12_findKeeps_15 (RW_a3 K ad rest σ) hF (fun v3 hF => ?_)
    refine x_icmp_ge C 93 dX12_findKeeps_16 (by decide) hF (fun hF => ?_) (fun hF => ?_)
    · refine x_iconst C 0 dX12_findKeeps_93 (by decide +kernel) ?_
      refine x_topI hF (fun x4 hF => ?_)
      refine x_istore_n C [(2, .int x4), (0, .ref (ad 0)), (1, .int y1)] dX12_findKeeps_94 rfl (by decide) rfl ?_
      refine x_loc [(0, .ref (ad 0)), (1, .int y1), (2, .int x4)] [1, 2, 0] rfl ?_
      exact x_X12_findKeeps_95 C z FU y1 x4 σ hF
    · refine x_iconst C 0 dX12_findKeeps_19 (by decide +kernel) ?_
      refine x_topI hF (fun x5 hF => ?_)
      refine x_istore_n C [(3, .int x5), (0, .ref (ad 0)), (1, .int y1), (2, .int y2)] dX12_findKeeps_20 rfl (by decide) rfl ?_
      refine x_loc [(0, .ref (ad 0)), (1, .int y1), (2, .int y2), (3, .int x5)] [1, 2, 3, 0] rfl ?_
      exact x_X12_findKeeps_21 C z ((F_X12_findKeeps_9 n)) ih FU y1 y2 x5 σ hF
set_option maxHeartbeats 4000000 in
set_option maxRecDepth 100000 in
theorem c_X12_findKeeps (l : Launch) (D : va_G) (K : Nat → ClassId) (ad : Nat → Nat) (rest : va_W)  (σ : xS) (z : Unit × xS) (hF : F_X12_findKeeps σ = some z) : CV l D K yX12_findKeeps cX12_findKeeps 7 none 5 124 [.ref (ad 0)] (RW K ad rest σ) (RW K ad rest z.2) := by
  refine x_enterV [(0, .ref (ad 0))] pnX12 (Nat.le_of_ble_eq_true rfl) rfl ?_
  intro p e s m args below meth c A C
  unfold F_X12_findKeeps at hF
  refine x_aload_n C 0 0 dX12_findKeeps_0 rfl rfl ?_
  refine x_get C 0 dX12_findKeeps_1 fl_X12_13 (RW_o K ad rest σ) rfl ?_
  refine x_iconst C 0 dX12_findKeeps_4 (by decide +kernel) ?_
  refine x_iald C 2 dX12_findKeeps_5 (RW_a3 K ad rest σ) hF (fun v1 hF => ?_)
  refine x_istore_n C [(1, .int v1), (0, .ref (ad 0))] dX12_findKeeps_6 rfl (by decide) rfl ?_
  refine x_iconst C 0 dX12_findKeeps_7 (by decide +kernel) ?_
  refine x_topI hF (fun x2 hF => ?_)
  refine x_istore_n C [(2, .int x2), (1, .int v1), (0, .ref (ad 0))] dX12_findKeeps_8 rfl (by decide) rfl ?_
  refine x_loc [(0, .ref (ad 0)), (1, .int v1), (2, .int x2)] [2, 1, 0] rfl ?_
  exact x_X12_findKeeps_9 C z FU v1 x2 σ hF
