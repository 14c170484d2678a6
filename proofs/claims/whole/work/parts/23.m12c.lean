theorem dX12_law_0 : decode cX12_law 0 = .ok (.aload_n 0, 1) := by decide +kernel
theorem dX12_law_1 : decode cX12_law 1 = .ok (.iconst 0, 1) := by decide +kernel
theorem dX12_law_2 : decode cX12_law 2 = .ok (.putfield 107, 3) := by decide +kernel
theorem dX12_law_5 : decode cX12_law 5 = .ok (.aload_n 0, 1) := by decide +kernel
theorem dX12_law_6 : decode cX12_law 6 = .ok (.getfield 13, 3) := by decide +kernel
theorem dX12_law_9 : decode cX12_law 9 = .ok (.iconst 1, 1) := by decide +kernel
theorem dX12_law_10 : decode cX12_law 10 = .ok (.iaload, 1) := by decide +kernel
theorem dX12_law_11 : decode cX12_law 11 = .ok (.bipush 6, 2) := by decide +kernel
theorem dX12_law_13 : decode cX12_law 13 = .ok (.if_icmp .ne 15, 3) := by decide +kernel
theorem dX12_law_16 : decode cX12_law 16 = .ok (.aload_n 0, 1) := by decide +kernel
theorem dX12_law_17 : decode cX12_law 17 = .ok (.iconst 0, 1) := by decide +kernel
theorem dX12_law_18 : decode cX12_law 18 = .ok (.putfield 162, 3) := by decide +kernel
theorem dX12_law_21 : decode cX12_law 21 = .ok (.aload_n 0, 1) := by decide +kernel
theorem dX12_law_22 : decode cX12_law 22 = .ok (.bipush (-5), 2) := by decide +kernel
theorem dX12_law_24 : decode cX12_law 24 = .ok (.invokevirtual 121, 3) := by decide +kernel
theorem dX12_law_27 : decode cX12_law 27 = .ok (.ireturn, 1) := by decide +kernel
theorem dX12_law_28 : decode cX12_law 28 = .ok (.aload_n 0, 1) := by decide +kernel
theorem dX12_law_29 : decode cX12_law 29 = .ok (.invokevirtual 301, 3) := by decide +kernel
theorem dX12_law_32 : decode cX12_law 32 = .ok (.aload_n 0, 1) := by decide +kernel
theorem dX12_law_33 : decode cX12_law 33 = .ok (.iconst 0, 1) := by decide +kernel
theorem dX12_law_34 : decode cX12_law 34 = .ok (.putfield 293, 3) := by decide +kernel
theorem dX12_law_37 : decode cX12_law 37 = .ok (.aload_n 0, 1) := by decide +kernel
theorem dX12_law_38 : decode cX12_law 38 = .ok (.iconst 0, 1) := by decide +kernel
theorem dX12_law_39 : decode cX12_law 39 = .ok (.putfield 214, 3) := by decide +kernel
theorem dX12_law_42 : decode cX12_law 42 = .ok (.aload_n 0, 1) := by decide +kernel
theorem dX12_law_43 : decode cX12_law 43 = .ok (.iconst 0, 1) := by decide +kernel
theorem dX12_law_44 : decode cX12_law 44 = .ok (.putfield 245, 3) := by decide +kernel
theorem dX12_law_47 : decode cX12_law 47 = .ok (.aload_n 0, 1) := by decide +kernel
theorem dX12_law_48 : decode cX12_law 48 = .ok (.invokevirtual 304, 3) := by decide +kernel
theorem dX12_law_51 : decode cX12_law 51 = .ok (.aload_n 0, 1) := by decide +kernel
theorem dX12_law_52 : decode cX12_law 52 = .ok (.getfield 175, 3) := by decide +kernel
theorem dX12_law_55 : decode cX12_law 55 = .ok (.ifCond .ne 23, 3) := by decide +kernel
theorem dX12_law_58 : decode cX12_law 58 = .ok (.aload_n 0, 1) := by decide +kernel
theorem dX12_law_59 : decode cX12_law 59 = .ok (.bipush 59, 2) := by decide +kernel
theorem dX12_law_61 : decode cX12_law 61 = .ok (.invokevirtual 248, 3) := by decide +kernel
theorem dX12_law_64 : decode cX12_law 64 = .ok (.ifCond .eq 14, 3) := by decide +kernel
theorem dX12_law_67 : decode cX12_law 67 = .ok (.aload_n 0, 1) := by decide +kernel
theorem dX12_law_68 : decode cX12_law 68 = .ok (.invokevirtual 179, 3) := by decide +kernel
theorem dX12_law_71 : decode cX12_law 71 = .ok (.aload_n 0, 1) := by decide +kernel
theorem dX12_law_72 : decode cX12_law 72 = .ok (.invokevirtual 304, 3) := by decide +kernel
theorem dX12_law_75 : decode cX12_law 75 = .ok (.goto (-24), 3) := by decide +kernel
theorem dX12_law_78 : decode cX12_law 78 = .ok (.aload_n 0, 1) := by decide +kernel
theorem dX12_law_79 : decode cX12_law 79 = .ok (.getfield 175, 3) := by decide +kernel
theorem dX12_law_82 : decode cX12_law 82 = .ok (.ifCond .ne 15, 3) := by decide +kernel
theorem dX12_law_85 : decode cX12_law 85 = .ok (.aload_n 0, 1) := by decide +kernel
theorem dX12_law_86 : decode cX12_law 86 = .ok (.getfield 195, 3) := by decide +kernel
theorem dX12_law_89 : decode cX12_law 89 = .ok (.ifCond .eq 8, 3) := by decide +kernel
theorem dX12_law_92 : decode cX12_law 92 = .ok (.aload_n 0, 1) := by decide +kernel
theorem dX12_law_93 : decode cX12_law 93 = .ok (.iconst 0, 1) := by decide +kernel
theorem dX12_law_94 : decode cX12_law 94 = .ok (.invokevirtual 210, 3) := by decide +kernel
theorem dX12_law_97 : decode cX12_law 97 = .ok (.aload_n 0, 1) := by decide +kernel
theorem dX12_law_98 : decode cX12_law 98 = .ok (.iconst 0, 1) := by decide +kernel
theorem dX12_law_99 : decode cX12_law 99 = .ok (.putfield 162, 3) := by decide +kernel
theorem dX12_law_102 : decode cX12_law 102 = .ok (.aload_n 0, 1) := by decide +kernel
theorem dX12_law_103 : decode cX12_law 103 = .ok (.getfield 175, 3) := by decide +kernel
theorem dX12_law_106 : decode cX12_law 106 = .ok (.ifCond .eq 10, 3) := by decide +kernel
theorem dX12_law_109 : decode cX12_law 109 = .ok (.aload_n 0, 1) := by decide +kernel
theorem dX12_law_110 : decode cX12_law 110 = .ok (.bipush (-6), 2) := by decide +kernel
theorem dX12_law_112 : decode cX12_law 112 = .ok (.invokevirtual 121, 3) := by decide +kernel
theorem dX12_law_115 : decode cX12_law 115 = .ok (.ireturn, 1) := by decide +kernel
theorem dX12_law_116 : decode cX12_law 116 = .ok (.sipush 150, 3) := by decide +kernel
theorem dX12_law_119 : decode cX12_law 119 = .ok (.sipush 900, 3) := by decide +kernel
theorem dX12_law_122 : decode cX12_law 122 = .ok (.aload_n 0, 1) := by decide +kernel
theorem dX12_law_123 : decode cX12_law 123 = .ok (.getfield 13, 3) := by decide +kernel
theorem dX12_law_126 : decode cX12_law 126 = .ok (.iconst 1, 1) := by decide +kernel
theorem dX12_law_127 : decode cX12_law 127 = .ok (.iaload, 1) := by decide +kernel
theorem dX12_law_128 : decode cX12_law 128 = .ok (.imul, 1) := by decide +kernel
theorem dX12_law_129 : decode cX12_law 129 = .ok (.iadd, 1) := by decide +kernel
theorem dX12_law_130 : decode cX12_law 130 = .ok (.istore_n 1, 1) := by decide +kernel
theorem dX12_law_131 : decode cX12_law 131 = .ok (.aload_n 0, 1) := by decide +kernel
theorem dX12_law_132 : decode cX12_law 132 = .ok (.getfield 13, 3) := by decide +kernel
theorem dX12_law_135 : decode cX12_law 135 = .ok (.iload_n 1, 1) := by decide +kernel
theorem dX12_law_136 : decode cX12_law 136 = .ok (.iconst 1, 1) := by decide +kernel
theorem dX12_law_137 : decode cX12_law 137 = .ok (.iadd, 1) := by decide +kernel
theorem dX12_law_138 : decode cX12_law 138 = .ok (.aload_n 0, 1) := by decide +kernel
theorem dX12_law_139 : decode cX12_law 139 = .ok (.getfield 293, 3) := by decide +kernel
theorem dX12_law_142 : decode cX12_law 142 = .ok (.iastore, 1) := by decide +kernel
theorem dX12_law_143 : decode cX12_law 143 = .ok (.iconst 0, 1) := by decide +kernel
theorem dX12_law_144 : decode cX12_law 144 = .ok (.istore_n 2, 1) := by decide +kernel
theorem dX12_law_145 : decode cX12_law 145 = .ok (.iload_n 2, 1) := by decide +kernel
theorem dX12_law_146 : decode cX12_law 146 = .ok (.bipush 8, 2) := by decide +kernel
theorem dX12_law_148 : decode cX12_law 148 = .ok (.aload_n 0, 1) := by decide +kernel
theorem dX12_law_149 : decode cX12_law 149 = .ok (.getfield 293, 3) := by decide +kernel
theorem dX12_law_152 : decode cX12_law 152 = .ok (.imul, 1) := by decide +kernel
theorem dX12_law_153 : decode cX12_law 153 = .ok (.if_icmp .ge 25, 3) := by decide +kernel
theorem dX12_law_156 : decode cX12_law 156 = .ok (.aload_n 0, 1) := by decide +kernel
theorem dX12_law_157 : decode cX12_law 157 = .ok (.getfield 13, 3) := by decide +kernel
theorem dX12_law_160 : decode cX12_law 160 = .ok (.iload_n 1, 1) := by decide +kernel
theorem dX12_law_161 : decode cX12_law 161 = .ok (.iconst 2, 1) := by decide +kernel
theorem dX12_law_162 : decode cX12_law 162 = .ok (.iadd, 1) := by decide +kernel
theorem dX12_law_163 : decode cX12_law 163 = .ok (.iload_n 2, 1) := by decide +kernel
theorem dX12_law_164 : decode cX12_law 164 = .ok (.iadd, 1) := by decide +kernel
theorem dX12_law_165 : decode cX12_law 165 = .ok (.aload_n 0, 1) := by decide +kernel
theorem dX12_law_166 : decode cX12_law 166 = .ok (.getfield 30, 3) := by decide +kernel
theorem dX12_law_169 : decode cX12_law 169 = .ok (.iload_n 2, 1) := by decide +kernel
theorem dX12_law_170 : decode cX12_law 170 = .ok (.iaload, 1) := by decide +kernel
theorem dX12_law_171 : decode cX12_law 171 = .ok (.iastore, 1) := by decide +kernel
theorem dX12_law_172 : decode cX12_law 172 = .ok (.iinc 2 1, 3) := by decide +kernel
theorem dX12_law_175 : decode cX12_law 175 = .ok (.goto (-30), 3) := by decide +kernel
theorem dX12_law_178 : decode cX12_law 178 = .ok (.iconst 0, 1) := by decide +kernel
theorem dX12_law_179 : decode cX12_law 179 = .ok (.istore_n 2, 1) := by decide +kernel
theorem dX12_law_180 : decode cX12_law 180 = .ok (.iload_n 2, 1) := by decide +kernel
theorem dX12_law_181 : decode cX12_law 181 = .ok (.aload_n 0, 1) := by decide +kernel
theorem dX12_law_182 : decode cX12_law 182 = .ok (.getfield 214, 3) := by decide +kernel
theorem dX12_law_185 : decode cX12_law 185 = .ok (.if_icmp .ge 49, 3) := by decide +kernel
theorem dX12_law_188 : decode cX12_law 188 = .ok (.aload_n 0, 1) := by decide +kernel
theorem dX12_law_189 : decode cX12_law 189 = .ok (.getfield 13, 3) := by decide +kernel
theorem dX12_law_192 : decode cX12_law 192 = .ok (.iload_n 1, 1) := by decide +kernel
theorem dX12_law_193 : decode cX12_law 193 = .ok (.bipush 98, 2) := by decide +kernel
theorem dX12_law_195 : decode cX12_law 195 = .ok (.iadd, 1) := by decide +kernel
theorem dX12_law_196 : decode cX12_law 196 = .ok (.iconst 2, 1) := by decide +kernel
theorem dX12_law_197 : decode cX12_law 197 = .ok (.iload_n 2, 1) := by decide +kernel
theorem dX12_law_198 : decode cX12_law 198 = .ok (.imul, 1) := by decide +kernel
theorem dX12_law_199 : decode cX12_law 199 = .ok (.iadd, 1) := by decide +kernel
theorem dX12_law_200 : decode cX12_law 200 = .ok (.aload_n 0, 1) := by decide +kernel
theorem dX12_law_201 : decode cX12_law 201 = .ok (.getfield 33, 3) := by decide +kernel
theorem dX12_law_204 : decode cX12_law 204 = .ok (.iload_n 2, 1) := by decide +kernel
theorem dX12_law_205 : decode cX12_law 205 = .ok (.iaload, 1) := by decide +kernel
theorem dX12_law_206 : decode cX12_law 206 = .ok (.iastore, 1) := by decide +kernel
theorem dX12_law_207 : decode cX12_law 207 = .ok (.aload_n 0, 1) := by decide +kernel
theorem dX12_law_208 : decode cX12_law 208 = .ok (.getfield 13, 3) := by decide +kernel
theorem dX12_law_211 : decode cX12_law 211 = .ok (.iload_n 1, 1) := by decide +kernel
theorem dX12_law_212 : decode cX12_law 212 = .ok (.bipush 98, 2) := by decide +kernel
theorem dX12_law_214 : decode cX12_law 214 = .ok (.iadd, 1) := by decide +kernel
theorem dX12_law_215 : decode cX12_law 215 = .ok (.iconst 2, 1) := by decide +kernel
theorem dX12_law_216 : decode cX12_law 216 = .ok (.iload_n 2, 1) := by decide +kernel
theorem dX12_law_217 : decode cX12_law 217 = .ok (.imul, 1) := by decide +kernel
theorem dX12_law_218 : decode cX12_law 218 = .ok (.iadd, 1) := by decide +kernel
theorem dX12_law_219 : decode cX12_law 219 = .ok (.iconst 1, 1) := by decide +kernel
theorem dX12_law_220 : decode cX12_law 220 = .ok (.iadd, 1) := by decide +kernel
theorem dX12_law_221 : decode cX12_law 221 = .ok (.aload_n 0, 1) := by decide +kernel
theorem dX12_law_222 : decode cX12_law 222 = .ok (.getfield 36, 3) := by decide +kernel
theorem dX12_law_225 : decode cX12_law 225 = .ok (.iload_n 2, 1) := by decide +kernel
theorem dX12_law_226 : decode cX12_law 226 = .ok (.iaload, 1) := by decide +kernel
theorem dX12_law_227 : decode cX12_law 227 = .ok (.iastore, 1) := by decide +kernel
theorem dX12_law_228 : decode cX12_law 228 = .ok (.iinc 2 1, 3) := by decide +kernel
theorem dX12_law_231 : decode cX12_law 231 = .ok (.goto (-51), 3) := by decide +kernel
theorem dX12_law_234 : decode cX12_law 234 = .ok (.aload_n 0, 1) := by decide +kernel
theorem dX12_law_235 : decode cX12_law 235 = .ok (.getfield 13, 3) := by decide +kernel
theorem dX12_law_238 : decode cX12_law 238 = .ok (.iconst 1, 1) := by decide +kernel
theorem dX12_law_239 : decode cX12_law 239 = .ok (.dup2, 1) := by decide +kernel
theorem dX12_law_240 : decode cX12_law 240 = .ok (.iaload, 1) := by decide +kernel
theorem dX12_law_241 : decode cX12_law 241 = .ok (.iconst 1, 1) := by decide +kernel
theorem dX12_law_242 : decode cX12_law 242 = .ok (.iadd, 1) := by decide +kernel
theorem dX12_law_243 : decode cX12_law 243 = .ok (.iastore, 1) := by decide +kernel
theorem dX12_law_244 : decode cX12_law 244 = .ok (.aload_n 0, 1) := by decide +kernel
theorem dX12_law_245 : decode cX12_law 245 = .ok (.aload_n 0, 1) := by decide +kernel
theorem dX12_law_246 : decode cX12_law 246 = .ok (.getfield 13, 3) := by decide +kernel
theorem dX12_law_249 : decode cX12_law 249 = .ok (.iconst 1, 1) := by decide +kernel
theorem dX12_law_250 : decode cX12_law 250 = .ok (.iaload, 1) := by decide +kernel
theorem dX12_law_251 : decode cX12_law 251 = .ok (.iconst 1, 1) := by decide +kernel
theorem dX12_law_252 : decode cX12_law 252 = .ok (.isub, 1) := by decide +kernel
theorem dX12_law_253 : decode cX12_law 253 = .ok (.invokevirtual 121, 3) := by decide +kernel
theorem dX12_law_256 : decode cX12_law 256 = .ok (.ireturn, 1) := by decide +kernel
set_option maxHeartbeats 4000000 in
set_option maxRecDepth 100000 in
theorem x_X12_law_180 {p : Program} {l : Launch} {e : Env} {s : State} {m : MethodId} {args : Array Value} {below : List Frame} {meth : Method} {c : Code} {D : va_G} {K : Nat → ClassId} {A : Nat → Prop} {ad : Nat → Nat} {rest : va_W} (C : xC p s m args meth c D K A RX12 cX12_law 3 (some .int)) (z : Int32 × xS) : ∀ (n : Nat) (y1 : Int32) (y2 : Int32) (σ : xS), F_X12_law_180  n y1 y2 σ = some z → X p l e (xR 8 171) s m args below meth c D A 3 (xQi below D K A args s z.1 (RW K ad rest z.2)) 0 0 180 [(0, .ref (ad 0)), (1, .int y1), (2, .int y2)] [] (RW K ad rest σ) := by
  intro n
  induction n with
  | zero =>
    intro y1 y2 σ hF
    cases hF
  | succ n ih =>
    intro y1 y2 σ hF
    rw [F_X12_law_180] at hF
    refine x_iload_n C 2 2 dX12_law_180 rfl rfl ?_
    refine x_aload_n C 0 0 dX12_law_181 rfl rfl ?_
    refine x_get C 0 dX12_law_182 fl_X12_214 (RW_o K ad rest σ) rfl ?_
    refine x_icmp_ge C 234 dX12_law_185 (by decide) hF (fun hF => ?_) (fun hF => ?_)
    · refine x_aload_n C 0 0 dX12_law_234 rfl rfl ?_
      refine x_get C 0 dX12_law_235 fl_X12_13 (RW_o K ad rest σ) rfl ?_
      refine x_iconst C 1 dX12_law_238 (by decide +kernel) ?_
      refine x_dup2 C rfl rfl dX12_law_239 ?_
      refine x_iald C 2 dX12_law_240 (RW_a3 K ad rest σ) hF (fun v27 hF => ?_)
      refine x_iconst C 1 dX12_law_241 (by decide +kernel) ?_
      refine x_iadd C dX12_law_242 ?_
      refine x_iast C 2 dX12_law_243 (RW_a3 K ad rest σ) hF (RW_s3 K ad rest σ _) (fun hF => ?_)
      refine x_st (wf := RW K ad rest) hF (fun σ28 hF => ?_)
      refine x_aload_n C 0 0 dX12_law_244 rfl rfl ?_
      refine x_aload_n C 0 0 dX12_law_245 rfl rfl ?_
      refine x_get C 0 dX12_law_246 fl_X12_13 (RW_o K ad rest σ28) rfl ?_
      refine x_iconst C 1 dX12_law_249 (by decide +kernel) ?_
      refine x_iald C 2 dX12_law_250 (RW_a3 K ad rest σ28) hF (fun v29 hF => ?_)
      refine x_iconst C 1 dX12_law_251 (by decide +kernel) ?_
      refine x_isub C dX12_law_252 ?_
      refine x_callVI C (wf := RW K ad rest) (As := [.int (v29 - 1)]) (rest := []) dX12_law_253 ml_X12_121 rfl rfl (Nat.le_of_ble_eq_true rfl) 0 (RW_o K ad rest σ28) rfl ⟨Nat.le_of_ble_eq_true rfl, Nat.le_of_ble_eq_true rfl⟩ ⟨Nat.zero_le _, Nat.zero_le _⟩ (fun q9 hq9 => c_X12_tell l D K ad rest (v29 - 1) σ28 q9 hq9) hF (fun v31 σ30 hF => ?_)
      exact x_iret C dX12_law_256 rfl (congrArg Prod.fst (Option.some.inj hF)) (congrArg (fun q9 : Int32 × xS => RW K ad rest q9.2) (Option.some.inj hF))
    · refine x_aload_n C 0 0 dX12_law_188 rfl rfl ?_
      refine x_get C 0 dX12_law_189 fl_X12_13 (RW_o K ad rest σ) rfl ?_
      refine x_iload_n C 1 1 dX12_law_192 rfl rfl ?_
      refine x_bipush C 98 dX12_law_193 (by decide +kernel) ?_
      refine x_iadd C dX12_law_195 ?_
      refine x_iconst C 2 dX12_law_196 (by decide +kernel) ?_
      refine x_iload_n C 2 2 dX12_law_197 rfl rfl ?_
      refine x_imul C dX12_law_198 ?_
      refine x_iadd C dX12_law_199 ?_
      refine x_aload_n C 0 0 dX12_law_200 rfl rfl ?_
      refine x_get C 0 dX12_law_201 fl_X12_33 (RW_o K ad rest σ) rfl ?_
      refine x_iload_n C 2 2 dX12_law_204 rfl rfl ?_
      refine x_iald C 7 dX12_law_205 (RW_a18 K ad rest σ) hF (fun v32 hF => ?_)
      refine x_iast C 2 dX12_law_206 (RW_a3 K ad rest σ) hF (RW_s3 K ad rest σ _) (fun hF => ?_)
      refine x_st (wf := RW K ad rest) hF (fun σ33 hF => ?_)
      refine x_aload_n C 0 0 dX12_law_207 rfl rfl ?_
      refine x_get C 0 dX12_law_208 fl_X12_13 (RW_o K ad rest σ33) rfl ?_
      refine x_iload_n C 1 1 dX12_law_211 rfl rfl ?_
      refine x_bipush C 98 dX12_law_212 (by decide +kernel) ?_
      refine x_iadd C dX12_law_214 ?_
      refine x_iconst C 2 dX12_law_215 (by decide +kernel) ?_
      refine x_iload_n C 2 2 dX12_law_216 rfl rfl ?_
      refine x_imul C dX12_law_217 ?_
      refine x_iadd C dX12_law_218 ?_
      refine x_iconst C 1 dX12_law_219 (by decide +kernel) ?_
      refine x_iadd C dX12_law_220 ?_
      refine x_aload_n C 0 0 dX12_law_221 rfl rfl ?_
      refine x_get C 0 dX12_law_222 fl_X12_36 (RW_o K ad rest σ33) rfl ?_
      refine x_iload_n C 2 2 dX12_law_225 rfl rfl ?_
      refine x_iald C 8 dX12_law_226 (RW_a19 K ad rest σ33) hF (fun v34 hF => ?_)
      refine x_iast C 2 dX12_law_227 (RW_a3 K ad rest σ33) hF (RW_s3 K ad rest σ33 _) (fun hF => ?_)
      refine x_st (wf := RW K ad rest) hF (fun σ35 hF => ?_)
      refine x_iincN C 1 2 (fun x36 => [(2, .int x36), (0, .ref (ad 0)), (1, .int y1)]) dX12_law_228 rfl (by decide +kernel) (by decide) (fun _ => rfl) hF (fun x36 hF => ?_)
      refine x_goto C 180 dX12_law_231 (by decide) ?_
      refine x_loc [(0, .ref (ad 0)), (1, .int y1), (2, .int x36)] [1, 2, 0] rfl ?_
      exact ih y1 x36 σ35 hF
set_option maxHeartbeats 4000000 in
set_option maxRecDepth 100000 in
theorem x_X12_law_145 {p : Program} {l : Launch} {e : Env} {s : State} {m : MethodId} {args : Array Value} {below : List Frame} {meth : Method} {c : Code} {D : va_G} {K : Nat → ClassId} {A : Nat → Prop} {ad : Nat → Nat} {rest : va_W} (C : xC p s m args meth c D K A RX12 cX12_law 3 (some .int)) (z : Int32 × xS) : ∀ (n : Nat) (y1 : Int32) (y2 : Int32) (σ : xS), F_X12_law_145  n y1 y2 σ = some z → X p l e (xR 8 171) s m args below meth c D A 3 (xQi below D K A args s z.1 (RW K ad rest z.2)) 0 0 145 [(0, .ref (ad 0)), (1, .int y1), (2, .int y2)] [] (RW K ad rest σ) := by
  intro n
  induction n with
  | zero =>
    intro y1 y2 σ hF
    cases hF
  | succ n ih =>
    intro y1 y2 σ hF
    rw [F_X12_law_145] at hF
    refine x_iload_n C 2 2 dX12_law_145 rfl rfl ?_
    refine x_bipush C 8 dX12_law_146 (by decide +kernel) ?_
    refine x_aload_n C 0 0 dX12_law_148 rfl rfl ?_
    refine x_get C 0 dX12_law_149 fl_X12_293 (RW_o K ad rest σ) rfl ?_
    refine x_imul C dX12_law_152 ?_
    refine x_icmp_ge C 178 dX12_law_153 (by decide) hF (fun hF => ?_) (fun hF => ?_)
    · refine x_iconst C 0 dX12_law_178 (by decide +kernel) ?_
      refine x_topI hF (fun x23 hF => ?_)
      refine x_istore_n C [(2, .int x23), (0, .ref (ad 0)), (1, .int y1)] dX12_law_179 rfl (by decide) rfl ?_
      refine x_loc [(0, .ref (ad 0)), (1, .int y1), (2, .int x23)] [1, 2, 0] rfl ?_
      exact x_X12_law_180 C z FU y1 x23 σ hF
    · refine x_aload_n C 0 0 dX12_law_156 rfl rfl ?_
      refine x_get C 0 dX12_law_157 fl_X12_13 (RW_o K ad rest σ) rfl ?_
      refine x_iload_n C 1 1 dX12_law_160 rfl rfl ?_
      refine x_iconst C 2 dX12_law_161 (by decide +kernel) ?_
      refine x_iadd C dX12_law_162 ?_
      refine x_iload_n C 2 2 dX12_law_163 rfl rfl ?_
      refine x_iadd C dX12_law_164 ?_
      refine x_aload_n C 0 0 dX12_law_165 rfl rfl ?_
      refine x_get C 0 dX12_law_166 fl_X12_30 (RW_o K ad rest σ) rfl ?_
      refine x_iload_n C 2 2 dX12_law_169 rfl rfl ?_
      refine x_iald C 6 dX12_law_170 (RW_a16 K ad rest σ) hF (fun v24 hF => ?_)
      refine x_iast C 2 dX12_law_171 (RW_a3 K ad rest σ) hF (RW_s3 K ad rest σ _) (fun hF => ?_)
      refine x_st (wf := RW K ad rest) hF (fun σ25 hF => ?_)
      refine x_iincN C 1 2 (fun x26 => [(2, .int x26), (0, .ref (ad 0)), (1, .int y1)]) dX12_law_172 rfl (by decide +kernel) (by decide) (fun _ => rfl) hF (fun x26 hF => ?_)
      refine x_goto C 145 dX12_law_175 (by decide) ?_
      refine x_loc [(0, .ref (ad 0)), (1, .int y1), (2, .int x26)] [1, 2, 0] rfl ?_
      exact ih y1 x26 σ25 hF
set_option maxHeartbeats 4000000 in
set_option maxRecDepth 100000 in
theorem x_X12_law_97 {p : Program} {l : Launch} {e : Env} {s : State} {m : MethodId} {args : Array Value} {below : List Frame} {meth : Method} {c : Code} {D : va_G} {K : Nat → ClassId} {A : Nat → Prop} {ad : Nat → Nat} {rest : va_W} (C : xC p s m args meth c D K A RX12 cX12_law 3 (some .int)) (z : Int32 × xS) : ∀  (σ : xS), F_X12_law_97  σ = some z → X p l e (xR 8 171) s m args below meth c D A 3 (xQi below D K A args s z.1 (RW K ad rest z.2)) 0 0 97 [(0, .ref (ad 0))] [] (RW K ad rest σ) := by
  intro σ hF
  unfold F_X12_law_97 at hF
  refine x_aload_n C 0 0 dX12_law_97 rfl rfl ?_
  refine x_iconst C 0 dX12_law_98 (by decide +kernel) ?_
  refine x_put C 0 dX12_law_99 fl_X12_162 fm_X12_8 rfl rfl (RW_o K ad rest σ) (Nat.le_of_ble_eq_true rfl) (RW_s8 K ad rest σ _) ?_
  refine x_st (wf := RW K ad rest) hF (fun σ16 hF => ?_)
  refine x_aload_n C 0 0 dX12_law_102 rfl rfl ?_
  refine x_get C 0 dX12_law_103 fl_X12_175 (RW_o K ad rest σ16) rfl ?_
  refine x_if_eq C 116 dX12_law_106 (by decide) hF (fun hF => ?_) (fun hF => ?_)
  · refine x_sipush C 150 dX12_law_116 (by decide +kernel) ?_
    refine x_sipush C 900 dX12_law_119 (by decide +kernel) ?_
    refine x_aload_n C 0 0 dX12_law_122 rfl rfl ?_
    refine x_get C 0 dX12_law_123 fl_X12_13 (RW_o K ad rest σ16) rfl ?_
    refine x_iconst C 1 dX12_law_126 (by decide +kernel) ?_
    refine x_iald C 2 dX12_law_127 (RW_a3 K ad rest σ16) hF (fun v17 hF => ?_)
    refine x_imul C dX12_law_128 ?_
    refine x_iadd C dX12_law_129 ?_
    refine x_topI hF (fun x18 hF => ?_)
    refine x_istore_n C [(1, .int x18), (0, .ref (ad 0))] dX12_law_130 rfl (by decide) rfl ?_
    refine x_aload_n C 1 0 dX12_law_131 rfl rfl ?_
    refine x_get C 0 dX12_law_132 fl_X12_13 (RW_o K ad rest σ16) rfl ?_
    refine x_iload_n C 0 1 dX12_law_135 rfl rfl ?_
    refine x_iconst C 1 dX12_law_136 (by decide +kernel) ?_
    refine x_iadd C dX12_law_137 ?_
    refine x_aload_n C 1 0 dX12_law_138 rfl rfl ?_
    refine x_get C 0 dX12_law_139 fl_X12_293 (RW_o K ad rest σ16) rfl ?_
    refine x_iast C 2 dX12_law_142 (RW_a3 K ad rest σ16) hF (RW_s3 K ad rest σ16 _) (fun hF => ?_)
    refine x_st (wf := RW K ad rest) hF (fun σ19 hF => ?_)
    refine x_iconst C 0 dX12_law_143 (by decide +kernel) ?_
    refine x_topI hF (fun x20 hF => ?_)
    refine x_istore_n C [(2, .int x20), (1, .int x18), (0, .ref (ad 0))] dX12_law_144 rfl (by decide) rfl ?_
    refine x_loc [(0, .ref (ad 0)), (1, .int x18), (2, .int x20)] [2, 1, 0] rfl ?_
    exact x_X12_law_145 C z FU x18 x20 σ19 hF
  · refine x_aload_n C 0 0 dX12_law_109 rfl rfl ?_
    refine x_bipush C (-6) dX12_law_110 (by decide +kernel) ?_
    refine x_callVI C (wf := RW K ad rest) (As := [.int ((-6))]) (rest := []) dX12_law_112 ml_X12_121 rfl rfl (Nat.le_of_ble_eq_true rfl) 0 (RW_o K ad rest σ16) rfl ⟨Nat.le_of_ble_eq_true rfl, Nat.le_of_ble_eq_true rfl⟩ ⟨Nat.zero_le _, Nat.zero_le _⟩ (fun q9 hq9 => c_X12_tell l D K ad rest ((-6)) σ16 q9 hq9) hF (fun v22 σ21 hF => ?_)
    exact x_iret C dX12_law_115 rfl (congrArg Prod.fst (Option.some.inj hF)) (congrArg (fun q9 : Int32 × xS => RW K ad rest q9.2) (Option.some.inj hF))
set_option maxHeartbeats 4000000 in
set_option maxRecDepth 100000 in
theorem x_X12_law_78 {p : Program} {l : Launch} {e : Env} {s : State} {m : MethodId} {args : Array Value} {below : List Frame} {meth : Method} {c : Code} {D : va_G} {K : Nat → ClassId} {A : Nat → Prop} {ad : Nat → Nat} {rest : va_W} (C : xC p s m args meth c D K A RX12 cX12_law 3 (some .int)) (z : Int32 × xS) : ∀  (σ : xS), F_X12_law_78  σ = some z → X p l e (xR 8 171) s m args below meth c D A 3 (xQi below D K A args s z.1 (RW K ad rest z.2)) 0 0 78 [(0, .ref (ad 0))] [] (RW K ad rest σ) := by
  intro σ hF
  unfold F_X12_law_78 at hF
  refine x_aload_n C 0 0 dX12_law_78 rfl rfl ?_
  refine x_get C 0 dX12_law_79 fl_X12_175 (RW_o K ad rest σ) rfl ?_
  refine x_if_ne C 97 dX12_law_82 (by decide) hF (fun hF => ?_) (fun hF => ?_)
  · exact x_X12_law_97 C z σ hF
  · refine x_aload_n C 0 0 dX12_law_85 rfl rfl ?_
    refine x_get C 0 dX12_law_86 fl_X12_195 (RW_o K ad rest σ) rfl ?_
    refine x_if_eq C 97 dX12_law_89 (by decide) hF (fun hF => ?_) (fun hF => ?_)
    · exact x_X12_law_97 C z σ hF
    · refine x_aload_n C 0 0 dX12_law_92 rfl rfl ?_
      refine x_iconst C 0 dX12_law_93 (by decide +kernel) ?_
      refine x_callVV C (wf := RW K ad rest) (As := [.int 0]) (rest := []) dX12_law_94 ml_X12_210 rfl rfl (Nat.le_of_ble_eq_true rfl) 0 (RW_o K ad rest σ) rfl ⟨Nat.le_of_ble_eq_true rfl, Nat.le_of_ble_eq_true rfl⟩ ⟨Nat.zero_le _, Nat.zero_le _⟩ (fun q9 hq9 => c_X12_must l D K ad rest 0 σ q9 hq9) hF (fun _ σ15 hF => ?_)
      exact x_X12_law_97 C z σ15 hF
set_option maxHeartbeats 4000000 in
set_option maxRecDepth 100000 in
theorem x_X12_law_51 {p : Program} {l : Launch} {e : Env} {s : State} {m : MethodId} {args : Array Value} {below : List Frame} {meth : Method} {c : Code} {D : va_G} {K : Nat → ClassId} {A : Nat → Prop} {ad : Nat → Nat} {rest : va_W} (C : xC p s m args meth c D K A RX12 cX12_law 3 (some .int)) (z : Int32 × xS) : ∀ (n : Nat)  (σ : xS), F_X12_law_51  n σ = some z → X p l e (xR 8 171) s m args below meth c D A 3 (xQi below D K A args s z.1 (RW K ad rest z.2)) 0 0 51 [(0, .ref (ad 0))] [] (RW K ad rest σ) := by
  intro n
  induction n with
  | zero =>
    intro σ hF
    cases hF
  | succ n ih =>
    intro σ hF
    rw [F_X12_law_51] at hF
    refine x_aload_n C 0 0 dX12_law_51 rfl rfl ?_
    refine x_get C 0 dX12_law_52 fl_X12_175 (RW_o K ad rest σ) rfl ?_
    refine x_if_ne C 78 dX12_law_55 (by decide) hF (fun hF => ?_) (fun hF => ?_)
    · exact x_X12_law_78 C z σ hF
    · refine x_aload_n C 0 0 dX12_law_58 rfl rfl ?_
      refine x_bipush C 59 dX12_law_59 (by decide +kernel) ?_
      refine x_callVI C (wf := RW K ad rest) (As := [.int 59]) (rest := []) dX12_law_61 ml_X12_248 rfl rfl (Nat.le_of_ble_eq_true rfl) 0 (RW_o K ad rest σ) rfl ⟨Nat.le_of_ble_eq_true rfl, Nat.le_of_ble_eq_true rfl⟩ ⟨Nat.zero_le _, Nat.zero_le _⟩ (fun q9 hq9 => c_X12_isSign l D K ad rest 59 σ q9 hq9) hF (fun v12 σ11 hF => ?_)
      refine x_if_eq C 78 dX12_law_64 (by decide) hF (fun hF => ?_) (fun hF => ?_)
      · exact x_X12_law_78 C z σ11 hF
      · refine x_aload_n C 0 0 dX12_law_67 rfl rfl ?_
        refine x_callVV C (wf := RW K ad rest) (As := []) (rest := []) dX12_law_68 ml_X12_179 rfl rfl (Nat.le_of_ble_eq_true rfl) 0 (RW_o K ad rest σ11) rfl ⟨Nat.le_of_ble_eq_true rfl, Nat.le_of_ble_eq_true rfl⟩ ⟨Nat.zero_le _, Nat.zero_le _⟩ (fun q9 hq9 => c_X12_next l D K ad rest σ11 q9 hq9) hF (fun _ σ13 hF => ?_)
        refine x_aload_n C 0 0 dX12_law_71 rfl rfl ?_
        refine x_callVV C (wf := RW K ad rest) (As := []) (rest := []) dX12_law_72 ml_X12_304 rfl rfl (Nat.le_of_ble_eq_true rfl) 0 (RW_o K ad rest σ13) rfl ⟨Nat.le_of_ble_eq_true rfl, Nat.le_of_ble_eq_true rfl⟩ ⟨Nat.zero_le _, Nat.zero_le _⟩ (fun q9 hq9 => c_X12_readClause l D K ad rest σ13 q9 hq9) hF (fun _ σ14 hF => ?_)
        refine x_goto C 51 dX12_law_75 (by decide) ?_
        exact ih σ14 hF
set_option maxHeartbeats 4000000 in
set_option maxRecDepth 100000 in
theorem c_X12_law (l : Launch) (D : va_G) (K : Nat → ClassId) (ad : Nat → Nat) (rest : va_W)  (σ : xS) (z : Int32 × xS) (hF : F_X12_law σ = some z) : CI l D K yX12_law cX12_law 3 (some .int) 8 171 [.ref (ad 0)] (RW K ad rest σ) z.1 (RW K ad rest z.2) := by
  refine x_enterI [(0, .ref (ad 0))] pnX12 (Nat.le_of_ble_eq_true rfl) rfl ?_
  intro p e s m args below meth c A C
  unfold F_X12_law at hF
  refine x_aload_n C 0 0 dX12_law_0 rfl rfl ?_
  refine x_iconst C 0 dX12_law_1 (by decide +kernel) ?_
  refine x_put C 0 dX12_law_2 fl_X12_107 fm_X12_0 rfl rfl (RW_o K ad rest σ) (Nat.le_of_ble_eq_true rfl) (RW_s0 K ad rest σ _) ?_
  refine x_st (wf := RW K ad rest) hF (fun σ1 hF => ?_)
  refine x_aload_n C 0 0 dX12_law_5 rfl rfl ?_
  refine x_get C 0 dX12_law_6 fl_X12_13 (RW_o K ad rest σ1) rfl ?_
  refine x_iconst C 1 dX12_law_9 (by decide +kernel) ?_
  refine x_iald C 2 dX12_law_10 (RW_a3 K ad rest σ1) hF (fun v2 hF => ?_)
  refine x_bipush C 6 dX12_law_11 (by decide +kernel) ?_
  refine x_icmp_ne C 28 dX12_law_13 (by decide) hF (fun hF => ?_) (fun hF => ?_)
  · refine x_aload_n C 0 0 dX12_law_28 rfl rfl ?_
    refine x_callVV C (wf := RW K ad rest) (As := []) (rest := []) dX12_law_29 ml_X12_301 rfl rfl (Nat.le_of_ble_eq_true rfl) 0 (RW_o K ad rest σ1) rfl ⟨Nat.le_of_ble_eq_true rfl, Nat.le_of_ble_eq_true rfl⟩ ⟨Nat.zero_le _, Nat.zero_le _⟩ (fun q9 hq9 => c_X12_begin l D K ad rest σ1 q9 hq9) hF (fun _ σ3 hF => ?_)
    refine x_aload_n C 0 0 dX12_law_32 rfl rfl ?_
    refine x_iconst C 0 dX12_law_33 (by decide +kernel) ?_
    refine x_put C 0 dX12_law_34 fl_X12_293 fm_X12_15 rfl rfl (RW_o K ad rest σ3) (Nat.le_of_ble_eq_true rfl) (RW_s15 K ad rest σ3 _) ?_
    refine x_st (wf := RW K ad rest) hF (fun σ4 hF => ?_)
    refine x_aload_n C 0 0 dX12_law_37 rfl rfl ?_
    refine x_iconst C 0 dX12_law_38 (by decide +kernel) ?_
    refine x_put C 0 dX12_law_39 fl_X12_214 fm_X12_17 rfl rfl (RW_o K ad rest σ4) (Nat.le_of_ble_eq_true rfl) (RW_s17 K ad rest σ4 _) ?_
    refine x_st (wf := RW K ad rest) hF (fun σ5 hF => ?_)
    refine x_aload_n C 0 0 dX12_law_42 rfl rfl ?_
    refine x_iconst C 0 dX12_law_43 (by decide +kernel) ?_
    refine x_put C 0 dX12_law_44 fl_X12_245 fm_X12_20 rfl rfl (RW_o K ad rest σ5) (Nat.le_of_ble_eq_true rfl) (RW_s20 K ad rest σ5 _) ?_
    refine x_st (wf := RW K ad rest) hF (fun σ6 hF => ?_)
    refine x_aload_n C 0 0 dX12_law_47 rfl rfl ?_
    refine x_callVV C (wf := RW K ad rest) (As := []) (rest := []) dX12_law_48 ml_X12_304 rfl rfl (Nat.le_of_ble_eq_true rfl) 0 (RW_o K ad rest σ6) rfl ⟨Nat.le_of_ble_eq_true rfl, Nat.le_of_ble_eq_true rfl⟩ ⟨Nat.zero_le _, Nat.zero_le _⟩ (fun q9 hq9 => c_X12_readClause l D K ad rest σ6 q9 hq9) hF (fun _ σ7 hF => ?_)
    exact x_X12_law_51 C z FU σ7 hF
  · refine x_aload_n C 0 0 dX12_law_16 rfl rfl ?_
    refine x_iconst C 0 dX12_law_17 (by decide +kernel) ?_
    refine x_put C 0 dX12_law_18 fl_X12_162 fm_X12_8 rfl rfl (RW_o K ad rest σ1) (Nat.le_of_ble_eq_true rfl) (RW_s8 K ad rest σ1 _) ?_
    refine x_st (wf := RW K ad rest) hF (fun σ8 hF => ?_)
    refine x_aload_n C 0 0 dX12_law_21 rfl rfl ?_
    refine x_bipush C (-5) dX12_law_22 (by decide +kernel) ?_
    refine x_callVI C (wf := RW K ad rest) (As := [.int ((-5))]) (rest := []) dX12_law_24 ml_X12_121 rfl rfl (Nat.le_of_ble_eq_true rfl) 0 (RW_o K ad rest σ8) rfl ⟨Nat.le_of_ble_eq_true rfl, Nat.le_of_ble_eq_true rfl⟩ ⟨Nat.zero_le _, Nat.zero_le _⟩ (fun q9 hq9 => c_X12_tell l D K ad rest ((-5)) σ8 q9 hq9) hF (fun v10 σ9 hF => ?_)
    exact x_iret C dX12_law_27 rfl (congrArg Prod.fst (Option.some.inj hF)) (congrArg (fun q9 : Int32 × xS => RW K ad rest q9.2) (Option.some.inj hF))
theorem dX12_force_0 : decode cX12_force 0 = .ok (.aload_n 0, 1) := by decide +kernel
theorem dX12_force_1 : decode cX12_force 1 = .ok (.iconst 0, 1) := by decide +kernel
theorem dX12_force_2 : decode cX12_force 2 = .ok (.putfield 107, 3) := by decide +kernel
theorem dX12_force_5 : decode cX12_force 5 = .ok (.iload_n 1, 1) := by decide +kernel
theorem dX12_force_6 : decode cX12_force 6 = .ok (.iconst (-1), 1) := by decide +kernel
theorem dX12_force_7 : decode cX12_force 7 = .ok (.if_icmp .eq 21, 3) := by decide +kernel
theorem dX12_force_10 : decode cX12_force 10 = .ok (.iload_n 1, 1) := by decide +kernel
theorem dX12_force_11 : decode cX12_force 11 = .ok (.i2l, 1) := by decide +kernel
theorem dX12_force_12 : decode cX12_force 12 = .ok (.lconst 0, 1) := by decide +kernel
theorem dX12_force_13 : decode cX12_force 13 = .ok (.aload_n 0, 1) := by decide +kernel
theorem dX12_force_14 : decode cX12_force 14 = .ok (.getfield 13, 3) := by decide +kernel
theorem dX12_force_17 : decode cX12_force 17 = .ok (.iconst 1, 1) := by decide +kernel
theorem dX12_force_18 : decode cX12_force 18 = .ok (.iaload, 1) := by decide +kernel
theorem dX12_force_19 : decode cX12_force 19 = .ok (.i2l, 1) := by decide +kernel
theorem dX12_force_20 : decode cX12_force 20 = .ok (.lconst 1, 1) := by decide +kernel
theorem dX12_force_21 : decode cX12_force 21 = .ok (.lsub, 1) := by decide +kernel
theorem dX12_force_22 : decode cX12_force 22 = .ok (.invokestatic 117, 3) := by decide +kernel
theorem dX12_force_25 : decode cX12_force 25 = .ok (.ifCond .eq 12, 3) := by decide +kernel
theorem dX12_force_28 : decode cX12_force 28 = .ok (.aload_n 0, 1) := by decide +kernel
theorem dX12_force_29 : decode cX12_force 29 = .ok (.iconst 2, 1) := by decide +kernel
theorem dX12_force_30 : decode cX12_force 30 = .ok (.iload_n 1, 1) := by decide +kernel
theorem dX12_force_31 : decode cX12_force 31 = .ok (.invokevirtual 144, 3) := by decide +kernel
theorem dX12_force_34 : decode cX12_force 34 = .ok (.goto 9, 3) := by decide +kernel
theorem dX12_force_37 : decode cX12_force 37 = .ok (.aload_n 0, 1) := by decide +kernel
theorem dX12_force_38 : decode cX12_force 38 = .ok (.bipush (-2), 2) := by decide +kernel
theorem dX12_force_40 : decode cX12_force 40 = .ok (.invokevirtual 121, 3) := by decide +kernel
theorem dX12_force_43 : decode cX12_force 43 = .ok (.ireturn, 1) := by decide +kernel
set_option maxHeartbeats 4000000 in
set_option maxRecDepth 100000 in
theorem x_X12_force_28 {p : Program} {l : Launch} {e : Env} {s : State} {m : MethodId} {args : Array Value} {below : List Frame} {meth : Method} {c : Code} {D : va_G} {K : Nat → ClassId} {A : Nat → Prop} {ad : Nat → Nat} {rest : va_W} (C : xC p s m args meth c D K A RX12 cX12_force 2 (some .int)) (z : Int32 × xS) : ∀ (y1 : Int32) (σ : xS), F_X12_force_28  y1 σ = some z → X p l e (xR 2 44) s m args below meth c D A 2 (xQi below D K A args s z.1 (RW K ad rest z.2)) 0 0 28 [(0, .ref (ad 0)), (1, .int y1)] [] (RW K ad rest σ) := by
  intro y1 σ hF
  unfold F_X12_force_28 at hF
  refine x_aload_n C 0 0 dX12_force_28 rfl rfl ?_
  refine x_iconst C 2 dX12_force_29 (by decide +kernel) ?_
  refine x_iload_n C 1 1 dX12_force_30 rfl rfl ?_
  refine x_callVI C (wf := RW K ad rest) (As := [.int 2, .int y1]) (rest := []) dX12_force_31 ml_X12_144 rfl rfl (Nat.le_of_ble_eq_true rfl) 0 (RW_o K ad rest σ) rfl ⟨Nat.le_of_ble_eq_true rfl, Nat.le_of_ble_eq_true rfl⟩ ⟨Nat.zero_le _, Nat.zero_le _⟩ (fun q9 hq9 => c_X12_change l D K ad rest 2 y1 σ q9 hq9) hF (fun v8 σ7 hF => ?_)
  refine x_goto C 43 dX12_force_34 (by decide) ?_
  exact x_iret C dX12_force_43 rfl (congrArg Prod.fst (Option.some.inj hF)) (congrArg (fun q9 : Int32 × xS => RW K ad rest q9.2) (Option.some.inj hF))
set_option maxHeartbeats 4000000 in
set_option maxRecDepth 100000 in
theorem c_X12_force (l : Launch) (D : va_G) (K : Nat → ClassId) (ad : Nat → Nat) (rest : va_W) (a1 : Int32) (σ : xS) (z : Int32 × xS) (hF : F_X12_force a1 σ = some z) : CI l D K yX12_force cX12_force 2 (some .int) 2 44 [.ref (ad 0), .int a1] (RW K ad rest σ) z.1 (RW K ad rest z.2) := by
  refine x_enterI [(0, .ref (ad 0)), (1, .int a1)] pnX12 (Nat.le_of_ble_eq_true rfl) rfl ?_
  intro p e s m args below meth c A C
  unfold F_X12_force at hF
  refine x_aload_n C 0 0 dX12_force_0 rfl rfl ?_
  refine x_iconst C 0 dX12_force_1 (by decide +kernel) ?_
  refine x_put C 0 dX12_force_2 fl_X12_107 fm_X12_0 rfl rfl (RW_o K ad rest σ) (Nat.le_of_ble_eq_true rfl) (RW_s0 K ad rest σ _) ?_
  refine x_st (wf := RW K ad rest) hF (fun σ1 hF => ?_)
  refine x_iload_n C 1 1 dX12_force_5 rfl rfl ?_
  refine x_iconst C (-1) dX12_force_6 (by decide +kernel) ?_
  refine x_icmp_eq C 28 dX12_force_7 (by decide) hF (fun hF => ?_) (fun hF => ?_)
  · exact x_X12_force_28 C z a1 σ1 hF
  · refine x_iload_n C 1 1 dX12_force_10 rfl rfl ?_
    refine x_i2l C dX12_force_11 ?_
    refine x_lconst C 0 dX12_force_12 (by decide +kernel) ?_
    refine x_aload_n C 0 0 dX12_force_13 rfl rfl ?_
    refine x_get C 0 dX12_force_14 fl_X12_13 (RW_o K ad rest σ1) rfl ?_
    refine x_iconst C 1 dX12_force_17 (by decide +kernel) ?_
    refine x_iald C 2 dX12_force_18 (RW_a3 K ad rest σ1) hF (fun v2 hF => ?_)
    refine x_i2l C dX12_force_19 ?_
    refine x_lconst C 1 dX12_force_20 (by decide +kernel) ?_
    refine x_lsub C dX12_force_21 ?_
    refine x_callSI C (wf := RW K ad rest) (As := [.long (a1.toInt64), .long 0, .long ((v2.toInt64) - 1)]) (rest := []) dX12_force_22 ml_X12_117 rfl rfl (Nat.le_of_ble_eq_true rfl) ⟨Nat.le_of_ble_eq_true rfl, Nat.le_of_ble_eq_true rfl⟩ ⟨Nat.zero_le _, Nat.zero_le _⟩ (fun q9 hq9 => c_X12_in l D K ad rest (a1.toInt64) 0 ((v2.toInt64) - 1) σ1 q9 hq9) hF (fun v4 σ3 hF => ?_)
    refine x_if_eq C 37 dX12_force_25 (by decide) hF (fun hF => ?_) (fun hF => ?_)
    · refine x_aload_n C 0 0 dX12_force_37 rfl rfl ?_
      refine x_bipush C (-2) dX12_force_38 (by decide +kernel) ?_
      refine x_callVI C (wf := RW K ad rest) (As := [.int ((-2))]) (rest := []) dX12_force_40 ml_X12_121 rfl rfl (Nat.le_of_ble_eq_true rfl) 0 (RW_o K ad rest σ3) rfl ⟨Nat.le_of_ble_eq_true rfl, Nat.le_of_ble_eq_true rfl⟩ ⟨Nat.zero_le _, Nat.zero_le _⟩ (fun q9 hq9 => c_X12_tell l D K ad rest ((-2)) σ3 q9 hq9) hF (fun v6 σ5 hF => ?_)
      exact x_iret C dX12_force_43 rfl (congrArg Prod.fst (Option.some.inj hF)) (congrArg (fun q9 : Int32 × xS => RW K ad rest q9.2) (Option.some.inj hF))
    · exact x_X12_force_28 C z a1 σ3 hF
theorem dX12_reckon_0 : decode cX12_reckon 0 = .ok (.iload_n 1, 1) := by decide +kernel
theorem dX12_reckon_1 : decode cX12_reckon 1 = .ok (.tableswitch 112 20 25 #[39, 44, 49, 54, 86, 99], 39) := by decide +kernel
theorem dX12_reckon_40 : decode cX12_reckon 40 = .ok (.lload_n 2, 1) := by decide +kernel
theorem dX12_reckon_41 : decode cX12_reckon 41 = .ok (.lload 4, 2) := by decide +kernel
theorem dX12_reckon_43 : decode cX12_reckon 43 = .ok (.ladd, 1) := by decide +kernel
theorem dX12_reckon_44 : decode cX12_reckon 44 = .ok (.lreturn, 1) := by decide +kernel
theorem dX12_reckon_45 : decode cX12_reckon 45 = .ok (.lload_n 2, 1) := by decide +kernel
theorem dX12_reckon_46 : decode cX12_reckon 46 = .ok (.lload 4, 2) := by decide +kernel
theorem dX12_reckon_48 : decode cX12_reckon 48 = .ok (.lsub, 1) := by decide +kernel
theorem dX12_reckon_49 : decode cX12_reckon 49 = .ok (.lreturn, 1) := by decide +kernel
theorem dX12_reckon_50 : decode cX12_reckon 50 = .ok (.lload_n 2, 1) := by decide +kernel
theorem dX12_reckon_51 : decode cX12_reckon 51 = .ok (.lload 4, 2) := by decide +kernel
theorem dX12_reckon_53 : decode cX12_reckon 53 = .ok (.lmul, 1) := by decide +kernel
theorem dX12_reckon_54 : decode cX12_reckon 54 = .ok (.lreturn, 1) := by decide +kernel
theorem dX12_reckon_55 : decode cX12_reckon 55 = .ok (.aload_n 0, 1) := by decide +kernel
theorem dX12_reckon_56 : decode cX12_reckon 56 = .ok (.lload 4, 2) := by decide +kernel
theorem dX12_reckon_58 : decode cX12_reckon 58 = .ok (.lconst 0, 1) := by decide +kernel
theorem dX12_reckon_59 : decode cX12_reckon 59 = .ok (.lcmp, 1) := by decide +kernel
theorem dX12_reckon_60 : decode cX12_reckon 60 = .ok (.ifCond .ne 7, 3) := by decide +kernel
theorem dX12_reckon_63 : decode cX12_reckon 63 = .ok (.iconst 1, 1) := by decide +kernel
theorem dX12_reckon_64 : decode cX12_reckon 64 = .ok (.goto 4, 3) := by decide +kernel
theorem dX12_reckon_67 : decode cX12_reckon 67 = .ok (.iconst 0, 1) := by decide +kernel
theorem dX12_reckon_68 : decode cX12_reckon 68 = .ok (.putfield 307, 3) := by decide +kernel
theorem dX12_reckon_71 : decode cX12_reckon 71 = .ok (.aload_n 0, 1) := by decide +kernel
theorem dX12_reckon_72 : decode cX12_reckon 72 = .ok (.getfield 307, 3) := by decide +kernel
theorem dX12_reckon_75 : decode cX12_reckon 75 = .ok (.ifCond .eq 7, 3) := by decide +kernel
theorem dX12_reckon_78 : decode cX12_reckon 78 = .ok (.lconst 0, 1) := by decide +kernel
theorem dX12_reckon_79 : decode cX12_reckon 79 = .ok (.goto 7, 3) := by decide +kernel
theorem dX12_reckon_82 : decode cX12_reckon 82 = .ok (.lload_n 2, 1) := by decide +kernel
theorem dX12_reckon_83 : decode cX12_reckon 83 = .ok (.lload 4, 2) := by decide +kernel
theorem dX12_reckon_85 : decode cX12_reckon 85 = .ok (.ldiv, 1) := by decide +kernel
theorem dX12_reckon_86 : decode cX12_reckon 86 = .ok (.lreturn, 1) := by decide +kernel
theorem dX12_reckon_87 : decode cX12_reckon 87 = .ok (.lload_n 2, 1) := by decide +kernel
theorem dX12_reckon_88 : decode cX12_reckon 88 = .ok (.lload 4, 2) := by decide +kernel
theorem dX12_reckon_90 : decode cX12_reckon 90 = .ok (.lcmp, 1) := by decide +kernel
theorem dX12_reckon_91 : decode cX12_reckon 91 = .ok (.ifCond .ge 7, 3) := by decide +kernel
theorem dX12_reckon_94 : decode cX12_reckon 94 = .ok (.lconst 1, 1) := by decide +kernel
theorem dX12_reckon_95 : decode cX12_reckon 95 = .ok (.goto 4, 3) := by decide +kernel
theorem dX12_reckon_98 : decode cX12_reckon 98 = .ok (.lconst 0, 1) := by decide +kernel
theorem dX12_reckon_99 : decode cX12_reckon 99 = .ok (.lreturn, 1) := by decide +kernel
theorem dX12_reckon_100 : decode cX12_reckon 100 = .ok (.lload_n 2, 1) := by decide +kernel
theorem dX12_reckon_101 : decode cX12_reckon 101 = .ok (.lload 4, 2) := by decide +kernel
theorem dX12_reckon_103 : decode cX12_reckon 103 = .ok (.lcmp, 1) := by decide +kernel
theorem dX12_reckon_104 : decode cX12_reckon 104 = .ok (.ifCond .le 7, 3) := by decide +kernel
theorem dX12_reckon_107 : decode cX12_reckon 107 = .ok (.lconst 1, 1) := by decide +kernel
theorem dX12_reckon_108 : decode cX12_reckon 108 = .ok (.goto 4, 3) := by decide +kernel
theorem dX12_reckon_111 : decode cX12_reckon 111 = .ok (.lconst 0, 1) := by decide +kernel
theorem dX12_reckon_112 : decode cX12_reckon 112 = .ok (.lreturn, 1) := by decide +kernel
theorem dX12_reckon_113 : decode cX12_reckon 113 = .ok (.lload_n 2, 1) := by decide +kernel
theorem dX12_reckon_114 : decode cX12_reckon 114 = .ok (.lload 4, 2) := by decide +kernel
theorem dX12_reckon_116 : decode cX12_reckon 116 = .ok (.lcmp, 1) := by decide +kernel
theorem dX12_reckon_117 : decode cX12_reckon 117 = .ok (.ifCond .ne 7, 3) := by decide +kernel
theorem dX12_reckon_120 : decode cX12_reckon 120 = .ok (.lconst 1, 1) := by decide +kernel
theorem dX12_reckon_121 : decode cX12_reckon 121 = .ok (.goto 4, 3) := by decide +kernel
theorem dX12_reckon_124 : decode cX12_reckon 124 = .ok (.lconst 0, 1) := by decide +kernel
theorem dX12_reckon_125 : decode cX12_reckon 125 = .ok (.lreturn, 1) := by decide +kernel
set_option maxHeartbeats 4000000 in
set_option maxRecDepth 100000 in
theorem x_X12_reckon_68 {p : Program} {l : Launch} {e : Env} {s : State} {m : MethodId} {args : Array Value} {below : List Frame} {meth : Method} {c : Code} {D : va_G} {K : Nat → ClassId} {A : Nat → Prop} {ad : Nat → Nat} {rest : va_W} (C : xC p s m args meth c D K A RX12 cX12_reckon 6 (some .long)) (z : Int64 × xS) : ∀ (y2 : Int64) (y4 : Int64) (t1 : Int32) (σ : xS), F_X12_reckon_68  y2 y4 t1 σ = some z → X p l e (xR 0 0) s m args below meth c D A 6 (xQl below D K A args s z.1 (RW K ad rest z.2)) 0 0 68 [(0, .ref (ad 0)), (2, .long y2), (4, .long y4)] [.int t1, .ref (ad 0)] (RW K ad rest σ) := by
  intro y2 y4 t1 σ hF
  unfold F_X12_reckon_68 at hF
  have hz := (cz_some hF).1
  replace hF := (cz_some hF).2
  refine x_put C 0 dX12_reckon_68 fl_X12_307 fm_X12_30 (cz_nar hz).1 (cz_nar hz).2 (RW_o K ad rest σ) (Nat.le_of_ble_eq_true rfl) (RW_s30 K ad rest σ _) ?_
  refine x_st (wf := RW K ad rest) hF (fun σ7 hF => ?_)
  refine x_aload_n C 0 0 dX12_reckon_71 rfl rfl ?_
  refine x_get C 0 dX12_reckon_72 fl_X12_307 (RW_o K ad rest σ7) rfl ?_
  refine x_if_eq C 82 dX12_reckon_75 (by decide) hF (fun hF => ?_) (fun hF => ?_)
  · refine x_lload_n C 1 2 dX12_reckon_82 rfl rfl ?_
    refine x_lload C 2 4 dX12_reckon_83 rfl ?_
    refine x_ldiv C dX12_reckon_85 hF (fun hF => ?_)
    exact x_lret C dX12_reckon_86 rfl (congrArg Prod.fst (Option.some.inj hF)) (congrArg (fun q9 : Int64 × xS => RW K ad rest q9.2) (Option.some.inj hF))
  · refine x_lconst C 0 dX12_reckon_78 (by decide +kernel) ?_
    refine x_goto C 86 dX12_reckon_79 (by decide) ?_
    exact x_lret C dX12_reckon_86 rfl (congrArg Prod.fst (Option.some.inj hF)) (congrArg (fun q9 : Int64 × xS => RW K ad rest q9.2) (Option.some.inj hF))
set_option maxHeartbeats 4000000 in
set_option maxRecDepth 100000 in
theorem c_X12_reckon (l : Launch) (D : va_G) (K : Nat → ClassId) (ad : Nat → Nat) (rest : va_W) (a1 : Int32) (a2 : Int64) (a3 : Int64) (σ : xS) (z : Int64 × xS) (hF : F_X12_reckon a1 a2 a3 σ = some z) : CL l D K yX12_reckon cX12_reckon 6 (some .long) 0 0 [.ref (ad 0), .int a1, .long a2, .long a3] (RW K ad rest σ) z.1 (RW K ad rest z.2) := by
  refine x_enterL [(0, .ref (ad 0)), (1, .int a1), (2, .long a2), (4, .long a3)] pnX12 (Nat.le_of_ble_eq_true rfl) rfl ?_
  intro p e s m args below meth c A C
  unfold F_X12_reckon at hF
  refine x_iload_n C 1 1 dX12_reckon_0 rfl rfl ?_
  by_cases h1 : a1 = 20
  · rw [if_pos h1] at hF
    refine x_tabIn C 40 dX12_reckon_1 (by rw [h1]; decide +kernel) (by rw [h1]; decide +kernel) (by rw [h1]; rfl) (by decide) ?_
    refine x_lload_n C 2 2 dX12_reckon_40 rfl rfl ?_
    refine x_lload C 3 4 dX12_reckon_41 rfl ?_
    refine x_ladd C dX12_reckon_43 ?_
    exact x_lret C dX12_reckon_44 rfl (congrArg Prod.fst (Option.some.inj hF)) (congrArg (fun q9 : Int64 × xS => RW K ad rest q9.2) (Option.some.inj hF))
  · rw [if_neg h1] at hF
    by_cases h2 : a1 = 21
    · rw [if_pos h2] at hF
      refine x_tabIn C 45 dX12_reckon_1 (by rw [h2]; decide +kernel) (by rw [h2]; decide +kernel) (by rw [h2]; rfl) (by decide) ?_
      refine x_lload_n C 2 2 dX12_reckon_45 rfl rfl ?_
      refine x_lload C 3 4 dX12_reckon_46 rfl ?_
      refine x_lsub C dX12_reckon_48 ?_
      exact x_lret C dX12_reckon_49 rfl (congrArg Prod.fst (Option.some.inj hF)) (congrArg (fun q9 : Int64 × xS => RW K ad rest q9.2) (Option.some.inj hF))
    · rw [if_neg h2] at hF
      by_cases h3 : a1 = 22
      · rw [if_pos h3] at hF
        refine x_tabIn C 50 dX12_reckon_1 (by rw [h3]; decide +kernel) (by rw [h3]; decide +kernel) (by rw [h3]; rfl) (by decide) ?_
        refine x_lload_n C 2 2 dX12_reckon_50 rfl rfl ?_
        refine x_lload C 3 4 dX12_reckon_51 rfl ?_
        refine x_lmul C dX12_reckon_53 ?_
        exact x_lret C dX12_reckon_54 rfl (congrArg Prod.fst (Option.some.inj hF)) (congrArg (fun q9 : Int64 × xS => RW K ad rest q9.2) (Option.some.inj hF))
      · rw [if_neg h3] at hF
        by_cases h4 : a1 = 23
        · rw [if_pos h4] at hF
          refine x_tabIn C 55 dX12_reckon_1 (by rw [h4]; decide +kernel) (by rw [h4]; decide +kernel) (by rw [h4]; rfl) (by decide) ?_
          refine x_aload_n C 0 0 dX12_reckon_55 rfl rfl ?_
          refine x_lload C 3 4 dX12_reckon_56 rfl ?_
          refine x_lconst C 0 dX12_reckon_58 (by decide +kernel) ?_
          refine x_lcmp C dX12_reckon_59 ?_
          refine x_if_ne C 67 dX12_reckon_60 (by decide) hF (fun hF => ?_) (fun hF => ?_)
          · refine x_iconst C 0 dX12_reckon_67 (by decide +kernel) ?_
            refine x_loc [(0, .ref (ad 0)), (2, .long a2), (4, .long a3)] [0, 2, 3] rfl ?_
            exact x_X12_reckon_68 C z a2 a3 0 σ hF
          · refine x_iconst C 1 dX12_reckon_63 (by decide +kernel) ?_
            refine x_goto C 68 dX12_reckon_64 (by decide) ?_
            refine x_loc [(0, .ref (ad 0)), (2, .long a2), (4, .long a3)] [0, 2, 3] rfl ?_
            exact x_X12_reckon_68 C z a2 a3 1 σ hF
        · rw [if_neg h4] at hF
          by_cases h5 : a1 = 24
          · rw [if_pos h5] at hF
            refine x_tabIn C 87 dX12_reckon_1 (by rw [h5]; decide +kernel) (by rw [h5]; decide +kernel) (by rw [h5]; rfl) (by decide) ?_
            refine x_lload_n C 2 2 dX12_reckon_87 rfl rfl ?_
            refine x_lload C 3 4 dX12_reckon_88 rfl ?_
            refine x_lcmp C dX12_reckon_90 ?_
            refine x_if_ge C 98 dX12_reckon_91 (by decide) hF (fun hF => ?_) (fun hF => ?_)
            · refine x_lconst C 0 dX12_reckon_98 (by decide +kernel) ?_
              exact x_lret C dX12_reckon_99 rfl (congrArg Prod.fst (Option.some.inj hF)) (congrArg (fun q9 : Int64 × xS => RW K ad rest q9.2) (Option.some.inj hF))
            · refine x_lconst C 1 dX12_reckon_94 (by decide +kernel) ?_
              refine x_goto C 99 dX12_reckon_95 (by decide) ?_
              exact x_lret C dX12_reckon_99 rfl (congrArg Prod.fst (Option.some.inj hF)) (congrArg (fun q9 : Int64 × xS => RW K ad rest q9.2) (Option.some.inj hF))
          · rw [if_neg h5] at hF
            by_cases h6 : a1 = 25
            · rw [if_pos h6] at hF
              refine x_tabIn C 100 dX12_reckon_1 (by rw [h6]; decide +kernel) (by rw [h6]; decide +kernel) (by rw [h6]; rfl) (by decide) ?_
              refine x_lload_n C 2 2 dX12_reckon_100 rfl rfl ?_
              refine x_lload C 3 4 dX12_reckon_101 rfl ?_
              refine x_lcmp C dX12_reckon_103 ?_
              refine x_if_le C 111 dX12_reckon_104 (by decide) hF (fun hF => ?_) (fun hF => ?_)
              · refine x_lconst C 0 dX12_reckon_111 (by decide +kernel) ?_
                exact x_lret C dX12_reckon_112 rfl (congrArg Prod.fst (Option.some.inj hF)) (congrArg (fun q9 : Int64 × xS => RW K ad rest q9.2) (Option.some.inj hF))
              · refine x_lconst C 1 dX12_reckon_107 (by decide +kernel) ?_
                refine x_goto C 112 dX12_reckon_108 (by decide) ?_
                exact x_lret C dX12_reckon_112 rfl (congrArg Prod.fst (Option.some.inj hF)) (congrArg (fun q9 : Int64 × xS => RW K ad rest q9.2) (Option.some.inj hF))
            · rw [if_neg h6] at hF
              refine x_tabOut C 113 dX12_reckon_1 (by have e_h1 : a1.toInt ≠ 20 := x_neT h1; have e_h2 : a1.toInt ≠ 21 := x_neT h2; have e_h3 : a1.toInt ≠ 22 := x_neT h3; have e_h4 : a1.toInt ≠ 23 := x_neT h4; have e_h5 : a1.toInt ≠ 24 := x_neT h5; have e_h6 : a1.toInt ≠ 25 := x_neT h6; omega) (by decide) ?_
              refine x_lload_n C 2 2 dX12_reckon_113 rfl rfl ?_
              refine x_lload C 3 4 dX12_reckon_114 rfl ?_
              refine x_lcmp C dX12_reckon_116 ?_
              refine x_if_ne C 124 dX12_reckon_117 (by decide) hF (fun hF => ?_) (fun hF => ?_)
              · refine x_lconst C 0 dX12_reckon_124 (by decide +kernel) ?_
                exact x_lret C dX12_reckon_125 rfl (congrArg Prod.fst (Option.some.inj hF)) (congrArg (fun q9 : Int64 × xS => RW K ad rest q9.2) (Option.some.inj hF))
              · refine x_lconst C 1 dX12_reckon_120 (by decide +kernel) ?_
                refine x_goto C 125 dX12_reckon_121 (by decide) ?_
                exact x_lret C dX12_reckon_125 rfl (congrArg Prod.fst (Option.some.inj hF)) (congrArg (fun q9 : Int64 × xS => RW K ad rest q9.2) (Option.some.inj hF))
theorem dX12_reckonAll_0 : decode cX12_reckonAll 0 = .ok (.aload_n 0, 1) := by decide +kernel
theorem dX12_reckonAll_1 : decode cX12_reckonAll 1 = .ok (.iconst 0, 1) := by decide +kernel
theorem dX12_reckonAll_2 : decode cX12_reckonAll 2 = .ok (.putfield 307, 3) := by decide +kernel
theorem dX12_reckonAll_5 : decode cX12_reckonAll 5 = .ok (.iconst 0, 1) := by decide +kernel
theorem dX12_reckonAll_6 : decode cX12_reckonAll 6 = .ok (.istore_n 3, 1) := by decide +kernel
theorem dX12_reckonAll_7 : decode cX12_reckonAll 7 = .ok (.iload_n 1, 1) := by decide +kernel
theorem dX12_reckonAll_8 : decode cX12_reckonAll 8 = .ok (.istore 4, 2) := by decide +kernel
theorem dX12_reckonAll_10 : decode cX12_reckonAll 10 = .ok (.iload 4, 2) := by decide +kernel
theorem dX12_reckonAll_12 : decode cX12_reckonAll 12 = .ok (.iload_n 2, 1) := by decide +kernel
theorem dX12_reckonAll_13 : decode cX12_reckonAll 13 = .ok (.if_icmp .ge 232, 3) := by decide +kernel
theorem dX12_reckonAll_16 : decode cX12_reckonAll 16 = .ok (.aload_n 0, 1) := by decide +kernel
theorem dX12_reckonAll_17 : decode cX12_reckonAll 17 = .ok (.getfield 307, 3) := by decide +kernel
theorem dX12_reckonAll_20 : decode cX12_reckonAll 20 = .ok (.ifCond .ne 225, 3) := by decide +kernel
theorem dX12_reckonAll_23 : decode cX12_reckonAll 23 = .ok (.aload_n 0, 1) := by decide +kernel
theorem dX12_reckonAll_24 : decode cX12_reckonAll 24 = .ok (.getfield 13, 3) := by decide +kernel
theorem dX12_reckonAll_27 : decode cX12_reckonAll 27 = .ok (.aload_n 0, 1) := by decide +kernel
theorem dX12_reckonAll_28 : decode cX12_reckonAll 28 = .ok (.getfield 310, 3) := by decide +kernel
theorem dX12_reckonAll_31 : decode cX12_reckonAll 31 = .ok (.bipush 98, 2) := by decide +kernel
theorem dX12_reckonAll_33 : decode cX12_reckonAll 33 = .ok (.iadd, 1) := by decide +kernel
theorem dX12_reckonAll_34 : decode cX12_reckonAll 34 = .ok (.iconst 2, 1) := by decide +kernel
theorem dX12_reckonAll_35 : decode cX12_reckonAll 35 = .ok (.iload 4, 2) := by decide +kernel
theorem dX12_reckonAll_37 : decode cX12_reckonAll 37 = .ok (.imul, 1) := by decide +kernel
theorem dX12_reckonAll_38 : decode cX12_reckonAll 38 = .ok (.iadd, 1) := by decide +kernel
theorem dX12_reckonAll_39 : decode cX12_reckonAll 39 = .ok (.iaload, 1) := by decide +kernel
theorem dX12_reckonAll_40 : decode cX12_reckonAll 40 = .ok (.istore 5, 2) := by decide +kernel
theorem dX12_reckonAll_42 : decode cX12_reckonAll 42 = .ok (.aload_n 0, 1) := by decide +kernel
theorem dX12_reckonAll_43 : decode cX12_reckonAll 43 = .ok (.getfield 13, 3) := by decide +kernel
theorem dX12_reckonAll_46 : decode cX12_reckonAll 46 = .ok (.aload_n 0, 1) := by decide +kernel
theorem dX12_reckonAll_47 : decode cX12_reckonAll 47 = .ok (.getfield 310, 3) := by decide +kernel
theorem dX12_reckonAll_50 : decode cX12_reckonAll 50 = .ok (.bipush 98, 2) := by decide +kernel
theorem dX12_reckonAll_52 : decode cX12_reckonAll 52 = .ok (.iadd, 1) := by decide +kernel
theorem dX12_reckonAll_53 : decode cX12_reckonAll 53 = .ok (.iconst 2, 1) := by decide +kernel
theorem dX12_reckonAll_54 : decode cX12_reckonAll 54 = .ok (.iload 4, 2) := by decide +kernel
theorem dX12_reckonAll_56 : decode cX12_reckonAll 56 = .ok (.imul, 1) := by decide +kernel
theorem dX12_reckonAll_57 : decode cX12_reckonAll 57 = .ok (.iadd, 1) := by decide +kernel
theorem dX12_reckonAll_58 : decode cX12_reckonAll 58 = .ok (.iconst 1, 1) := by decide +kernel
theorem dX12_reckonAll_59 : decode cX12_reckonAll 59 = .ok (.iadd, 1) := by decide +kernel
theorem dX12_reckonAll_60 : decode cX12_reckonAll 60 = .ok (.iaload, 1) := by decide +kernel
theorem dX12_reckonAll_61 : decode cX12_reckonAll 61 = .ok (.istore 6, 2) := by decide +kernel
theorem dX12_reckonAll_63 : decode cX12_reckonAll 63 = .ok (.iinc 4 1, 3) := by decide +kernel
theorem dX12_reckonAll_66 : decode cX12_reckonAll 66 = .ok (.iload 5, 2) := by decide +kernel
theorem dX12_reckonAll_68 : decode cX12_reckonAll 68 = .ok (.bipush 20, 2) := by decide +kernel
theorem dX12_reckonAll_70 : decode cX12_reckonAll 70 = .ok (.if_icmp .ge 33, 3) := by decide +kernel
theorem dX12_reckonAll_73 : decode cX12_reckonAll 73 = .ok (.aload_n 0, 1) := by decide +kernel
theorem dX12_reckonAll_74 : decode cX12_reckonAll 74 = .ok (.getfield 83, 3) := by decide +kernel
theorem dX12_reckonAll_77 : decode cX12_reckonAll 77 = .ok (.iload_n 3, 1) := by decide +kernel
theorem dX12_reckonAll_78 : decode cX12_reckonAll 78 = .ok (.iload 5, 2) := by decide +kernel
theorem dX12_reckonAll_80 : decode cX12_reckonAll 80 = .ok (.ifCond .ne 9, 3) := by decide +kernel
theorem dX12_reckonAll_83 : decode cX12_reckonAll 83 = .ok (.iload 6, 2) := by decide +kernel
theorem dX12_reckonAll_85 : decode cX12_reckonAll 85 = .ok (.i2l, 1) := by decide +kernel
theorem dX12_reckonAll_86 : decode cX12_reckonAll 86 = .ok (.goto 10, 3) := by decide +kernel
theorem dX12_reckonAll_89 : decode cX12_reckonAll 89 = .ok (.aload_n 0, 1) := by decide +kernel
theorem dX12_reckonAll_90 : decode cX12_reckonAll 90 = .ok (.getfield 80, 3) := by decide +kernel
theorem dX12_reckonAll_93 : decode cX12_reckonAll 93 = .ok (.iload 5, 2) := by decide +kernel
theorem dX12_reckonAll_95 : decode cX12_reckonAll 95 = .ok (.laload, 1) := by decide +kernel
theorem dX12_reckonAll_96 : decode cX12_reckonAll 96 = .ok (.lastore, 1) := by decide +kernel
theorem dX12_reckonAll_97 : decode cX12_reckonAll 97 = .ok (.iinc 3 1, 3) := by decide +kernel
theorem dX12_reckonAll_100 : decode cX12_reckonAll 100 = .ok (.goto 142, 3) := by decide +kernel
theorem dX12_reckonAll_103 : decode cX12_reckonAll 103 = .ok (.iload 5, 2) := by decide +kernel
theorem dX12_reckonAll_105 : decode cX12_reckonAll 105 = .ok (.bipush 27, 2) := by decide +kernel
theorem dX12_reckonAll_107 : decode cX12_reckonAll 107 = .ok (.if_icmp .ge 73, 3) := by decide +kernel
theorem dX12_reckonAll_110 : decode cX12_reckonAll 110 = .ok (.iinc 3 (-1), 3) := by decide +kernel
theorem dX12_reckonAll_113 : decode cX12_reckonAll 113 = .ok (.aload_n 0, 1) := by decide +kernel
theorem dX12_reckonAll_114 : decode cX12_reckonAll 114 = .ok (.getfield 83, 3) := by decide +kernel
theorem dX12_reckonAll_117 : decode cX12_reckonAll 117 = .ok (.iload_n 3, 1) := by decide +kernel
theorem dX12_reckonAll_118 : decode cX12_reckonAll 118 = .ok (.iconst 1, 1) := by decide +kernel
theorem dX12_reckonAll_119 : decode cX12_reckonAll 119 = .ok (.isub, 1) := by decide +kernel
theorem dX12_reckonAll_120 : decode cX12_reckonAll 120 = .ok (.aload_n 0, 1) := by decide +kernel
theorem dX12_reckonAll_121 : decode cX12_reckonAll 121 = .ok (.iload 5, 2) := by decide +kernel
theorem dX12_reckonAll_123 : decode cX12_reckonAll 123 = .ok (.aload_n 0, 1) := by decide +kernel
theorem dX12_reckonAll_124 : decode cX12_reckonAll 124 = .ok (.getfield 83, 3) := by decide +kernel
theorem dX12_reckonAll_127 : decode cX12_reckonAll 127 = .ok (.iload_n 3, 1) := by decide +kernel
theorem dX12_reckonAll_128 : decode cX12_reckonAll 128 = .ok (.iconst 1, 1) := by decide +kernel
theorem dX12_reckonAll_129 : decode cX12_reckonAll 129 = .ok (.isub, 1) := by decide +kernel
theorem dX12_reckonAll_130 : decode cX12_reckonAll 130 = .ok (.laload, 1) := by decide +kernel
theorem dX12_reckonAll_131 : decode cX12_reckonAll 131 = .ok (.aload_n 0, 1) := by decide +kernel
theorem dX12_reckonAll_132 : decode cX12_reckonAll 132 = .ok (.getfield 83, 3) := by decide +kernel
theorem dX12_reckonAll_135 : decode cX12_reckonAll 135 = .ok (.iload_n 3, 1) := by decide +kernel
theorem dX12_reckonAll_136 : decode cX12_reckonAll 136 = .ok (.laload, 1) := by decide +kernel
theorem dX12_reckonAll_137 : decode cX12_reckonAll 137 = .ok (.invokevirtual 313, 3) := by decide +kernel
theorem dX12_reckonAll_140 : decode cX12_reckonAll 140 = .ok (.lastore, 1) := by decide +kernel
theorem dX12_reckonAll_141 : decode cX12_reckonAll 141 = .ok (.aload_n 0, 1) := by decide +kernel
theorem dX12_reckonAll_142 : decode cX12_reckonAll 142 = .ok (.aload_n 0, 1) := by decide +kernel
theorem dX12_reckonAll_143 : decode cX12_reckonAll 143 = .ok (.getfield 307, 3) := by decide +kernel
theorem dX12_reckonAll_146 : decode cX12_reckonAll 146 = .ok (.ifCond .ne 23, 3) := by decide +kernel
theorem dX12_reckonAll_149 : decode cX12_reckonAll 149 = .ok (.aload_n 0, 1) := by decide +kernel
theorem dX12_reckonAll_150 : decode cX12_reckonAll 150 = .ok (.getfield 83, 3) := by decide +kernel
theorem dX12_reckonAll_153 : decode cX12_reckonAll 153 = .ok (.iload_n 3, 1) := by decide +kernel
theorem dX12_reckonAll_154 : decode cX12_reckonAll 154 = .ok (.iconst 1, 1) := by decide +kernel
theorem dX12_reckonAll_155 : decode cX12_reckonAll 155 = .ok (.isub, 1) := by decide +kernel
theorem dX12_reckonAll_156 : decode cX12_reckonAll 156 = .ok (.laload, 1) := by decide +kernel
theorem dX12_reckonAll_157 : decode cX12_reckonAll 157 = .ok (.ldc2_w 317, 3) := by decide +kernel
theorem dX12_reckonAll_160 : decode cX12_reckonAll 160 = .ok (.ldc2_w 319, 3) := by decide +kernel
theorem dX12_reckonAll_163 : decode cX12_reckonAll 163 = .ok (.invokestatic 117, 3) := by decide +kernel
theorem dX12_reckonAll_166 : decode cX12_reckonAll 166 = .ok (.ifCond .ne 7, 3) := by decide +kernel
theorem dX12_reckonAll_169 : decode cX12_reckonAll 169 = .ok (.iconst 1, 1) := by decide +kernel
theorem dX12_reckonAll_170 : decode cX12_reckonAll 170 = .ok (.goto 4, 3) := by decide +kernel
theorem dX12_reckonAll_173 : decode cX12_reckonAll 173 = .ok (.iconst 0, 1) := by decide +kernel
theorem dX12_reckonAll_174 : decode cX12_reckonAll 174 = .ok (.putfield 307, 3) := by decide +kernel
theorem dX12_reckonAll_177 : decode cX12_reckonAll 177 = .ok (.goto 65, 3) := by decide +kernel
theorem dX12_reckonAll_180 : decode cX12_reckonAll 180 = .ok (.iload 5, 2) := by decide +kernel
theorem dX12_reckonAll_182 : decode cX12_reckonAll 182 = .ok (.bipush 27, 2) := by decide +kernel
theorem dX12_reckonAll_184 : decode cX12_reckonAll 184 = .ok (.if_icmp .ne 24, 3) := by decide +kernel
theorem dX12_reckonAll_187 : decode cX12_reckonAll 187 = .ok (.aload_n 0, 1) := by decide +kernel
theorem dX12_reckonAll_188 : decode cX12_reckonAll 188 = .ok (.getfield 83, 3) := by decide +kernel
theorem dX12_reckonAll_191 : decode cX12_reckonAll 191 = .ok (.iload_n 3, 1) := by decide +kernel
theorem dX12_reckonAll_192 : decode cX12_reckonAll 192 = .ok (.iconst 1, 1) := by decide +kernel
theorem dX12_reckonAll_193 : decode cX12_reckonAll 193 = .ok (.isub, 1) := by decide +kernel
theorem dX12_reckonAll_194 : decode cX12_reckonAll 194 = .ok (.lconst 1, 1) := by decide +kernel
theorem dX12_reckonAll_195 : decode cX12_reckonAll 195 = .ok (.aload_n 0, 1) := by decide +kernel
theorem dX12_reckonAll_196 : decode cX12_reckonAll 196 = .ok (.getfield 83, 3) := by decide +kernel
theorem dX12_reckonAll_199 : decode cX12_reckonAll 199 = .ok (.iload_n 3, 1) := by decide +kernel
theorem dX12_reckonAll_200 : decode cX12_reckonAll 200 = .ok (.iconst 1, 1) := by decide +kernel
theorem dX12_reckonAll_201 : decode cX12_reckonAll 201 = .ok (.isub, 1) := by decide +kernel
theorem dX12_reckonAll_202 : decode cX12_reckonAll 202 = .ok (.laload, 1) := by decide +kernel
theorem dX12_reckonAll_203 : decode cX12_reckonAll 203 = .ok (.lsub, 1) := by decide +kernel
theorem dX12_reckonAll_204 : decode cX12_reckonAll 204 = .ok (.lastore, 1) := by decide +kernel
theorem dX12_reckonAll_205 : decode cX12_reckonAll 205 = .ok (.goto 37, 3) := by decide +kernel
theorem dX12_reckonAll_208 : decode cX12_reckonAll 208 = .ok (.aload_n 0, 1) := by decide +kernel
theorem dX12_reckonAll_209 : decode cX12_reckonAll 209 = .ok (.getfield 83, 3) := by decide +kernel
theorem dX12_reckonAll_212 : decode cX12_reckonAll 212 = .ok (.iload_n 3, 1) := by decide +kernel
theorem dX12_reckonAll_213 : decode cX12_reckonAll 213 = .ok (.iconst 1, 1) := by decide +kernel
theorem dX12_reckonAll_214 : decode cX12_reckonAll 214 = .ok (.isub, 1) := by decide +kernel
theorem dX12_reckonAll_215 : decode cX12_reckonAll 215 = .ok (.laload, 1) := by decide +kernel
theorem dX12_reckonAll_216 : decode cX12_reckonAll 216 = .ok (.iload 5, 2) := by decide +kernel
theorem dX12_reckonAll_218 : decode cX12_reckonAll 218 = .ok (.bipush 28, 2) := by decide +kernel
theorem dX12_reckonAll_220 : decode cX12_reckonAll 220 = .ok (.if_icmp .ne 7, 3) := by decide +kernel
theorem dX12_reckonAll_223 : decode cX12_reckonAll 223 = .ok (.lconst 0, 1) := by decide +kernel
theorem dX12_reckonAll_224 : decode cX12_reckonAll 224 = .ok (.goto 4, 3) := by decide +kernel
theorem dX12_reckonAll_227 : decode cX12_reckonAll 227 = .ok (.lconst 1, 1) := by decide +kernel
theorem dX12_reckonAll_228 : decode cX12_reckonAll 228 = .ok (.lcmp, 1) := by decide +kernel
theorem dX12_reckonAll_229 : decode cX12_reckonAll 229 = .ok (.ifCond .ne 10, 3) := by decide +kernel
theorem dX12_reckonAll_232 : decode cX12_reckonAll 232 = .ok (.iload 6, 2) := by decide +kernel
theorem dX12_reckonAll_234 : decode cX12_reckonAll 234 = .ok (.istore 4, 2) := by decide +kernel
theorem dX12_reckonAll_236 : decode cX12_reckonAll 236 = .ok (.goto 6, 3) := by decide +kernel
theorem dX12_reckonAll_239 : decode cX12_reckonAll 239 = .ok (.iinc 3 (-1), 3) := by decide +kernel
theorem dX12_reckonAll_242 : decode cX12_reckonAll 242 = .ok (.goto (-232), 3) := by decide +kernel
theorem dX12_reckonAll_245 : decode cX12_reckonAll 245 = .ok (.aload_n 0, 1) := by decide +kernel
theorem dX12_reckonAll_246 : decode cX12_reckonAll 246 = .ok (.iload_n 3, 1) := by decide +kernel
theorem dX12_reckonAll_247 : decode cX12_reckonAll 247 = .ok (.ifCond .le 12, 3) := by decide +kernel
theorem dX12_reckonAll_250 : decode cX12_reckonAll 250 = .ok (.aload_n 0, 1) := by decide +kernel
theorem dX12_reckonAll_251 : decode cX12_reckonAll 251 = .ok (.getfield 83, 3) := by decide +kernel
theorem dX12_reckonAll_254 : decode cX12_reckonAll 254 = .ok (.iconst 0, 1) := by decide +kernel
theorem dX12_reckonAll_255 : decode cX12_reckonAll 255 = .ok (.laload, 1) := by decide +kernel
theorem dX12_reckonAll_256 : decode cX12_reckonAll 256 = .ok (.goto 4, 3) := by decide +kernel
theorem dX12_reckonAll_259 : decode cX12_reckonAll 259 = .ok (.lconst 0, 1) := by decide +kernel
theorem dX12_reckonAll_260 : decode cX12_reckonAll 260 = .ok (.putfield 321, 3) := by decide +kernel
theorem dX12_reckonAll_263 : decode cX12_reckonAll 263 = .ok (.return_, 1) := by decide +kernel
set_option maxHeartbeats 4000000 in
set_option maxRecDepth 100000 in
theorem x_X12_reckonAll_96 {p : Program} {l : Launch} {e : Env} {s : State} {m : MethodId} {args : Array Value} {below : List Frame} {meth : Method} {c : Code} {D : va_G} {K : Nat → ClassId} {A : Nat → Prop} {ad : Nat → Nat} {rest : va_W} (C : xC p s m args meth c D K A RX12 cX12_reckonAll 7 none) (z : Unit × xS) (k_10 : Int32 → Int32 → Int32 → xS → Option (Unit × xS)) (H_10 : ∀ (y2 : Int32) (y3 : Int32) (y4 : Int32) (σ : xS), k_10 y2 y3 y4 σ = some z → X p l e (xR 1 25) s m args below meth c D A 7 (xQv below D K A args s (RW K ad rest z.2)) 0 0 10 [(0, .ref (ad 0)), (2, .int y2), (3, .int y3), (4, .int y4)] [] (RW K ad rest σ)) : ∀ (y2 : Int32) (y3 : Int32) (y4 : Int32) (t1 : Int32) (t2 : Int64) (σ : xS), F_X12_reckonAll_96 k_10 y2 y3 y4 t1 t2 σ = some z → X p l e (xR 1 25) s m args below meth c D A 7 (xQv below D K A args s (RW K ad rest z.2)) 0 0 96 [(0, .ref (ad 0)), (2, .int y2), (3, .int y3), (4, .int y4)] [.long t2, .int t1, .ref (ad 30)] (RW K ad rest σ) := by
  intro y2 y3 y4 t1 t2 σ hF
  unfold F_X12_reckonAll_96 at hF
  refine x_last C 14 dX12_reckonAll_96 (RW_a29 K ad rest σ) hF (RW_s29 K ad rest σ _) (fun hF => ?_)
  refine x_st (wf := RW K ad rest) hF (fun σ22 hF => ?_)
  refine x_iincN C 1 2 (fun x23 => [(3, .int x23), (0, .ref (ad 0)), (2, .int y2), (4, .int y4)]) dX12_reckonAll_97 rfl (by decide +kernel) (by decide) (fun _ => rfl) hF (fun x23 hF => ?_)
  refine x_goto C 242 dX12_reckonAll_100 (by decide) ?_
  refine x_goto C 10 dX12_reckonAll_242 (by decide) ?_
  refine x_loc [(0, .ref (ad 0)), (2, .int y2), (3, .int x23), (4, .int y4)] [1, 2, 0, 3] rfl ?_
  exact H_10 y2 x23 y4 σ22 hF
set_option maxHeartbeats 4000000 in
set_option maxRecDepth 100000 in
theorem x_X12_reckonAll_228 {p : Program} {l : Launch} {e : Env} {s : State} {m : MethodId} {args : Array Value} {below : List Frame} {meth : Method} {c : Code} {D : va_G} {K : Nat → ClassId} {A : Nat → Prop} {ad : Nat → Nat} {rest : va_W} (C : xC p s m args meth c D K A RX12 cX12_reckonAll 7 none) (z : Unit × xS) (k_10 : Int32 → Int32 → Int32 → xS → Option (Unit × xS)) (H_10 : ∀ (y2 : Int32) (y3 : Int32) (y4 : Int32) (σ : xS), k_10 y2 y3 y4 σ = some z → X p l e (xR 1 25) s m args below meth c D A 7 (xQv below D K A args s (RW K ad rest z.2)) 0 0 10 [(0, .ref (ad 0)), (2, .int y2), (3, .int y3), (4, .int y4)] [] (RW K ad rest σ)) : ∀ (y2 : Int32) (y3 : Int32) (y4 : Int32) (y6 : Int32) (t0 : Int64) (t1 : Int64) (σ : xS), F_X12_reckonAll_228 k_10 y2 y3 y4 y6 t0 t1 σ = some z → X p l e (xR 1 25) s m args below meth c D A 7 (xQv below D K A args s (RW K ad rest z.2)) 0 0 228 [(0, .ref (ad 0)), (2, .int y2), (3, .int y3), (4, .int y4), (6, .int y6)] [.long t1, .long t0] (RW K ad rest σ) := by
  intro y2 y3 y4 y6 t0 t1 σ hF
  unfold F_X12_reckonAll_228 at hF
  refine x_lcmp C dX12_reckonAll_228 ?_
  refine x_if_ne C 239 dX12_reckonAll_229 (by decide) hF (fun hF => ?_) (fun hF => ?_)
  · refine x_iincN C (-1) 2 (fun x20 => [(3, .int x20), (0, .ref (ad 0)), (2, .int y2), (4, .int y4), (6, .int y6)]) dX12_reckonAll_239 rfl (by decide +kernel) (by decide) (fun _ => rfl) hF (fun x20 hF => ?_)
    refine x_goto C 10 dX12_reckonAll_242 (by decide) ?_
    refine x_loc [(0, .ref (ad 0)), (2, .int y2), (3, .int x20), (4, .int y4)] [1, 2, 0, 3] rfl ?_
    exact H_10 y2 x20 y4 σ hF
  · refine x_iload C 4 6 dX12_reckonAll_232 rfl ?_
    refine x_istore C [(4, .int y6), (0, .ref (ad 0)), (2, .int y2), (3, .int y3), (6, .int y6)] dX12_reckonAll_234 (by decide) rfl ?_
    refine x_goto C 242 dX12_reckonAll_236 (by decide) ?_
    refine x_goto C 10 dX12_reckonAll_242 (by decide) ?_
    refine x_loc [(0, .ref (ad 0)), (2, .int y2), (3, .int y3), (4, .int y6)] [1, 2, 3, 0] rfl ?_
    exact H_10 y2 y3 y6 σ hF
set_option maxHeartbeats 4000000 in
set_option maxRecDepth 100000 in
theorem x_X12_reckonAll_174 {p : Program} {l : Launch} {e : Env} {s : State} {m : MethodId} {args : Array Value} {below : List Frame} {meth : Method} {c : Code} {D : va_G} {K : Nat → ClassId} {A : Nat → Prop} {ad : Nat → Nat} {rest : va_W} (C : xC p s m args meth c D K A RX12 cX12_reckonAll 7 none) (z : Unit × xS) (k_10 : Int32 → Int32 → Int32 → xS → Option (Unit × xS)) (H_10 : ∀ (y2 : Int32) (y3 : Int32) (y4 : Int32) (σ : xS), k_10 y2 y3 y4 σ = some z → X p l e (xR 1 25) s m args below meth c D A 7 (xQv below D K A args s (RW K ad rest z.2)) 0 0 10 [(0, .ref (ad 0)), (2, .int y2), (3, .int y3), (4, .int y4)] [] (RW K ad rest σ)) : ∀ (y2 : Int32) (y3 : Int32) (y4 : Int32) (t1 : Int32) (σ : xS), F_X12_reckonAll_174 k_10 y2 y3 y4 t1 σ = some z → X p l e (xR 1 25) s m args below meth c D A 7 (xQv below D K A args s (RW K ad rest z.2)) 0 0 174 [(0, .ref (ad 0)), (2, .int y2), (3, .int y3), (4, .int y4)] [.int t1, .ref (ad 0)] (RW K ad rest σ) := by
  intro y2 y3 y4 t1 σ hF
  unfold F_X12_reckonAll_174 at hF
  have hz := (cz_some hF).1
  replace hF := (cz_some hF).2
  refine x_put C 0 dX12_reckonAll_174 fl_X12_307 fm_X12_30 (cz_nar hz).1 (cz_nar hz).2 (RW_o K ad rest σ) (Nat.le_of_ble_eq_true rfl) (RW_s30 K ad rest σ _) ?_
  refine x_st (wf := RW K ad rest) hF (fun σ21 hF => ?_)
  refine x_goto C 242 dX12_reckonAll_177 (by decide) ?_
  refine x_goto C 10 dX12_reckonAll_242 (by decide) ?_
  exact H_10 y2 y3 y4 σ21 hF
set_option maxHeartbeats 4000000 in
set_option maxRecDepth 100000 in
theorem x_X12_reckonAll_169 {p : Program} {l : Launch} {e : Env} {s : State} {m : MethodId} {args : Array Value} {below : List Frame} {meth : Method} {c : Code} {D : va_G} {K : Nat → ClassId} {A : Nat → Prop} {ad : Nat → Nat} {rest : va_W} (C : xC p s m args meth c D K A RX12 cX12_reckonAll 7 none) (z : Unit × xS) (k_10 : Int32 → Int32 → Int32 → xS → Option (Unit × xS)) (H_10 : ∀ (y2 : Int32) (y3 : Int32) (y4 : Int32) (σ : xS), k_10 y2 y3 y4 σ = some z → X p l e (xR 1 25) s m args below meth c D A 7 (xQv below D K A args s (RW K ad rest z.2)) 0 0 10 [(0, .ref (ad 0)), (2, .int y2), (3, .int y3), (4, .int y4)] [] (RW K ad rest σ)) : ∀ (y2 : Int32) (y3 : Int32) (y4 : Int32) (σ : xS), F_X12_reckonAll_169 k_10 y2 y3 y4 σ = some z → X p l e (xR 1 25) s m args below meth c D A 7 (xQv below D K A args s (RW K ad rest z.2)) 0 0 169 [(0, .ref (ad 0)), (2, .int y2), (3, .int y3), (4, .int y4)] [.ref (ad 0)] (RW K ad rest σ) := by
  intro y2 y3 y4 σ hF
  unfold F_X12_reckonAll_169 at hF
  refine x_iconst C 1 dX12_reckonAll_169 (by decide +kernel) ?_
  refine x_goto C 174 dX12_reckonAll_170 (by decide) ?_
  exact x_X12_reckonAll_174 C z k_10 H_10 y2 y3 y4 1 σ hF
set_option maxHeartbeats 4000000 in
set_option maxRecDepth 100000 in
theorem x_X12_reckonAll_260 {p : Program} {l : Launch} {e : Env} {s : State} {m : MethodId} {args : Array Value} {below : List Frame} {meth : Method} {c : Code} {D : va_G} {K : Nat → ClassId} {A : Nat → Prop} {ad : Nat → Nat} {rest : va_W} (C : xC p s m args meth c D K A RX12 cX12_reckonAll 7 none) (z : Unit × xS) : ∀ (t1 : Int64) (σ : xS), F_X12_reckonAll_260  t1 σ = some z → X p l e (xR 1 25) s m args below meth c D A 7 (xQv below D K A args s (RW K ad rest z.2)) 0 0 260 [] [.long t1, .ref (ad 0)] (RW K ad rest σ) := by
  intro t1 σ hF
  unfold F_X12_reckonAll_260 at hF
  refine x_put C 0 dX12_reckonAll_260 fl_X12_321 fm_X12_31 rfl rfl (RW_o K ad rest σ) (Nat.le_of_ble_eq_true rfl) (RW_s31 K ad rest σ _) ?_
  refine x_st (wf := RW K ad rest) hF (fun σ24 hF => ?_)
  exact x_vret C dX12_reckonAll_263 rfl (congrArg (fun q9 : Unit × xS => RW K ad rest q9.2) (Option.some.inj hF))
set_option maxHeartbeats 4000000 in
set_option maxRecDepth 100000 in
theorem x_X12_reckonAll_245 {p : Program} {l : Launch} {e : Env} {s : State} {m : MethodId} {args : Array Value} {below : List Frame} {meth : Method} {c : Code} {D : va_G} {K : Nat → ClassId} {A : Nat → Prop} {ad : Nat → Nat} {rest : va_W} (C : xC p s m args meth c D K A RX12 cX12_reckonAll 7 none) (z : Unit × xS) : ∀ (y3 : Int32) (σ : xS), F_X12_reckonAll_245  y3 σ = some z → X p l e (xR 1 25) s m args below meth c D A 7 (xQv below D K A args s (RW K ad rest z.2)) 0 0 245 [(0, .ref (ad 0)), (3, .int y3)] [] (RW K ad rest σ) := by
  intro y3 σ hF
  unfold F_X12_reckonAll_245 at hF
  refine x_aload_n C 0 0 dX12_reckonAll_245 rfl rfl ?_
  refine x_iload_n C 1 3 dX12_reckonAll_246 rfl rfl ?_
  refine x_if_le C 259 dX12_reckonAll_247 (by decide) hF (fun hF => ?_) (fun hF => ?_)
  · refine x_lconst C 0 dX12_reckonAll_259 (by decide +kernel) ?_
    refine x_loc [] [] rfl ?_
    exact x_X12_reckonAll_260 C z 0 σ hF
  · refine x_aload_n C 0 0 dX12_reckonAll_250 rfl rfl ?_
    refine x_get C 0 dX12_reckonAll_251 fl_X12_83 (RW_o K ad rest σ) rfl ?_
    refine x_iconst C 0 dX12_reckonAll_254 (by decide +kernel) ?_
    refine x_lald C 14 dX12_reckonAll_255 (RW_a29 K ad rest σ) hF (fun v19 hF => ?_)
    refine x_goto C 260 dX12_reckonAll_256 (by decide) ?_
    refine x_loc [] [] rfl ?_
    exact x_X12_reckonAll_260 C z v19 σ hF
set_option maxHeartbeats 4000000 in
set_option maxRecDepth 100000 in
theorem x_X12_reckonAll_10 {p : Program} {l : Launch} {e : Env} {s : State} {m : MethodId} {args : Array Value} {below : List Frame} {meth : Method} {c : Code} {D : va_G} {K : Nat → ClassId} {A : Nat → Prop} {ad : Nat → Nat} {rest : va_W} (C : xC p s m args meth c D K A RX12 cX12_reckonAll 7 none) (z : Unit × xS) : ∀ (n : Nat) (y2 : Int32) (y3 : Int32) (y4 : Int32) (σ : xS), F_X12_reckonAll_10  n y2 y3 y4 σ = some z → X p l e (xR 1 25) s m args below meth c D A 7 (xQv below D K A args s (RW K ad rest z.2)) 0 0 10 [(0, .ref (ad 0)), (2, .int y2), (3, .int y3), (4, .int y4)] [] (RW K ad rest σ) := by
  intro n
  induction n with
  | zero =>
    intro y2 y3 y4 σ hF
    cases hF
  | succ n ih =>
    intro y2 y3 y4 σ hF
    rw [F_X12_reckonAll_10] at hF
    refine x_iload C 3 4 dX12_reckonAll_10 rfl ?_
    refine x_iload_n C 1 2 dX12_reckonAll_12 rfl rfl ?_
    refine x_icmp_ge C 245 dX12_reckonAll_13 (by decide) hF (fun hF => ?_) (fun hF => ?_)
    · refine x_loc [(0, .ref (ad 0)), (3, .int y3)] [0, 2] rfl ?_
      exact x_X12_reckonAll_245 C z y3 σ hF
    · refine x_aload_n C 0 0 dX12_reckonAll_16 rfl rfl ?_
      refine x_get C 0 dX12_reckonAll_17 fl_X12_307 (RW_o K ad rest σ) rfl ?_
      refine x_if_ne C 245 dX12_reckonAll_20 (by decide) hF (fun hF => ?_) (fun hF => ?_)
      · refine x_loc [(0, .ref (ad 0)), (3, .int y3)] [0, 2] rfl ?_
        exact x_X12_reckonAll_245 C z y3 σ hF
      · refine x_aload_n C 0 0 dX12_reckonAll_23 rfl rfl ?_
        refine x_get C 0 dX12_reckonAll_24 fl_X12_13 (RW_o K ad rest σ) rfl ?_
        refine x_aload_n C 0 0 dX12_reckonAll_27 rfl rfl ?_
        refine x_get C 0 dX12_reckonAll_28 fl_X12_310 (RW_o K ad rest σ) rfl ?_
        refine x_bipush C 98 dX12_reckonAll_31 (by decide +kernel) ?_
        refine x_iadd C dX12_reckonAll_33 ?_
        refine x_iconst C 2 dX12_reckonAll_34 (by decide +kernel) ?_
        refine x_iload C 3 4 dX12_reckonAll_35 rfl ?_
        refine x_imul C dX12_reckonAll_37 ?_
        refine x_iadd C dX12_reckonAll_38 ?_
        refine x_iald C 2 dX12_reckonAll_39 (RW_a3 K ad rest σ) hF (fun v3 hF => ?_)
        refine x_istore C [(5, .int v3), (0, .ref (ad 0)), (2, .int y2), (3, .int y3), (4, .int y4)] dX12_reckonAll_40 (by decide) rfl ?_
        refine x_aload_n C 1 0 dX12_reckonAll_42 rfl rfl ?_
        refine x_get C 0 dX12_reckonAll_43 fl_X12_13 (RW_o K ad rest σ) rfl ?_
        refine x_aload_n C 1 0 dX12_reckonAll_46 rfl rfl ?_
        refine x_get C 0 dX12_reckonAll_47 fl_X12_310 (RW_o K ad rest σ) rfl ?_
        refine x_bipush C 98 dX12_reckonAll_50 (by decide +kernel) ?_
        refine x_iadd C dX12_reckonAll_52 ?_
        refine x_iconst C 2 dX12_reckonAll_53 (by decide +kernel) ?_
        refine x_iload C 4 4 dX12_reckonAll_54 rfl ?_
        refine x_imul C dX12_reckonAll_56 ?_
        refine x_iadd C dX12_reckonAll_57 ?_
        refine x_iconst C 1 dX12_reckonAll_58 (by decide +kernel) ?_
        refine x_iadd C dX12_reckonAll_59 ?_
        refine x_iald C 2 dX12_reckonAll_60 (RW_a3 K ad rest σ) hF (fun v4 hF => ?_)
        refine x_istore C [(6, .int v4), (5, .int v3), (0, .ref (ad 0)), (2, .int y2), (3, .int y3), (4, .int y4)] dX12_reckonAll_61 (by decide) rfl ?_
        refine x_iincN C 1 5 (fun x5 => [(4, .int x5), (6, .int v4), (5, .int v3), (0, .ref (ad 0)), (2, .int y2), (3, .int y3)]) dX12_reckonAll_63 rfl (by decide +kernel) (by decide) (fun _ => rfl) hF (fun x5 hF => ?_)
        refine x_iload C 2 5 dX12_reckonAll_66 rfl ?_
        refine x_bipush C 20 dX12_reckonAll_68 (by decide +kernel) ?_
        refine x_icmp_ge C 103 dX12_reckonAll_70 (by decide) hF (fun hF => ?_) (fun hF => ?_)
        · refine x_iload C 2 5 dX12_reckonAll_103 rfl ?_
          refine x_bipush C 27 dX12_reckonAll_105 (by decide +kernel) ?_
          refine x_icmp_ge C 180 dX12_reckonAll_107 (by decide) hF (fun hF => ?_) (fun hF => ?_)
          · refine x_iload C 2 5 dX12_reckonAll_180 rfl ?_
            refine x_bipush C 27 dX12_reckonAll_182 (by decide +kernel) ?_
            refine x_icmp_ne C 208 dX12_reckonAll_184 (by decide) hF (fun hF => ?_) (fun hF => ?_)
            · refine x_aload_n C 3 0 dX12_reckonAll_208 rfl rfl ?_
              refine x_get C 0 dX12_reckonAll_209 fl_X12_83 (RW_o K ad rest σ) rfl ?_
              refine x_iload_n C 5 3 dX12_reckonAll_212 rfl rfl ?_
              refine x_iconst C 1 dX12_reckonAll_213 (by decide +kernel) ?_
              refine x_isub C dX12_reckonAll_214 ?_
              refine x_lald C 14 dX12_reckonAll_215 (RW_a29 K ad rest σ) hF (fun v6 hF => ?_)
              refine x_iload C 2 5 dX12_reckonAll_216 rfl ?_
              refine x_bipush C 28 dX12_reckonAll_218 (by decide +kernel) ?_
              refine x_icmp_ne C 227 dX12_reckonAll_220 (by decide) hF (fun hF => ?_) (fun hF => ?_)
              · refine x_lconst C 1 dX12_reckonAll_227 (by decide +kernel) ?_
                refine x_loc [(0, .ref (ad 0)), (2, .int y2), (3, .int y3), (4, .int x5), (6, .int v4)] [3, 4, 5, 0, 1] rfl ?_
                exact x_X12_reckonAll_228 C z ((F_X12_reckonAll_10 n)) ih y2 y3 x5 v4 v6 1 σ hF
              · refine x_lconst C 0 dX12_reckonAll_223 (by decide +kernel) ?_
                refine x_goto C 228 dX12_reckonAll_224 (by decide) ?_
                refine x_loc [(0, .ref (ad 0)), (2, .int y2), (3, .int y3), (4, .int x5), (6, .int v4)] [3, 4, 5, 0, 1] rfl ?_
                exact x_X12_reckonAll_228 C z ((F_X12_reckonAll_10 n)) ih y2 y3 x5 v4 v6 0 σ hF
            · refine x_aload_n C 3 0 dX12_reckonAll_187 rfl rfl ?_
              refine x_get C 0 dX12_reckonAll_188 fl_X12_83 (RW_o K ad rest σ) rfl ?_
              refine x_iload_n C 5 3 dX12_reckonAll_191 rfl rfl ?_
              refine x_iconst C 1 dX12_reckonAll_192 (by decide +kernel) ?_
              refine x_isub C dX12_reckonAll_193 ?_
              refine x_lconst C 1 dX12_reckonAll_194 (by decide +kernel) ?_
              refine x_aload_n C 3 0 dX12_reckonAll_195 rfl rfl ?_
              refine x_get C 0 dX12_reckonAll_196 fl_X12_83 (RW_o K ad rest σ) rfl ?_
              refine x_iload_n C 5 3 dX12_reckonAll_199 rfl rfl ?_
              refine x_iconst C 1 dX12_reckonAll_200 (by decide +kernel) ?_
              refine x_isub C dX12_reckonAll_201 ?_
              refine x_lald C 14 dX12_reckonAll_202 (RW_a29 K ad rest σ) hF (fun v7 hF => ?_)
              refine x_lsub C dX12_reckonAll_203 ?_
              refine x_last C 14 dX12_reckonAll_204 (RW_a29 K ad rest σ) hF (RW_s29 K ad rest σ _) (fun hF => ?_)
              refine x_st (wf := RW K ad rest) hF (fun σ8 hF => ?_)
              refine x_goto C 242 dX12_reckonAll_205 (by decide) ?_
              refine x_goto C 10 dX12_reckonAll_242 (by decide) ?_
              refine x_loc [(0, .ref (ad 0)), (2, .int y2), (3, .int y3), (4, .int x5)] [3, 4, 5, 0] rfl ?_
              exact ih y2 y3 x5 σ8 hF
          · refine x_iincN C (-1) 5 (fun x9 => [(3, .int x9), (4, .int x5), (6, .int v4), (5, .int v3), (0, .ref (ad 0)), (2, .int y2)]) dX12_reckonAll_110 rfl (by decide +kernel) (by decide) (fun _ => rfl) hF (fun x9 hF => ?_)
            refine x_aload_n C 4 0 dX12_reckonAll_113 rfl rfl ?_
            refine x_get C 0 dX12_reckonAll_114 fl_X12_83 (RW_o K ad rest σ) rfl ?_
            refine x_iload_n C 0 3 dX12_reckonAll_117 rfl rfl ?_
            refine x_iconst C 1 dX12_reckonAll_118 (by decide +kernel) ?_
            refine x_isub C dX12_reckonAll_119 ?_
            refine x_aload_n C 4 0 dX12_reckonAll_120 rfl rfl ?_
            refine x_iload C 3 5 dX12_reckonAll_121 rfl ?_
            refine x_aload_n C 4 0 dX12_reckonAll_123 rfl rfl ?_
            refine x_get C 0 dX12_reckonAll_124 fl_X12_83 (RW_o K ad rest σ) rfl ?_
            refine x_iload_n C 0 3 dX12_reckonAll_127 rfl rfl ?_
            refine x_iconst C 1 dX12_reckonAll_128 (by decide +kernel) ?_
            refine x_isub C dX12_reckonAll_129 ?_
            refine x_lald C 14 dX12_reckonAll_130 (RW_a29 K ad rest σ) hF (fun v10 hF => ?_)
            refine x_aload_n C 4 0 dX12_reckonAll_131 rfl rfl ?_
            refine x_get C 0 dX12_reckonAll_132 fl_X12_83 (RW_o K ad rest σ) rfl ?_
            refine x_iload_n C 0 3 dX12_reckonAll_135 rfl rfl ?_
            refine x_lald C 14 dX12_reckonAll_136 (RW_a29 K ad rest σ) hF (fun v11 hF => ?_)
            refine x_callVL C (wf := RW K ad rest) (As := [.int v3, .long v10, .long v11]) (rest := [.int (x9 - 1), .ref (ad 30)]) dX12_reckonAll_137 ml_X12_313 rfl rfl (Nat.le_of_ble_eq_true rfl) 0 (RW_o K ad rest σ) rfl ⟨Nat.le_of_ble_eq_true rfl, Nat.le_of_ble_eq_true rfl⟩ ⟨Nat.zero_le _, Nat.zero_le _⟩ (fun q9 hq9 => c_X12_reckon l D K ad rest v3 v10 v11 σ q9 hq9) hF (fun v13 σ12 hF => ?_)
            refine x_last C 14 dX12_reckonAll_140 (RW_a29 K ad rest σ12) hF (RW_s29 K ad rest σ12 _) (fun hF => ?_)
            refine x_st (wf := RW K ad rest) hF (fun σ14 hF => ?_)
            refine x_aload_n C 4 0 dX12_reckonAll_141 rfl rfl ?_
            refine x_aload_n C 4 0 dX12_reckonAll_142 rfl rfl ?_
            refine x_get C 0 dX12_reckonAll_143 fl_X12_307 (RW_o K ad rest σ14) rfl ?_
            refine x_if_ne C 169 dX12_reckonAll_146 (by decide) hF (fun hF => ?_) (fun hF => ?_)
            · refine x_loc [(0, .ref (ad 0)), (2, .int y2), (3, .int x9), (4, .int x5)] [4, 5, 0, 1] rfl ?_
              exact x_X12_reckonAll_169 C z ((F_X12_reckonAll_10 n)) ih y2 x9 x5 σ14 hF
            · refine x_aload_n C 4 0 dX12_reckonAll_149 rfl rfl ?_
              refine x_get C 0 dX12_reckonAll_150 fl_X12_83 (RW_o K ad rest σ14) rfl ?_
              refine x_iload_n C 0 3 dX12_reckonAll_153 rfl rfl ?_
              refine x_iconst C 1 dX12_reckonAll_154 (by decide +kernel) ?_
              refine x_isub C dX12_reckonAll_155 ?_
              refine x_lald C 14 dX12_reckonAll_156 (RW_a29 K ad rest σ14) hF (fun v15 hF => ?_)
              refine x_ldc2 C (-1000000000) dX12_reckonAll_157 cl_X12_317 ?_
              refine x_ldc2 C 1000000000 dX12_reckonAll_160 cl_X12_319 ?_
              refine x_callSI C (wf := RW K ad rest) (As := [.long v15, .long ((-1000000000)), .long 1000000000]) (rest := [.ref (ad 0)]) dX12_reckonAll_163 ml_X12_117 rfl rfl (Nat.le_of_ble_eq_true rfl) ⟨Nat.le_of_ble_eq_true rfl, Nat.le_of_ble_eq_true rfl⟩ ⟨Nat.zero_le _, Nat.zero_le _⟩ (fun q9 hq9 => c_X12_in l D K ad rest v15 ((-1000000000)) 1000000000 σ14 q9 hq9) hF (fun v17 σ16 hF => ?_)
              refine x_if_ne C 173 dX12_reckonAll_166 (by decide) hF (fun hF => ?_) (fun hF => ?_)
              · refine x_iconst C 0 dX12_reckonAll_173 (by decide +kernel) ?_
                refine x_loc [(0, .ref (ad 0)), (2, .int y2), (3, .int x9), (4, .int x5)] [4, 5, 0, 1] rfl ?_
                exact x_X12_reckonAll_174 C z ((F_X12_reckonAll_10 n)) ih y2 x9 x5 0 σ16 hF
              · refine x_loc [(0, .ref (ad 0)), (2, .int y2), (3, .int x9), (4, .int x5)] [4, 5, 0, 1] rfl ?_
                exact x_X12_reckonAll_169 C z ((F_X12_reckonAll_10 n)) ih y2 x9 x5 σ16 hF
        · refine x_aload_n C 3 0 dX12_reckonAll_73 rfl rfl ?_
          refine x_get C 0 dX12_reckonAll_74 fl_X12_83 (RW_o K ad rest σ) rfl ?_
          refine x_iload_n C 5 3 dX12_reckonAll_77 rfl rfl ?_
          refine x_iload C 2 5 dX12_reckonAll_78 rfl ?_
          refine x_if_ne C 89 dX12_reckonAll_80 (by decide) hF (fun hF => ?_) (fun hF => ?_)
          · refine x_aload_n C 3 0 dX12_reckonAll_89 rfl rfl ?_
            refine x_get C 0 dX12_reckonAll_90 fl_X12_80 (RW_o K ad rest σ) rfl ?_
            refine x_iload C 2 5 dX12_reckonAll_93 rfl ?_
            refine x_lald C 13 dX12_reckonAll_95 (RW_a28 K ad rest σ) hF (fun v18 hF => ?_)
            refine x_loc [(0, .ref (ad 0)), (2, .int y2), (3, .int y3), (4, .int x5)] [3, 4, 5, 0] rfl ?_
            exact x_X12_reckonAll_96 C z ((F_X12_reckonAll_10 n)) ih y2 y3 x5 y3 v18 σ hF
          · refine x_iload C 1 6 dX12_reckonAll_83 rfl ?_
            refine x_i2l C dX12_reckonAll_85 ?_
            refine x_goto C 96 dX12_reckonAll_86 (by decide) ?_
            refine x_loc [(0, .ref (ad 0)), (2, .int y2), (3, .int y3), (4, .int x5)] [3, 4, 5, 0] rfl ?_
            exact x_X12_reckonAll_96 C z ((F_X12_reckonAll_10 n)) ih y2 y3 x5 y3 (v4.toInt64) σ hF
set_option maxHeartbeats 4000000 in
set_option maxRecDepth 100000 in
theorem c_X12_reckonAll (l : Launch) (D : va_G) (K : Nat → ClassId) (ad : Nat → Nat) (rest : va_W) (a1 : Int32) (a2 : Int32) (σ : xS) (z : Unit × xS) (hF : F_X12_reckonAll a1 a2 σ = some z) : CV l D K yX12_reckonAll cX12_reckonAll 7 none 1 25 [.ref (ad 0), .int a1, .int a2] (RW K ad rest σ) (RW K ad rest z.2) := by
  refine x_enterV [(0, .ref (ad 0)), (1, .int a1), (2, .int a2)] pnX12 (Nat.le_of_ble_eq_true rfl) rfl ?_
  intro p e s m args below meth c A C
  unfold F_X12_reckonAll at hF
  refine x_aload_n C 0 0 dX12_reckonAll_0 rfl rfl ?_
  refine x_iconst C 0 dX12_reckonAll_1 (by decide +kernel) ?_
  have hz := (cz_some hF).1
  replace hF := (cz_some hF).2
  refine x_put C 0 dX12_reckonAll_2 fl_X12_307 fm_X12_30 (cz_nar hz).1 (cz_nar hz).2 (RW_o K ad rest σ) (Nat.le_of_ble_eq_true rfl) (RW_s30 K ad rest σ _) ?_
  refine x_st (wf := RW K ad rest) hF (fun σ1 hF => ?_)
  refine x_iconst C 0 dX12_reckonAll_5 (by decide +kernel) ?_
  refine x_topI hF (fun x2 hF => ?_)
  refine x_istore_n C [(3, .int x2), (0, .ref (ad 0)), (1, .int a1), (2, .int a2)] dX12_reckonAll_6 rfl (by decide) rfl ?_
  refine x_iload_n C 2 1 dX12_reckonAll_7 rfl rfl ?_
  refine x_istore C [(4, .int a1), (3, .int x2), (0, .ref (ad 0)), (1, .int a1), (2, .int a2)] dX12_reckonAll_8 (by decide) rfl ?_
  refine x_loc [(0, .ref (ad 0)), (2, .int a2), (3, .int x2), (4, .int a1)] [2, 4, 1, 0] rfl ?_
  exact x_X12_reckonAll_10 C z FU a2 x2 a1 σ1 hF
theorem dX12_isSo_0 : decode cX12_isSo 0 = .ok (.aload_n 0, 1) := by decide +kernel
theorem dX12_isSo_1 : decode cX12_isSo 1 = .ok (.getfield 13, 3) := by decide +kernel
theorem dX12_isSo_4 : decode cX12_isSo 4 = .ok (.iload_n 1, 1) := by decide +kernel
theorem dX12_isSo_5 : decode cX12_isSo 5 = .ok (.iconst 5, 1) := by decide +kernel
theorem dX12_isSo_6 : decode cX12_isSo 6 = .ok (.iadd, 1) := by decide +kernel
theorem dX12_isSo_7 : decode cX12_isSo 7 = .ok (.iaload, 1) := by decide +kernel
theorem dX12_isSo_8 : decode cX12_isSo 8 = .ok (.aload_n 0, 1) := by decide +kernel
theorem dX12_isSo_9 : decode cX12_isSo 9 = .ok (.getfield 13, 3) := by decide +kernel
theorem dX12_isSo_12 : decode cX12_isSo 12 = .ok (.iload_n 1, 1) := by decide +kernel
theorem dX12_isSo_13 : decode cX12_isSo 13 = .ok (.bipush 6, 2) := by decide +kernel
theorem dX12_isSo_15 : decode cX12_isSo 15 = .ok (.iadd, 1) := by decide +kernel
theorem dX12_isSo_16 : decode cX12_isSo 16 = .ok (.iaload, 1) := by decide +kernel
theorem dX12_isSo_17 : decode cX12_isSo 17 = .ok (.if_icmp .ge 42, 3) := by decide +kernel
theorem dX12_isSo_20 : decode cX12_isSo 20 = .ok (.aload_n 0, 1) := by decide +kernel
theorem dX12_isSo_21 : decode cX12_isSo 21 = .ok (.aload_n 0, 1) := by decide +kernel
theorem dX12_isSo_22 : decode cX12_isSo 22 = .ok (.getfield 13, 3) := by decide +kernel
theorem dX12_isSo_25 : decode cX12_isSo 25 = .ok (.iload_n 1, 1) := by decide +kernel
theorem dX12_isSo_26 : decode cX12_isSo 26 = .ok (.iconst 5, 1) := by decide +kernel
theorem dX12_isSo_27 : decode cX12_isSo 27 = .ok (.iadd, 1) := by decide +kernel
theorem dX12_isSo_28 : decode cX12_isSo 28 = .ok (.iaload, 1) := by decide +kernel
theorem dX12_isSo_29 : decode cX12_isSo 29 = .ok (.aload_n 0, 1) := by decide +kernel
theorem dX12_isSo_30 : decode cX12_isSo 30 = .ok (.getfield 13, 3) := by decide +kernel
theorem dX12_isSo_33 : decode cX12_isSo 33 = .ok (.iload_n 1, 1) := by decide +kernel
theorem dX12_isSo_34 : decode cX12_isSo 34 = .ok (.bipush 6, 2) := by decide +kernel
theorem dX12_isSo_36 : decode cX12_isSo 36 = .ok (.iadd, 1) := by decide +kernel
theorem dX12_isSo_37 : decode cX12_isSo 37 = .ok (.iaload, 1) := by decide +kernel
theorem dX12_isSo_38 : decode cX12_isSo 38 = .ok (.invokevirtual 324, 3) := by decide +kernel
theorem dX12_isSo_41 : decode cX12_isSo 41 = .ok (.aload_n 0, 1) := by decide +kernel
theorem dX12_isSo_42 : decode cX12_isSo 42 = .ok (.getfield 307, 3) := by decide +kernel
theorem dX12_isSo_45 : decode cX12_isSo 45 = .ok (.ifCond .ne 12, 3) := by decide +kernel
theorem dX12_isSo_48 : decode cX12_isSo 48 = .ok (.aload_n 0, 1) := by decide +kernel
theorem dX12_isSo_49 : decode cX12_isSo 49 = .ok (.getfield 321, 3) := by decide +kernel
theorem dX12_isSo_52 : decode cX12_isSo 52 = .ok (.lconst 0, 1) := by decide +kernel
theorem dX12_isSo_53 : decode cX12_isSo 53 = .ok (.lcmp, 1) := by decide +kernel
theorem dX12_isSo_54 : decode cX12_isSo 54 = .ok (.ifCond .ne 5, 3) := by decide +kernel
theorem dX12_isSo_57 : decode cX12_isSo 57 = .ok (.iconst 0, 1) := by decide +kernel
theorem dX12_isSo_58 : decode cX12_isSo 58 = .ok (.ireturn, 1) := by decide +kernel
theorem dX12_isSo_59 : decode cX12_isSo 59 = .ok (.aload_n 0, 1) := by decide +kernel
theorem dX12_isSo_60 : decode cX12_isSo 60 = .ok (.getfield 13, 3) := by decide +kernel
theorem dX12_isSo_63 : decode cX12_isSo 63 = .ok (.iload_n 1, 1) := by decide +kernel
theorem dX12_isSo_64 : decode cX12_isSo 64 = .ok (.iaload, 1) := by decide +kernel
theorem dX12_isSo_65 : decode cX12_isSo 65 = .ok (.iconst 3, 1) := by decide +kernel
theorem dX12_isSo_66 : decode cX12_isSo 66 = .ok (.if_icmp .ge 44, 3) := by decide +kernel
theorem dX12_isSo_69 : decode cX12_isSo 69 = .ok (.aload_n 0, 1) := by decide +kernel
theorem dX12_isSo_70 : decode cX12_isSo 70 = .ok (.aload_n 0, 1) := by decide +kernel
theorem dX12_isSo_71 : decode cX12_isSo 71 = .ok (.getfield 13, 3) := by decide +kernel
theorem dX12_isSo_74 : decode cX12_isSo 74 = .ok (.iload_n 1, 1) := by decide +kernel
theorem dX12_isSo_75 : decode cX12_isSo 75 = .ok (.iconst 3, 1) := by decide +kernel
theorem dX12_isSo_76 : decode cX12_isSo 76 = .ok (.iadd, 1) := by decide +kernel
theorem dX12_isSo_77 : decode cX12_isSo 77 = .ok (.iaload, 1) := by decide +kernel
theorem dX12_isSo_78 : decode cX12_isSo 78 = .ok (.aload_n 0, 1) := by decide +kernel
theorem dX12_isSo_79 : decode cX12_isSo 79 = .ok (.getfield 13, 3) := by decide +kernel
theorem dX12_isSo_82 : decode cX12_isSo 82 = .ok (.iload_n 1, 1) := by decide +kernel
theorem dX12_isSo_83 : decode cX12_isSo 83 = .ok (.iconst 4, 1) := by decide +kernel
theorem dX12_isSo_84 : decode cX12_isSo 84 = .ok (.iadd, 1) := by decide +kernel
theorem dX12_isSo_85 : decode cX12_isSo 85 = .ok (.iaload, 1) := by decide +kernel
theorem dX12_isSo_86 : decode cX12_isSo 86 = .ok (.invokevirtual 324, 3) := by decide +kernel
theorem dX12_isSo_89 : decode cX12_isSo 89 = .ok (.aload_n 0, 1) := by decide +kernel
theorem dX12_isSo_90 : decode cX12_isSo 90 = .ok (.aload_n 0, 1) := by decide +kernel
theorem dX12_isSo_91 : decode cX12_isSo 91 = .ok (.getfield 321, 3) := by decide +kernel
theorem dX12_isSo_94 : decode cX12_isSo 94 = .ok (.putfield 327, 3) := by decide +kernel
theorem dX12_isSo_97 : decode cX12_isSo 97 = .ok (.aload_n 0, 1) := by decide +kernel
theorem dX12_isSo_98 : decode cX12_isSo 98 = .ok (.getfield 307, 3) := by decide +kernel
theorem dX12_isSo_101 : decode cX12_isSo 101 = .ok (.ifCond .ne 7, 3) := by decide +kernel
theorem dX12_isSo_104 : decode cX12_isSo 104 = .ok (.iconst 1, 1) := by decide +kernel
theorem dX12_isSo_105 : decode cX12_isSo 105 = .ok (.goto 4, 3) := by decide +kernel
theorem dX12_isSo_108 : decode cX12_isSo 108 = .ok (.iconst 0, 1) := by decide +kernel
theorem dX12_isSo_109 : decode cX12_isSo 109 = .ok (.ireturn, 1) := by decide +kernel
theorem dX12_isSo_110 : decode cX12_isSo 110 = .ok (.iconst 1, 1) := by decide +kernel
theorem dX12_isSo_111 : decode cX12_isSo 111 = .ok (.ireturn, 1) := by decide +kernel
set_option maxHeartbeats 4000000 in
set_option maxRecDepth 100000 in
theorem x_X12_isSo_59 {p : Program} {l : Launch} {e : Env} {s : State} {m : MethodId} {args : Array Value} {below : List Frame} {meth : Method} {c : Code} {D : va_G} {K : Nat → ClassId} {A : Nat → Prop} {ad : Nat → Nat} {rest : va_W} (C : xC p s m args meth c D K A RX12 cX12_isSo 2 (some .boolean)) (z : Int32 × xS) : ∀ (y1 : Int32) (σ : xS), F_X12_isSo_59  y1 σ = some z → X p l e (xR 2 51) s m args below meth c D A 2 (xQi below D K A args s z.1 (RW K ad rest z.2)) 0 0 59 [(0, .ref (ad 0)), (1, .int y1)] [] (RW K ad rest σ) := by
  intro y1 σ hF
  unfold F_X12_isSo_59 at hF
  refine x_aload_n C 0 0 dX12_isSo_59 rfl rfl ?_
  refine x_get C 0 dX12_isSo_60 fl_X12_13 (RW_o K ad rest σ) rfl ?_
  refine x_iload_n C 1 1 dX12_isSo_63 rfl rfl ?_
  refine x_iald C 2 dX12_isSo_64 (RW_a3 K ad rest σ) hF (fun v6 hF => ?_)
  refine x_iconst C 3 dX12_isSo_65 (by decide +kernel) ?_
  refine x_icmp_ge C 110 dX12_isSo_66 (by decide) hF (fun hF => ?_) (fun hF => ?_)
  · refine x_iconst C 1 dX12_isSo_110 (by decide +kernel) ?_
    have hz := (cz_some hF).1
    replace hF := (cz_some hF).2
    exact x_zret C dX12_isSo_111 rfl hz (congrArg Prod.fst (Option.some.inj hF)) (congrArg (fun q9 : Int32 × xS => RW K ad rest q9.2) (Option.some.inj hF))
  · refine x_aload_n C 0 0 dX12_isSo_69 rfl rfl ?_
    refine x_aload_n C 0 0 dX12_isSo_70 rfl rfl ?_
    refine x_get C 0 dX12_isSo_71 fl_X12_13 (RW_o K ad rest σ) rfl ?_
    refine x_iload_n C 1 1 dX12_isSo_74 rfl rfl ?_
    refine x_iconst C 3 dX12_isSo_75 (by decide +kernel) ?_
    refine x_iadd C dX12_isSo_76 ?_
    refine x_iald C 2 dX12_isSo_77 (RW_a3 K ad rest σ) hF (fun v7 hF => ?_)
    refine x_aload_n C 0 0 dX12_isSo_78 rfl rfl ?_
    refine x_get C 0 dX12_isSo_79 fl_X12_13 (RW_o K ad rest σ) rfl ?_
    refine x_iload_n C 1 1 dX12_isSo_82 rfl rfl ?_
    refine x_iconst C 4 dX12_isSo_83 (by decide +kernel) ?_
    refine x_iadd C dX12_isSo_84 ?_
    refine x_iald C 2 dX12_isSo_85 (RW_a3 K ad rest σ) hF (fun v8 hF => ?_)
    refine x_callVV C (wf := RW K ad rest) (As := [.int v7, .int v8]) (rest := []) dX12_isSo_86 ml_X12_324 rfl rfl (Nat.le_of_ble_eq_true rfl) 0 (RW_o K ad rest σ) rfl ⟨Nat.le_of_ble_eq_true rfl, Nat.le_of_ble_eq_true rfl⟩ ⟨Nat.zero_le _, Nat.zero_le _⟩ (fun q9 hq9 => c_X12_reckonAll l D K ad rest v7 v8 σ q9 hq9) hF (fun _ σ9 hF => ?_)
    refine x_aload_n C 0 0 dX12_isSo_89 rfl rfl ?_
    refine x_aload_n C 0 0 dX12_isSo_90 rfl rfl ?_
    refine x_get C 0 dX12_isSo_91 fl_X12_321 (RW_o K ad rest σ9) rfl ?_
    refine x_put C 0 dX12_isSo_94 fl_X12_327 fm_X12_32 rfl rfl (RW_o K ad rest σ9) (Nat.le_of_ble_eq_true rfl) (RW_s32 K ad rest σ9 _) ?_
    refine x_st (wf := RW K ad rest) hF (fun σ10 hF => ?_)
    refine x_aload_n C 0 0 dX12_isSo_97 rfl rfl ?_
    refine x_get C 0 dX12_isSo_98 fl_X12_307 (RW_o K ad rest σ10) rfl ?_
    refine x_if_ne C 108 dX12_isSo_101 (by decide) hF (fun hF => ?_) (fun hF => ?_)
    · refine x_iconst C 0 dX12_isSo_108 (by decide +kernel) ?_
      have hz := (cz_some hF).1
      replace hF := (cz_some hF).2
      exact x_zret C dX12_isSo_109 rfl hz (congrArg Prod.fst (Option.some.inj hF)) (congrArg (fun q9 : Int32 × xS => RW K ad rest q9.2) (Option.some.inj hF))
    · refine x_iconst C 1 dX12_isSo_104 (by decide +kernel) ?_
      refine x_goto C 109 dX12_isSo_105 (by decide) ?_
      have hz := (cz_some hF).1
      replace hF := (cz_some hF).2
      exact x_zret C dX12_isSo_109 rfl hz (congrArg Prod.fst (Option.some.inj hF)) (congrArg (fun q9 : Int32 × xS => RW K ad rest q9.2) (Option.some.inj hF))
set_option maxHeartbeats 4000000 in
set_option maxRecDepth 100000 in
theorem c_X12_isSo (l : Launch) (D : va_G) (K : Nat → ClassId) (ad : Nat → Nat) (rest : va_W) (a1 : Int32) (σ : xS) (z : Int32 × xS) (hF : F_X12_isSo a1 σ = some z) : CI l D K yX12_isSo cX12_isSo 2 (some .boolean) 2 51 [.ref (ad 0), .int a1] (RW K ad rest σ) z.1 (RW K ad rest z.2) := by
  refine x_enterI [(0, .ref (ad 0)), (1, .int a1)] pnX12 (Nat.le_of_ble_eq_true rfl) rfl ?_
  intro p e s m args below meth c A C
  unfold F_X12_isSo at hF
  refine x_aload_n C 0 0 dX12_isSo_0 rfl rfl ?_
  refine x_get C 0 dX12_isSo_1 fl_X12_13 (RW_o K ad rest σ) rfl ?_
  refine x_iload_n C 1 1 dX12_isSo_4 rfl rfl ?_
  refine x_iconst C 5 dX12_isSo_5 (by decide +kernel) ?_
  refine x_iadd C dX12_isSo_6 ?_
  refine x_iald C 2 dX12_isSo_7 (RW_a3 K ad rest σ) hF (fun v1 hF => ?_)
  refine x_aload_n C 0 0 dX12_isSo_8 rfl rfl ?_
  refine x_get C 0 dX12_isSo_9 fl_X12_13 (RW_o K ad rest σ) rfl ?_
  refine x_iload_n C 1 1 dX12_isSo_12 rfl rfl ?_
  refine x_bipush C 6 dX12_isSo_13 (by decide +kernel) ?_
  refine x_iadd C dX12_isSo_15 ?_
  refine x_iald C 2 dX12_isSo_16 (RW_a3 K ad rest σ) hF (fun v2 hF => ?_)
  refine x_icmp_ge C 59 dX12_isSo_17 (by decide) hF (fun hF => ?_) (fun hF => ?_)
  · exact x_X12_isSo_59 C z a1 σ hF
  · refine x_aload_n C 0 0 dX12_isSo_20 rfl rfl ?_
    refine x_aload_n C 0 0 dX12_isSo_21 rfl rfl ?_
    refine x_get C 0 dX12_isSo_22 fl_X12_13 (RW_o K ad rest σ) rfl ?_
    refine x_iload_n C 1 1 dX12_isSo_25 rfl rfl ?_
    refine x_iconst C 5 dX12_isSo_26 (by decide +kernel) ?_
    refine x_iadd C dX12_isSo_27 ?_
    refine x_iald C 2 dX12_isSo_28 (RW_a3 K ad rest σ) hF (fun v3 hF => ?_)
    refine x_aload_n C 0 0 dX12_isSo_29 rfl rfl ?_
    refine x_get C 0 dX12_isSo_30 fl_X12_13 (RW_o K ad rest σ) rfl ?_
    refine x_iload_n C 1 1 dX12_isSo_33 rfl rfl ?_
    refine x_bipush C 6 dX12_isSo_34 (by decide +kernel) ?_
    refine x_iadd C dX12_isSo_36 ?_
    refine x_iald C 2 dX12_isSo_37 (RW_a3 K ad rest σ) hF (fun v4 hF => ?_)
    refine x_callVV C (wf := RW K ad rest) (As := [.int v3, .int v4]) (rest := []) dX12_isSo_38 ml_X12_324 rfl rfl (Nat.le_of_ble_eq_true rfl) 0 (RW_o K ad rest σ) rfl ⟨Nat.le_of_ble_eq_true rfl, Nat.le_of_ble_eq_true rfl⟩ ⟨Nat.zero_le _, Nat.zero_le _⟩ (fun q9 hq9 => c_X12_reckonAll l D K ad rest v3 v4 σ q9 hq9) hF (fun _ σ5 hF => ?_)
    refine x_aload_n C 0 0 dX12_isSo_41 rfl rfl ?_
    refine x_get C 0 dX12_isSo_42 fl_X12_307 (RW_o K ad rest σ5) rfl ?_
    refine x_if_ne C 57 dX12_isSo_45 (by decide) hF (fun hF => ?_) (fun hF => ?_)
    · refine x_iconst C 0 dX12_isSo_57 (by decide +kernel) ?_
      have hz := (cz_some hF).1
      replace hF := (cz_some hF).2
      exact x_zret C dX12_isSo_58 rfl hz (congrArg Prod.fst (Option.some.inj hF)) (congrArg (fun q9 : Int32 × xS => RW K ad rest q9.2) (Option.some.inj hF))
    · refine x_aload_n C 0 0 dX12_isSo_48 rfl rfl ?_
      refine x_get C 0 dX12_isSo_49 fl_X12_321 (RW_o K ad rest σ5) rfl ?_
      refine x_lconst C 0 dX12_isSo_52 (by decide +kernel) ?_
      refine x_lcmp C dX12_isSo_53 ?_
      refine x_if_ne C 59 dX12_isSo_54 (by decide) hF (fun hF => ?_) (fun hF => ?_)
      · exact x_X12_isSo_59 C z a1 σ5 hF
      · refine x_iconst C 0 dX12_isSo_57 (by decide +kernel) ?_
        have hz := (cz_some hF).1
        replace hF := (cz_some hF).2
        exact x_zret C dX12_isSo_58 rfl hz (congrArg Prod.fst (Option.some.inj hF)) (congrArg (fun q9 : Int32 × xS => RW K ad rest q9.2) (Option.some.inj hF))
theorem dX12_asTold_0 : decode cX12_asTold 0 = .ok (.aload_n 0, 1) := by decide +kernel
theorem dX12_asTold_1 : decode cX12_asTold 1 = .ok (.aload_n 0, 1) := by decide +kernel
theorem dX12_asTold_2 : decode cX12_asTold 2 = .ok (.iload_n 1, 1) := by decide +kernel
theorem dX12_asTold_3 : decode cX12_asTold 3 = .ok (.iconst 4, 1) := by decide +kernel
theorem dX12_asTold_4 : decode cX12_asTold 4 = .ok (.invokevirtual 150, 3) := by decide +kernel
theorem dX12_asTold_7 : decode cX12_asTold 7 = .ok (.putfield 330, 3) := by decide +kernel
theorem dX12_asTold_10 : decode cX12_asTold 10 = .ok (.aload_n 0, 1) := by decide +kernel
theorem dX12_asTold_11 : decode cX12_asTold 11 = .ok (.iconst 0, 1) := by decide +kernel
theorem dX12_asTold_12 : decode cX12_asTold 12 = .ok (.putfield 333, 3) := by decide +kernel
theorem dX12_asTold_15 : decode cX12_asTold 15 = .ok (.aload_n 0, 1) := by decide +kernel
theorem dX12_asTold_16 : decode cX12_asTold 16 = .ok (.iconst 0, 1) := by decide +kernel
theorem dX12_asTold_17 : decode cX12_asTold 17 = .ok (.putfield 336, 3) := by decide +kernel
theorem dX12_asTold_20 : decode cX12_asTold 20 = .ok (.return_, 1) := by decide +kernel
set_option maxHeartbeats 4000000 in
set_option maxRecDepth 100000 in
theorem c_X12_asTold (l : Launch) (D : va_G) (K : Nat → ClassId) (ad : Nat → Nat) (rest : va_W) (a1 : Int32) (σ : xS) (z : Unit × xS) (hF : F_X12_asTold a1 σ = some z) : CV l D K yX12_asTold cX12_asTold 2 none 1 22 [.ref (ad 0), .int a1] (RW K ad rest σ) (RW K ad rest z.2) := by
  refine x_enterV [(0, .ref (ad 0)), (1, .int a1)] pnX12 (Nat.le_of_ble_eq_true rfl) rfl ?_
  intro p e s m args below meth c A C
  unfold F_X12_asTold at hF
  refine x_aload_n C 0 0 dX12_asTold_0 rfl rfl ?_
  refine x_aload_n C 0 0 dX12_asTold_1 rfl rfl ?_
  refine x_iload_n C 1 1 dX12_asTold_2 rfl rfl ?_
  refine x_iconst C 4 dX12_asTold_3 (by decide +kernel) ?_
  refine x_callVI C (wf := RW K ad rest) (As := [.int a1, .int 4]) (rest := [.ref (ad 0)]) dX12_asTold_4 ml_X12_150 rfl rfl (Nat.le_of_ble_eq_true rfl) 0 (RW_o K ad rest σ) rfl ⟨Nat.le_of_ble_eq_true rfl, Nat.le_of_ble_eq_true rfl⟩ ⟨Nat.zero_le _, Nat.zero_le _⟩ (fun q9 hq9 => c_X12_ofBook l D K ad rest a1 4 σ q9 hq9) hF (fun v2 σ1 hF => ?_)
  refine x_put C 0 dX12_asTold_7 fl_X12_330 fm_X12_33 rfl rfl (RW_o K ad rest σ1) (Nat.le_of_ble_eq_true rfl) (RW_s33 K ad rest σ1 _) ?_
  refine x_st (wf := RW K ad rest) hF (fun σ3 hF => ?_)
  refine x_aload_n C 0 0 dX12_asTold_10 rfl rfl ?_
  refine x_iconst C 0 dX12_asTold_11 (by decide +kernel) ?_
  refine x_put C 0 dX12_asTold_12 fl_X12_333 fm_X12_34 rfl rfl (RW_o K ad rest σ3) (Nat.le_of_ble_eq_true rfl) (RW_s34 K ad rest σ3 _) ?_
  refine x_st (wf := RW K ad rest) hF (fun σ4 hF => ?_)
  refine x_aload_n C 0 0 dX12_asTold_15 rfl rfl ?_
  refine x_iconst C 0 dX12_asTold_16 (by decide +kernel) ?_
  refine x_put C 0 dX12_asTold_17 fl_X12_336 fm_X12_35 rfl rfl (RW_o K ad rest σ4) (Nat.le_of_ble_eq_true rfl) (RW_s35 K ad rest σ4 _) ?_
  refine x_st (wf := RW K ad rest) hF (fun σ5 hF => ?_)
  exact x_vret C dX12_asTold_20 rfl (congrArg (fun q9 : Unit × xS => RW K ad rest q9.2) (Option.some.inj hF))
theorem dX12_tells_0 : decode cX12_tells 0 = .ok (.aload_n 0, 1) := by decide +kernel
theorem dX12_tells_1 : decode cX12_tells 1 = .ok (.getfield 13, 3) := by decide +kernel
theorem dX12_tells_4 : decode cX12_tells 4 = .ok (.iconst 2, 1) := by decide +kernel
theorem dX12_tells_5 : decode cX12_tells 5 = .ok (.iaload, 1) := by decide +kernel
theorem dX12_tells_6 : decode cX12_tells 6 = .ok (.iconst (-1), 1) := by decide +kernel
theorem dX12_tells_7 : decode cX12_tells 7 = .ok (.if_icmp .ne 6, 3) := by decide +kernel
theorem dX12_tells_10 : decode cX12_tells 10 = .ok (.iload 5, 2) := by decide +kernel
theorem dX12_tells_12 : decode cX12_tells 12 = .ok (.ireturn, 1) := by decide +kernel
theorem dX12_tells_13 : decode cX12_tells 13 = .ok (.aload_n 0, 1) := by decide +kernel
theorem dX12_tells_14 : decode cX12_tells 14 = .ok (.sipush 150, 3) := by decide +kernel
theorem dX12_tells_17 : decode cX12_tells 17 = .ok (.sipush 900, 3) := by decide +kernel
theorem dX12_tells_20 : decode cX12_tells 20 = .ok (.aload_n 0, 1) := by decide +kernel
theorem dX12_tells_21 : decode cX12_tells 21 = .ok (.getfield 13, 3) := by decide +kernel
theorem dX12_tells_24 : decode cX12_tells 24 = .ok (.iconst 2, 1) := by decide +kernel
theorem dX12_tells_25 : decode cX12_tells 25 = .ok (.iaload, 1) := by decide +kernel
theorem dX12_tells_26 : decode cX12_tells 26 = .ok (.imul, 1) := by decide +kernel
theorem dX12_tells_27 : decode cX12_tells 27 = .ok (.iadd, 1) := by decide +kernel
theorem dX12_tells_28 : decode cX12_tells 28 = .ok (.putfield 310, 3) := by decide +kernel
theorem dX12_tells_31 : decode cX12_tells 31 = .ok (.aload_n 0, 1) := by decide +kernel
theorem dX12_tells_32 : decode cX12_tells 32 = .ok (.getfield 80, 3) := by decide +kernel
theorem dX12_tells_35 : decode cX12_tells 35 = .ok (.iconst 1, 1) := by decide +kernel
theorem dX12_tells_36 : decode cX12_tells 36 = .ok (.iload_n 2, 1) := by decide +kernel
theorem dX12_tells_37 : decode cX12_tells 37 = .ok (.i2l, 1) := by decide +kernel
theorem dX12_tells_38 : decode cX12_tells 38 = .ok (.lastore, 1) := by decide +kernel
theorem dX12_tells_39 : decode cX12_tells 39 = .ok (.aload_n 0, 1) := by decide +kernel
theorem dX12_tells_40 : decode cX12_tells 40 = .ok (.getfield 80, 3) := by decide +kernel
theorem dX12_tells_43 : decode cX12_tells 43 = .ok (.iconst 2, 1) := by decide +kernel
theorem dX12_tells_44 : decode cX12_tells 44 = .ok (.aload_n 0, 1) := by decide +kernel
theorem dX12_tells_45 : decode cX12_tells 45 = .ok (.iload_n 2, 1) := by decide +kernel
theorem dX12_tells_46 : decode cX12_tells 46 = .ok (.iconst 0, 1) := by decide +kernel
theorem dX12_tells_47 : decode cX12_tells 47 = .ok (.invokevirtual 150, 3) := by decide +kernel
theorem dX12_tells_50 : decode cX12_tells 50 = .ok (.i2l, 1) := by decide +kernel
theorem dX12_tells_51 : decode cX12_tells 51 = .ok (.lastore, 1) := by decide +kernel
theorem dX12_tells_52 : decode cX12_tells 52 = .ok (.aload_n 0, 1) := by decide +kernel
theorem dX12_tells_53 : decode cX12_tells 53 = .ok (.getfield 80, 3) := by decide +kernel
theorem dX12_tells_56 : decode cX12_tells 56 = .ok (.iconst 3, 1) := by decide +kernel
theorem dX12_tells_57 : decode cX12_tells 57 = .ok (.aload_n 0, 1) := by decide +kernel
theorem dX12_tells_58 : decode cX12_tells 58 = .ok (.iload_n 2, 1) := by decide +kernel
theorem dX12_tells_59 : decode cX12_tells 59 = .ok (.iconst 1, 1) := by decide +kernel
theorem dX12_tells_60 : decode cX12_tells 60 = .ok (.invokevirtual 150, 3) := by decide +kernel
theorem dX12_tells_63 : decode cX12_tells 63 = .ok (.i2l, 1) := by decide +kernel
theorem dX12_tells_64 : decode cX12_tells 64 = .ok (.lastore, 1) := by decide +kernel
theorem dX12_tells_65 : decode cX12_tells 65 = .ok (.aload_n 0, 1) := by decide +kernel
theorem dX12_tells_66 : decode cX12_tells 66 = .ok (.getfield 80, 3) := by decide +kernel
theorem dX12_tells_69 : decode cX12_tells 69 = .ok (.iconst 4, 1) := by decide +kernel
theorem dX12_tells_70 : decode cX12_tells 70 = .ok (.aload_n 0, 1) := by decide +kernel
theorem dX12_tells_71 : decode cX12_tells 71 = .ok (.iload_n 2, 1) := by decide +kernel
theorem dX12_tells_72 : decode cX12_tells 72 = .ok (.iconst 2, 1) := by decide +kernel
theorem dX12_tells_73 : decode cX12_tells 73 = .ok (.invokevirtual 150, 3) := by decide +kernel
theorem dX12_tells_76 : decode cX12_tells 76 = .ok (.aload_n 0, 1) := by decide +kernel
theorem dX12_tells_77 : decode cX12_tells 77 = .ok (.getfield 333, 3) := by decide +kernel
theorem dX12_tells_80 : decode cX12_tells 80 = .ok (.iadd, 1) := by decide +kernel
theorem dX12_tells_81 : decode cX12_tells 81 = .ok (.i2l, 1) := by decide +kernel
theorem dX12_tells_82 : decode cX12_tells 82 = .ok (.lastore, 1) := by decide +kernel
theorem dX12_tells_83 : decode cX12_tells 83 = .ok (.aload_n 0, 1) := by decide +kernel
theorem dX12_tells_84 : decode cX12_tells 84 = .ok (.getfield 80, 3) := by decide +kernel
theorem dX12_tells_87 : decode cX12_tells 87 = .ok (.iconst 5, 1) := by decide +kernel
theorem dX12_tells_88 : decode cX12_tells 88 = .ok (.iload_n 3, 1) := by decide +kernel
theorem dX12_tells_89 : decode cX12_tells 89 = .ok (.i2l, 1) := by decide +kernel
theorem dX12_tells_90 : decode cX12_tells 90 = .ok (.lastore, 1) := by decide +kernel
theorem dX12_tells_91 : decode cX12_tells 91 = .ok (.aload_n 0, 1) := by decide +kernel
theorem dX12_tells_92 : decode cX12_tells 92 = .ok (.getfield 80, 3) := by decide +kernel
theorem dX12_tells_95 : decode cX12_tells 95 = .ok (.bipush 6, 2) := by decide +kernel
theorem dX12_tells_97 : decode cX12_tells 97 = .ok (.aload_n 0, 1) := by decide +kernel
theorem dX12_tells_98 : decode cX12_tells 98 = .ok (.getfield 330, 3) := by decide +kernel
theorem dX12_tells_101 : decode cX12_tells 101 = .ok (.i2l, 1) := by decide +kernel
theorem dX12_tells_102 : decode cX12_tells 102 = .ok (.lastore, 1) := by decide +kernel
theorem dX12_tells_103 : decode cX12_tells 103 = .ok (.aload_n 0, 1) := by decide +kernel
theorem dX12_tells_104 : decode cX12_tells 104 = .ok (.getfield 80, 3) := by decide +kernel
theorem dX12_tells_107 : decode cX12_tells 107 = .ok (.bipush 7, 2) := by decide +kernel
theorem dX12_tells_109 : decode cX12_tells 109 = .ok (.aload_n 0, 1) := by decide +kernel
theorem dX12_tells_110 : decode cX12_tells 110 = .ok (.getfield 13, 3) := by decide +kernel
theorem dX12_tells_113 : decode cX12_tells 113 = .ok (.bipush 7, 2) := by decide +kernel
theorem dX12_tells_115 : decode cX12_tells 115 = .ok (.iaload, 1) := by decide +kernel
theorem dX12_tells_116 : decode cX12_tells 116 = .ok (.aload_n 0, 1) := by decide +kernel
theorem dX12_tells_117 : decode cX12_tells 117 = .ok (.getfield 333, 3) := by decide +kernel
theorem dX12_tells_120 : decode cX12_tells 120 = .ok (.iadd, 1) := by decide +kernel
theorem dX12_tells_121 : decode cX12_tells 121 = .ok (.bipush 52, 2) := by decide +kernel
theorem dX12_tells_123 : decode cX12_tells 123 = .ok (.irem, 1) := by decide +kernel
theorem dX12_tells_124 : decode cX12_tells 124 = .ok (.i2l, 1) := by decide +kernel
theorem dX12_tells_125 : decode cX12_tells 125 = .ok (.lastore, 1) := by decide +kernel
theorem dX12_tells_126 : decode cX12_tells 126 = .ok (.aload_n 0, 1) := by decide +kernel
theorem dX12_tells_127 : decode cX12_tells 127 = .ok (.getfield 80, 3) := by decide +kernel
theorem dX12_tells_130 : decode cX12_tells 130 = .ok (.bipush 8, 2) := by decide +kernel
theorem dX12_tells_132 : decode cX12_tells 132 = .ok (.aload_n 0, 1) := by decide +kernel
theorem dX12_tells_133 : decode cX12_tells 133 = .ok (.getfield 13, 3) := by decide +kernel
theorem dX12_tells_136 : decode cX12_tells 136 = .ok (.bipush 8, 2) := by decide +kernel
theorem dX12_tells_138 : decode cX12_tells 138 = .ok (.iaload, 1) := by decide +kernel
theorem dX12_tells_139 : decode cX12_tells 139 = .ok (.i2l, 1) := by decide +kernel
theorem dX12_tells_140 : decode cX12_tells 140 = .ok (.lastore, 1) := by decide +kernel
theorem dX12_tells_141 : decode cX12_tells 141 = .ok (.aload_n 0, 1) := by decide +kernel
theorem dX12_tells_142 : decode cX12_tells 142 = .ok (.getfield 80, 3) := by decide +kernel
theorem dX12_tells_145 : decode cX12_tells 145 = .ok (.bipush 9, 2) := by decide +kernel
theorem dX12_tells_147 : decode cX12_tells 147 = .ok (.aload_n 0, 1) := by decide +kernel
theorem dX12_tells_148 : decode cX12_tells 148 = .ok (.getfield 336, 3) := by decide +kernel
theorem dX12_tells_151 : decode cX12_tells 151 = .ok (.i2l, 1) := by decide +kernel
theorem dX12_tells_152 : decode cX12_tells 152 = .ok (.lastore, 1) := by decide +kernel
theorem dX12_tells_153 : decode cX12_tells 153 = .ok (.aload_n 0, 1) := by decide +kernel
theorem dX12_tells_154 : decode cX12_tells 154 = .ok (.getfield 80, 3) := by decide +kernel
theorem dX12_tells_157 : decode cX12_tells 157 = .ok (.bipush 10, 2) := by decide +kernel
theorem dX12_tells_159 : decode cX12_tells 159 = .ok (.iload 4, 2) := by decide +kernel
theorem dX12_tells_161 : decode cX12_tells 161 = .ok (.i2l, 1) := by decide +kernel
theorem dX12_tells_162 : decode cX12_tells 162 = .ok (.lastore, 1) := by decide +kernel
theorem dX12_tells_163 : decode cX12_tells 163 = .ok (.iload 5, 2) := by decide +kernel
theorem dX12_tells_165 : decode cX12_tells 165 = .ok (.i2l, 1) := by decide +kernel
theorem dX12_tells_166 : decode cX12_tells 166 = .ok (.lstore 7, 2) := by decide +kernel
theorem dX12_tells_168 : decode cX12_tells 168 = .ok (.iconst 0, 1) := by decide +kernel
theorem dX12_tells_169 : decode cX12_tells 169 = .ok (.istore 9, 2) := by decide +kernel
theorem dX12_tells_171 : decode cX12_tells 171 = .ok (.iload 9, 2) := by decide +kernel
theorem dX12_tells_173 : decode cX12_tells 173 = .ok (.aload_n 0, 1) := by decide +kernel
theorem dX12_tells_174 : decode cX12_tells 174 = .ok (.getfield 13, 3) := by decide +kernel
theorem dX12_tells_177 : decode cX12_tells 177 = .ok (.aload_n 0, 1) := by decide +kernel
theorem dX12_tells_178 : decode cX12_tells 178 = .ok (.getfield 310, 3) := by decide +kernel
theorem dX12_tells_181 : decode cX12_tells 181 = .ok (.iconst 1, 1) := by decide +kernel
theorem dX12_tells_182 : decode cX12_tells 182 = .ok (.iadd, 1) := by decide +kernel
theorem dX12_tells_183 : decode cX12_tells 183 = .ok (.iaload, 1) := by decide +kernel
theorem dX12_tells_184 : decode cX12_tells 184 = .ok (.if_icmp .ge 58, 3) := by decide +kernel
theorem dX12_tells_187 : decode cX12_tells 187 = .ok (.aload_n 0, 1) := by decide +kernel
theorem dX12_tells_188 : decode cX12_tells 188 = .ok (.getfield 310, 3) := by decide +kernel
theorem dX12_tells_191 : decode cX12_tells 191 = .ok (.iconst 2, 1) := by decide +kernel
theorem dX12_tells_192 : decode cX12_tells 192 = .ok (.iadd, 1) := by decide +kernel
theorem dX12_tells_193 : decode cX12_tells 193 = .ok (.bipush 8, 2) := by decide +kernel
theorem dX12_tells_195 : decode cX12_tells 195 = .ok (.iload 9, 2) := by decide +kernel
theorem dX12_tells_197 : decode cX12_tells 197 = .ok (.imul, 1) := by decide +kernel
theorem dX12_tells_198 : decode cX12_tells 198 = .ok (.iadd, 1) := by decide +kernel
theorem dX12_tells_199 : decode cX12_tells 199 = .ok (.istore 10, 2) := by decide +kernel
theorem dX12_tells_201 : decode cX12_tells 201 = .ok (.aload_n 0, 1) := by decide +kernel
theorem dX12_tells_202 : decode cX12_tells 202 = .ok (.getfield 13, 3) := by decide +kernel
theorem dX12_tells_205 : decode cX12_tells 205 = .ok (.iload 10, 2) := by decide +kernel
theorem dX12_tells_207 : decode cX12_tells 207 = .ok (.iaload, 1) := by decide +kernel
theorem dX12_tells_208 : decode cX12_tells 208 = .ok (.iload_n 1, 1) := by decide +kernel
theorem dX12_tells_209 : decode cX12_tells 209 = .ok (.if_icmp .ne 27, 3) := by decide +kernel
theorem dX12_tells_212 : decode cX12_tells 212 = .ok (.aload_n 0, 1) := by decide +kernel
theorem dX12_tells_213 : decode cX12_tells 213 = .ok (.iload 10, 2) := by decide +kernel
theorem dX12_tells_215 : decode cX12_tells 215 = .ok (.invokevirtual 339, 3) := by decide +kernel
theorem dX12_tells_218 : decode cX12_tells 218 = .ok (.ifCond .eq 18, 3) := by decide +kernel
theorem dX12_tells_221 : decode cX12_tells 221 = .ok (.iload_n 1, 1) := by decide +kernel
theorem dX12_tells_222 : decode cX12_tells 222 = .ok (.iconst 3, 1) := by decide +kernel
theorem dX12_tells_223 : decode cX12_tells 223 = .ok (.if_icmp .ge 10, 3) := by decide +kernel
theorem dX12_tells_226 : decode cX12_tells 226 = .ok (.aload_n 0, 1) := by decide +kernel
theorem dX12_tells_227 : decode cX12_tells 227 = .ok (.getfield 327, 3) := by decide +kernel
theorem dX12_tells_230 : decode cX12_tells 230 = .ok (.goto 4, 3) := by decide +kernel
theorem dX12_tells_233 : decode cX12_tells 233 = .ok (.lconst 1, 1) := by decide +kernel
theorem dX12_tells_234 : decode cX12_tells 234 = .ok (.lstore 7, 2) := by decide +kernel
theorem dX12_tells_236 : decode cX12_tells 236 = .ok (.iinc 9 1, 3) := by decide +kernel
theorem dX12_tells_239 : decode cX12_tells 239 = .ok (.goto (-68), 3) := by decide +kernel
theorem dX12_tells_242 : decode cX12_tells 242 = .ok (.lload 7, 2) := by decide +kernel
theorem dX12_tells_244 : decode cX12_tells 244 = .ok (.lconst 0, 1) := by decide +kernel
theorem dX12_tells_245 : decode cX12_tells 245 = .ok (.lcmp, 1) := by decide +kernel
theorem dX12_tells_246 : decode cX12_tells 246 = .ok (.ifCond .ge 7, 3) := by decide +kernel
theorem dX12_tells_249 : decode cX12_tells 249 = .ok (.iconst 0, 1) := by decide +kernel
theorem dX12_tells_250 : decode cX12_tells 250 = .ok (.goto 20, 3) := by decide +kernel
theorem dX12_tells_253 : decode cX12_tells 253 = .ok (.lload 7, 2) := by decide +kernel
theorem dX12_tells_255 : decode cX12_tells 255 = .ok (.iload 6, 2) := by decide +kernel
theorem dX12_tells_257 : decode cX12_tells 257 = .ok (.i2l, 1) := by decide +kernel
theorem dX12_tells_258 : decode cX12_tells 258 = .ok (.lcmp, 1) := by decide +kernel
theorem dX12_tells_259 : decode cX12_tells 259 = .ok (.ifCond .le 8, 3) := by decide +kernel
theorem dX12_tells_262 : decode cX12_tells 262 = .ok (.iload 6, 2) := by decide +kernel
theorem dX12_tells_264 : decode cX12_tells 264 = .ok (.goto 6, 3) := by decide +kernel
theorem dX12_tells_267 : decode cX12_tells 267 = .ok (.lload 7, 2) := by decide +kernel
theorem dX12_tells_269 : decode cX12_tells 269 = .ok (.l2i, 1) := by decide +kernel
theorem dX12_tells_270 : decode cX12_tells 270 = .ok (.ireturn, 1) := by decide +kernel
set_option maxHeartbeats 4000000 in
set_option maxRecDepth 100000 in
theorem x_X12_tells_171 {p : Program} {l : Launch} {e : Env} {s : State} {m : MethodId} {args : Array Value} {below : List Frame} {meth : Method} {c : Code} {D : va_G} {K : Nat → ClassId} {A : Nat → Prop} {ad : Nat → Nat} {rest : va_W} (C : xC p s m args meth c D K A RX12 cX12_tells 11 (some .int)) (z : Int32 × xS) : ∀ (n : Nat) (y1 : Int32) (y6 : Int32) (y7 : Int64) (y9 : Int32) (σ : xS), F_X12_tells_171  n y1 y6 y7 y9 σ = some z → X p l e (xR 3 72) s m args below meth c D A 11 (xQi below D K A args s z.1 (RW K ad rest z.2)) 0 0 171 [(0, .ref (ad 0)), (1, .int y1), (6, .int y6), (7, .long y7), (9, .int y9)] [] (RW K ad rest σ) := by
  intro n
  induction n with
  | zero =>
    intro y1 y6 y7 y9 σ hF
    cases hF
  | succ n ih =>
    intro y1 y6 y7 y9 σ hF
    rw [F_X12_tells_171] at hF
    refine x_iload C 4 9 dX12_tells_171 rfl ?_
    refine x_aload_n C 0 0 dX12_tells_173 rfl rfl ?_
    refine x_get C 0 dX12_tells_174 fl_X12_13 (RW_o K ad rest σ) rfl ?_
    refine x_aload_n C 0 0 dX12_tells_177 rfl rfl ?_
    refine x_get C 0 dX12_tells_178 fl_X12_310 (RW_o K ad rest σ) rfl ?_
    refine x_iconst C 1 dX12_tells_181 (by decide +kernel) ?_
    refine x_iadd C dX12_tells_182 ?_
    refine x_iald C 2 dX12_tells_183 (RW_a3 K ad rest σ) hF (fun v24 hF => ?_)
    refine x_icmp_ge C 242 dX12_tells_184 (by decide) hF (fun hF => ?_) (fun hF => ?_)
    · refine x_lload C 3 7 dX12_tells_242 rfl ?_
      refine x_lconst C 0 dX12_tells_244 (by decide +kernel) ?_
      refine x_lcmp C dX12_tells_245 ?_
      refine x_if_ge C 253 dX12_tells_246 (by decide) hF (fun hF => ?_) (fun hF => ?_)
      · refine x_lload C 3 7 dX12_tells_253 rfl ?_
        refine x_iload C 2 6 dX12_tells_255 rfl ?_
        refine x_i2l C dX12_tells_257 ?_
        refine x_lcmp C dX12_tells_258 ?_
        refine x_if_le C 267 dX12_tells_259 (by decide) hF (fun hF => ?_) (fun hF => ?_)
        · refine x_lload C 3 7 dX12_tells_267 rfl ?_
          refine x_l2i C dX12_tells_269 ?_
          exact x_iret C dX12_tells_270 rfl (congrArg Prod.fst (Option.some.inj hF)) (congrArg (fun q9 : Int32 × xS => RW K ad rest q9.2) (Option.some.inj hF))
        · refine x_iload C 2 6 dX12_tells_262 rfl ?_
          refine x_goto C 270 dX12_tells_264 (by decide) ?_
          exact x_iret C dX12_tells_270 rfl (congrArg Prod.fst (Option.some.inj hF)) (congrArg (fun q9 : Int32 × xS => RW K ad rest q9.2) (Option.some.inj hF))
      · refine x_iconst C 0 dX12_tells_249 (by decide +kernel) ?_
        refine x_goto C 270 dX12_tells_250 (by decide) ?_
        exact x_iret C dX12_tells_270 rfl (congrArg Prod.fst (Option.some.inj hF)) (congrArg (fun q9 : Int32 × xS => RW K ad rest q9.2) (Option.some.inj hF))
    · refine x_aload_n C 0 0 dX12_tells_187 rfl rfl ?_
      refine x_get C 0 dX12_tells_188 fl_X12_310 (RW_o K ad rest σ) rfl ?_
      refine x_iconst C 2 dX12_tells_191 (by decide +kernel) ?_
      refine x_iadd C dX12_tells_192 ?_
      refine x_bipush C 8 dX12_tells_193 (by decide +kernel) ?_
      refine x_iload C 4 9 dX12_tells_195 rfl ?_
      refine x_imul C dX12_tells_197 ?_
      refine x_iadd C dX12_tells_198 ?_
      refine x_topI hF (fun x25 hF => ?_)
      refine x_istore C [(10, .int x25), (0, .ref (ad 0)), (1, .int y1), (6, .int y6), (7, .long y7), (9, .int y9)] dX12_tells_199 (by decide) rfl ?_
      refine x_aload_n C 1 0 dX12_tells_201 rfl rfl ?_
      refine x_get C 0 dX12_tells_202 fl_X12_13 (RW_o K ad rest σ) rfl ?_
      refine x_iload C 0 10 dX12_tells_205 rfl ?_
      refine x_iald C 2 dX12_tells_207 (RW_a3 K ad rest σ) hF (fun v26 hF => ?_)
      refine x_iload_n C 2 1 dX12_tells_208 rfl rfl ?_
      refine x_icmp_ne C 236 dX12_tells_209 (by decide) hF (fun hF => ?_) (fun hF => ?_)
      · refine x_iincN C 1 5 (fun x27 => [(9, .int x27), (10, .int x25), (0, .ref (ad 0)), (1, .int y1), (6, .int y6), (7, .long y7)]) dX12_tells_236 rfl (by decide +kernel) (by decide) (fun _ => rfl) hF (fun x27 hF => ?_)
        refine x_goto C 171 dX12_tells_239 (by decide) ?_
        refine x_loc [(0, .ref (ad 0)), (1, .int y1), (6, .int y6), (7, .long y7), (9, .int x27)] [2, 3, 4, 5, 0] rfl ?_
        exact ih y1 y6 y7 x27 σ hF
      · refine x_aload_n C 1 0 dX12_tells_212 rfl rfl ?_
        refine x_iload C 0 10 dX12_tells_213 rfl ?_
        refine x_callVI C (wf := RW K ad rest) (As := [.int x25]) (rest := []) dX12_tells_215 ml_X12_339 rfl rfl (Nat.le_of_ble_eq_true rfl) 0 (RW_o K ad rest σ) rfl ⟨Nat.le_of_ble_eq_true rfl, Nat.le_of_ble_eq_true rfl⟩ ⟨Nat.zero_le _, Nat.zero_le _⟩ (fun q9 hq9 => c_X12_isSo l D K ad rest x25 σ q9 hq9) hF (fun v29 σ28 hF => ?_)
        refine x_if_eq C 236 dX12_tells_218 (by decide) hF (fun hF => ?_) (fun hF => ?_)
        · refine x_iincN C 1 5 (fun x30 => [(9, .int x30), (10, .int x25), (0, .ref (ad 0)), (1, .int y1), (6, .int y6), (7, .long y7)]) dX12_tells_236 rfl (by decide +kernel) (by decide) (fun _ => rfl) hF (fun x30 hF => ?_)
          refine x_goto C 171 dX12_tells_239 (by decide) ?_
          refine x_loc [(0, .ref (ad 0)), (1, .int y1), (6, .int y6), (7, .long y7), (9, .int x30)] [2, 3, 4, 5, 0] rfl ?_
          exact ih y1 y6 y7 x30 σ28 hF
        · refine x_iload_n C 2 1 dX12_tells_221 rfl rfl ?_
          refine x_iconst C 3 dX12_tells_222 (by decide +kernel) ?_
          refine x_icmp_ge C 233 dX12_tells_223 (by decide) hF (fun hF => ?_) (fun hF => ?_)
          · refine x_lconst C 1 dX12_tells_233 (by decide +kernel) ?_
            refine x_topL hF (fun x31 hF => ?_)
            refine x_lstore C [(7, .long x31), (10, .int x25), (0, .ref (ad 0)), (1, .int y1), (6, .int y6), (9, .int y9)] dX12_tells_234 (by decide) rfl ?_
            refine x_iincN C 1 5 (fun x32 => [(9, .int x32), (7, .long x31), (10, .int x25), (0, .ref (ad 0)), (1, .int y1), (6, .int y6)]) dX12_tells_236 rfl (by decide +kernel) (by decide) (fun _ => rfl) hF (fun x32 hF => ?_)
            refine x_goto C 171 dX12_tells_239 (by decide) ?_
            refine x_loc [(0, .ref (ad 0)), (1, .int y1), (6, .int y6), (7, .long x31), (9, .int x32)] [3, 4, 5, 1, 0] rfl ?_
            exact ih y1 y6 x31 x32 σ28 hF
          · refine x_aload_n C 1 0 dX12_tells_226 rfl rfl ?_
            refine x_get C 0 dX12_tells_227 fl_X12_327 (RW_o K ad rest σ28) rfl ?_
            refine x_goto C 234 dX12_tells_230 (by decide) ?_
            refine x_topL hF (fun x33 hF => ?_)
            refine x_lstore C [(7, .long x33), (10, .int x25), (0, .ref (ad 0)), (1, .int y1), (6, .int y6), (9, .int y9)] dX12_tells_234 (by decide) rfl ?_
            refine x_iincN C 1 5 (fun x34 => [(9, .int x34), (7, .long x33), (10, .int x25), (0, .ref (ad 0)), (1, .int y1), (6, .int y6)]) dX12_tells_236 rfl (by decide +kernel) (by decide) (fun _ => rfl) hF (fun x34 hF => ?_)
            refine x_goto C 171 dX12_tells_239 (by decide) ?_
            refine x_loc [(0, .ref (ad 0)), (1, .int y1), (6, .int y6), (7, .long x33), (9, .int x34)] [3, 4, 5, 1, 0] rfl ?_
            exact ih y1 y6 x33 x34 σ28 hF
set_option maxHeartbeats 4000000 in
set_option maxRecDepth 100000 in
theorem c_X12_tells (l : Launch) (D : va_G) (K : Nat → ClassId) (ad : Nat → Nat) (rest : va_W) (a1 : Int32) (a2 : Int32) (a3 : Int32) (a4 : Int32) (a5 : Int32) (a6 : Int32) (σ : xS) (z : Int32 × xS) (hF : F_X12_tells a1 a2 a3 a4 a5 a6 σ = some z) : CI l D K yX12_tells cX12_tells 11 (some .int) 3 72 [.ref (ad 0), .int a1, .int a2, .int a3, .int a4, .int a5, .int a6] (RW K ad rest σ) z.1 (RW K ad rest z.2) := by
  refine x_enterI [(0, .ref (ad 0)), (1, .int a1), (2, .int a2), (3, .int a3), (4, .int a4), (5, .int a5), (6, .int a6)] pnX12 (Nat.le_of_ble_eq_true rfl) rfl ?_
  intro p e s m args below meth c A C
  unfold F_X12_tells at hF
  refine x_aload_n C 0 0 dX12_tells_0 rfl rfl ?_
  refine x_get C 0 dX12_tells_1 fl_X12_13 (RW_o K ad rest σ) rfl ?_
  refine x_iconst C 2 dX12_tells_4 (by decide +kernel) ?_
  refine x_iald C 2 dX12_tells_5 (RW_a3 K ad rest σ) hF (fun v1 hF => ?_)
  refine x_iconst C (-1) dX12_tells_6 (by decide +kernel) ?_
  refine x_icmp_ne C 13 dX12_tells_7 (by decide) hF (fun hF => ?_) (fun hF => ?_)
  · refine x_aload_n C 0 0 dX12_tells_13 rfl rfl ?_
    refine x_sipush C 150 dX12_tells_14 (by decide +kernel) ?_
    refine x_sipush C 900 dX12_tells_17 (by decide +kernel) ?_
    refine x_aload_n C 0 0 dX12_tells_20 rfl rfl ?_
    refine x_get C 0 dX12_tells_21 fl_X12_13 (RW_o K ad rest σ) rfl ?_
    refine x_iconst C 2 dX12_tells_24 (by decide +kernel) ?_
    refine x_iald C 2 dX12_tells_25 (RW_a3 K ad rest σ) hF (fun v2 hF => ?_)
    refine x_imul C dX12_tells_26 ?_
    refine x_iadd C dX12_tells_27 ?_
    refine x_put C 0 dX12_tells_28 fl_X12_310 fm_X12_27 rfl rfl (RW_o K ad rest σ) (Nat.le_of_ble_eq_true rfl) (RW_s27 K ad rest σ _) ?_
    refine x_st (wf := RW K ad rest) hF (fun σ3 hF => ?_)
    refine x_aload_n C 0 0 dX12_tells_31 rfl rfl ?_
    refine x_get C 0 dX12_tells_32 fl_X12_80 (RW_o K ad rest σ3) rfl ?_
    refine x_iconst C 1 dX12_tells_35 (by decide +kernel) ?_
    refine x_iload_n C 2 2 dX12_tells_36 rfl rfl ?_
    refine x_i2l C dX12_tells_37 ?_
    refine x_last C 13 dX12_tells_38 (RW_a28 K ad rest σ3) hF (RW_s28 K ad rest σ3 _) (fun hF => ?_)
    refine x_st (wf := RW K ad rest) hF (fun σ4 hF => ?_)
    refine x_aload_n C 0 0 dX12_tells_39 rfl rfl ?_
    refine x_get C 0 dX12_tells_40 fl_X12_80 (RW_o K ad rest σ4) rfl ?_
    refine x_iconst C 2 dX12_tells_43 (by decide +kernel) ?_
    refine x_aload_n C 0 0 dX12_tells_44 rfl rfl ?_
    refine x_iload_n C 2 2 dX12_tells_45 rfl rfl ?_
    refine x_iconst C 0 dX12_tells_46 (by decide +kernel) ?_
    refine x_callVI C (wf := RW K ad rest) (As := [.int a2, .int 0]) (rest := [.int 2, .ref (ad 29)]) dX12_tells_47 ml_X12_150 rfl rfl (Nat.le_of_ble_eq_true rfl) 0 (RW_o K ad rest σ4) rfl ⟨Nat.le_of_ble_eq_true rfl, Nat.le_of_ble_eq_true rfl⟩ ⟨Nat.zero_le _, Nat.zero_le _⟩ (fun q9 hq9 => c_X12_ofBook l D K ad rest a2 0 σ4 q9 hq9) hF (fun v6 σ5 hF => ?_)
    refine x_i2l C dX12_tells_50 ?_
    refine x_last C 13 dX12_tells_51 (RW_a28 K ad rest σ5) hF (RW_s28 K ad rest σ5 _) (fun hF => ?_)
    refine x_st (wf := RW K ad rest) hF (fun σ7 hF => ?_)
    refine x_aload_n C 0 0 dX12_tells_52 rfl rfl ?_
    refine x_get C 0 dX12_tells_53 fl_X12_80 (RW_o K ad rest σ7) rfl ?_
    refine x_iconst C 3 dX12_tells_56 (by decide +kernel) ?_
    refine x_aload_n C 0 0 dX12_tells_57 rfl rfl ?_
    refine x_iload_n C 2 2 dX12_tells_58 rfl rfl ?_
    refine x_iconst C 1 dX12_tells_59 (by decide +kernel) ?_
    refine x_callVI C (wf := RW K ad rest) (As := [.int a2, .int 1]) (rest := [.int 3, .ref (ad 29)]) dX12_tells_60 ml_X12_150 rfl rfl (Nat.le_of_ble_eq_true rfl) 0 (RW_o K ad rest σ7) rfl ⟨Nat.le_of_ble_eq_true rfl, Nat.le_of_ble_eq_true rfl⟩ ⟨Nat.zero_le _, Nat.zero_le _⟩ (fun q9 hq9 => c_X12_ofBook l D K ad rest a2 1 σ7 q9 hq9) hF (fun v9 σ8 hF => ?_)
    refine x_i2l C dX12_tells_63 ?_
    refine x_last C 13 dX12_tells_64 (RW_a28 K ad rest σ8) hF (RW_s28 K ad rest σ8 _) (fun hF => ?_)
    refine x_st (wf := RW K ad rest) hF (fun σ10 hF => ?_)
    refine x_aload_n C 0 0 dX12_tells_65 rfl rfl ?_
    refine x_get C 0 dX12_tells_66 fl_X12_80 (RW_o K ad rest σ10) rfl ?_
    refine x_iconst C 4 dX12_tells_69 (by decide +kernel) ?_
    refine x_aload_n C 0 0 dX12_tells_70 rfl rfl ?_
    refine x_iload_n C 2 2 dX12_tells_71 rfl rfl ?_
    refine x_iconst C 2 dX12_tells_72 (by decide +kernel) ?_
    refine x_callVI C (wf := RW K ad rest) (As := [.int a2, .int 2]) (rest := [.int 4, .ref (ad 29)]) dX12_tells_73 ml_X12_150 rfl rfl (Nat.le_of_ble_eq_true rfl) 0 (RW_o K ad rest σ10) rfl ⟨Nat.le_of_ble_eq_true rfl, Nat.le_of_ble_eq_true rfl⟩ ⟨Nat.zero_le _, Nat.zero_le _⟩ (fun q9 hq9 => c_X12_ofBook l D K ad rest a2 2 σ10 q9 hq9) hF (fun v12 σ11 hF => ?_)
    refine x_aload_n C 0 0 dX12_tells_76 rfl rfl ?_
    refine x_get C 0 dX12_tells_77 fl_X12_333 (RW_o K ad rest σ11) rfl ?_
    refine x_iadd C dX12_tells_80 ?_
    refine x_i2l C dX12_tells_81 ?_
    refine x_last C 13 dX12_tells_82 (RW_a28 K ad rest σ11) hF (RW_s28 K ad rest σ11 _) (fun hF => ?_)
    refine x_st (wf := RW K ad rest) hF (fun σ13 hF => ?_)
    refine x_aload_n C 0 0 dX12_tells_83 rfl rfl ?_
    refine x_get C 0 dX12_tells_84 fl_X12_80 (RW_o K ad rest σ13) rfl ?_
    refine x_iconst C 5 dX12_tells_87 (by decide +kernel) ?_
    refine x_iload_n C 3 3 dX12_tells_88 rfl rfl ?_
    refine x_i2l C dX12_tells_89 ?_
    refine x_last C 13 dX12_tells_90 (RW_a28 K ad rest σ13) hF (RW_s28 K ad rest σ13 _) (fun hF => ?_)
    refine x_st (wf := RW K ad rest) hF (fun σ14 hF => ?_)
    refine x_aload_n C 0 0 dX12_tells_91 rfl rfl ?_
    refine x_get C 0 dX12_tells_92 fl_X12_80 (RW_o K ad rest σ14) rfl ?_
    refine x_bipush C 6 dX12_tells_95 (by decide +kernel) ?_
    refine x_aload_n C 0 0 dX12_tells_97 rfl rfl ?_
    refine x_get C 0 dX12_tells_98 fl_X12_330 (RW_o K ad rest σ14) rfl ?_
    refine x_i2l C dX12_tells_101 ?_
    refine x_last C 13 dX12_tells_102 (RW_a28 K ad rest σ14) hF (RW_s28 K ad rest σ14 _) (fun hF => ?_)
    refine x_st (wf := RW K ad rest) hF (fun σ15 hF => ?_)
    refine x_aload_n C 0 0 dX12_tells_103 rfl rfl ?_
    refine x_get C 0 dX12_tells_104 fl_X12_80 (RW_o K ad rest σ15) rfl ?_
    refine x_bipush C 7 dX12_tells_107 (by decide +kernel) ?_
    refine x_aload_n C 0 0 dX12_tells_109 rfl rfl ?_
    refine x_get C 0 dX12_tells_110 fl_X12_13 (RW_o K ad rest σ15) rfl ?_
    refine x_bipush C 7 dX12_tells_113 (by decide +kernel) ?_
    refine x_iald C 2 dX12_tells_115 (RW_a3 K ad rest σ15) hF (fun v16 hF => ?_)
    refine x_aload_n C 0 0 dX12_tells_116 rfl rfl ?_
    refine x_get C 0 dX12_tells_117 fl_X12_333 (RW_o K ad rest σ15) rfl ?_
    refine x_iadd C dX12_tells_120 ?_
    refine x_bipush C 52 dX12_tells_121 (by decide +kernel) ?_
    refine x_irem C dX12_tells_123 hF (fun hF => ?_)
    refine x_i2l C dX12_tells_124 ?_
    refine x_last C 13 dX12_tells_125 (RW_a28 K ad rest σ15) hF (RW_s28 K ad rest σ15 _) (fun hF => ?_)
    refine x_st (wf := RW K ad rest) hF (fun σ17 hF => ?_)
    refine x_aload_n C 0 0 dX12_tells_126 rfl rfl ?_
    refine x_get C 0 dX12_tells_127 fl_X12_80 (RW_o K ad rest σ17) rfl ?_
    refine x_bipush C 8 dX12_tells_130 (by decide +kernel) ?_
    refine x_aload_n C 0 0 dX12_tells_132 rfl rfl ?_
    refine x_get C 0 dX12_tells_133 fl_X12_13 (RW_o K ad rest σ17) rfl ?_
    refine x_bipush C 8 dX12_tells_136 (by decide +kernel) ?_
    refine x_iald C 2 dX12_tells_138 (RW_a3 K ad rest σ17) hF (fun v18 hF => ?_)
    refine x_i2l C dX12_tells_139 ?_
    refine x_last C 13 dX12_tells_140 (RW_a28 K ad rest σ17) hF (RW_s28 K ad rest σ17 _) (fun hF => ?_)
    refine x_st (wf := RW K ad rest) hF (fun σ19 hF => ?_)
    refine x_aload_n C 0 0 dX12_tells_141 rfl rfl ?_
    refine x_get C 0 dX12_tells_142 fl_X12_80 (RW_o K ad rest σ19) rfl ?_
    refine x_bipush C 9 dX12_tells_145 (by decide +kernel) ?_
    refine x_aload_n C 0 0 dX12_tells_147 rfl rfl ?_
    refine x_get C 0 dX12_tells_148 fl_X12_336 (RW_o K ad rest σ19) rfl ?_
    refine x_i2l C dX12_tells_151 ?_
    refine x_last C 13 dX12_tells_152 (RW_a28 K ad rest σ19) hF (RW_s28 K ad rest σ19 _) (fun hF => ?_)
    refine x_st (wf := RW K ad rest) hF (fun σ20 hF => ?_)
    refine x_aload_n C 0 0 dX12_tells_153 rfl rfl ?_
    refine x_get C 0 dX12_tells_154 fl_X12_80 (RW_o K ad rest σ20) rfl ?_
    refine x_bipush C 10 dX12_tells_157 (by decide +kernel) ?_
    refine x_iload C 4 4 dX12_tells_159 rfl ?_
    refine x_i2l C dX12_tells_161 ?_
    refine x_last C 13 dX12_tells_162 (RW_a28 K ad rest σ20) hF (RW_s28 K ad rest σ20 _) (fun hF => ?_)
    refine x_st (wf := RW K ad rest) hF (fun σ21 hF => ?_)
    refine x_iload C 5 5 dX12_tells_163 rfl ?_
    refine x_i2l C dX12_tells_165 ?_
    refine x_topL hF (fun x22 hF => ?_)
    refine x_lstore C [(7, .long x22), (0, .ref (ad 0)), (1, .int a1), (2, .int a2), (3, .int a3), (4, .int a4), (5, .int a5), (6, .int a6)] dX12_tells_166 (by decide) rfl ?_
    refine x_iconst C 0 dX12_tells_168 (by decide +kernel) ?_
    refine x_topI hF (fun x23 hF => ?_)
    refine x_istore C [(9, .int x23), (7, .long x22), (0, .ref (ad 0)), (1, .int a1), (2, .int a2), (3, .int a3), (4, .int a4), (5, .int a5), (6, .int a6)] dX12_tells_169 (by decide) rfl ?_
    refine x_loc [(0, .ref (ad 0)), (1, .int a1), (6, .int a6), (7, .long x22), (9, .int x23)] [2, 3, 8, 1, 0] rfl ?_
    exact x_X12_tells_171 C z FU a1 a6 x22 x23 σ21 hF
  · refine x_iload C 5 5 dX12_tells_10 rfl ?_
    exact x_iret C dX12_tells_12 rfl (congrArg Prod.fst (Option.some.inj hF)) (congrArg (fun q9 : Int32 × xS => RW K ad rest q9.2) (Option.some.inj hF))
theorem dX12_sells_0 : decode cX12_sells 0 = .ok (.aload_n 0, 1) := by decide +kernel
theorem dX12_sells_1 : decode cX12_sells 1 = .ok (.iconst 0, 1) := by decide +kernel
theorem dX12_sells_2 : decode cX12_sells 2 = .ok (.iload_n 1, 1) := by decide +kernel
theorem dX12_sells_3 : decode cX12_sells 3 = .ok (.iload_n 2, 1) := by decide +kernel
theorem dX12_sells_4 : decode cX12_sells 4 = .ok (.iconst 0, 1) := by decide +kernel
theorem dX12_sells_5 : decode cX12_sells 5 = .ok (.bipush 10, 2) := by decide +kernel
theorem dX12_sells_7 : decode cX12_sells 7 = .ok (.bipush 100, 2) := by decide +kernel
theorem dX12_sells_9 : decode cX12_sells 9 = .ok (.invokevirtual 342, 3) := by decide +kernel
theorem dX12_sells_12 : decode cX12_sells 12 = .ok (.ireturn, 1) := by decide +kernel
set_option maxHeartbeats 4000000 in
set_option maxRecDepth 100000 in
theorem c_X12_sells (l : Launch) (D : va_G) (K : Nat → ClassId) (ad : Nat → Nat) (rest : va_W) (a1 : Int32) (a2 : Int32) (σ : xS) (z : Int32 × xS) (hF : F_X12_sells a1 a2 σ = some z) : CI l D K yX12_sells cX12_sells 3 (some .int) 4 102 [.ref (ad 0), .int a1, .int a2] (RW K ad rest σ) z.1 (RW K ad rest z.2) := by
  refine x_enterI [(0, .ref (ad 0)), (1, .int a1), (2, .int a2)] pnX12 (Nat.le_of_ble_eq_true rfl) rfl ?_
  intro p e s m args below meth c A C
  unfold F_X12_sells at hF
  refine x_aload_n C 0 0 dX12_sells_0 rfl rfl ?_
  refine x_iconst C 0 dX12_sells_1 (by decide +kernel) ?_
  refine x_iload_n C 1 1 dX12_sells_2 rfl rfl ?_
  refine x_iload_n C 2 2 dX12_sells_3 rfl rfl ?_
  refine x_iconst C 0 dX12_sells_4 (by decide +kernel) ?_
  refine x_bipush C 10 dX12_sells_5 (by decide +kernel) ?_
  refine x_bipush C 100 dX12_sells_7 (by decide +kernel) ?_
  refine x_callVI C (wf := RW K ad rest) (As := [.int 0, .int a1, .int a2, .int 0, .int 10, .int 100]) (rest := []) dX12_sells_9 ml_X12_342 rfl rfl (Nat.le_of_ble_eq_true rfl) 0 (RW_o K ad rest σ) rfl ⟨Nat.le_of_ble_eq_true rfl, Nat.le_of_ble_eq_true rfl⟩ ⟨Nat.zero_le _, Nat.zero_le _⟩ (fun q9 hq9 => c_X12_tells l D K ad rest 0 a1 a2 0 10 100 σ q9 hq9) hF (fun v2 σ1 hF => ?_)
  exact x_iret C dX12_sells_12 rfl (congrArg Prod.fst (Option.some.inj hF)) (congrArg (fun q9 : Int32 × xS => RW K ad rest q9.2) (Option.some.inj hF))
theorem dX12_chance_0 : decode cX12_chance 0 = .ok (.aload_n 0, 1) := by decide +kernel
theorem dX12_chance_1 : decode cX12_chance 1 = .ok (.iconst 0, 1) := by decide +kernel
theorem dX12_chance_2 : decode cX12_chance 2 = .ok (.putfield 107, 3) := by decide +kernel
theorem dX12_chance_5 : decode cX12_chance 5 = .ok (.aload_n 0, 1) := by decide +kernel
theorem dX12_chance_6 : decode cX12_chance 6 = .ok (.iload_n 1, 1) := by decide +kernel
theorem dX12_chance_7 : decode cX12_chance 7 = .ok (.invokevirtual 140, 3) := by decide +kernel
theorem dX12_chance_10 : decode cX12_chance 10 = .ok (.ifCond .eq 40, 3) := by decide +kernel
theorem dX12_chance_13 : decode cX12_chance 13 = .ok (.iload_n 2, 1) := by decide +kernel
theorem dX12_chance_14 : decode cX12_chance 14 = .ok (.i2l, 1) := by decide +kernel
theorem dX12_chance_15 : decode cX12_chance 15 = .ok (.lconst 0, 1) := by decide +kernel
theorem dX12_chance_16 : decode cX12_chance 16 = .ok (.ldc2_w 346, 3) := by decide +kernel
theorem dX12_chance_19 : decode cX12_chance 19 = .ok (.invokestatic 117, 3) := by decide +kernel
theorem dX12_chance_22 : decode cX12_chance 22 = .ok (.ifCond .eq 28, 3) := by decide +kernel
theorem dX12_chance_25 : decode cX12_chance 25 = .ok (.iload_n 3, 1) := by decide +kernel
theorem dX12_chance_26 : decode cX12_chance 26 = .ok (.i2l, 1) := by decide +kernel
theorem dX12_chance_27 : decode cX12_chance 27 = .ok (.lconst 0, 1) := by decide +kernel
theorem dX12_chance_28 : decode cX12_chance 28 = .ok (.ldc2_w 157, 3) := by decide +kernel
theorem dX12_chance_31 : decode cX12_chance 31 = .ok (.invokestatic 117, 3) := by decide +kernel
theorem dX12_chance_34 : decode cX12_chance 34 = .ok (.ifCond .eq 16, 3) := by decide +kernel
theorem dX12_chance_37 : decode cX12_chance 37 = .ok (.iload 4, 2) := by decide +kernel
theorem dX12_chance_39 : decode cX12_chance 39 = .ok (.i2l, 1) := by decide +kernel
theorem dX12_chance_40 : decode cX12_chance 40 = .ok (.lconst 0, 1) := by decide +kernel
theorem dX12_chance_41 : decode cX12_chance 41 = .ok (.ldc2_w 126, 3) := by decide +kernel
theorem dX12_chance_44 : decode cX12_chance 44 = .ok (.invokestatic 117, 3) := by decide +kernel
theorem dX12_chance_47 : decode cX12_chance 47 = .ok (.ifCond .ne 5, 3) := by decide +kernel
theorem dX12_chance_50 : decode cX12_chance 50 = .ok (.iconst (-1), 1) := by decide +kernel
theorem dX12_chance_51 : decode cX12_chance 51 = .ok (.ireturn, 1) := by decide +kernel
theorem dX12_chance_52 : decode cX12_chance 52 = .ok (.aload_n 0, 1) := by decide +kernel
theorem dX12_chance_53 : decode cX12_chance 53 = .ok (.iload_n 1, 1) := by decide +kernel
theorem dX12_chance_54 : decode cX12_chance 54 = .ok (.invokevirtual 348, 3) := by decide +kernel
theorem dX12_chance_57 : decode cX12_chance 57 = .ok (.aload_n 0, 1) := by decide +kernel
theorem dX12_chance_58 : decode cX12_chance 58 = .ok (.iload_n 3, 1) := by decide +kernel
theorem dX12_chance_59 : decode cX12_chance 59 = .ok (.putfield 333, 3) := by decide +kernel
theorem dX12_chance_62 : decode cX12_chance 62 = .ok (.aload_n 0, 1) := by decide +kernel
theorem dX12_chance_63 : decode cX12_chance 63 = .ok (.iload 4, 2) := by decide +kernel
theorem dX12_chance_65 : decode cX12_chance 65 = .ok (.putfield 336, 3) := by decide +kernel
theorem dX12_chance_68 : decode cX12_chance 68 = .ok (.aload_n 0, 1) := by decide +kernel
theorem dX12_chance_69 : decode cX12_chance 69 = .ok (.iload_n 1, 1) := by decide +kernel
theorem dX12_chance_70 : decode cX12_chance 70 = .ok (.iload_n 2, 1) := by decide +kernel
theorem dX12_chance_71 : decode cX12_chance 71 = .ok (.invokevirtual 351, 3) := by decide +kernel
theorem dX12_chance_74 : decode cX12_chance 74 = .ok (.ireturn, 1) := by decide +kernel
set_option maxHeartbeats 4000000 in
set_option maxRecDepth 100000 in
theorem c_X12_chance (l : Launch) (D : va_G) (K : Nat → ClassId) (ad : Nat → Nat) (rest : va_W) (a1 : Int32) (a2 : Int32) (a3 : Int32) (a4 : Int32) (σ : xS) (z : Int32 × xS) (hF : F_X12_chance a1 a2 a3 a4 σ = some z) : CI l D K yX12_chance cX12_chance 5 (some .int) 5 124 [.ref (ad 0), .int a1, .int a2, .int a3, .int a4] (RW K ad rest σ) z.1 (RW K ad rest z.2) := by
  refine x_enterI [(0, .ref (ad 0)), (1, .int a1), (2, .int a2), (3, .int a3), (4, .int a4)] pnX12 (Nat.le_of_ble_eq_true rfl) rfl ?_
  intro p e s m args below meth c A C
  unfold F_X12_chance at hF
  refine x_aload_n C 0 0 dX12_chance_0 rfl rfl ?_
  refine x_iconst C 0 dX12_chance_1 (by decide +kernel) ?_
  refine x_put C 0 dX12_chance_2 fl_X12_107 fm_X12_0 rfl rfl (RW_o K ad rest σ) (Nat.le_of_ble_eq_true rfl) (RW_s0 K ad rest σ _) ?_
  refine x_st (wf := RW K ad rest) hF (fun σ1 hF => ?_)
  refine x_aload_n C 0 0 dX12_chance_5 rfl rfl ?_
  refine x_iload_n C 1 1 dX12_chance_6 rfl rfl ?_
  refine x_callVI C (wf := RW K ad rest) (As := [.int a1]) (rest := []) dX12_chance_7 ml_X12_140 rfl rfl (Nat.le_of_ble_eq_true rfl) 0 (RW_o K ad rest σ1) rfl ⟨Nat.le_of_ble_eq_true rfl, Nat.le_of_ble_eq_true rfl⟩ ⟨Nat.zero_le _, Nat.zero_le _⟩ (fun q9 hq9 => c_X12_isBook l D K ad rest a1 σ1 q9 hq9) hF (fun v3 σ2 hF => ?_)
  refine x_if_eq C 50 dX12_chance_10 (by decide) hF (fun hF => ?_) (fun hF => ?_)
  · refine x_iconst C (-1) dX12_chance_50 (by decide +kernel) ?_
    exact x_iret C dX12_chance_51 rfl (congrArg Prod.fst (Option.some.inj hF)) (congrArg (fun q9 : Int32 × xS => RW K ad rest q9.2) (Option.some.inj hF))
  · refine x_iload_n C 2 2 dX12_chance_13 rfl rfl ?_
    refine x_i2l C dX12_chance_14 ?_
    refine x_lconst C 0 dX12_chance_15 (by decide +kernel) ?_
    refine x_ldc2 C 2000 dX12_chance_16 cl_X12_346 ?_
    refine x_callSI C (wf := RW K ad rest) (As := [.long (a2.toInt64), .long 0, .long 2000]) (rest := []) dX12_chance_19 ml_X12_117 rfl rfl (Nat.le_of_ble_eq_true rfl) ⟨Nat.le_of_ble_eq_true rfl, Nat.le_of_ble_eq_true rfl⟩ ⟨Nat.zero_le _, Nat.zero_le _⟩ (fun q9 hq9 => c_X12_in l D K ad rest (a2.toInt64) 0 2000 σ2 q9 hq9) hF (fun v5 σ4 hF => ?_)
    refine x_if_eq C 50 dX12_chance_22 (by decide) hF (fun hF => ?_) (fun hF => ?_)
    · refine x_iconst C (-1) dX12_chance_50 (by decide +kernel) ?_
      exact x_iret C dX12_chance_51 rfl (congrArg Prod.fst (Option.some.inj hF)) (congrArg (fun q9 : Int32 × xS => RW K ad rest q9.2) (Option.some.inj hF))
    · refine x_iload_n C 3 3 dX12_chance_25 rfl rfl ?_
      refine x_i2l C dX12_chance_26 ?_
      refine x_lconst C 0 dX12_chance_27 (by decide +kernel) ?_
      refine x_ldc2 C 51 dX12_chance_28 cl_X12_157 ?_
      refine x_callSI C (wf := RW K ad rest) (As := [.long (a3.toInt64), .long 0, .long 51]) (rest := []) dX12_chance_31 ml_X12_117 rfl rfl (Nat.le_of_ble_eq_true rfl) ⟨Nat.le_of_ble_eq_true rfl, Nat.le_of_ble_eq_true rfl⟩ ⟨Nat.zero_le _, Nat.zero_le _⟩ (fun q9 hq9 => c_X12_in l D K ad rest (a3.toInt64) 0 51 σ4 q9 hq9) hF (fun v7 σ6 hF => ?_)
      refine x_if_eq C 50 dX12_chance_34 (by decide) hF (fun hF => ?_) (fun hF => ?_)
      · refine x_iconst C (-1) dX12_chance_50 (by decide +kernel) ?_
        exact x_iret C dX12_chance_51 rfl (congrArg Prod.fst (Option.some.inj hF)) (congrArg (fun q9 : Int32 × xS => RW K ad rest q9.2) (Option.some.inj hF))
      · refine x_iload C 4 4 dX12_chance_37 rfl ?_
        refine x_i2l C dX12_chance_39 ?_
        refine x_lconst C 0 dX12_chance_40 (by decide +kernel) ?_
        refine x_ldc2 C 999 dX12_chance_41 cl_X12_126 ?_
        refine x_callSI C (wf := RW K ad rest) (As := [.long (a4.toInt64), .long 0, .long 999]) (rest := []) dX12_chance_44 ml_X12_117 rfl rfl (Nat.le_of_ble_eq_true rfl) ⟨Nat.le_of_ble_eq_true rfl, Nat.le_of_ble_eq_true rfl⟩ ⟨Nat.zero_le _, Nat.zero_le _⟩ (fun q9 hq9 => c_X12_in l D K ad rest (a4.toInt64) 0 999 σ6 q9 hq9) hF (fun v9 σ8 hF => ?_)
        refine x_if_ne C 52 dX12_chance_47 (by decide) hF (fun hF => ?_) (fun hF => ?_)
        · refine x_aload_n C 0 0 dX12_chance_52 rfl rfl ?_
          refine x_iload_n C 1 1 dX12_chance_53 rfl rfl ?_
          refine x_callVV C (wf := RW K ad rest) (As := [.int a1]) (rest := []) dX12_chance_54 ml_X12_348 rfl rfl (Nat.le_of_ble_eq_true rfl) 0 (RW_o K ad rest σ8) rfl ⟨Nat.le_of_ble_eq_true rfl, Nat.le_of_ble_eq_true rfl⟩ ⟨Nat.zero_le _, Nat.zero_le _⟩ (fun q9 hq9 => c_X12_asTold l D K ad rest a1 σ8 q9 hq9) hF (fun _ σ10 hF => ?_)
          refine x_aload_n C 0 0 dX12_chance_57 rfl rfl ?_
          refine x_iload_n C 3 3 dX12_chance_58 rfl rfl ?_
          refine x_put C 0 dX12_chance_59 fl_X12_333 fm_X12_34 rfl rfl (RW_o K ad rest σ10) (Nat.le_of_ble_eq_true rfl) (RW_s34 K ad rest σ10 _) ?_
          refine x_st (wf := RW K ad rest) hF (fun σ11 hF => ?_)
          refine x_aload_n C 0 0 dX12_chance_62 rfl rfl ?_
          refine x_iload C 4 4 dX12_chance_63 rfl ?_
          refine x_put C 0 dX12_chance_65 fl_X12_336 fm_X12_35 rfl rfl (RW_o K ad rest σ11) (Nat.le_of_ble_eq_true rfl) (RW_s35 K ad rest σ11 _) ?_
          refine x_st (wf := RW K ad rest) hF (fun σ12 hF => ?_)
          refine x_aload_n C 0 0 dX12_chance_68 rfl rfl ?_
          refine x_iload_n C 1 1 dX12_chance_69 rfl rfl ?_
          refine x_iload_n C 2 2 dX12_chance_70 rfl rfl ?_
          refine x_callVI C (wf := RW K ad rest) (As := [.int a1, .int a2]) (rest := []) dX12_chance_71 ml_X12_351 rfl rfl (Nat.le_of_ble_eq_true rfl) 0 (RW_o K ad rest σ12) rfl ⟨Nat.le_of_ble_eq_true rfl, Nat.le_of_ble_eq_true rfl⟩ ⟨Nat.zero_le _, Nat.zero_le _⟩ (fun q9 hq9 => c_X12_sells l D K ad rest a1 a2 σ12 q9 hq9) hF (fun v14 σ13 hF => ?_)
          exact x_iret C dX12_chance_74 rfl (congrArg Prod.fst (Option.some.inj hF)) (congrArg (fun q9 : Int32 × xS => RW K ad rest q9.2) (Option.some.inj hF))
        · refine x_iconst C (-1) dX12_chance_50 (by decide +kernel) ?_
          exact x_iret C dX12_chance_51 rfl (congrArg Prod.fst (Option.some.inj hF)) (congrArg (fun q9 : Int32 × xS => RW K ad rest q9.2) (Option.some.inj hF))
