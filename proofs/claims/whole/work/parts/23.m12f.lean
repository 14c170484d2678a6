theorem dX12_keep_0 : decode cX12_keep 0 = .ok (.aload_n 0, 1) := by decide +kernel
theorem dX12_keep_1 : decode cX12_keep 1 = .ok (.iconst 0, 1) := by decide +kernel
theorem dX12_keep_2 : decode cX12_keep 2 = .ok (.putfield 107, 3) := by decide +kernel
theorem dX12_keep_5 : decode cX12_keep 5 = .ok (.iload_n 1, 1) := by decide +kernel
theorem dX12_keep_6 : decode cX12_keep 6 = .ok (.iconst (-1), 1) := by decide +kernel
theorem dX12_keep_7 : decode cX12_keep 7 = .ok (.if_icmp .eq 13, 3) := by decide +kernel
theorem dX12_keep_10 : decode cX12_keep 10 = .ok (.aload_n 0, 1) := by decide +kernel
theorem dX12_keep_11 : decode cX12_keep 11 = .ok (.iload_n 1, 1) := by decide +kernel
theorem dX12_keep_12 : decode cX12_keep 12 = .ok (.invokevirtual 412, 3) := by decide +kernel
theorem dX12_keep_15 : decode cX12_keep 15 = .ok (.ifCond .ne 5, 3) := by decide +kernel
theorem dX12_keep_18 : decode cX12_keep 18 = .ok (.iconst (-1), 1) := by decide +kernel
theorem dX12_keep_19 : decode cX12_keep 19 = .ok (.ireturn, 1) := by decide +kernel
theorem dX12_keep_20 : decode cX12_keep 20 = .ok (.aload_n 0, 1) := by decide +kernel
theorem dX12_keep_21 : decode cX12_keep 21 = .ok (.invokevirtual 418, 3) := by decide +kernel
theorem dX12_keep_24 : decode cX12_keep 24 = .ok (.iload_n 1, 1) := by decide +kernel
theorem dX12_keep_25 : decode cX12_keep 25 = .ok (.iconst (-1), 1) := by decide +kernel
theorem dX12_keep_26 : decode cX12_keep 26 = .ok (.if_icmp .ne 10, 3) := by decide +kernel
theorem dX12_keep_29 : decode cX12_keep 29 = .ok (.aload_n 0, 1) := by decide +kernel
theorem dX12_keep_30 : decode cX12_keep 30 = .ok (.getfield 92, 3) := by decide +kernel
theorem dX12_keep_33 : decode cX12_keep 33 = .ok (.iconst 0, 1) := by decide +kernel
theorem dX12_keep_34 : decode cX12_keep 34 = .ok (.iaload, 1) := by decide +kernel
theorem dX12_keep_35 : decode cX12_keep 35 = .ok (.ireturn, 1) := by decide +kernel
theorem dX12_keep_36 : decode cX12_keep 36 = .ok (.iconst 0, 1) := by decide +kernel
theorem dX12_keep_37 : decode cX12_keep 37 = .ok (.istore_n 2, 1) := by decide +kernel
theorem dX12_keep_38 : decode cX12_keep 38 = .ok (.iconst (-1), 1) := by decide +kernel
theorem dX12_keep_39 : decode cX12_keep 39 = .ok (.istore_n 3, 1) := by decide +kernel
theorem dX12_keep_40 : decode cX12_keep 40 = .ok (.iconst 0, 1) := by decide +kernel
theorem dX12_keep_41 : decode cX12_keep 41 = .ok (.istore 4, 2) := by decide +kernel
theorem dX12_keep_43 : decode cX12_keep 43 = .ok (.iload 4, 2) := by decide +kernel
theorem dX12_keep_45 : decode cX12_keep 45 = .ok (.iload_n 1, 1) := by decide +kernel
theorem dX12_keep_46 : decode cX12_keep 46 = .ok (.if_icmp .gt 177, 3) := by decide +kernel
theorem dX12_keep_49 : decode cX12_keep 49 = .ok (.iconst (-1), 1) := by decide +kernel
theorem dX12_keep_50 : decode cX12_keep 50 = .ok (.istore_n 3, 1) := by decide +kernel
theorem dX12_keep_51 : decode cX12_keep 51 = .ok (.aload_n 0, 1) := by decide +kernel
theorem dX12_keep_52 : decode cX12_keep 52 = .ok (.getfield 92, 3) := by decide +kernel
theorem dX12_keep_55 : decode cX12_keep 55 = .ok (.sipush 1024, 3) := by decide +kernel
theorem dX12_keep_58 : decode cX12_keep 58 = .ok (.iload 4, 2) := by decide +kernel
theorem dX12_keep_60 : decode cX12_keep 60 = .ok (.imul, 1) := by decide +kernel
theorem dX12_keep_61 : decode cX12_keep 61 = .ok (.iload_n 2, 1) := by decide +kernel
theorem dX12_keep_62 : decode cX12_keep 62 = .ok (.iadd, 1) := by decide +kernel
theorem dX12_keep_63 : decode cX12_keep 63 = .ok (.iaload, 1) := by decide +kernel
theorem dX12_keep_64 : decode cX12_keep 64 = .ok (.istore 5, 2) := by decide +kernel
theorem dX12_keep_66 : decode cX12_keep 66 = .ok (.aload_n 0, 1) := by decide +kernel
theorem dX12_keep_67 : decode cX12_keep 67 = .ok (.getfield 92, 3) := by decide +kernel
theorem dX12_keep_70 : decode cX12_keep 70 = .ok (.sipush 1024, 3) := by decide +kernel
theorem dX12_keep_73 : decode cX12_keep 73 = .ok (.iload 4, 2) := by decide +kernel
theorem dX12_keep_75 : decode cX12_keep 75 = .ok (.iconst 1, 1) := by decide +kernel
theorem dX12_keep_76 : decode cX12_keep 76 = .ok (.iadd, 1) := by decide +kernel
theorem dX12_keep_77 : decode cX12_keep 77 = .ok (.imul, 1) := by decide +kernel
theorem dX12_keep_78 : decode cX12_keep 78 = .ok (.iload_n 2, 1) := by decide +kernel
theorem dX12_keep_79 : decode cX12_keep 79 = .ok (.iadd, 1) := by decide +kernel
theorem dX12_keep_80 : decode cX12_keep 80 = .ok (.iaload, 1) := by decide +kernel
theorem dX12_keep_81 : decode cX12_keep 81 = .ok (.iload 5, 2) := by decide +kernel
theorem dX12_keep_83 : decode cX12_keep 83 = .ok (.if_icmp .ne 7, 3) := by decide +kernel
theorem dX12_keep_86 : decode cX12_keep 86 = .ok (.iconst 1, 1) := by decide +kernel
theorem dX12_keep_87 : decode cX12_keep 87 = .ok (.goto 4, 3) := by decide +kernel
theorem dX12_keep_90 : decode cX12_keep 90 = .ok (.iconst 0, 1) := by decide +kernel
theorem dX12_keep_91 : decode cX12_keep 91 = .ok (.istore 6, 2) := by decide +kernel
theorem dX12_keep_93 : decode cX12_keep 93 = .ok (.iconst 0, 1) := by decide +kernel
theorem dX12_keep_94 : decode cX12_keep 94 = .ok (.istore 7, 2) := by decide +kernel
theorem dX12_keep_96 : decode cX12_keep 96 = .ok (.iload 7, 2) := by decide +kernel
theorem dX12_keep_98 : decode cX12_keep 98 = .ok (.aload_n 0, 1) := by decide +kernel
theorem dX12_keep_99 : decode cX12_keep 99 = .ok (.getfield 13, 3) := by decide +kernel
theorem dX12_keep_102 : decode cX12_keep 102 = .ok (.iconst 0, 1) := by decide +kernel
theorem dX12_keep_103 : decode cX12_keep 103 = .ok (.iaload, 1) := by decide +kernel
theorem dX12_keep_104 : decode cX12_keep 104 = .ok (.if_icmp .ge 98, 3) := by decide +kernel
theorem dX12_keep_107 : decode cX12_keep 107 = .ok (.iload 6, 2) := by decide +kernel
theorem dX12_keep_109 : decode cX12_keep 109 = .ok (.ifCond .ne 93, 3) := by decide +kernel
theorem dX12_keep_112 : decode cX12_keep 112 = .ok (.iload_n 2, 1) := by decide +kernel
theorem dX12_keep_113 : decode cX12_keep 113 = .ok (.iload 7, 2) := by decide +kernel
theorem dX12_keep_115 : decode cX12_keep 115 = .ok (.invokestatic 397, 3) := by decide +kernel
theorem dX12_keep_118 : decode cX12_keep 118 = .ok (.ifCond .ne 63, 3) := by decide +kernel
theorem dX12_keep_121 : decode cX12_keep 121 = .ok (.aload_n 0, 1) := by decide +kernel
theorem dX12_keep_122 : decode cX12_keep 122 = .ok (.getfield 95, 3) := by decide +kernel
theorem dX12_keep_125 : decode cX12_keep 125 = .ok (.bipush 10, 2) := by decide +kernel
theorem dX12_keep_127 : decode cX12_keep 127 = .ok (.iload 4, 2) := by decide +kernel
theorem dX12_keep_129 : decode cX12_keep 129 = .ok (.imul, 1) := by decide +kernel
theorem dX12_keep_130 : decode cX12_keep 130 = .ok (.iload 7, 2) := by decide +kernel
theorem dX12_keep_132 : decode cX12_keep 132 = .ok (.iadd, 1) := by decide +kernel
theorem dX12_keep_133 : decode cX12_keep 133 = .ok (.iaload, 1) := by decide +kernel
theorem dX12_keep_134 : decode cX12_keep 134 = .ok (.iconst (-1), 1) := by decide +kernel
theorem dX12_keep_135 : decode cX12_keep 135 = .ok (.if_icmp .eq 46, 3) := by decide +kernel
theorem dX12_keep_138 : decode cX12_keep 138 = .ok (.aload_n 0, 1) := by decide +kernel
theorem dX12_keep_139 : decode cX12_keep 139 = .ok (.getfield 95, 3) := by decide +kernel
theorem dX12_keep_142 : decode cX12_keep 142 = .ok (.bipush 10, 2) := by decide +kernel
theorem dX12_keep_144 : decode cX12_keep 144 = .ok (.iload 4, 2) := by decide +kernel
theorem dX12_keep_146 : decode cX12_keep 146 = .ok (.imul, 1) := by decide +kernel
theorem dX12_keep_147 : decode cX12_keep 147 = .ok (.iload 7, 2) := by decide +kernel
theorem dX12_keep_149 : decode cX12_keep 149 = .ok (.iadd, 1) := by decide +kernel
theorem dX12_keep_150 : decode cX12_keep 150 = .ok (.iaload, 1) := by decide +kernel
theorem dX12_keep_151 : decode cX12_keep 151 = .ok (.aload_n 0, 1) := by decide +kernel
theorem dX12_keep_152 : decode cX12_keep 152 = .ok (.getfield 92, 3) := by decide +kernel
theorem dX12_keep_155 : decode cX12_keep 155 = .ok (.sipush 1024, 3) := by decide +kernel
theorem dX12_keep_158 : decode cX12_keep 158 = .ok (.iload 4, 2) := by decide +kernel
theorem dX12_keep_160 : decode cX12_keep 160 = .ok (.iconst 1, 1) := by decide +kernel
theorem dX12_keep_161 : decode cX12_keep 161 = .ok (.iadd, 1) := by decide +kernel
theorem dX12_keep_162 : decode cX12_keep 162 = .ok (.imul, 1) := by decide +kernel
theorem dX12_keep_163 : decode cX12_keep 163 = .ok (.iload_n 2, 1) := by decide +kernel
theorem dX12_keep_164 : decode cX12_keep 164 = .ok (.iconst 1, 1) := by decide +kernel
theorem dX12_keep_165 : decode cX12_keep 165 = .ok (.iload 7, 2) := by decide +kernel
theorem dX12_keep_167 : decode cX12_keep 167 = .ok (.ishl, 1) := by decide +kernel
theorem dX12_keep_168 : decode cX12_keep 168 = .ok (.ior, 1) := by decide +kernel
theorem dX12_keep_169 : decode cX12_keep 169 = .ok (.iadd, 1) := by decide +kernel
theorem dX12_keep_170 : decode cX12_keep 170 = .ok (.iaload, 1) := by decide +kernel
theorem dX12_keep_171 : decode cX12_keep 171 = .ok (.iadd, 1) := by decide +kernel
theorem dX12_keep_172 : decode cX12_keep 172 = .ok (.iload 5, 2) := by decide +kernel
theorem dX12_keep_174 : decode cX12_keep 174 = .ok (.if_icmp .ne 7, 3) := by decide +kernel
theorem dX12_keep_177 : decode cX12_keep 177 = .ok (.iconst 1, 1) := by decide +kernel
theorem dX12_keep_178 : decode cX12_keep 178 = .ok (.goto 4, 3) := by decide +kernel
theorem dX12_keep_181 : decode cX12_keep 181 = .ok (.iconst 0, 1) := by decide +kernel
theorem dX12_keep_182 : decode cX12_keep 182 = .ok (.istore 6, 2) := by decide +kernel
theorem dX12_keep_184 : decode cX12_keep 184 = .ok (.iload 6, 2) := by decide +kernel
theorem dX12_keep_186 : decode cX12_keep 186 = .ok (.ifCond .eq 8, 3) := by decide +kernel
theorem dX12_keep_189 : decode cX12_keep 189 = .ok (.iload 7, 2) := by decide +kernel
theorem dX12_keep_191 : decode cX12_keep 191 = .ok (.goto 4, 3) := by decide +kernel
theorem dX12_keep_194 : decode cX12_keep 194 = .ok (.iload_n 3, 1) := by decide +kernel
theorem dX12_keep_195 : decode cX12_keep 195 = .ok (.istore_n 3, 1) := by decide +kernel
theorem dX12_keep_196 : decode cX12_keep 196 = .ok (.iinc 7 1, 3) := by decide +kernel
theorem dX12_keep_199 : decode cX12_keep 199 = .ok (.goto (-103), 3) := by decide +kernel
theorem dX12_keep_202 : decode cX12_keep 202 = .ok (.iload_n 2, 1) := by decide +kernel
theorem dX12_keep_203 : decode cX12_keep 203 = .ok (.iload_n 3, 1) := by decide +kernel
theorem dX12_keep_204 : decode cX12_keep 204 = .ok (.iconst (-1), 1) := by decide +kernel
theorem dX12_keep_205 : decode cX12_keep 205 = .ok (.if_icmp .ne 7, 3) := by decide +kernel
theorem dX12_keep_208 : decode cX12_keep 208 = .ok (.iconst 0, 1) := by decide +kernel
theorem dX12_keep_209 : decode cX12_keep 209 = .ok (.goto 6, 3) := by decide +kernel
theorem dX12_keep_212 : decode cX12_keep 212 = .ok (.iconst 1, 1) := by decide +kernel
theorem dX12_keep_213 : decode cX12_keep 213 = .ok (.iload_n 3, 1) := by decide +kernel
theorem dX12_keep_214 : decode cX12_keep 214 = .ok (.ishl, 1) := by decide +kernel
theorem dX12_keep_215 : decode cX12_keep 215 = .ok (.ior, 1) := by decide +kernel
theorem dX12_keep_216 : decode cX12_keep 216 = .ok (.istore_n 2, 1) := by decide +kernel
theorem dX12_keep_217 : decode cX12_keep 217 = .ok (.iinc 4 1, 3) := by decide +kernel
theorem dX12_keep_220 : decode cX12_keep 220 = .ok (.goto (-177), 3) := by decide +kernel
theorem dX12_keep_223 : decode cX12_keep 223 = .ok (.iload_n 3, 1) := by decide +kernel
theorem dX12_keep_224 : decode cX12_keep 224 = .ok (.ireturn, 1) := by decide +kernel
set_option maxHeartbeats 4000000 in
set_option maxRecDepth 100000 in
theorem x_X12_keep_215 {p : Program} {l : Launch} {e : Env} {s : State} {m : MethodId} {args : Array Value} {below : List Frame} {meth : Method} {c : Code} {D : va_G} {K : Nat → ClassId} {A : Nat → Prop} {ad : Nat → Nat} {rest : va_W} (C : xC p s m args meth c D K A RX12 cX12_keep 8 (some .int)) (z : Int32 × xS) (k_43 : Int32 → Int32 → Int32 → Int32 → xS → Option (Int32 × xS)) (H_43 : ∀ (y1 : Int32) (y2 : Int32) (y3 : Int32) (y4 : Int32) (σ : xS), k_43 y1 y2 y3 y4 σ = some z → X p l e (xR 6 150) s m args below meth c D A 8 (xQi below D K A args s z.1 (RW K ad rest z.2)) 0 0 43 [(0, .ref (ad 0)), (1, .int y1), (2, .int y2), (3, .int y3), (4, .int y4)] [] (RW K ad rest σ)) : ∀ (y1 : Int32) (y3 : Int32) (y4 : Int32) (t0 : Int32) (t1 : Int32) (σ : xS), F_X12_keep_215 k_43 y1 y3 y4 t0 t1 σ = some z → X p l e (xR 6 150) s m args below meth c D A 8 (xQi below D K A args s z.1 (RW K ad rest z.2)) 0 0 215 [(0, .ref (ad 0)), (1, .int y1), (3, .int y3), (4, .int y4)] [.int t1, .int t0] (RW K ad rest σ) := by
  intro y1 y3 y4 t0 t1 σ hF
  unfold F_X12_keep_215 at hF
  refine x_ior C dX12_keep_215 ?_
  refine x_topI hF (fun x24 hF => ?_)
  refine x_istore_n C [(2, .int x24), (0, .ref (ad 0)), (1, .int y1), (3, .int y3), (4, .int y4)] dX12_keep_216 rfl (by decide) rfl ?_
  refine x_iincN C 1 4 (fun x25 => [(4, .int x25), (2, .int x24), (0, .ref (ad 0)), (1, .int y1), (3, .int y3)]) dX12_keep_217 rfl (by decide +kernel) (by decide) (fun _ => rfl) hF (fun x25 hF => ?_)
  refine x_goto C 43 dX12_keep_220 (by decide) ?_
  refine x_loc [(0, .ref (ad 0)), (1, .int y1), (2, .int x24), (3, .int y3), (4, .int x25)] [2, 3, 1, 4, 0] rfl ?_
  exact H_43 y1 x24 y3 x25 σ hF
set_option maxHeartbeats 4000000 in
set_option maxRecDepth 100000 in
theorem x_X12_keep_202 {p : Program} {l : Launch} {e : Env} {s : State} {m : MethodId} {args : Array Value} {below : List Frame} {meth : Method} {c : Code} {D : va_G} {K : Nat → ClassId} {A : Nat → Prop} {ad : Nat → Nat} {rest : va_W} (C : xC p s m args meth c D K A RX12 cX12_keep 8 (some .int)) (z : Int32 × xS) (k_43 : Int32 → Int32 → Int32 → Int32 → xS → Option (Int32 × xS)) (H_43 : ∀ (y1 : Int32) (y2 : Int32) (y3 : Int32) (y4 : Int32) (σ : xS), k_43 y1 y2 y3 y4 σ = some z → X p l e (xR 6 150) s m args below meth c D A 8 (xQi below D K A args s z.1 (RW K ad rest z.2)) 0 0 43 [(0, .ref (ad 0)), (1, .int y1), (2, .int y2), (3, .int y3), (4, .int y4)] [] (RW K ad rest σ)) : ∀ (y1 : Int32) (y2 : Int32) (y3 : Int32) (y4 : Int32) (σ : xS), F_X12_keep_202 k_43 y1 y2 y3 y4 σ = some z → X p l e (xR 6 150) s m args below meth c D A 8 (xQi below D K A args s z.1 (RW K ad rest z.2)) 0 0 202 [(0, .ref (ad 0)), (1, .int y1), (2, .int y2), (3, .int y3), (4, .int y4)] [] (RW K ad rest σ) := by
  intro y1 y2 y3 y4 σ hF
  unfold F_X12_keep_202 at hF
  refine x_iload_n C 2 2 dX12_keep_202 rfl rfl ?_
  refine x_iload_n C 3 3 dX12_keep_203 rfl rfl ?_
  refine x_iconst C (-1) dX12_keep_204 (by decide +kernel) ?_
  refine x_icmp_ne C 212 dX12_keep_205 (by decide) hF (fun hF => ?_) (fun hF => ?_)
  · refine x_iconst C 1 dX12_keep_212 (by decide +kernel) ?_
    refine x_iload_n C 3 3 dX12_keep_213 rfl rfl ?_
    refine x_ishl C dX12_keep_214 ?_
    refine x_loc [(0, .ref (ad 0)), (1, .int y1), (3, .int y3), (4, .int y4)] [0, 1, 3, 4] rfl ?_
    exact x_X12_keep_215 C z k_43 H_43 y1 y3 y4 y2 ((1 : Int32) <<< (y3 &&& 31)) σ hF
  · refine x_iconst C 0 dX12_keep_208 (by decide +kernel) ?_
    refine x_goto C 215 dX12_keep_209 (by decide) ?_
    refine x_loc [(0, .ref (ad 0)), (1, .int y1), (3, .int y3), (4, .int y4)] [0, 1, 3, 4] rfl ?_
    exact x_X12_keep_215 C z k_43 H_43 y1 y3 y4 y2 0 σ hF
set_option maxHeartbeats 4000000 in
set_option maxRecDepth 100000 in
theorem x_X12_keep_182 {p : Program} {l : Launch} {e : Env} {s : State} {m : MethodId} {args : Array Value} {below : List Frame} {meth : Method} {c : Code} {D : va_G} {K : Nat → ClassId} {A : Nat → Prop} {ad : Nat → Nat} {rest : va_W} (C : xC p s m args meth c D K A RX12 cX12_keep 8 (some .int)) (z : Int32 × xS) (k_43 : Int32 → Int32 → Int32 → Int32 → xS → Option (Int32 × xS)) (H_43 : ∀ (y1 : Int32) (y2 : Int32) (y3 : Int32) (y4 : Int32) (σ : xS), k_43 y1 y2 y3 y4 σ = some z → X p l e (xR 6 150) s m args below meth c D A 8 (xQi below D K A args s z.1 (RW K ad rest z.2)) 0 0 43 [(0, .ref (ad 0)), (1, .int y1), (2, .int y2), (3, .int y3), (4, .int y4)] [] (RW K ad rest σ)) (k_96 : Int32 → Int32 → Int32 → Int32 → Int32 → Int32 → Int32 → xS → Option (Int32 × xS)) (H_96 : ∀ (y1 : Int32) (y2 : Int32) (y3 : Int32) (y4 : Int32) (y5 : Int32) (y6 : Int32) (y7 : Int32) (σ : xS), k_96 y1 y2 y3 y4 y5 y6 y7 σ = some z → X p l e (xR 6 150) s m args below meth c D A 8 (xQi below D K A args s z.1 (RW K ad rest z.2)) 0 0 96 [(0, .ref (ad 0)), (1, .int y1), (2, .int y2), (3, .int y3), (4, .int y4), (5, .int y5), (6, .int y6), (7, .int y7)] [] (RW K ad rest σ)) : ∀ (y1 : Int32) (y2 : Int32) (y3 : Int32) (y4 : Int32) (y5 : Int32) (y7 : Int32) (t0 : Int32) (σ : xS), F_X12_keep_182 k_43 k_96 y1 y2 y3 y4 y5 y7 t0 σ = some z → X p l e (xR 6 150) s m args below meth c D A 8 (xQi below D K A args s z.1 (RW K ad rest z.2)) 0 0 182 [(0, .ref (ad 0)), (1, .int y1), (2, .int y2), (3, .int y3), (4, .int y4), (5, .int y5), (7, .int y7)] [.int t0] (RW K ad rest σ) := by
  intro y1 y2 y3 y4 y5 y7 t0 σ hF
  unfold F_X12_keep_182 at hF
  refine x_istore C [(6, .int t0), (0, .ref (ad 0)), (1, .int y1), (2, .int y2), (3, .int y3), (4, .int y4), (5, .int y5), (7, .int y7)] dX12_keep_182 (by decide) rfl ?_
  refine x_iload C 0 6 dX12_keep_184 rfl ?_
  refine x_if_eq C 194 dX12_keep_186 (by decide) hF (fun hF => ?_) (fun hF => ?_)
  · refine x_iload_n C 4 3 dX12_keep_194 rfl rfl ?_
    refine x_istore_n C [(3, .int y3), (6, .int t0), (0, .ref (ad 0)), (1, .int y1), (2, .int y2), (4, .int y4), (5, .int y5), (7, .int y7)] dX12_keep_195 rfl (by decide) rfl ?_
    refine x_iincN C 1 7 (fun x22 => [(7, .int x22), (3, .int y3), (6, .int t0), (0, .ref (ad 0)), (1, .int y1), (2, .int y2), (4, .int y4), (5, .int y5)]) dX12_keep_196 rfl (by decide +kernel) (by decide) (fun _ => rfl) hF (fun x22 hF => ?_)
    refine x_goto C 96 dX12_keep_199 (by decide) ?_
    refine x_loc [(0, .ref (ad 0)), (1, .int y1), (2, .int y2), (3, .int y3), (4, .int y4), (5, .int y5), (6, .int t0), (7, .int x22)] [3, 4, 5, 1, 6, 7, 2, 0] rfl ?_
    exact H_96 y1 y2 y3 y4 y5 t0 x22 σ hF
  · refine x_iload C 7 7 dX12_keep_189 rfl ?_
    refine x_goto C 195 dX12_keep_191 (by decide) ?_
    refine x_istore_n C [(3, .int y7), (6, .int t0), (0, .ref (ad 0)), (1, .int y1), (2, .int y2), (4, .int y4), (5, .int y5), (7, .int y7)] dX12_keep_195 rfl (by decide) rfl ?_
    refine x_iincN C 1 7 (fun x23 => [(7, .int x23), (3, .int y7), (6, .int t0), (0, .ref (ad 0)), (1, .int y1), (2, .int y2), (4, .int y4), (5, .int y5)]) dX12_keep_196 rfl (by decide +kernel) (by decide) (fun _ => rfl) hF (fun x23 hF => ?_)
    refine x_goto C 96 dX12_keep_199 (by decide) ?_
    refine x_loc [(0, .ref (ad 0)), (1, .int y1), (2, .int y2), (3, .int y7), (4, .int y4), (5, .int y5), (6, .int t0), (7, .int x23)] [3, 4, 5, 1, 6, 7, 2, 0] rfl ?_
    exact H_96 y1 y2 y7 y4 y5 t0 x23 σ hF
set_option maxHeartbeats 4000000 in
set_option maxRecDepth 100000 in
theorem x_X12_keep_181 {p : Program} {l : Launch} {e : Env} {s : State} {m : MethodId} {args : Array Value} {below : List Frame} {meth : Method} {c : Code} {D : va_G} {K : Nat → ClassId} {A : Nat → Prop} {ad : Nat → Nat} {rest : va_W} (C : xC p s m args meth c D K A RX12 cX12_keep 8 (some .int)) (z : Int32 × xS) (k_43 : Int32 → Int32 → Int32 → Int32 → xS → Option (Int32 × xS)) (H_43 : ∀ (y1 : Int32) (y2 : Int32) (y3 : Int32) (y4 : Int32) (σ : xS), k_43 y1 y2 y3 y4 σ = some z → X p l e (xR 6 150) s m args below meth c D A 8 (xQi below D K A args s z.1 (RW K ad rest z.2)) 0 0 43 [(0, .ref (ad 0)), (1, .int y1), (2, .int y2), (3, .int y3), (4, .int y4)] [] (RW K ad rest σ)) (k_96 : Int32 → Int32 → Int32 → Int32 → Int32 → Int32 → Int32 → xS → Option (Int32 × xS)) (H_96 : ∀ (y1 : Int32) (y2 : Int32) (y3 : Int32) (y4 : Int32) (y5 : Int32) (y6 : Int32) (y7 : Int32) (σ : xS), k_96 y1 y2 y3 y4 y5 y6 y7 σ = some z → X p l e (xR 6 150) s m args below meth c D A 8 (xQi below D K A args s z.1 (RW K ad rest z.2)) 0 0 96 [(0, .ref (ad 0)), (1, .int y1), (2, .int y2), (3, .int y3), (4, .int y4), (5, .int y5), (6, .int y6), (7, .int y7)] [] (RW K ad rest σ)) : ∀ (y1 : Int32) (y2 : Int32) (y3 : Int32) (y4 : Int32) (y5 : Int32) (y7 : Int32) (σ : xS), F_X12_keep_181 k_43 k_96 y1 y2 y3 y4 y5 y7 σ = some z → X p l e (xR 6 150) s m args below meth c D A 8 (xQi below D K A args s z.1 (RW K ad rest z.2)) 0 0 181 [(0, .ref (ad 0)), (1, .int y1), (2, .int y2), (3, .int y3), (4, .int y4), (5, .int y5), (7, .int y7)] [] (RW K ad rest σ) := by
  intro y1 y2 y3 y4 y5 y7 σ hF
  unfold F_X12_keep_181 at hF
  refine x_iconst C 0 dX12_keep_181 (by decide +kernel) ?_
  exact x_X12_keep_182 C z k_43 H_43 k_96 H_96 y1 y2 y3 y4 y5 y7 0 σ hF
set_option maxHeartbeats 4000000 in
set_option maxRecDepth 100000 in
theorem x_X12_keep_96 {p : Program} {l : Launch} {e : Env} {s : State} {m : MethodId} {args : Array Value} {below : List Frame} {meth : Method} {c : Code} {D : va_G} {K : Nat → ClassId} {A : Nat → Prop} {ad : Nat → Nat} {rest : va_W} (C : xC p s m args meth c D K A RX12 cX12_keep 8 (some .int)) (z : Int32 × xS) (k_43 : Int32 → Int32 → Int32 → Int32 → xS → Option (Int32 × xS)) (H_43 : ∀ (y1 : Int32) (y2 : Int32) (y3 : Int32) (y4 : Int32) (σ : xS), k_43 y1 y2 y3 y4 σ = some z → X p l e (xR 6 150) s m args below meth c D A 8 (xQi below D K A args s z.1 (RW K ad rest z.2)) 0 0 43 [(0, .ref (ad 0)), (1, .int y1), (2, .int y2), (3, .int y3), (4, .int y4)] [] (RW K ad rest σ)) : ∀ (n : Nat) (y1 : Int32) (y2 : Int32) (y3 : Int32) (y4 : Int32) (y5 : Int32) (y6 : Int32) (y7 : Int32) (σ : xS), F_X12_keep_96 k_43 n y1 y2 y3 y4 y5 y6 y7 σ = some z → X p l e (xR 6 150) s m args below meth c D A 8 (xQi below D K A args s z.1 (RW K ad rest z.2)) 0 0 96 [(0, .ref (ad 0)), (1, .int y1), (2, .int y2), (3, .int y3), (4, .int y4), (5, .int y5), (6, .int y6), (7, .int y7)] [] (RW K ad rest σ) := by
  intro n
  induction n with
  | zero =>
    intro y1 y2 y3 y4 y5 y6 y7 σ hF
    cases hF
  | succ n ih =>
    intro y1 y2 y3 y4 y5 y6 y7 σ hF
    rw [F_X12_keep_96] at hF
    refine x_iload C 7 7 dX12_keep_96 rfl ?_
    refine x_aload_n C 0 0 dX12_keep_98 rfl rfl ?_
    refine x_get C 0 dX12_keep_99 fl_X12_13 (RW_o K ad rest σ) rfl ?_
    refine x_iconst C 0 dX12_keep_102 (by decide +kernel) ?_
    refine x_iald C 2 dX12_keep_103 (RW_a3 K ad rest σ) hF (fun v16 hF => ?_)
    refine x_icmp_ge C 202 dX12_keep_104 (by decide) hF (fun hF => ?_) (fun hF => ?_)
    · refine x_loc [(0, .ref (ad 0)), (1, .int y1), (2, .int y2), (3, .int y3), (4, .int y4)] [0, 1, 2, 3, 4] rfl ?_
      exact x_X12_keep_202 C z k_43 H_43 y1 y2 y3 y4 σ hF
    · refine x_iload C 6 6 dX12_keep_107 rfl ?_
      refine x_if_ne C 202 dX12_keep_109 (by decide) hF (fun hF => ?_) (fun hF => ?_)
      · refine x_loc [(0, .ref (ad 0)), (1, .int y1), (2, .int y2), (3, .int y3), (4, .int y4)] [0, 1, 2, 3, 4] rfl ?_
        exact x_X12_keep_202 C z k_43 H_43 y1 y2 y3 y4 σ hF
      · refine x_iload_n C 2 2 dX12_keep_112 rfl rfl ?_
        refine x_iload C 7 7 dX12_keep_113 rfl ?_
        refine x_callSI C (wf := RW K ad rest) (As := [.int y2, .int y7]) (rest := []) dX12_keep_115 ml_X12_397 rfl rfl (Nat.le_of_ble_eq_true rfl) ⟨Nat.le_of_ble_eq_true rfl, Nat.le_of_ble_eq_true rfl⟩ ⟨Nat.zero_le _, Nat.zero_le _⟩ (fun q9 hq9 => c_X12_is l D K ad rest y2 y7 σ q9 hq9) hF (fun v18 σ17 hF => ?_)
        refine x_if_ne C 181 dX12_keep_118 (by decide) hF (fun hF => ?_) (fun hF => ?_)
        · refine x_loc [(0, .ref (ad 0)), (1, .int y1), (2, .int y2), (3, .int y3), (4, .int y4), (5, .int y5), (7, .int y7)] [0, 1, 2, 3, 4, 5, 7] rfl ?_
          exact x_X12_keep_181 C z k_43 H_43 ((F_X12_keep_96 k_43 n)) ih y1 y2 y3 y4 y5 y7 σ17 hF
        · refine x_aload_n C 0 0 dX12_keep_121 rfl rfl ?_
          refine x_get C 0 dX12_keep_122 fl_X12_95 (RW_o K ad rest σ17) rfl ?_
          refine x_bipush C 10 dX12_keep_125 (by decide +kernel) ?_
          refine x_iload C 4 4 dX12_keep_127 rfl ?_
          refine x_imul C dX12_keep_129 ?_
          refine x_iload C 7 7 dX12_keep_130 rfl ?_
          refine x_iadd C dX12_keep_132 ?_
          refine x_iald C 18 dX12_keep_133 (RW_a39 K ad rest σ17) hF (fun v19 hF => ?_)
          refine x_iconst C (-1) dX12_keep_134 (by decide +kernel) ?_
          refine x_icmp_eq C 181 dX12_keep_135 (by decide) hF (fun hF => ?_) (fun hF => ?_)
          · refine x_loc [(0, .ref (ad 0)), (1, .int y1), (2, .int y2), (3, .int y3), (4, .int y4), (5, .int y5), (7, .int y7)] [0, 1, 2, 3, 4, 5, 7] rfl ?_
            exact x_X12_keep_181 C z k_43 H_43 ((F_X12_keep_96 k_43 n)) ih y1 y2 y3 y4 y5 y7 σ17 hF
          · refine x_aload_n C 0 0 dX12_keep_138 rfl rfl ?_
            refine x_get C 0 dX12_keep_139 fl_X12_95 (RW_o K ad rest σ17) rfl ?_
            refine x_bipush C 10 dX12_keep_142 (by decide +kernel) ?_
            refine x_iload C 4 4 dX12_keep_144 rfl ?_
            refine x_imul C dX12_keep_146 ?_
            refine x_iload C 7 7 dX12_keep_147 rfl ?_
            refine x_iadd C dX12_keep_149 ?_
            refine x_iald C 18 dX12_keep_150 (RW_a39 K ad rest σ17) hF (fun v20 hF => ?_)
            refine x_aload_n C 0 0 dX12_keep_151 rfl rfl ?_
            refine x_get C 0 dX12_keep_152 fl_X12_92 (RW_o K ad rest σ17) rfl ?_
            refine x_sipush C 1024 dX12_keep_155 (by decide +kernel) ?_
            refine x_iload C 4 4 dX12_keep_158 rfl ?_
            refine x_iconst C 1 dX12_keep_160 (by decide +kernel) ?_
            refine x_iadd C dX12_keep_161 ?_
            refine x_imul C dX12_keep_162 ?_
            refine x_iload_n C 2 2 dX12_keep_163 rfl rfl ?_
            refine x_iconst C 1 dX12_keep_164 (by decide +kernel) ?_
            refine x_iload C 7 7 dX12_keep_165 rfl ?_
            refine x_ishl C dX12_keep_167 ?_
            refine x_ior C dX12_keep_168 ?_
            refine x_iadd C dX12_keep_169 ?_
            refine x_iald C 17 dX12_keep_170 (RW_a38 K ad rest σ17) hF (fun v21 hF => ?_)
            refine x_iadd C dX12_keep_171 ?_
            refine x_iload C 5 5 dX12_keep_172 rfl ?_
            refine x_icmp_ne C 181 dX12_keep_174 (by decide) hF (fun hF => ?_) (fun hF => ?_)
            · refine x_loc [(0, .ref (ad 0)), (1, .int y1), (2, .int y2), (3, .int y3), (4, .int y4), (5, .int y5), (7, .int y7)] [0, 1, 2, 3, 4, 5, 7] rfl ?_
              exact x_X12_keep_181 C z k_43 H_43 ((F_X12_keep_96 k_43 n)) ih y1 y2 y3 y4 y5 y7 σ17 hF
            · refine x_iconst C 1 dX12_keep_177 (by decide +kernel) ?_
              refine x_goto C 182 dX12_keep_178 (by decide) ?_
              refine x_loc [(0, .ref (ad 0)), (1, .int y1), (2, .int y2), (3, .int y3), (4, .int y4), (5, .int y5), (7, .int y7)] [0, 1, 2, 3, 4, 5, 7] rfl ?_
              exact x_X12_keep_182 C z k_43 H_43 ((F_X12_keep_96 k_43 n)) ih y1 y2 y3 y4 y5 y7 1 σ17 hF
set_option maxHeartbeats 4000000 in
set_option maxRecDepth 100000 in
theorem x_X12_keep_43 {p : Program} {l : Launch} {e : Env} {s : State} {m : MethodId} {args : Array Value} {below : List Frame} {meth : Method} {c : Code} {D : va_G} {K : Nat → ClassId} {A : Nat → Prop} {ad : Nat → Nat} {rest : va_W} (C : xC p s m args meth c D K A RX12 cX12_keep 8 (some .int)) (z : Int32 × xS) : ∀ (n : Nat) (y1 : Int32) (y2 : Int32) (y3 : Int32) (y4 : Int32) (σ : xS), F_X12_keep_43  n y1 y2 y3 y4 σ = some z → X p l e (xR 6 150) s m args below meth c D A 8 (xQi below D K A args s z.1 (RW K ad rest z.2)) 0 0 43 [(0, .ref (ad 0)), (1, .int y1), (2, .int y2), (3, .int y3), (4, .int y4)] [] (RW K ad rest σ) := by
  intro n
  induction n with
  | zero =>
    intro y1 y2 y3 y4 σ hF
    cases hF
  | succ n ih =>
    intro y1 y2 y3 y4 σ hF
    rw [F_X12_keep_43] at hF
    refine x_iload C 4 4 dX12_keep_43 rfl ?_
    refine x_iload_n C 1 1 dX12_keep_45 rfl rfl ?_
    refine x_icmp_gt C 223 dX12_keep_46 (by decide) hF (fun hF => ?_) (fun hF => ?_)
    · refine x_iload_n C 3 3 dX12_keep_223 rfl rfl ?_
      exact x_iret C dX12_keep_224 rfl (congrArg Prod.fst (Option.some.inj hF)) (congrArg (fun q9 : Int32 × xS => RW K ad rest q9.2) (Option.some.inj hF))
    · refine x_iconst C (-1) dX12_keep_49 (by decide +kernel) ?_
      refine x_topI hF (fun x9 hF => ?_)
      refine x_istore_n C [(3, .int x9), (0, .ref (ad 0)), (1, .int y1), (2, .int y2), (4, .int y4)] dX12_keep_50 rfl (by decide) rfl ?_
      refine x_aload_n C 1 0 dX12_keep_51 rfl rfl ?_
      refine x_get C 0 dX12_keep_52 fl_X12_92 (RW_o K ad rest σ) rfl ?_
      refine x_sipush C 1024 dX12_keep_55 (by decide +kernel) ?_
      refine x_iload C 4 4 dX12_keep_58 rfl ?_
      refine x_imul C dX12_keep_60 ?_
      refine x_iload_n C 3 2 dX12_keep_61 rfl rfl ?_
      refine x_iadd C dX12_keep_62 ?_
      refine x_iald C 17 dX12_keep_63 (RW_a38 K ad rest σ) hF (fun v10 hF => ?_)
      refine x_istore C [(5, .int v10), (3, .int x9), (0, .ref (ad 0)), (1, .int y1), (2, .int y2), (4, .int y4)] dX12_keep_64 (by decide) rfl ?_
      refine x_aload_n C 2 0 dX12_keep_66 rfl rfl ?_
      refine x_get C 0 dX12_keep_67 fl_X12_92 (RW_o K ad rest σ) rfl ?_
      refine x_sipush C 1024 dX12_keep_70 (by decide +kernel) ?_
      refine x_iload C 5 4 dX12_keep_73 rfl ?_
      refine x_iconst C 1 dX12_keep_75 (by decide +kernel) ?_
      refine x_iadd C dX12_keep_76 ?_
      refine x_imul C dX12_keep_77 ?_
      refine x_iload_n C 4 2 dX12_keep_78 rfl rfl ?_
      refine x_iadd C dX12_keep_79 ?_
      refine x_iald C 17 dX12_keep_80 (RW_a38 K ad rest σ) hF (fun v11 hF => ?_)
      refine x_iload C 0 5 dX12_keep_81 rfl ?_
      refine x_icmp_ne C 90 dX12_keep_83 (by decide) hF (fun hF => ?_) (fun hF => ?_)
      · refine x_iconst C 0 dX12_keep_90 (by decide +kernel) ?_
        refine x_topI hF (fun x12 hF => ?_)
        refine x_istore C [(6, .int x12), (5, .int v10), (3, .int x9), (0, .ref (ad 0)), (1, .int y1), (2, .int y2), (4, .int y4)] dX12_keep_91 (by decide) rfl ?_
        refine x_iconst C 0 dX12_keep_93 (by decide +kernel) ?_
        refine x_topI hF (fun x13 hF => ?_)
        refine x_istore C [(7, .int x13), (6, .int x12), (5, .int v10), (3, .int x9), (0, .ref (ad 0)), (1, .int y1), (2, .int y2), (4, .int y4)] dX12_keep_94 (by decide) rfl ?_
        refine x_loc [(0, .ref (ad 0)), (1, .int y1), (2, .int y2), (3, .int x9), (4, .int y4), (5, .int v10), (6, .int x12), (7, .int x13)] [4, 5, 6, 3, 7, 2, 1, 0] rfl ?_
        exact x_X12_keep_96 C z ((F_X12_keep_43 n)) ih FU y1 y2 x9 y4 v10 x12 x13 σ hF
      · refine x_iconst C 1 dX12_keep_86 (by decide +kernel) ?_
        refine x_goto C 91 dX12_keep_87 (by decide) ?_
        refine x_topI hF (fun x14 hF => ?_)
        refine x_istore C [(6, .int x14), (5, .int v10), (3, .int x9), (0, .ref (ad 0)), (1, .int y1), (2, .int y2), (4, .int y4)] dX12_keep_91 (by decide) rfl ?_
        refine x_iconst C 0 dX12_keep_93 (by decide +kernel) ?_
        refine x_topI hF (fun x15 hF => ?_)
        refine x_istore C [(7, .int x15), (6, .int x14), (5, .int v10), (3, .int x9), (0, .ref (ad 0)), (1, .int y1), (2, .int y2), (4, .int y4)] dX12_keep_94 (by decide) rfl ?_
        refine x_loc [(0, .ref (ad 0)), (1, .int y1), (2, .int y2), (3, .int x9), (4, .int y4), (5, .int v10), (6, .int x14), (7, .int x15)] [4, 5, 6, 3, 7, 2, 1, 0] rfl ?_
        exact x_X12_keep_96 C z ((F_X12_keep_43 n)) ih FU y1 y2 x9 y4 v10 x14 x15 σ hF
set_option maxHeartbeats 4000000 in
set_option maxRecDepth 100000 in
theorem x_X12_keep_20 {p : Program} {l : Launch} {e : Env} {s : State} {m : MethodId} {args : Array Value} {below : List Frame} {meth : Method} {c : Code} {D : va_G} {K : Nat → ClassId} {A : Nat → Prop} {ad : Nat → Nat} {rest : va_W} (C : xC p s m args meth c D K A RX12 cX12_keep 8 (some .int)) (z : Int32 × xS) : ∀ (y1 : Int32) (σ : xS), F_X12_keep_20  y1 σ = some z → X p l e (xR 6 150) s m args below meth c D A 8 (xQi below D K A args s z.1 (RW K ad rest z.2)) 0 0 20 [(0, .ref (ad 0)), (1, .int y1)] [] (RW K ad rest σ) := by
  intro y1 σ hF
  unfold F_X12_keep_20 at hF
  refine x_aload_n C 0 0 dX12_keep_20 rfl rfl ?_
  refine x_callVV C (wf := RW K ad rest) (As := []) (rest := []) dX12_keep_21 ml_X12_418 rfl rfl (Nat.le_of_ble_eq_true rfl) 0 (RW_o K ad rest σ) rfl ⟨Nat.le_of_ble_eq_true rfl, Nat.le_of_ble_eq_true rfl⟩ ⟨Nat.zero_le _, Nat.zero_le _⟩ (fun q9 hq9 => c_X12_findKeeps l D K ad rest σ q9 hq9) hF (fun _ σ4 hF => ?_)
  refine x_iload_n C 1 1 dX12_keep_24 rfl rfl ?_
  refine x_iconst C (-1) dX12_keep_25 (by decide +kernel) ?_
  refine x_icmp_ne C 36 dX12_keep_26 (by decide) hF (fun hF => ?_) (fun hF => ?_)
  · refine x_iconst C 0 dX12_keep_36 (by decide +kernel) ?_
    refine x_topI hF (fun x5 hF => ?_)
    refine x_istore_n C [(2, .int x5), (0, .ref (ad 0)), (1, .int y1)] dX12_keep_37 rfl (by decide) rfl ?_
    refine x_iconst C (-1) dX12_keep_38 (by decide +kernel) ?_
    refine x_topI hF (fun x6 hF => ?_)
    refine x_istore_n C [(3, .int x6), (2, .int x5), (0, .ref (ad 0)), (1, .int y1)] dX12_keep_39 rfl (by decide) rfl ?_
    refine x_iconst C 0 dX12_keep_40 (by decide +kernel) ?_
    refine x_topI hF (fun x7 hF => ?_)
    refine x_istore C [(4, .int x7), (3, .int x6), (2, .int x5), (0, .ref (ad 0)), (1, .int y1)] dX12_keep_41 (by decide) rfl ?_
    refine x_loc [(0, .ref (ad 0)), (1, .int y1), (2, .int x5), (3, .int x6), (4, .int x7)] [3, 4, 2, 1, 0] rfl ?_
    exact x_X12_keep_43 C z FU y1 x5 x6 x7 σ4 hF
  · refine x_aload_n C 0 0 dX12_keep_29 rfl rfl ?_
    refine x_get C 0 dX12_keep_30 fl_X12_92 (RW_o K ad rest σ4) rfl ?_
    refine x_iconst C 0 dX12_keep_33 (by decide +kernel) ?_
    refine x_iald C 17 dX12_keep_34 (RW_a38 K ad rest σ4) hF (fun v8 hF => ?_)
    exact x_iret C dX12_keep_35 rfl (congrArg Prod.fst (Option.some.inj hF)) (congrArg (fun q9 : Int32 × xS => RW K ad rest q9.2) (Option.some.inj hF))
set_option maxHeartbeats 4000000 in
set_option maxRecDepth 100000 in
theorem c_X12_keep (l : Launch) (D : va_G) (K : Nat → ClassId) (ad : Nat → Nat) (rest : va_W) (a1 : Int32) (σ : xS) (z : Int32 × xS) (hF : F_X12_keep a1 σ = some z) : CI l D K yX12_keep cX12_keep 8 (some .int) 6 150 [.ref (ad 0), .int a1] (RW K ad rest σ) z.1 (RW K ad rest z.2) := by
  refine x_enterI [(0, .ref (ad 0)), (1, .int a1)] pnX12 (Nat.le_of_ble_eq_true rfl) rfl ?_
  intro p e s m args below meth c A C
  unfold F_X12_keep at hF
  refine x_aload_n C 0 0 dX12_keep_0 rfl rfl ?_
  refine x_iconst C 0 dX12_keep_1 (by decide +kernel) ?_
  refine x_put C 0 dX12_keep_2 fl_X12_107 fm_X12_0 rfl rfl (RW_o K ad rest σ) (Nat.le_of_ble_eq_true rfl) (RW_s0 K ad rest σ _) ?_
  refine x_st (wf := RW K ad rest) hF (fun σ1 hF => ?_)
  refine x_iload_n C 1 1 dX12_keep_5 rfl rfl ?_
  refine x_iconst C (-1) dX12_keep_6 (by decide +kernel) ?_
  refine x_icmp_eq C 20 dX12_keep_7 (by decide) hF (fun hF => ?_) (fun hF => ?_)
  · exact x_X12_keep_20 C z a1 σ1 hF
  · refine x_aload_n C 0 0 dX12_keep_10 rfl rfl ?_
    refine x_iload_n C 1 1 dX12_keep_11 rfl rfl ?_
    refine x_callVI C (wf := RW K ad rest) (As := [.int a1]) (rest := []) dX12_keep_12 ml_X12_412 rfl rfl (Nat.le_of_ble_eq_true rfl) 0 (RW_o K ad rest σ1) rfl ⟨Nat.le_of_ble_eq_true rfl, Nat.le_of_ble_eq_true rfl⟩ ⟨Nat.zero_le _, Nat.zero_le _⟩ (fun q9 hq9 => c_X12_isCard l D K ad rest a1 σ1 q9 hq9) hF (fun v3 σ2 hF => ?_)
    refine x_if_ne C 20 dX12_keep_15 (by decide) hF (fun hF => ?_) (fun hF => ?_)
    · exact x_X12_keep_20 C z a1 σ2 hF
    · refine x_iconst C (-1) dX12_keep_18 (by decide +kernel) ?_
      exact x_iret C dX12_keep_19 rfl (congrArg Prod.fst (Option.some.inj hF)) (congrArg (fun q9 : Int32 × xS => RW K ad rest q9.2) (Option.some.inj hF))
theorem dX12_asPriced_0 : decode cX12_asPriced 0 = .ok (.iconst 0, 1) := by decide +kernel
theorem dX12_asPriced_1 : decode cX12_asPriced 1 = .ok (.istore_n 1, 1) := by decide +kernel
theorem dX12_asPriced_2 : decode cX12_asPriced 2 = .ok (.iload_n 1, 1) := by decide +kernel
theorem dX12_asPriced_3 : decode cX12_asPriced 3 = .ok (.bipush 10, 2) := by decide +kernel
theorem dX12_asPriced_5 : decode cX12_asPriced 5 = .ok (.if_icmp .ge 21, 3) := by decide +kernel
theorem dX12_asPriced_8 : decode cX12_asPriced 8 = .ok (.aload_n 0, 1) := by decide +kernel
theorem dX12_asPriced_9 : decode cX12_asPriced 9 = .ok (.getfield 98, 3) := by decide +kernel
theorem dX12_asPriced_12 : decode cX12_asPriced 12 = .ok (.iload_n 1, 1) := by decide +kernel
theorem dX12_asPriced_13 : decode cX12_asPriced 13 = .ok (.aload_n 0, 1) := by decide +kernel
theorem dX12_asPriced_14 : decode cX12_asPriced 14 = .ok (.iload_n 1, 1) := by decide +kernel
theorem dX12_asPriced_15 : decode cX12_asPriced 15 = .ok (.iconst 3, 1) := by decide +kernel
theorem dX12_asPriced_16 : decode cX12_asPriced 16 = .ok (.invokevirtual 150, 3) := by decide +kernel
theorem dX12_asPriced_19 : decode cX12_asPriced 19 = .ok (.iastore, 1) := by decide +kernel
theorem dX12_asPriced_20 : decode cX12_asPriced 20 = .ok (.iinc 1 1, 3) := by decide +kernel
theorem dX12_asPriced_23 : decode cX12_asPriced 23 = .ok (.goto (-21), 3) := by decide +kernel
theorem dX12_asPriced_26 : decode cX12_asPriced 26 = .ok (.aload_n 0, 1) := by decide +kernel
theorem dX12_asPriced_27 : decode cX12_asPriced 27 = .ok (.iconst 0, 1) := by decide +kernel
theorem dX12_asPriced_28 : decode cX12_asPriced 28 = .ok (.putfield 421, 3) := by decide +kernel
theorem dX12_asPriced_31 : decode cX12_asPriced 31 = .ok (.aload_n 0, 1) := by decide +kernel
theorem dX12_asPriced_32 : decode cX12_asPriced 32 = .ok (.iconst 0, 1) := by decide +kernel
theorem dX12_asPriced_33 : decode cX12_asPriced 33 = .ok (.putfield 333, 3) := by decide +kernel
theorem dX12_asPriced_36 : decode cX12_asPriced 36 = .ok (.return_, 1) := by decide +kernel
set_option maxHeartbeats 4000000 in
set_option maxRecDepth 100000 in
theorem x_X12_asPriced_2 {p : Program} {l : Launch} {e : Env} {s : State} {m : MethodId} {args : Array Value} {below : List Frame} {meth : Method} {c : Code} {D : va_G} {K : Nat → ClassId} {A : Nat → Prop} {ad : Nat → Nat} {rest : va_W} (C : xC p s m args meth c D K A RX12 cX12_asPriced 2 none) (z : Unit × xS) : ∀ (n : Nat) (y1 : Int32) (σ : xS), F_X12_asPriced_2  n y1 σ = some z → X p l e (xR 1 22) s m args below meth c D A 2 (xQv below D K A args s (RW K ad rest z.2)) 0 0 2 [(0, .ref (ad 0)), (1, .int y1)] [] (RW K ad rest σ) := by
  intro n
  induction n with
  | zero =>
    intro y1 σ hF
    cases hF
  | succ n ih =>
    intro y1 σ hF
    rw [F_X12_asPriced_2] at hF
    refine x_iload_n C 1 1 dX12_asPriced_2 rfl rfl ?_
    refine x_bipush C 10 dX12_asPriced_3 (by decide +kernel) ?_
    refine x_icmp_ge C 26 dX12_asPriced_5 (by decide) hF (fun hF => ?_) (fun hF => ?_)
    · refine x_aload_n C 0 0 dX12_asPriced_26 rfl rfl ?_
      refine x_iconst C 0 dX12_asPriced_27 (by decide +kernel) ?_
      refine x_put C 0 dX12_asPriced_28 fl_X12_421 fm_X12_41 rfl rfl (RW_o K ad rest σ) (Nat.le_of_ble_eq_true rfl) (RW_s41 K ad rest σ _) ?_
      refine x_st (wf := RW K ad rest) hF (fun σ2 hF => ?_)
      refine x_aload_n C 0 0 dX12_asPriced_31 rfl rfl ?_
      refine x_iconst C 0 dX12_asPriced_32 (by decide +kernel) ?_
      refine x_put C 0 dX12_asPriced_33 fl_X12_333 fm_X12_34 rfl rfl (RW_o K ad rest σ2) (Nat.le_of_ble_eq_true rfl) (RW_s34 K ad rest σ2 _) ?_
      refine x_st (wf := RW K ad rest) hF (fun σ3 hF => ?_)
      exact x_vret C dX12_asPriced_36 rfl (congrArg (fun q9 : Unit × xS => RW K ad rest q9.2) (Option.some.inj hF))
    · refine x_aload_n C 0 0 dX12_asPriced_8 rfl rfl ?_
      refine x_get C 0 dX12_asPriced_9 fl_X12_98 (RW_o K ad rest σ) rfl ?_
      refine x_iload_n C 1 1 dX12_asPriced_12 rfl rfl ?_
      refine x_aload_n C 0 0 dX12_asPriced_13 rfl rfl ?_
      refine x_iload_n C 1 1 dX12_asPriced_14 rfl rfl ?_
      refine x_iconst C 3 dX12_asPriced_15 (by decide +kernel) ?_
      refine x_callVI C (wf := RW K ad rest) (As := [.int y1, .int 3]) (rest := [.int y1, .ref (ad 41)]) dX12_asPriced_16 ml_X12_150 rfl rfl (Nat.le_of_ble_eq_true rfl) 0 (RW_o K ad rest σ) rfl ⟨Nat.le_of_ble_eq_true rfl, Nat.le_of_ble_eq_true rfl⟩ ⟨Nat.zero_le _, Nat.zero_le _⟩ (fun q9 hq9 => c_X12_ofBook l D K ad rest y1 3 σ q9 hq9) hF (fun v5 σ4 hF => ?_)
      refine x_iast C 19 dX12_asPriced_19 (RW_a40 K ad rest σ4) hF (RW_s40 K ad rest σ4 _) (fun hF => ?_)
      refine x_st (wf := RW K ad rest) hF (fun σ6 hF => ?_)
      refine x_iincN C 1 1 (fun x7 => [(1, .int x7), (0, .ref (ad 0))]) dX12_asPriced_20 rfl (by decide +kernel) (by decide) (fun _ => rfl) hF (fun x7 hF => ?_)
      refine x_goto C 2 dX12_asPriced_23 (by decide) ?_
      refine x_loc [(0, .ref (ad 0)), (1, .int x7)] [1, 0] rfl ?_
      exact ih x7 σ6 hF
set_option maxHeartbeats 4000000 in
set_option maxRecDepth 100000 in
theorem c_X12_asPriced (l : Launch) (D : va_G) (K : Nat → ClassId) (ad : Nat → Nat) (rest : va_W)  (σ : xS) (z : Unit × xS) (hF : F_X12_asPriced σ = some z) : CV l D K yX12_asPriced cX12_asPriced 2 none 1 22 [.ref (ad 0)] (RW K ad rest σ) (RW K ad rest z.2) := by
  refine x_enterV [(0, .ref (ad 0))] pnX12 (Nat.le_of_ble_eq_true rfl) rfl ?_
  intro p e s m args below meth c A C
  unfold F_X12_asPriced at hF
  refine x_iconst C 0 dX12_asPriced_0 (by decide +kernel) ?_
  refine x_topI hF (fun x1 hF => ?_)
  refine x_istore_n C [(1, .int x1), (0, .ref (ad 0))] dX12_asPriced_1 rfl (by decide) rfl ?_
  refine x_loc [(0, .ref (ad 0)), (1, .int x1)] [1, 0] rfl ?_
  exact x_X12_asPriced_2 C z FU x1 σ hF
theorem dX12_taken_0 : decode cX12_taken 0 = .ok (.iconst 0, 1) := by decide +kernel
theorem dX12_taken_1 : decode cX12_taken 1 = .ok (.istore_n 1, 1) := by decide +kernel
theorem dX12_taken_2 : decode cX12_taken 2 = .ok (.iconst 0, 1) := by decide +kernel
theorem dX12_taken_3 : decode cX12_taken 3 = .ok (.istore_n 2, 1) := by decide +kernel
theorem dX12_taken_4 : decode cX12_taken 4 = .ok (.iload_n 2, 1) := by decide +kernel
theorem dX12_taken_5 : decode cX12_taken 5 = .ok (.aload_n 0, 1) := by decide +kernel
theorem dX12_taken_6 : decode cX12_taken 6 = .ok (.getfield 13, 3) := by decide +kernel
theorem dX12_taken_9 : decode cX12_taken 9 = .ok (.bipush 11, 2) := by decide +kernel
theorem dX12_taken_11 : decode cX12_taken 11 = .ok (.iaload, 1) := by decide +kernel
theorem dX12_taken_12 : decode cX12_taken 12 = .ok (.if_icmp .ge 140, 3) := by decide +kernel
theorem dX12_taken_15 : decode cX12_taken 15 = .ok (.iconst (-1), 1) := by decide +kernel
theorem dX12_taken_16 : decode cX12_taken 16 = .ok (.istore_n 3, 1) := by decide +kernel
theorem dX12_taken_17 : decode cX12_taken 17 = .ok (.iconst 0, 1) := by decide +kernel
theorem dX12_taken_18 : decode cX12_taken 18 = .ok (.istore 4, 2) := by decide +kernel
theorem dX12_taken_20 : decode cX12_taken 20 = .ok (.iload 4, 2) := by decide +kernel
theorem dX12_taken_22 : decode cX12_taken 22 = .ok (.aload_n 0, 1) := by decide +kernel
theorem dX12_taken_23 : decode cX12_taken 23 = .ok (.getfield 13, 3) := by decide +kernel
theorem dX12_taken_26 : decode cX12_taken 26 = .ok (.iconst 0, 1) := by decide +kernel
theorem dX12_taken_27 : decode cX12_taken 27 = .ok (.iaload, 1) := by decide +kernel
theorem dX12_taken_28 : decode cX12_taken 28 = .ok (.if_icmp .ge 103, 3) := by decide +kernel
theorem dX12_taken_31 : decode cX12_taken 31 = .ok (.aload_n 0, 1) := by decide +kernel
theorem dX12_taken_32 : decode cX12_taken 32 = .ok (.iload 4, 2) := by decide +kernel
theorem dX12_taken_34 : decode cX12_taken 34 = .ok (.iconst 1, 1) := by decide +kernel
theorem dX12_taken_35 : decode cX12_taken 35 = .ok (.invokevirtual 150, 3) := by decide +kernel
theorem dX12_taken_38 : decode cX12_taken 38 = .ok (.aload_n 0, 1) := by decide +kernel
theorem dX12_taken_39 : decode cX12_taken 39 = .ok (.getfield 98, 3) := by decide +kernel
theorem dX12_taken_42 : decode cX12_taken 42 = .ok (.iload 4, 2) := by decide +kernel
theorem dX12_taken_44 : decode cX12_taken 44 = .ok (.iaload, 1) := by decide +kernel
theorem dX12_taken_45 : decode cX12_taken 45 = .ok (.isub, 1) := by decide +kernel
theorem dX12_taken_46 : decode cX12_taken 46 = .ok (.istore 5, 2) := by decide +kernel
theorem dX12_taken_48 : decode cX12_taken 48 = .ok (.iload_n 1, 1) := by decide +kernel
theorem dX12_taken_49 : decode cX12_taken 49 = .ok (.aload_n 0, 1) := by decide +kernel
theorem dX12_taken_50 : decode cX12_taken 50 = .ok (.getfield 421, 3) := by decide +kernel
theorem dX12_taken_53 : decode cX12_taken 53 = .ok (.ior, 1) := by decide +kernel
theorem dX12_taken_54 : decode cX12_taken 54 = .ok (.iload 4, 2) := by decide +kernel
theorem dX12_taken_56 : decode cX12_taken 56 = .ok (.invokestatic 397, 3) := by decide +kernel
theorem dX12_taken_59 : decode cX12_taken 59 = .ok (.ifCond .ne 28, 3) := by decide +kernel
theorem dX12_taken_62 : decode cX12_taken 62 = .ok (.iload 5, 2) := by decide +kernel
theorem dX12_taken_64 : decode cX12_taken 64 = .ok (.ifCond .le 23, 3) := by decide +kernel
theorem dX12_taken_67 : decode cX12_taken 67 = .ok (.aload_n 0, 1) := by decide +kernel
theorem dX12_taken_68 : decode cX12_taken 68 = .ok (.iload 4, 2) := by decide +kernel
theorem dX12_taken_70 : decode cX12_taken 70 = .ok (.aload_n 0, 1) := by decide +kernel
theorem dX12_taken_71 : decode cX12_taken 71 = .ok (.getfield 98, 3) := by decide +kernel
theorem dX12_taken_74 : decode cX12_taken 74 = .ok (.iload 4, 2) := by decide +kernel
theorem dX12_taken_76 : decode cX12_taken 76 = .ok (.iaload, 1) := by decide +kernel
theorem dX12_taken_77 : decode cX12_taken 77 = .ok (.invokevirtual 357, 3) := by decide +kernel
theorem dX12_taken_80 : decode cX12_taken 80 = .ok (.ifCond .eq 7, 3) := by decide +kernel
theorem dX12_taken_83 : decode cX12_taken 83 = .ok (.iconst 1, 1) := by decide +kernel
theorem dX12_taken_84 : decode cX12_taken 84 = .ok (.goto 4, 3) := by decide +kernel
theorem dX12_taken_87 : decode cX12_taken 87 = .ok (.iconst 0, 1) := by decide +kernel
theorem dX12_taken_88 : decode cX12_taken 88 = .ok (.istore 6, 2) := by decide +kernel
theorem dX12_taken_90 : decode cX12_taken 90 = .ok (.iload 6, 2) := by decide +kernel
theorem dX12_taken_92 : decode cX12_taken 92 = .ok (.ifCond .eq 31, 3) := by decide +kernel
theorem dX12_taken_95 : decode cX12_taken 95 = .ok (.iload_n 3, 1) := by decide +kernel
theorem dX12_taken_96 : decode cX12_taken 96 = .ok (.iconst (-1), 1) := by decide +kernel
theorem dX12_taken_97 : decode cX12_taken 97 = .ok (.if_icmp .eq 21, 3) := by decide +kernel
theorem dX12_taken_100 : decode cX12_taken 100 = .ok (.iload 5, 2) := by decide +kernel
theorem dX12_taken_102 : decode cX12_taken 102 = .ok (.aload_n 0, 1) := by decide +kernel
theorem dX12_taken_103 : decode cX12_taken 103 = .ok (.iload_n 3, 1) := by decide +kernel
theorem dX12_taken_104 : decode cX12_taken 104 = .ok (.iconst 1, 1) := by decide +kernel
theorem dX12_taken_105 : decode cX12_taken 105 = .ok (.invokevirtual 150, 3) := by decide +kernel
theorem dX12_taken_108 : decode cX12_taken 108 = .ok (.aload_n 0, 1) := by decide +kernel
theorem dX12_taken_109 : decode cX12_taken 109 = .ok (.getfield 98, 3) := by decide +kernel
theorem dX12_taken_112 : decode cX12_taken 112 = .ok (.iload_n 3, 1) := by decide +kernel
theorem dX12_taken_113 : decode cX12_taken 113 = .ok (.iaload, 1) := by decide +kernel
theorem dX12_taken_114 : decode cX12_taken 114 = .ok (.isub, 1) := by decide +kernel
theorem dX12_taken_115 : decode cX12_taken 115 = .ok (.if_icmp .le 8, 3) := by decide +kernel
theorem dX12_taken_118 : decode cX12_taken 118 = .ok (.iload 4, 2) := by decide +kernel
theorem dX12_taken_120 : decode cX12_taken 120 = .ok (.goto 4, 3) := by decide +kernel
theorem dX12_taken_123 : decode cX12_taken 123 = .ok (.iload_n 3, 1) := by decide +kernel
theorem dX12_taken_124 : decode cX12_taken 124 = .ok (.istore_n 3, 1) := by decide +kernel
theorem dX12_taken_125 : decode cX12_taken 125 = .ok (.iinc 4 1, 3) := by decide +kernel
theorem dX12_taken_128 : decode cX12_taken 128 = .ok (.goto (-108), 3) := by decide +kernel
theorem dX12_taken_131 : decode cX12_taken 131 = .ok (.iload_n 1, 1) := by decide +kernel
theorem dX12_taken_132 : decode cX12_taken 132 = .ok (.iload_n 3, 1) := by decide +kernel
theorem dX12_taken_133 : decode cX12_taken 133 = .ok (.iconst (-1), 1) := by decide +kernel
theorem dX12_taken_134 : decode cX12_taken 134 = .ok (.if_icmp .ne 7, 3) := by decide +kernel
theorem dX12_taken_137 : decode cX12_taken 137 = .ok (.iconst 0, 1) := by decide +kernel
theorem dX12_taken_138 : decode cX12_taken 138 = .ok (.goto 6, 3) := by decide +kernel
theorem dX12_taken_141 : decode cX12_taken 141 = .ok (.iconst 1, 1) := by decide +kernel
theorem dX12_taken_142 : decode cX12_taken 142 = .ok (.iload_n 3, 1) := by decide +kernel
theorem dX12_taken_143 : decode cX12_taken 143 = .ok (.ishl, 1) := by decide +kernel
theorem dX12_taken_144 : decode cX12_taken 144 = .ok (.ior, 1) := by decide +kernel
theorem dX12_taken_145 : decode cX12_taken 145 = .ok (.istore_n 1, 1) := by decide +kernel
theorem dX12_taken_146 : decode cX12_taken 146 = .ok (.iinc 2 1, 3) := by decide +kernel
theorem dX12_taken_149 : decode cX12_taken 149 = .ok (.goto (-145), 3) := by decide +kernel
theorem dX12_taken_152 : decode cX12_taken 152 = .ok (.iload_n 1, 1) := by decide +kernel
theorem dX12_taken_153 : decode cX12_taken 153 = .ok (.ireturn, 1) := by decide +kernel
set_option maxHeartbeats 4000000 in
set_option maxRecDepth 100000 in
theorem x_X12_taken_144 {p : Program} {l : Launch} {e : Env} {s : State} {m : MethodId} {args : Array Value} {below : List Frame} {meth : Method} {c : Code} {D : va_G} {K : Nat → ClassId} {A : Nat → Prop} {ad : Nat → Nat} {rest : va_W} (C : xC p s m args meth c D K A RX12 cX12_taken 7 (some .int)) (z : Int32 × xS) (k_4 : Int32 → Int32 → xS → Option (Int32 × xS)) (H_4 : ∀ (y1 : Int32) (y2 : Int32) (σ : xS), k_4 y1 y2 σ = some z → X p l e (xR 5 124) s m args below meth c D A 7 (xQi below D K A args s z.1 (RW K ad rest z.2)) 0 0 4 [(0, .ref (ad 0)), (1, .int y1), (2, .int y2)] [] (RW K ad rest σ)) : ∀ (y2 : Int32) (t0 : Int32) (t1 : Int32) (σ : xS), F_X12_taken_144 k_4 y2 t0 t1 σ = some z → X p l e (xR 5 124) s m args below meth c D A 7 (xQi below D K A args s z.1 (RW K ad rest z.2)) 0 0 144 [(0, .ref (ad 0)), (2, .int y2)] [.int t1, .int t0] (RW K ad rest σ) := by
  intro y2 t0 t1 σ hF
  unfold F_X12_taken_144 at hF
  refine x_ior C dX12_taken_144 ?_
  refine x_topI hF (fun x16 hF => ?_)
  refine x_istore_n C [(1, .int x16), (0, .ref (ad 0)), (2, .int y2)] dX12_taken_145 rfl (by decide) rfl ?_
  refine x_iincN C 1 2 (fun x17 => [(2, .int x17), (1, .int x16), (0, .ref (ad 0))]) dX12_taken_146 rfl (by decide +kernel) (by decide) (fun _ => rfl) hF (fun x17 hF => ?_)
  refine x_goto C 4 dX12_taken_149 (by decide) ?_
  refine x_loc [(0, .ref (ad 0)), (1, .int x16), (2, .int x17)] [2, 1, 0] rfl ?_
  exact H_4 x16 x17 σ hF
set_option maxHeartbeats 4000000 in
set_option maxRecDepth 100000 in
theorem x_X12_taken_123 {p : Program} {l : Launch} {e : Env} {s : State} {m : MethodId} {args : Array Value} {below : List Frame} {meth : Method} {c : Code} {D : va_G} {K : Nat → ClassId} {A : Nat → Prop} {ad : Nat → Nat} {rest : va_W} (C : xC p s m args meth c D K A RX12 cX12_taken 7 (some .int)) (z : Int32 × xS) (k_4 : Int32 → Int32 → xS → Option (Int32 × xS)) (H_4 : ∀ (y1 : Int32) (y2 : Int32) (σ : xS), k_4 y1 y2 σ = some z → X p l e (xR 5 124) s m args below meth c D A 7 (xQi below D K A args s z.1 (RW K ad rest z.2)) 0 0 4 [(0, .ref (ad 0)), (1, .int y1), (2, .int y2)] [] (RW K ad rest σ)) (k_20 : Int32 → Int32 → Int32 → Int32 → xS → Option (Int32 × xS)) (H_20 : ∀ (y1 : Int32) (y2 : Int32) (y3 : Int32) (y4 : Int32) (σ : xS), k_20 y1 y2 y3 y4 σ = some z → X p l e (xR 5 124) s m args below meth c D A 7 (xQi below D K A args s z.1 (RW K ad rest z.2)) 0 0 20 [(0, .ref (ad 0)), (1, .int y1), (2, .int y2), (3, .int y3), (4, .int y4)] [] (RW K ad rest σ)) : ∀ (y1 : Int32) (y2 : Int32) (y3 : Int32) (y4 : Int32) (σ : xS), F_X12_taken_123 k_4 k_20 y1 y2 y3 y4 σ = some z → X p l e (xR 5 124) s m args below meth c D A 7 (xQi below D K A args s z.1 (RW K ad rest z.2)) 0 0 123 [(0, .ref (ad 0)), (1, .int y1), (2, .int y2), (3, .int y3), (4, .int y4)] [] (RW K ad rest σ) := by
  intro y1 y2 y3 y4 σ hF
  unfold F_X12_taken_123 at hF
  refine x_iload_n C 3 3 dX12_taken_123 rfl rfl ?_
  refine x_istore_n C [(3, .int y3), (0, .ref (ad 0)), (1, .int y1), (2, .int y2), (4, .int y4)] dX12_taken_124 rfl (by decide) rfl ?_
  refine x_iincN C 1 4 (fun x21 => [(4, .int x21), (3, .int y3), (0, .ref (ad 0)), (1, .int y1), (2, .int y2)]) dX12_taken_125 rfl (by decide +kernel) (by decide) (fun _ => rfl) hF (fun x21 hF => ?_)
  refine x_goto C 20 dX12_taken_128 (by decide) ?_
  refine x_loc [(0, .ref (ad 0)), (1, .int y1), (2, .int y2), (3, .int y3), (4, .int x21)] [2, 3, 4, 1, 0] rfl ?_
  exact H_20 y1 y2 y3 x21 σ hF
set_option maxHeartbeats 4000000 in
set_option maxRecDepth 100000 in
theorem x_X12_taken_118 {p : Program} {l : Launch} {e : Env} {s : State} {m : MethodId} {args : Array Value} {below : List Frame} {meth : Method} {c : Code} {D : va_G} {K : Nat → ClassId} {A : Nat → Prop} {ad : Nat → Nat} {rest : va_W} (C : xC p s m args meth c D K A RX12 cX12_taken 7 (some .int)) (z : Int32 × xS) (k_4 : Int32 → Int32 → xS → Option (Int32 × xS)) (H_4 : ∀ (y1 : Int32) (y2 : Int32) (σ : xS), k_4 y1 y2 σ = some z → X p l e (xR 5 124) s m args below meth c D A 7 (xQi below D K A args s z.1 (RW K ad rest z.2)) 0 0 4 [(0, .ref (ad 0)), (1, .int y1), (2, .int y2)] [] (RW K ad rest σ)) (k_20 : Int32 → Int32 → Int32 → Int32 → xS → Option (Int32 × xS)) (H_20 : ∀ (y1 : Int32) (y2 : Int32) (y3 : Int32) (y4 : Int32) (σ : xS), k_20 y1 y2 y3 y4 σ = some z → X p l e (xR 5 124) s m args below meth c D A 7 (xQi below D K A args s z.1 (RW K ad rest z.2)) 0 0 20 [(0, .ref (ad 0)), (1, .int y1), (2, .int y2), (3, .int y3), (4, .int y4)] [] (RW K ad rest σ)) : ∀ (y1 : Int32) (y2 : Int32) (y4 : Int32) (σ : xS), F_X12_taken_118 k_4 k_20 y1 y2 y4 σ = some z → X p l e (xR 5 124) s m args below meth c D A 7 (xQi below D K A args s z.1 (RW K ad rest z.2)) 0 0 118 [(0, .ref (ad 0)), (1, .int y1), (2, .int y2), (4, .int y4)] [] (RW K ad rest σ) := by
  intro y1 y2 y4 σ hF
  unfold F_X12_taken_118 at hF
  refine x_iload C 3 4 dX12_taken_118 rfl ?_
  refine x_goto C 124 dX12_taken_120 (by decide) ?_
  refine x_istore_n C [(3, .int y4), (0, .ref (ad 0)), (1, .int y1), (2, .int y2), (4, .int y4)] dX12_taken_124 rfl (by decide) rfl ?_
  refine x_iincN C 1 4 (fun x22 => [(4, .int x22), (3, .int y4), (0, .ref (ad 0)), (1, .int y1), (2, .int y2)]) dX12_taken_125 rfl (by decide +kernel) (by decide) (fun _ => rfl) hF (fun x22 hF => ?_)
  refine x_goto C 20 dX12_taken_128 (by decide) ?_
  refine x_loc [(0, .ref (ad 0)), (1, .int y1), (2, .int y2), (3, .int y4), (4, .int x22)] [2, 3, 4, 1, 0] rfl ?_
  exact H_20 y1 y2 y4 x22 σ hF
set_option maxHeartbeats 4000000 in
set_option maxRecDepth 100000 in
theorem x_X12_taken_88 {p : Program} {l : Launch} {e : Env} {s : State} {m : MethodId} {args : Array Value} {below : List Frame} {meth : Method} {c : Code} {D : va_G} {K : Nat → ClassId} {A : Nat → Prop} {ad : Nat → Nat} {rest : va_W} (C : xC p s m args meth c D K A RX12 cX12_taken 7 (some .int)) (z : Int32 × xS) (k_4 : Int32 → Int32 → xS → Option (Int32 × xS)) (H_4 : ∀ (y1 : Int32) (y2 : Int32) (σ : xS), k_4 y1 y2 σ = some z → X p l e (xR 5 124) s m args below meth c D A 7 (xQi below D K A args s z.1 (RW K ad rest z.2)) 0 0 4 [(0, .ref (ad 0)), (1, .int y1), (2, .int y2)] [] (RW K ad rest σ)) (k_20 : Int32 → Int32 → Int32 → Int32 → xS → Option (Int32 × xS)) (H_20 : ∀ (y1 : Int32) (y2 : Int32) (y3 : Int32) (y4 : Int32) (σ : xS), k_20 y1 y2 y3 y4 σ = some z → X p l e (xR 5 124) s m args below meth c D A 7 (xQi below D K A args s z.1 (RW K ad rest z.2)) 0 0 20 [(0, .ref (ad 0)), (1, .int y1), (2, .int y2), (3, .int y3), (4, .int y4)] [] (RW K ad rest σ)) : ∀ (y1 : Int32) (y2 : Int32) (y3 : Int32) (y4 : Int32) (y5 : Int32) (t0 : Int32) (σ : xS), F_X12_taken_88 k_4 k_20 y1 y2 y3 y4 y5 t0 σ = some z → X p l e (xR 5 124) s m args below meth c D A 7 (xQi below D K A args s z.1 (RW K ad rest z.2)) 0 0 88 [(0, .ref (ad 0)), (1, .int y1), (2, .int y2), (3, .int y3), (4, .int y4), (5, .int y5)] [.int t0] (RW K ad rest σ) := by
  intro y1 y2 y3 y4 y5 t0 σ hF
  unfold F_X12_taken_88 at hF
  refine x_istore C [(6, .int t0), (0, .ref (ad 0)), (1, .int y1), (2, .int y2), (3, .int y3), (4, .int y4), (5, .int y5)] dX12_taken_88 (by decide) rfl ?_
  refine x_iload C 0 6 dX12_taken_90 rfl ?_
  refine x_if_eq C 123 dX12_taken_92 (by decide) hF (fun hF => ?_) (fun hF => ?_)
  · refine x_loc [(0, .ref (ad 0)), (1, .int y1), (2, .int y2), (3, .int y3), (4, .int y4)] [1, 2, 3, 4, 5] rfl ?_
    exact x_X12_taken_123 C z k_4 H_4 k_20 H_20 y1 y2 y3 y4 σ hF
  · refine x_iload_n C 4 3 dX12_taken_95 rfl rfl ?_
    refine x_iconst C (-1) dX12_taken_96 (by decide +kernel) ?_
    refine x_icmp_eq C 118 dX12_taken_97 (by decide) hF (fun hF => ?_) (fun hF => ?_)
    · refine x_loc [(0, .ref (ad 0)), (1, .int y1), (2, .int y2), (4, .int y4)] [1, 2, 3, 5] rfl ?_
      exact x_X12_taken_118 C z k_4 H_4 k_20 H_20 y1 y2 y4 σ hF
    · refine x_iload C 6 5 dX12_taken_100 rfl ?_
      refine x_aload_n C 1 0 dX12_taken_102 rfl rfl ?_
      refine x_iload_n C 4 3 dX12_taken_103 rfl rfl ?_
      refine x_iconst C 1 dX12_taken_104 (by decide +kernel) ?_
      refine x_callVI C (wf := RW K ad rest) (As := [.int y3, .int 1]) (rest := [.int y5]) dX12_taken_105 ml_X12_150 rfl rfl (Nat.le_of_ble_eq_true rfl) 0 (RW_o K ad rest σ) rfl ⟨Nat.le_of_ble_eq_true rfl, Nat.le_of_ble_eq_true rfl⟩ ⟨Nat.zero_le _, Nat.zero_le _⟩ (fun q9 hq9 => c_X12_ofBook l D K ad rest y3 1 σ q9 hq9) hF (fun v19 σ18 hF => ?_)
      refine x_aload_n C 1 0 dX12_taken_108 rfl rfl ?_
      refine x_get C 0 dX12_taken_109 fl_X12_98 (RW_o K ad rest σ18) rfl ?_
      refine x_iload_n C 4 3 dX12_taken_112 rfl rfl ?_
      refine x_iald C 19 dX12_taken_113 (RW_a40 K ad rest σ18) hF (fun v20 hF => ?_)
      refine x_isub C dX12_taken_114 ?_
      refine x_icmp_le C 123 dX12_taken_115 (by decide) hF (fun hF => ?_) (fun hF => ?_)
      · refine x_loc [(0, .ref (ad 0)), (1, .int y1), (2, .int y2), (3, .int y3), (4, .int y4)] [1, 2, 3, 4, 5] rfl ?_
        exact x_X12_taken_123 C z k_4 H_4 k_20 H_20 y1 y2 y3 y4 σ18 hF
      · refine x_loc [(0, .ref (ad 0)), (1, .int y1), (2, .int y2), (4, .int y4)] [1, 2, 3, 5] rfl ?_
        exact x_X12_taken_118 C z k_4 H_4 k_20 H_20 y1 y2 y4 σ18 hF
set_option maxHeartbeats 4000000 in
set_option maxRecDepth 100000 in
theorem x_X12_taken_87 {p : Program} {l : Launch} {e : Env} {s : State} {m : MethodId} {args : Array Value} {below : List Frame} {meth : Method} {c : Code} {D : va_G} {K : Nat → ClassId} {A : Nat → Prop} {ad : Nat → Nat} {rest : va_W} (C : xC p s m args meth c D K A RX12 cX12_taken 7 (some .int)) (z : Int32 × xS) (k_4 : Int32 → Int32 → xS → Option (Int32 × xS)) (H_4 : ∀ (y1 : Int32) (y2 : Int32) (σ : xS), k_4 y1 y2 σ = some z → X p l e (xR 5 124) s m args below meth c D A 7 (xQi below D K A args s z.1 (RW K ad rest z.2)) 0 0 4 [(0, .ref (ad 0)), (1, .int y1), (2, .int y2)] [] (RW K ad rest σ)) (k_20 : Int32 → Int32 → Int32 → Int32 → xS → Option (Int32 × xS)) (H_20 : ∀ (y1 : Int32) (y2 : Int32) (y3 : Int32) (y4 : Int32) (σ : xS), k_20 y1 y2 y3 y4 σ = some z → X p l e (xR 5 124) s m args below meth c D A 7 (xQi below D K A args s z.1 (RW K ad rest z.2)) 0 0 20 [(0, .ref (ad 0)), (1, .int y1), (2, .int y2), (3, .int y3), (4, .int y4)] [] (RW K ad rest σ)) : ∀ (y1 : Int32) (y2 : Int32) (y3 : Int32) (y4 : Int32) (y5 : Int32) (σ : xS), F_X12_taken_87 k_4 k_20 y1 y2 y3 y4 y5 σ = some z → X p l e (xR 5 124) s m args below meth c D A 7 (xQi below D K A args s z.1 (RW K ad rest z.2)) 0 0 87 [(0, .ref (ad 0)), (1, .int y1), (2, .int y2), (3, .int y3), (4, .int y4), (5, .int y5)] [] (RW K ad rest σ) := by
  intro y1 y2 y3 y4 y5 σ hF
  unfold F_X12_taken_87 at hF
  refine x_iconst C 0 dX12_taken_87 (by decide +kernel) ?_
  exact x_X12_taken_88 C z k_4 H_4 k_20 H_20 y1 y2 y3 y4 y5 0 σ hF
set_option maxHeartbeats 4000000 in
set_option maxRecDepth 100000 in
theorem x_X12_taken_20 {p : Program} {l : Launch} {e : Env} {s : State} {m : MethodId} {args : Array Value} {below : List Frame} {meth : Method} {c : Code} {D : va_G} {K : Nat → ClassId} {A : Nat → Prop} {ad : Nat → Nat} {rest : va_W} (C : xC p s m args meth c D K A RX12 cX12_taken 7 (some .int)) (z : Int32 × xS) (k_4 : Int32 → Int32 → xS → Option (Int32 × xS)) (H_4 : ∀ (y1 : Int32) (y2 : Int32) (σ : xS), k_4 y1 y2 σ = some z → X p l e (xR 5 124) s m args below meth c D A 7 (xQi below D K A args s z.1 (RW K ad rest z.2)) 0 0 4 [(0, .ref (ad 0)), (1, .int y1), (2, .int y2)] [] (RW K ad rest σ)) : ∀ (n : Nat) (y1 : Int32) (y2 : Int32) (y3 : Int32) (y4 : Int32) (σ : xS), F_X12_taken_20 k_4 n y1 y2 y3 y4 σ = some z → X p l e (xR 5 124) s m args below meth c D A 7 (xQi below D K A args s z.1 (RW K ad rest z.2)) 0 0 20 [(0, .ref (ad 0)), (1, .int y1), (2, .int y2), (3, .int y3), (4, .int y4)] [] (RW K ad rest σ) := by
  intro n
  induction n with
  | zero =>
    intro y1 y2 y3 y4 σ hF
    cases hF
  | succ n ih =>
    intro y1 y2 y3 y4 σ hF
    rw [F_X12_taken_20] at hF
    refine x_iload C 4 4 dX12_taken_20 rfl ?_
    refine x_aload_n C 0 0 dX12_taken_22 rfl rfl ?_
    refine x_get C 0 dX12_taken_23 fl_X12_13 (RW_o K ad rest σ) rfl ?_
    refine x_iconst C 0 dX12_taken_26 (by decide +kernel) ?_
    refine x_iald C 2 dX12_taken_27 (RW_a3 K ad rest σ) hF (fun v6 hF => ?_)
    refine x_icmp_ge C 131 dX12_taken_28 (by decide) hF (fun hF => ?_) (fun hF => ?_)
    · refine x_iload_n C 1 1 dX12_taken_131 rfl rfl ?_
      refine x_iload_n C 3 3 dX12_taken_132 rfl rfl ?_
      refine x_iconst C (-1) dX12_taken_133 (by decide +kernel) ?_
      refine x_icmp_ne C 141 dX12_taken_134 (by decide) hF (fun hF => ?_) (fun hF => ?_)
      · refine x_iconst C 1 dX12_taken_141 (by decide +kernel) ?_
        refine x_iload_n C 3 3 dX12_taken_142 rfl rfl ?_
        refine x_ishl C dX12_taken_143 ?_
        refine x_loc [(0, .ref (ad 0)), (2, .int y2)] [0, 2] rfl ?_
        exact x_X12_taken_144 C z k_4 H_4 y2 y1 ((1 : Int32) <<< (y3 &&& 31)) σ hF
      · refine x_iconst C 0 dX12_taken_137 (by decide +kernel) ?_
        refine x_goto C 144 dX12_taken_138 (by decide) ?_
        refine x_loc [(0, .ref (ad 0)), (2, .int y2)] [0, 2] rfl ?_
        exact x_X12_taken_144 C z k_4 H_4 y2 y1 0 σ hF
    · refine x_aload_n C 0 0 dX12_taken_31 rfl rfl ?_
      refine x_iload C 4 4 dX12_taken_32 rfl ?_
      refine x_iconst C 1 dX12_taken_34 (by decide +kernel) ?_
      refine x_callVI C (wf := RW K ad rest) (As := [.int y4, .int 1]) (rest := []) dX12_taken_35 ml_X12_150 rfl rfl (Nat.le_of_ble_eq_true rfl) 0 (RW_o K ad rest σ) rfl ⟨Nat.le_of_ble_eq_true rfl, Nat.le_of_ble_eq_true rfl⟩ ⟨Nat.zero_le _, Nat.zero_le _⟩ (fun q9 hq9 => c_X12_ofBook l D K ad rest y4 1 σ q9 hq9) hF (fun v8 σ7 hF => ?_)
      refine x_aload_n C 0 0 dX12_taken_38 rfl rfl ?_
      refine x_get C 0 dX12_taken_39 fl_X12_98 (RW_o K ad rest σ7) rfl ?_
      refine x_iload C 4 4 dX12_taken_42 rfl ?_
      refine x_iald C 19 dX12_taken_44 (RW_a40 K ad rest σ7) hF (fun v9 hF => ?_)
      refine x_isub C dX12_taken_45 ?_
      refine x_topI hF (fun x10 hF => ?_)
      refine x_istore C [(5, .int x10), (0, .ref (ad 0)), (1, .int y1), (2, .int y2), (3, .int y3), (4, .int y4)] dX12_taken_46 (by decide) rfl ?_
      refine x_iload_n C 2 1 dX12_taken_48 rfl rfl ?_
      refine x_aload_n C 1 0 dX12_taken_49 rfl rfl ?_
      refine x_get C 0 dX12_taken_50 fl_X12_421 (RW_o K ad rest σ7) rfl ?_
      refine x_ior C dX12_taken_53 ?_
      refine x_iload C 5 4 dX12_taken_54 rfl ?_
      refine x_callSI C (wf := RW K ad rest) (As := [.int (y1 ||| (sI σ7 41)), .int y4]) (rest := []) dX12_taken_56 ml_X12_397 rfl rfl (Nat.le_of_ble_eq_true rfl) ⟨Nat.le_of_ble_eq_true rfl, Nat.le_of_ble_eq_true rfl⟩ ⟨Nat.zero_le _, Nat.zero_le _⟩ (fun q9 hq9 => c_X12_is l D K ad rest (y1 ||| (sI σ7 41)) y4 σ7 q9 hq9) hF (fun v12 σ11 hF => ?_)
      refine x_if_ne C 87 dX12_taken_59 (by decide) hF (fun hF => ?_) (fun hF => ?_)
      · refine x_loc [(0, .ref (ad 0)), (1, .int y1), (2, .int y2), (3, .int y3), (4, .int y4), (5, .int x10)] [1, 2, 3, 4, 5, 0] rfl ?_
        exact x_X12_taken_87 C z k_4 H_4 ((F_X12_taken_20 k_4 n)) ih y1 y2 y3 y4 x10 σ11 hF
      · refine x_iload C 0 5 dX12_taken_62 rfl ?_
        refine x_if_le C 87 dX12_taken_64 (by decide) hF (fun hF => ?_) (fun hF => ?_)
        · refine x_loc [(0, .ref (ad 0)), (1, .int y1), (2, .int y2), (3, .int y3), (4, .int y4), (5, .int x10)] [1, 2, 3, 4, 5, 0] rfl ?_
          exact x_X12_taken_87 C z k_4 H_4 ((F_X12_taken_20 k_4 n)) ih y1 y2 y3 y4 x10 σ11 hF
        · refine x_aload_n C 1 0 dX12_taken_67 rfl rfl ?_
          refine x_iload C 5 4 dX12_taken_68 rfl ?_
          refine x_aload_n C 1 0 dX12_taken_70 rfl rfl ?_
          refine x_get C 0 dX12_taken_71 fl_X12_98 (RW_o K ad rest σ11) rfl ?_
          refine x_iload C 5 4 dX12_taken_74 rfl ?_
          refine x_iald C 19 dX12_taken_76 (RW_a40 K ad rest σ11) hF (fun v13 hF => ?_)
          refine x_callVI C (wf := RW K ad rest) (As := [.int y4, .int v13]) (rest := []) dX12_taken_77 ml_X12_357 rfl rfl (Nat.le_of_ble_eq_true rfl) 0 (RW_o K ad rest σ11) rfl ⟨Nat.le_of_ble_eq_true rfl, Nat.le_of_ble_eq_true rfl⟩ ⟨Nat.zero_le _, Nat.zero_le _⟩ (fun q9 hq9 => c_X12_isTaken l D K ad rest y4 v13 σ11 q9 hq9) hF (fun v15 σ14 hF => ?_)
          refine x_if_eq C 87 dX12_taken_80 (by decide) hF (fun hF => ?_) (fun hF => ?_)
          · refine x_loc [(0, .ref (ad 0)), (1, .int y1), (2, .int y2), (3, .int y3), (4, .int y4), (5, .int x10)] [1, 2, 3, 4, 5, 0] rfl ?_
            exact x_X12_taken_87 C z k_4 H_4 ((F_X12_taken_20 k_4 n)) ih y1 y2 y3 y4 x10 σ14 hF
          · refine x_iconst C 1 dX12_taken_83 (by decide +kernel) ?_
            refine x_goto C 88 dX12_taken_84 (by decide) ?_
            refine x_loc [(0, .ref (ad 0)), (1, .int y1), (2, .int y2), (3, .int y3), (4, .int y4), (5, .int x10)] [1, 2, 3, 4, 5, 0] rfl ?_
            exact x_X12_taken_88 C z k_4 H_4 ((F_X12_taken_20 k_4 n)) ih y1 y2 y3 y4 x10 1 σ14 hF
set_option maxHeartbeats 4000000 in
set_option maxRecDepth 100000 in
theorem x_X12_taken_4 {p : Program} {l : Launch} {e : Env} {s : State} {m : MethodId} {args : Array Value} {below : List Frame} {meth : Method} {c : Code} {D : va_G} {K : Nat → ClassId} {A : Nat → Prop} {ad : Nat → Nat} {rest : va_W} (C : xC p s m args meth c D K A RX12 cX12_taken 7 (some .int)) (z : Int32 × xS) : ∀ (n : Nat) (y1 : Int32) (y2 : Int32) (σ : xS), F_X12_taken_4  n y1 y2 σ = some z → X p l e (xR 5 124) s m args below meth c D A 7 (xQi below D K A args s z.1 (RW K ad rest z.2)) 0 0 4 [(0, .ref (ad 0)), (1, .int y1), (2, .int y2)] [] (RW K ad rest σ) := by
  intro n
  induction n with
  | zero =>
    intro y1 y2 σ hF
    cases hF
  | succ n ih =>
    intro y1 y2 σ hF
    rw [F_X12_taken_4] at hF
    refine x_iload_n C 2 2 dX12_taken_4 rfl rfl ?_
    refine x_aload_n C 0 0 dX12_taken_5 rfl rfl ?_
    refine x_get C 0 dX12_taken_6 fl_X12_13 (RW_o K ad rest σ) rfl ?_
    refine x_bipush C 11 dX12_taken_9 (by decide +kernel) ?_
    refine x_iald C 2 dX12_taken_11 (RW_a3 K ad rest σ) hF (fun v3 hF => ?_)
    refine x_icmp_ge C 152 dX12_taken_12 (by decide) hF (fun hF => ?_) (fun hF => ?_)
    · refine x_iload_n C 1 1 dX12_taken_152 rfl rfl ?_
      exact x_iret C dX12_taken_153 rfl (congrArg Prod.fst (Option.some.inj hF)) (congrArg (fun q9 : Int32 × xS => RW K ad rest q9.2) (Option.some.inj hF))
    · refine x_iconst C (-1) dX12_taken_15 (by decide +kernel) ?_
      refine x_topI hF (fun x4 hF => ?_)
      refine x_istore_n C [(3, .int x4), (0, .ref (ad 0)), (1, .int y1), (2, .int y2)] dX12_taken_16 rfl (by decide) rfl ?_
      refine x_iconst C 0 dX12_taken_17 (by decide +kernel) ?_
      refine x_topI hF (fun x5 hF => ?_)
      refine x_istore C [(4, .int x5), (3, .int x4), (0, .ref (ad 0)), (1, .int y1), (2, .int y2)] dX12_taken_18 (by decide) rfl ?_
      refine x_loc [(0, .ref (ad 0)), (1, .int y1), (2, .int y2), (3, .int x4), (4, .int x5)] [2, 3, 4, 1, 0] rfl ?_
      exact x_X12_taken_20 C z ((F_X12_taken_4 n)) ih FU y1 y2 x4 x5 σ hF
set_option maxHeartbeats 4000000 in
set_option maxRecDepth 100000 in
theorem c_X12_taken (l : Launch) (D : va_G) (K : Nat → ClassId) (ad : Nat → Nat) (rest : va_W)  (σ : xS) (z : Int32 × xS) (hF : F_X12_taken σ = some z) : CI l D K yX12_taken cX12_taken 7 (some .int) 5 124 [.ref (ad 0)] (RW K ad rest σ) z.1 (RW K ad rest z.2) := by
  refine x_enterI [(0, .ref (ad 0))] pnX12 (Nat.le_of_ble_eq_true rfl) rfl ?_
  intro p e s m args below meth c A C
  unfold F_X12_taken at hF
  refine x_iconst C 0 dX12_taken_0 (by decide +kernel) ?_
  refine x_topI hF (fun x1 hF => ?_)
  refine x_istore_n C [(1, .int x1), (0, .ref (ad 0))] dX12_taken_1 rfl (by decide) rfl ?_
  refine x_iconst C 0 dX12_taken_2 (by decide +kernel) ?_
  refine x_topI hF (fun x2 hF => ?_)
  refine x_istore_n C [(2, .int x2), (1, .int x1), (0, .ref (ad 0))] dX12_taken_3 rfl (by decide) rfl ?_
  refine x_loc [(0, .ref (ad 0)), (1, .int x1), (2, .int x2)] [2, 1, 0] rfl ?_
  exact x_X12_taken_4 C z FU x1 x2 σ hF
theorem dX12_paidFor_0 : decode cX12_paidFor 0 = .ok (.iconst 0, 1) := by decide +kernel
theorem dX12_paidFor_1 : decode cX12_paidFor 1 = .ok (.istore_n 2, 1) := by decide +kernel
theorem dX12_paidFor_2 : decode cX12_paidFor 2 = .ok (.iconst 0, 1) := by decide +kernel
theorem dX12_paidFor_3 : decode cX12_paidFor 3 = .ok (.istore_n 3, 1) := by decide +kernel
theorem dX12_paidFor_4 : decode cX12_paidFor 4 = .ok (.iload_n 3, 1) := by decide +kernel
theorem dX12_paidFor_5 : decode cX12_paidFor 5 = .ok (.aload_n 0, 1) := by decide +kernel
theorem dX12_paidFor_6 : decode cX12_paidFor 6 = .ok (.getfield 13, 3) := by decide +kernel
theorem dX12_paidFor_9 : decode cX12_paidFor 9 = .ok (.iconst 0, 1) := by decide +kernel
theorem dX12_paidFor_10 : decode cX12_paidFor 10 = .ok (.iaload, 1) := by decide +kernel
theorem dX12_paidFor_11 : decode cX12_paidFor 11 = .ok (.if_icmp .ge 30, 3) := by decide +kernel
theorem dX12_paidFor_14 : decode cX12_paidFor 14 = .ok (.iload_n 2, 1) := by decide +kernel
theorem dX12_paidFor_15 : decode cX12_paidFor 15 = .ok (.iload_n 1, 1) := by decide +kernel
theorem dX12_paidFor_16 : decode cX12_paidFor 16 = .ok (.iload_n 3, 1) := by decide +kernel
theorem dX12_paidFor_17 : decode cX12_paidFor 17 = .ok (.invokestatic 397, 3) := by decide +kernel
theorem dX12_paidFor_20 : decode cX12_paidFor 20 = .ok (.ifCond .eq 12, 3) := by decide +kernel
theorem dX12_paidFor_23 : decode cX12_paidFor 23 = .ok (.aload_n 0, 1) := by decide +kernel
theorem dX12_paidFor_24 : decode cX12_paidFor 24 = .ok (.getfield 98, 3) := by decide +kernel
theorem dX12_paidFor_27 : decode cX12_paidFor 27 = .ok (.iload_n 3, 1) := by decide +kernel
theorem dX12_paidFor_28 : decode cX12_paidFor 28 = .ok (.iaload, 1) := by decide +kernel
theorem dX12_paidFor_29 : decode cX12_paidFor 29 = .ok (.goto 4, 3) := by decide +kernel
theorem dX12_paidFor_32 : decode cX12_paidFor 32 = .ok (.iconst 0, 1) := by decide +kernel
theorem dX12_paidFor_33 : decode cX12_paidFor 33 = .ok (.iadd, 1) := by decide +kernel
theorem dX12_paidFor_34 : decode cX12_paidFor 34 = .ok (.istore_n 2, 1) := by decide +kernel
theorem dX12_paidFor_35 : decode cX12_paidFor 35 = .ok (.iinc 3 1, 3) := by decide +kernel
theorem dX12_paidFor_38 : decode cX12_paidFor 38 = .ok (.goto (-34), 3) := by decide +kernel
theorem dX12_paidFor_41 : decode cX12_paidFor 41 = .ok (.iload_n 2, 1) := by decide +kernel
theorem dX12_paidFor_42 : decode cX12_paidFor 42 = .ok (.ireturn, 1) := by decide +kernel
set_option maxHeartbeats 4000000 in
set_option maxRecDepth 100000 in
theorem x_X12_paidFor_33 {p : Program} {l : Launch} {e : Env} {s : State} {m : MethodId} {args : Array Value} {below : List Frame} {meth : Method} {c : Code} {D : va_G} {K : Nat → ClassId} {A : Nat → Prop} {ad : Nat → Nat} {rest : va_W} (C : xC p s m args meth c D K A RX12 cX12_paidFor 4 (some .int)) (z : Int32 × xS) (k_4 : Int32 → Int32 → Int32 → xS → Option (Int32 × xS)) (H_4 : ∀ (y1 : Int32) (y2 : Int32) (y3 : Int32) (σ : xS), k_4 y1 y2 y3 σ = some z → X p l e (xR 1 21) s m args below meth c D A 4 (xQi below D K A args s z.1 (RW K ad rest z.2)) 0 0 4 [(0, .ref (ad 0)), (1, .int y1), (2, .int y2), (3, .int y3)] [] (RW K ad rest σ)) : ∀ (y1 : Int32) (y3 : Int32) (t0 : Int32) (t1 : Int32) (σ : xS), F_X12_paidFor_33 k_4 y1 y3 t0 t1 σ = some z → X p l e (xR 1 21) s m args below meth c D A 4 (xQi below D K A args s z.1 (RW K ad rest z.2)) 0 0 33 [(0, .ref (ad 0)), (1, .int y1), (3, .int y3)] [.int t1, .int t0] (RW K ad rest σ) := by
  intro y1 y3 t0 t1 σ hF
  unfold F_X12_paidFor_33 at hF
  refine x_iadd C dX12_paidFor_33 ?_
  refine x_topI hF (fun x7 hF => ?_)
  refine x_istore_n C [(2, .int x7), (0, .ref (ad 0)), (1, .int y1), (3, .int y3)] dX12_paidFor_34 rfl (by decide) rfl ?_
  refine x_iincN C 1 3 (fun x8 => [(3, .int x8), (2, .int x7), (0, .ref (ad 0)), (1, .int y1)]) dX12_paidFor_35 rfl (by decide +kernel) (by decide) (fun _ => rfl) hF (fun x8 hF => ?_)
  refine x_goto C 4 dX12_paidFor_38 (by decide) ?_
  refine x_loc [(0, .ref (ad 0)), (1, .int y1), (2, .int x7), (3, .int x8)] [2, 3, 1, 0] rfl ?_
  exact H_4 y1 x7 x8 σ hF
set_option maxHeartbeats 4000000 in
set_option maxRecDepth 100000 in
theorem x_X12_paidFor_4 {p : Program} {l : Launch} {e : Env} {s : State} {m : MethodId} {args : Array Value} {below : List Frame} {meth : Method} {c : Code} {D : va_G} {K : Nat → ClassId} {A : Nat → Prop} {ad : Nat → Nat} {rest : va_W} (C : xC p s m args meth c D K A RX12 cX12_paidFor 4 (some .int)) (z : Int32 × xS) : ∀ (n : Nat) (y1 : Int32) (y2 : Int32) (y3 : Int32) (σ : xS), F_X12_paidFor_4  n y1 y2 y3 σ = some z → X p l e (xR 1 21) s m args below meth c D A 4 (xQi below D K A args s z.1 (RW K ad rest z.2)) 0 0 4 [(0, .ref (ad 0)), (1, .int y1), (2, .int y2), (3, .int y3)] [] (RW K ad rest σ) := by
  intro n
  induction n with
  | zero =>
    intro y1 y2 y3 σ hF
    cases hF
  | succ n ih =>
    intro y1 y2 y3 σ hF
    rw [F_X12_paidFor_4] at hF
    refine x_iload_n C 3 3 dX12_paidFor_4 rfl rfl ?_
    refine x_aload_n C 0 0 dX12_paidFor_5 rfl rfl ?_
    refine x_get C 0 dX12_paidFor_6 fl_X12_13 (RW_o K ad rest σ) rfl ?_
    refine x_iconst C 0 dX12_paidFor_9 (by decide +kernel) ?_
    refine x_iald C 2 dX12_paidFor_10 (RW_a3 K ad rest σ) hF (fun v3 hF => ?_)
    refine x_icmp_ge C 41 dX12_paidFor_11 (by decide) hF (fun hF => ?_) (fun hF => ?_)
    · refine x_iload_n C 2 2 dX12_paidFor_41 rfl rfl ?_
      exact x_iret C dX12_paidFor_42 rfl (congrArg Prod.fst (Option.some.inj hF)) (congrArg (fun q9 : Int32 × xS => RW K ad rest q9.2) (Option.some.inj hF))
    · refine x_iload_n C 2 2 dX12_paidFor_14 rfl rfl ?_
      refine x_iload_n C 1 1 dX12_paidFor_15 rfl rfl ?_
      refine x_iload_n C 3 3 dX12_paidFor_16 rfl rfl ?_
      refine x_callSI C (wf := RW K ad rest) (As := [.int y1, .int y3]) (rest := [.int y2]) dX12_paidFor_17 ml_X12_397 rfl rfl (Nat.le_of_ble_eq_true rfl) ⟨Nat.le_of_ble_eq_true rfl, Nat.le_of_ble_eq_true rfl⟩ ⟨Nat.zero_le _, Nat.zero_le _⟩ (fun q9 hq9 => c_X12_is l D K ad rest y1 y3 σ q9 hq9) hF (fun v5 σ4 hF => ?_)
      refine x_if_eq C 32 dX12_paidFor_20 (by decide) hF (fun hF => ?_) (fun hF => ?_)
      · refine x_iconst C 0 dX12_paidFor_32 (by decide +kernel) ?_
        refine x_loc [(0, .ref (ad 0)), (1, .int y1), (3, .int y3)] [0, 1, 3] rfl ?_
        exact x_X12_paidFor_33 C z ((F_X12_paidFor_4 n)) ih y1 y3 y2 0 σ4 hF
      · refine x_aload_n C 0 0 dX12_paidFor_23 rfl rfl ?_
        refine x_get C 0 dX12_paidFor_24 fl_X12_98 (RW_o K ad rest σ4) rfl ?_
        refine x_iload_n C 3 3 dX12_paidFor_27 rfl rfl ?_
        refine x_iald C 19 dX12_paidFor_28 (RW_a40 K ad rest σ4) hF (fun v6 hF => ?_)
        refine x_goto C 33 dX12_paidFor_29 (by decide) ?_
        refine x_loc [(0, .ref (ad 0)), (1, .int y1), (3, .int y3)] [0, 1, 3] rfl ?_
        exact x_X12_paidFor_33 C z ((F_X12_paidFor_4 n)) ih y1 y3 y2 v6 σ4 hF
set_option maxHeartbeats 4000000 in
set_option maxRecDepth 100000 in
theorem c_X12_paidFor (l : Launch) (D : va_G) (K : Nat → ClassId) (ad : Nat → Nat) (rest : va_W) (a1 : Int32) (σ : xS) (z : Int32 × xS) (hF : F_X12_paidFor a1 σ = some z) : CI l D K yX12_paidFor cX12_paidFor 4 (some .int) 1 21 [.ref (ad 0), .int a1] (RW K ad rest σ) z.1 (RW K ad rest z.2) := by
  refine x_enterI [(0, .ref (ad 0)), (1, .int a1)] pnX12 (Nat.le_of_ble_eq_true rfl) rfl ?_
  intro p e s m args below meth c A C
  unfold F_X12_paidFor at hF
  refine x_iconst C 0 dX12_paidFor_0 (by decide +kernel) ?_
  refine x_topI hF (fun x1 hF => ?_)
  refine x_istore_n C [(2, .int x1), (0, .ref (ad 0)), (1, .int a1)] dX12_paidFor_1 rfl (by decide) rfl ?_
  refine x_iconst C 0 dX12_paidFor_2 (by decide +kernel) ?_
  refine x_topI hF (fun x2 hF => ?_)
  refine x_istore_n C [(3, .int x2), (2, .int x1), (0, .ref (ad 0)), (1, .int a1)] dX12_paidFor_3 rfl (by decide) rfl ?_
  refine x_loc [(0, .ref (ad 0)), (1, .int a1), (2, .int x1), (3, .int x2)] [2, 3, 1, 0] rfl ?_
  exact x_X12_paidFor_4 C z FU a1 x1 x2 σ hF
theorem dX12_dealer_0 : decode cX12_dealer 0 = .ok (.aload_n 0, 1) := by decide +kernel
theorem dX12_dealer_1 : decode cX12_dealer 1 = .ok (.iconst 0, 1) := by decide +kernel
theorem dX12_dealer_2 : decode cX12_dealer 2 = .ok (.putfield 107, 3) := by decide +kernel
theorem dX12_dealer_5 : decode cX12_dealer 5 = .ok (.iload_n 1, 1) := by decide +kernel
theorem dX12_dealer_6 : decode cX12_dealer 6 = .ok (.i2l, 1) := by decide +kernel
theorem dX12_dealer_7 : decode cX12_dealer 7 = .ok (.lconst 0, 1) := by decide +kernel
theorem dX12_dealer_8 : decode cX12_dealer 8 = .ok (.lconst 1, 1) := by decide +kernel
theorem dX12_dealer_9 : decode cX12_dealer 9 = .ok (.invokestatic 117, 3) := by decide +kernel
theorem dX12_dealer_12 : decode cX12_dealer 12 = .ok (.ifCond .ne 5, 3) := by decide +kernel
theorem dX12_dealer_15 : decode cX12_dealer 15 = .ok (.iconst (-1), 1) := by decide +kernel
theorem dX12_dealer_16 : decode cX12_dealer 16 = .ok (.ireturn, 1) := by decide +kernel
theorem dX12_dealer_17 : decode cX12_dealer 17 = .ok (.aload_n 0, 1) := by decide +kernel
theorem dX12_dealer_18 : decode cX12_dealer 18 = .ok (.invokevirtual 424, 3) := by decide +kernel
theorem dX12_dealer_21 : decode cX12_dealer 21 = .ok (.aload_n 0, 1) := by decide +kernel
theorem dX12_dealer_22 : decode cX12_dealer 22 = .ok (.invokevirtual 427, 3) := by decide +kernel
theorem dX12_dealer_25 : decode cX12_dealer 25 = .ok (.istore_n 2, 1) := by decide +kernel
theorem dX12_dealer_26 : decode cX12_dealer 26 = .ok (.iload_n 1, 1) := by decide +kernel
theorem dX12_dealer_27 : decode cX12_dealer 27 = .ok (.ifCond .ne 7, 3) := by decide +kernel
theorem dX12_dealer_30 : decode cX12_dealer 30 = .ok (.iload_n 2, 1) := by decide +kernel
theorem dX12_dealer_31 : decode cX12_dealer 31 = .ok (.goto 8, 3) := by decide +kernel
theorem dX12_dealer_34 : decode cX12_dealer 34 = .ok (.aload_n 0, 1) := by decide +kernel
theorem dX12_dealer_35 : decode cX12_dealer 35 = .ok (.iload_n 2, 1) := by decide +kernel
theorem dX12_dealer_36 : decode cX12_dealer 36 = .ok (.invokevirtual 430, 3) := by decide +kernel
theorem dX12_dealer_39 : decode cX12_dealer 39 = .ok (.ireturn, 1) := by decide +kernel
set_option maxHeartbeats 4000000 in
set_option maxRecDepth 100000 in
theorem c_X12_dealer (l : Launch) (D : va_G) (K : Nat → ClassId) (ad : Nat → Nat) (rest : va_W) (a1 : Int32) (σ : xS) (z : Int32 × xS) (hF : F_X12_dealer a1 σ = some z) : CI l D K yX12_dealer cX12_dealer 3 (some .int) 6 150 [.ref (ad 0), .int a1] (RW K ad rest σ) z.1 (RW K ad rest z.2) := by
  refine x_enterI [(0, .ref (ad 0)), (1, .int a1)] pnX12 (Nat.le_of_ble_eq_true rfl) rfl ?_
  intro p e s m args below meth c A C
  unfold F_X12_dealer at hF
  refine x_aload_n C 0 0 dX12_dealer_0 rfl rfl ?_
  refine x_iconst C 0 dX12_dealer_1 (by decide +kernel) ?_
  refine x_put C 0 dX12_dealer_2 fl_X12_107 fm_X12_0 rfl rfl (RW_o K ad rest σ) (Nat.le_of_ble_eq_true rfl) (RW_s0 K ad rest σ _) ?_
  refine x_st (wf := RW K ad rest) hF (fun σ1 hF => ?_)
  refine x_iload_n C 1 1 dX12_dealer_5 rfl rfl ?_
  refine x_i2l C dX12_dealer_6 ?_
  refine x_lconst C 0 dX12_dealer_7 (by decide +kernel) ?_
  refine x_lconst C 1 dX12_dealer_8 (by decide +kernel) ?_
  refine x_callSI C (wf := RW K ad rest) (As := [.long (a1.toInt64), .long 0, .long 1]) (rest := []) dX12_dealer_9 ml_X12_117 rfl rfl (Nat.le_of_ble_eq_true rfl) ⟨Nat.le_of_ble_eq_true rfl, Nat.le_of_ble_eq_true rfl⟩ ⟨Nat.zero_le _, Nat.zero_le _⟩ (fun q9 hq9 => c_X12_in l D K ad rest (a1.toInt64) 0 1 σ1 q9 hq9) hF (fun v3 σ2 hF => ?_)
  refine x_if_ne C 17 dX12_dealer_12 (by decide) hF (fun hF => ?_) (fun hF => ?_)
  · refine x_aload_n C 0 0 dX12_dealer_17 rfl rfl ?_
    refine x_callVV C (wf := RW K ad rest) (As := []) (rest := []) dX12_dealer_18 ml_X12_424 rfl rfl (Nat.le_of_ble_eq_true rfl) 0 (RW_o K ad rest σ2) rfl ⟨Nat.le_of_ble_eq_true rfl, Nat.le_of_ble_eq_true rfl⟩ ⟨Nat.zero_le _, Nat.zero_le _⟩ (fun q9 hq9 => c_X12_asPriced l D K ad rest σ2 q9 hq9) hF (fun _ σ4 hF => ?_)
    refine x_aload_n C 0 0 dX12_dealer_21 rfl rfl ?_
    refine x_callVI C (wf := RW K ad rest) (As := []) (rest := []) dX12_dealer_22 ml_X12_427 rfl rfl (Nat.le_of_ble_eq_true rfl) 0 (RW_o K ad rest σ4) rfl ⟨Nat.le_of_ble_eq_true rfl, Nat.le_of_ble_eq_true rfl⟩ ⟨Nat.zero_le _, Nat.zero_le _⟩ (fun q9 hq9 => c_X12_taken l D K ad rest σ4 q9 hq9) hF (fun v6 σ5 hF => ?_)
    refine x_istore_n C [(2, .int v6), (0, .ref (ad 0)), (1, .int a1)] dX12_dealer_25 rfl (by decide) rfl ?_
    refine x_iload_n C 2 1 dX12_dealer_26 rfl rfl ?_
    refine x_if_ne C 34 dX12_dealer_27 (by decide) hF (fun hF => ?_) (fun hF => ?_)
    · refine x_aload_n C 1 0 dX12_dealer_34 rfl rfl ?_
      refine x_iload_n C 0 2 dX12_dealer_35 rfl rfl ?_
      refine x_callVI C (wf := RW K ad rest) (As := [.int v6]) (rest := []) dX12_dealer_36 ml_X12_430 rfl rfl (Nat.le_of_ble_eq_true rfl) 0 (RW_o K ad rest σ5) rfl ⟨Nat.le_of_ble_eq_true rfl, Nat.le_of_ble_eq_true rfl⟩ ⟨Nat.zero_le _, Nat.zero_le _⟩ (fun q9 hq9 => c_X12_paidFor l D K ad rest v6 σ5 q9 hq9) hF (fun v8 σ7 hF => ?_)
      exact x_iret C dX12_dealer_39 rfl (congrArg Prod.fst (Option.some.inj hF)) (congrArg (fun q9 : Int32 × xS => RW K ad rest q9.2) (Option.some.inj hF))
    · refine x_iload_n C 0 2 dX12_dealer_30 rfl rfl ?_
      refine x_goto C 39 dX12_dealer_31 (by decide) ?_
      exact x_iret C dX12_dealer_39 rfl (congrArg Prod.fst (Option.some.inj hF)) (congrArg (fun q9 : Int32 × xS => RW K ad rest q9.2) (Option.some.inj hF))
  · refine x_iconst C (-1) dX12_dealer_15 (by decide +kernel) ?_
    exact x_iret C dX12_dealer_16 rfl (congrArg Prod.fst (Option.some.inj hF)) (congrArg (fun q9 : Int32 × xS => RW K ad rest q9.2) (Option.some.inj hF))
theorem dX12_allBring_0 : decode cX12_allBring 0 = .ok (.aload_n 0, 1) := by decide +kernel
theorem dX12_allBring_1 : decode cX12_allBring 1 = .ok (.invokevirtual 427, 3) := by decide +kernel
theorem dX12_allBring_4 : decode cX12_allBring 4 = .ok (.istore_n 1, 1) := by decide +kernel
theorem dX12_allBring_5 : decode cX12_allBring 5 = .ok (.bipush 100, 2) := by decide +kernel
theorem dX12_allBring_7 : decode cX12_allBring 7 = .ok (.aload_n 0, 1) := by decide +kernel
theorem dX12_allBring_8 : decode cX12_allBring 8 = .ok (.iload_n 1, 1) := by decide +kernel
theorem dX12_allBring_9 : decode cX12_allBring 9 = .ok (.invokevirtual 430, 3) := by decide +kernel
theorem dX12_allBring_12 : decode cX12_allBring 12 = .ok (.imul, 1) := by decide +kernel
theorem dX12_allBring_13 : decode cX12_allBring 13 = .ok (.istore_n 2, 1) := by decide +kernel
theorem dX12_allBring_14 : decode cX12_allBring 14 = .ok (.iconst 0, 1) := by decide +kernel
theorem dX12_allBring_15 : decode cX12_allBring 15 = .ok (.istore_n 3, 1) := by decide +kernel
theorem dX12_allBring_16 : decode cX12_allBring 16 = .ok (.iload_n 3, 1) := by decide +kernel
theorem dX12_allBring_17 : decode cX12_allBring 17 = .ok (.aload_n 0, 1) := by decide +kernel
theorem dX12_allBring_18 : decode cX12_allBring 18 = .ok (.getfield 13, 3) := by decide +kernel
theorem dX12_allBring_21 : decode cX12_allBring 21 = .ok (.iconst 0, 1) := by decide +kernel
theorem dX12_allBring_22 : decode cX12_allBring 22 = .ok (.iaload, 1) := by decide +kernel
theorem dX12_allBring_23 : decode cX12_allBring 23 = .ok (.if_icmp .ge 47, 3) := by decide +kernel
theorem dX12_allBring_26 : decode cX12_allBring 26 = .ok (.aload_n 0, 1) := by decide +kernel
theorem dX12_allBring_27 : decode cX12_allBring 27 = .ok (.iload_n 3, 1) := by decide +kernel
theorem dX12_allBring_28 : decode cX12_allBring 28 = .ok (.invokevirtual 348, 3) := by decide +kernel
theorem dX12_allBring_31 : decode cX12_allBring 31 = .ok (.iload_n 2, 1) := by decide +kernel
theorem dX12_allBring_32 : decode cX12_allBring 32 = .ok (.iload_n 1, 1) := by decide +kernel
theorem dX12_allBring_33 : decode cX12_allBring 33 = .ok (.iload_n 3, 1) := by decide +kernel
theorem dX12_allBring_34 : decode cX12_allBring 34 = .ok (.invokestatic 397, 3) := by decide +kernel
theorem dX12_allBring_37 : decode cX12_allBring 37 = .ok (.ifCond .eq 7, 3) := by decide +kernel
theorem dX12_allBring_40 : decode cX12_allBring 40 = .ok (.iconst 0, 1) := by decide +kernel
theorem dX12_allBring_41 : decode cX12_allBring 41 = .ok (.goto 21, 3) := by decide +kernel
theorem dX12_allBring_44 : decode cX12_allBring 44 = .ok (.aload_n 0, 1) := by decide +kernel
theorem dX12_allBring_45 : decode cX12_allBring 45 = .ok (.getfield 98, 3) := by decide +kernel
theorem dX12_allBring_48 : decode cX12_allBring 48 = .ok (.iload_n 3, 1) := by decide +kernel
theorem dX12_allBring_49 : decode cX12_allBring 49 = .ok (.iaload, 1) := by decide +kernel
theorem dX12_allBring_50 : decode cX12_allBring 50 = .ok (.aload_n 0, 1) := by decide +kernel
theorem dX12_allBring_51 : decode cX12_allBring 51 = .ok (.iload_n 3, 1) := by decide +kernel
theorem dX12_allBring_52 : decode cX12_allBring 52 = .ok (.aload_n 0, 1) := by decide +kernel
theorem dX12_allBring_53 : decode cX12_allBring 53 = .ok (.getfield 98, 3) := by decide +kernel
theorem dX12_allBring_56 : decode cX12_allBring 56 = .ok (.iload_n 3, 1) := by decide +kernel
theorem dX12_allBring_57 : decode cX12_allBring 57 = .ok (.iaload, 1) := by decide +kernel
theorem dX12_allBring_58 : decode cX12_allBring 58 = .ok (.invokevirtual 351, 3) := by decide +kernel
theorem dX12_allBring_61 : decode cX12_allBring 61 = .ok (.imul, 1) := by decide +kernel
theorem dX12_allBring_62 : decode cX12_allBring 62 = .ok (.iadd, 1) := by decide +kernel
theorem dX12_allBring_63 : decode cX12_allBring 63 = .ok (.istore_n 2, 1) := by decide +kernel
theorem dX12_allBring_64 : decode cX12_allBring 64 = .ok (.iinc 3 1, 3) := by decide +kernel
theorem dX12_allBring_67 : decode cX12_allBring 67 = .ok (.goto (-51), 3) := by decide +kernel
theorem dX12_allBring_70 : decode cX12_allBring 70 = .ok (.iload_n 2, 1) := by decide +kernel
theorem dX12_allBring_71 : decode cX12_allBring 71 = .ok (.ireturn, 1) := by decide +kernel
set_option maxHeartbeats 4000000 in
set_option maxRecDepth 100000 in
theorem x_X12_allBring_62 {p : Program} {l : Launch} {e : Env} {s : State} {m : MethodId} {args : Array Value} {below : List Frame} {meth : Method} {c : Code} {D : va_G} {K : Nat → ClassId} {A : Nat → Prop} {ad : Nat → Nat} {rest : va_W} (C : xC p s m args meth c D K A RX12 cX12_allBring 4 (some .int)) (z : Int32 × xS) (k_16 : Int32 → Int32 → Int32 → xS → Option (Int32 × xS)) (H_16 : ∀ (y1 : Int32) (y2 : Int32) (y3 : Int32) (σ : xS), k_16 y1 y2 y3 σ = some z → X p l e (xR 6 150) s m args below meth c D A 4 (xQi below D K A args s z.1 (RW K ad rest z.2)) 0 0 16 [(0, .ref (ad 0)), (1, .int y1), (2, .int y2), (3, .int y3)] [] (RW K ad rest σ)) : ∀ (y1 : Int32) (y3 : Int32) (t0 : Int32) (t1 : Int32) (σ : xS), F_X12_allBring_62 k_16 y1 y3 t0 t1 σ = some z → X p l e (xR 6 150) s m args below meth c D A 4 (xQi below D K A args s z.1 (RW K ad rest z.2)) 0 0 62 [(0, .ref (ad 0)), (1, .int y1), (3, .int y3)] [.int t1, .int t0] (RW K ad rest σ) := by
  intro y1 y3 t0 t1 σ hF
  unfold F_X12_allBring_62 at hF
  refine x_iadd C dX12_allBring_62 ?_
  refine x_topI hF (fun x15 hF => ?_)
  refine x_istore_n C [(2, .int x15), (0, .ref (ad 0)), (1, .int y1), (3, .int y3)] dX12_allBring_63 rfl (by decide) rfl ?_
  refine x_iincN C 1 3 (fun x16 => [(3, .int x16), (2, .int x15), (0, .ref (ad 0)), (1, .int y1)]) dX12_allBring_64 rfl (by decide +kernel) (by decide) (fun _ => rfl) hF (fun x16 hF => ?_)
  refine x_goto C 16 dX12_allBring_67 (by decide) ?_
  refine x_loc [(0, .ref (ad 0)), (1, .int y1), (2, .int x15), (3, .int x16)] [2, 3, 1, 0] rfl ?_
  exact H_16 y1 x15 x16 σ hF
set_option maxHeartbeats 4000000 in
set_option maxRecDepth 100000 in
theorem x_X12_allBring_16 {p : Program} {l : Launch} {e : Env} {s : State} {m : MethodId} {args : Array Value} {below : List Frame} {meth : Method} {c : Code} {D : va_G} {K : Nat → ClassId} {A : Nat → Prop} {ad : Nat → Nat} {rest : va_W} (C : xC p s m args meth c D K A RX12 cX12_allBring 4 (some .int)) (z : Int32 × xS) : ∀ (n : Nat) (y1 : Int32) (y2 : Int32) (y3 : Int32) (σ : xS), F_X12_allBring_16  n y1 y2 y3 σ = some z → X p l e (xR 6 150) s m args below meth c D A 4 (xQi below D K A args s z.1 (RW K ad rest z.2)) 0 0 16 [(0, .ref (ad 0)), (1, .int y1), (2, .int y2), (3, .int y3)] [] (RW K ad rest σ) := by
  intro n
  induction n with
  | zero =>
    intro y1 y2 y3 σ hF
    cases hF
  | succ n ih =>
    intro y1 y2 y3 σ hF
    rw [F_X12_allBring_16] at hF
    refine x_iload_n C 3 3 dX12_allBring_16 rfl rfl ?_
    refine x_aload_n C 0 0 dX12_allBring_17 rfl rfl ?_
    refine x_get C 0 dX12_allBring_18 fl_X12_13 (RW_o K ad rest σ) rfl ?_
    refine x_iconst C 0 dX12_allBring_21 (by decide +kernel) ?_
    refine x_iald C 2 dX12_allBring_22 (RW_a3 K ad rest σ) hF (fun v7 hF => ?_)
    refine x_icmp_ge C 70 dX12_allBring_23 (by decide) hF (fun hF => ?_) (fun hF => ?_)
    · refine x_iload_n C 2 2 dX12_allBring_70 rfl rfl ?_
      exact x_iret C dX12_allBring_71 rfl (congrArg Prod.fst (Option.some.inj hF)) (congrArg (fun q9 : Int32 × xS => RW K ad rest q9.2) (Option.some.inj hF))
    · refine x_aload_n C 0 0 dX12_allBring_26 rfl rfl ?_
      refine x_iload_n C 3 3 dX12_allBring_27 rfl rfl ?_
      refine x_callVV C (wf := RW K ad rest) (As := [.int y3]) (rest := []) dX12_allBring_28 ml_X12_348 rfl rfl (Nat.le_of_ble_eq_true rfl) 0 (RW_o K ad rest σ) rfl ⟨Nat.le_of_ble_eq_true rfl, Nat.le_of_ble_eq_true rfl⟩ ⟨Nat.zero_le _, Nat.zero_le _⟩ (fun q9 hq9 => c_X12_asTold l D K ad rest y3 σ q9 hq9) hF (fun _ σ8 hF => ?_)
      refine x_iload_n C 2 2 dX12_allBring_31 rfl rfl ?_
      refine x_iload_n C 1 1 dX12_allBring_32 rfl rfl ?_
      refine x_iload_n C 3 3 dX12_allBring_33 rfl rfl ?_
      refine x_callSI C (wf := RW K ad rest) (As := [.int y1, .int y3]) (rest := [.int y2]) dX12_allBring_34 ml_X12_397 rfl rfl (Nat.le_of_ble_eq_true rfl) ⟨Nat.le_of_ble_eq_true rfl, Nat.le_of_ble_eq_true rfl⟩ ⟨Nat.zero_le _, Nat.zero_le _⟩ (fun q9 hq9 => c_X12_is l D K ad rest y1 y3 σ8 q9 hq9) hF (fun v10 σ9 hF => ?_)
      refine x_if_eq C 44 dX12_allBring_37 (by decide) hF (fun hF => ?_) (fun hF => ?_)
      · refine x_aload_n C 0 0 dX12_allBring_44 rfl rfl ?_
        refine x_get C 0 dX12_allBring_45 fl_X12_98 (RW_o K ad rest σ9) rfl ?_
        refine x_iload_n C 3 3 dX12_allBring_48 rfl rfl ?_
        refine x_iald C 19 dX12_allBring_49 (RW_a40 K ad rest σ9) hF (fun v11 hF => ?_)
        refine x_aload_n C 0 0 dX12_allBring_50 rfl rfl ?_
        refine x_iload_n C 3 3 dX12_allBring_51 rfl rfl ?_
        refine x_aload_n C 0 0 dX12_allBring_52 rfl rfl ?_
        refine x_get C 0 dX12_allBring_53 fl_X12_98 (RW_o K ad rest σ9) rfl ?_
        refine x_iload_n C 3 3 dX12_allBring_56 rfl rfl ?_
        refine x_iald C 19 dX12_allBring_57 (RW_a40 K ad rest σ9) hF (fun v12 hF => ?_)
        refine x_callVI C (wf := RW K ad rest) (As := [.int y3, .int v12]) (rest := [.int v11, .int y2]) dX12_allBring_58 ml_X12_351 rfl rfl (Nat.le_of_ble_eq_true rfl) 0 (RW_o K ad rest σ9) rfl ⟨Nat.le_of_ble_eq_true rfl, Nat.le_of_ble_eq_true rfl⟩ ⟨Nat.zero_le _, Nat.zero_le _⟩ (fun q9 hq9 => c_X12_sells l D K ad rest y3 v12 σ9 q9 hq9) hF (fun v14 σ13 hF => ?_)
        refine x_imul C dX12_allBring_61 ?_
        refine x_loc [(0, .ref (ad 0)), (1, .int y1), (3, .int y3)] [0, 1, 3] rfl ?_
        exact x_X12_allBring_62 C z ((F_X12_allBring_16 n)) ih y1 y3 y2 (v11 * v14) σ13 hF
      · refine x_iconst C 0 dX12_allBring_40 (by decide +kernel) ?_
        refine x_goto C 62 dX12_allBring_41 (by decide) ?_
        refine x_loc [(0, .ref (ad 0)), (1, .int y1), (3, .int y3)] [0, 1, 3] rfl ?_
        exact x_X12_allBring_62 C z ((F_X12_allBring_16 n)) ih y1 y3 y2 0 σ9 hF
set_option maxHeartbeats 4000000 in
set_option maxRecDepth 100000 in
theorem c_X12_allBring (l : Launch) (D : va_G) (K : Nat → ClassId) (ad : Nat → Nat) (rest : va_W)  (σ : xS) (z : Int32 × xS) (hF : F_X12_allBring σ = some z) : CI l D K yX12_allBring cX12_allBring 4 (some .int) 6 150 [.ref (ad 0)] (RW K ad rest σ) z.1 (RW K ad rest z.2) := by
  refine x_enterI [(0, .ref (ad 0))] pnX12 (Nat.le_of_ble_eq_true rfl) rfl ?_
  intro p e s m args below meth c A C
  unfold F_X12_allBring at hF
  refine x_aload_n C 0 0 dX12_allBring_0 rfl rfl ?_
  refine x_callVI C (wf := RW K ad rest) (As := []) (rest := []) dX12_allBring_1 ml_X12_427 rfl rfl (Nat.le_of_ble_eq_true rfl) 0 (RW_o K ad rest σ) rfl ⟨Nat.le_of_ble_eq_true rfl, Nat.le_of_ble_eq_true rfl⟩ ⟨Nat.zero_le _, Nat.zero_le _⟩ (fun q9 hq9 => c_X12_taken l D K ad rest σ q9 hq9) hF (fun v2 σ1 hF => ?_)
  refine x_istore_n C [(1, .int v2), (0, .ref (ad 0))] dX12_allBring_4 rfl (by decide) rfl ?_
  refine x_bipush C 100 dX12_allBring_5 (by decide +kernel) ?_
  refine x_aload_n C 1 0 dX12_allBring_7 rfl rfl ?_
  refine x_iload_n C 0 1 dX12_allBring_8 rfl rfl ?_
  refine x_callVI C (wf := RW K ad rest) (As := [.int v2]) (rest := [.int 100]) dX12_allBring_9 ml_X12_430 rfl rfl (Nat.le_of_ble_eq_true rfl) 0 (RW_o K ad rest σ1) rfl ⟨Nat.le_of_ble_eq_true rfl, Nat.le_of_ble_eq_true rfl⟩ ⟨Nat.zero_le _, Nat.zero_le _⟩ (fun q9 hq9 => c_X12_paidFor l D K ad rest v2 σ1 q9 hq9) hF (fun v4 σ3 hF => ?_)
  refine x_imul C dX12_allBring_12 ?_
  refine x_topI hF (fun x5 hF => ?_)
  refine x_istore_n C [(2, .int x5), (1, .int v2), (0, .ref (ad 0))] dX12_allBring_13 rfl (by decide) rfl ?_
  refine x_iconst C 0 dX12_allBring_14 (by decide +kernel) ?_
  refine x_topI hF (fun x6 hF => ?_)
  refine x_istore_n C [(3, .int x6), (2, .int x5), (1, .int v2), (0, .ref (ad 0))] dX12_allBring_15 rfl (by decide) rfl ?_
  refine x_loc [(0, .ref (ad 0)), (1, .int v2), (2, .int x5), (3, .int x6)] [3, 2, 1, 0] rfl ?_
  exact x_X12_allBring_16 C z FU v2 x5 x6 σ3 hF
theorem dX12_brings_0 : decode cX12_brings 0 = .ok (.aload_n 0, 1) := by decide +kernel
theorem dX12_brings_1 : decode cX12_brings 1 = .ok (.iconst 0, 1) := by decide +kernel
theorem dX12_brings_2 : decode cX12_brings 2 = .ok (.putfield 107, 3) := by decide +kernel
theorem dX12_brings_5 : decode cX12_brings 5 = .ok (.aload_n 0, 1) := by decide +kernel
theorem dX12_brings_6 : decode cX12_brings 6 = .ok (.invokevirtual 424, 3) := by decide +kernel
theorem dX12_brings_9 : decode cX12_brings 9 = .ok (.aload_n 0, 1) := by decide +kernel
theorem dX12_brings_10 : decode cX12_brings 10 = .ok (.invokevirtual 433, 3) := by decide +kernel
theorem dX12_brings_13 : decode cX12_brings 13 = .ok (.ireturn, 1) := by decide +kernel
set_option maxHeartbeats 4000000 in
set_option maxRecDepth 100000 in
theorem c_X12_brings (l : Launch) (D : va_G) (K : Nat → ClassId) (ad : Nat → Nat) (rest : va_W)  (σ : xS) (z : Int32 × xS) (hF : F_X12_brings σ = some z) : CI l D K yX12_brings cX12_brings 1 (some .int) 7 173 [.ref (ad 0)] (RW K ad rest σ) z.1 (RW K ad rest z.2) := by
  refine x_enterI [(0, .ref (ad 0))] pnX12 (Nat.le_of_ble_eq_true rfl) rfl ?_
  intro p e s m args below meth c A C
  unfold F_X12_brings at hF
  refine x_aload_n C 0 0 dX12_brings_0 rfl rfl ?_
  refine x_iconst C 0 dX12_brings_1 (by decide +kernel) ?_
  refine x_put C 0 dX12_brings_2 fl_X12_107 fm_X12_0 rfl rfl (RW_o K ad rest σ) (Nat.le_of_ble_eq_true rfl) (RW_s0 K ad rest σ _) ?_
  refine x_st (wf := RW K ad rest) hF (fun σ1 hF => ?_)
  refine x_aload_n C 0 0 dX12_brings_5 rfl rfl ?_
  refine x_callVV C (wf := RW K ad rest) (As := []) (rest := []) dX12_brings_6 ml_X12_424 rfl rfl (Nat.le_of_ble_eq_true rfl) 0 (RW_o K ad rest σ1) rfl ⟨Nat.le_of_ble_eq_true rfl, Nat.le_of_ble_eq_true rfl⟩ ⟨Nat.zero_le _, Nat.zero_le _⟩ (fun q9 hq9 => c_X12_asPriced l D K ad rest σ1 q9 hq9) hF (fun _ σ2 hF => ?_)
  refine x_aload_n C 0 0 dX12_brings_9 rfl rfl ?_
  refine x_callVI C (wf := RW K ad rest) (As := []) (rest := []) dX12_brings_10 ml_X12_433 rfl rfl (Nat.le_of_ble_eq_true rfl) 0 (RW_o K ad rest σ2) rfl ⟨Nat.le_of_ble_eq_true rfl, Nat.le_of_ble_eq_true rfl⟩ ⟨Nat.zero_le _, Nat.zero_le _⟩ (fun q9 hq9 => c_X12_allBring l D K ad rest σ2 q9 hq9) hF (fun v4 σ3 hF => ?_)
  exact x_iret C dX12_brings_13 rfl (congrArg Prod.fst (Option.some.inj hF)) (congrArg (fun q9 : Int32 × xS => RW K ad rest q9.2) (Option.some.inj hF))
theorem dX12_bait_0 : decode cX12_bait 0 = .ok (.aload_n 0, 1) := by decide +kernel
theorem dX12_bait_1 : decode cX12_bait 1 = .ok (.iconst 0, 1) := by decide +kernel
theorem dX12_bait_2 : decode cX12_bait 2 = .ok (.putfield 107, 3) := by decide +kernel
theorem dX12_bait_5 : decode cX12_bait 5 = .ok (.aload_n 0, 1) := by decide +kernel
theorem dX12_bait_6 : decode cX12_bait 6 = .ok (.iload_n 1, 1) := by decide +kernel
theorem dX12_bait_7 : decode cX12_bait 7 = .ok (.invokevirtual 140, 3) := by decide +kernel
theorem dX12_bait_10 : decode cX12_bait 10 = .ok (.ifCond .eq 28, 3) := by decide +kernel
theorem dX12_bait_13 : decode cX12_bait 13 = .ok (.aload_n 0, 1) := by decide +kernel
theorem dX12_bait_14 : decode cX12_bait 14 = .ok (.iload_n 2, 1) := by decide +kernel
theorem dX12_bait_15 : decode cX12_bait 15 = .ok (.invokevirtual 140, 3) := by decide +kernel
theorem dX12_bait_18 : decode cX12_bait 18 = .ok (.ifCond .eq 20, 3) := by decide +kernel
theorem dX12_bait_21 : decode cX12_bait 21 = .ok (.iload_n 1, 1) := by decide +kernel
theorem dX12_bait_22 : decode cX12_bait 22 = .ok (.iload_n 2, 1) := by decide +kernel
theorem dX12_bait_23 : decode cX12_bait 23 = .ok (.if_icmp .eq 15, 3) := by decide +kernel
theorem dX12_bait_26 : decode cX12_bait 26 = .ok (.iload_n 3, 1) := by decide +kernel
theorem dX12_bait_27 : decode cX12_bait 27 = .ok (.i2l, 1) := by decide +kernel
theorem dX12_bait_28 : decode cX12_bait 28 = .ok (.lconst 0, 1) := by decide +kernel
theorem dX12_bait_29 : decode cX12_bait 29 = .ok (.ldc2_w 130, 3) := by decide +kernel
theorem dX12_bait_32 : decode cX12_bait 32 = .ok (.invokestatic 117, 3) := by decide +kernel
theorem dX12_bait_35 : decode cX12_bait 35 = .ok (.ifCond .ne 5, 3) := by decide +kernel
theorem dX12_bait_38 : decode cX12_bait 38 = .ok (.iconst (-1), 1) := by decide +kernel
theorem dX12_bait_39 : decode cX12_bait 39 = .ok (.ireturn, 1) := by decide +kernel
theorem dX12_bait_40 : decode cX12_bait 40 = .ok (.aload_n 0, 1) := by decide +kernel
theorem dX12_bait_41 : decode cX12_bait 41 = .ok (.invokevirtual 424, 3) := by decide +kernel
theorem dX12_bait_44 : decode cX12_bait 44 = .ok (.iconst (-1), 1) := by decide +kernel
theorem dX12_bait_45 : decode cX12_bait 45 = .ok (.istore 4, 2) := by decide +kernel
theorem dX12_bait_47 : decode cX12_bait 47 = .ok (.iconst (-1), 1) := by decide +kernel
theorem dX12_bait_48 : decode cX12_bait 48 = .ok (.istore 5, 2) := by decide +kernel
theorem dX12_bait_50 : decode cX12_bait 50 = .ok (.iconst 0, 1) := by decide +kernel
theorem dX12_bait_51 : decode cX12_bait 51 = .ok (.istore 6, 2) := by decide +kernel
theorem dX12_bait_53 : decode cX12_bait 53 = .ok (.iload 6, 2) := by decide +kernel
theorem dX12_bait_55 : decode cX12_bait 55 = .ok (.sipush 441, 3) := by decide +kernel
theorem dX12_bait_58 : decode cX12_bait 58 = .ok (.if_icmp .ge 85, 3) := by decide +kernel
theorem dX12_bait_61 : decode cX12_bait 61 = .ok (.aload_n 0, 1) := by decide +kernel
theorem dX12_bait_62 : decode cX12_bait 62 = .ok (.getfield 98, 3) := by decide +kernel
theorem dX12_bait_65 : decode cX12_bait 65 = .ok (.iload_n 1, 1) := by decide +kernel
theorem dX12_bait_66 : decode cX12_bait 66 = .ok (.iload 6, 2) := by decide +kernel
theorem dX12_bait_68 : decode cX12_bait 68 = .ok (.bipush 21, 2) := by decide +kernel
theorem dX12_bait_70 : decode cX12_bait 70 = .ok (.idiv, 1) := by decide +kernel
theorem dX12_bait_71 : decode cX12_bait 71 = .ok (.aload_n 0, 1) := by decide +kernel
theorem dX12_bait_72 : decode cX12_bait 72 = .ok (.getfield 13, 3) := by decide +kernel
theorem dX12_bait_75 : decode cX12_bait 75 = .ok (.bipush 12, 2) := by decide +kernel
theorem dX12_bait_77 : decode cX12_bait 77 = .ok (.iaload, 1) := by decide +kernel
theorem dX12_bait_78 : decode cX12_bait 78 = .ok (.imul, 1) := by decide +kernel
theorem dX12_bait_79 : decode cX12_bait 79 = .ok (.iastore, 1) := by decide +kernel
theorem dX12_bait_80 : decode cX12_bait 80 = .ok (.aload_n 0, 1) := by decide +kernel
theorem dX12_bait_81 : decode cX12_bait 81 = .ok (.getfield 98, 3) := by decide +kernel
theorem dX12_bait_84 : decode cX12_bait 84 = .ok (.iload_n 2, 1) := by decide +kernel
theorem dX12_bait_85 : decode cX12_bait 85 = .ok (.iload 6, 2) := by decide +kernel
theorem dX12_bait_87 : decode cX12_bait 87 = .ok (.bipush 21, 2) := by decide +kernel
theorem dX12_bait_89 : decode cX12_bait 89 = .ok (.irem, 1) := by decide +kernel
theorem dX12_bait_90 : decode cX12_bait 90 = .ok (.aload_n 0, 1) := by decide +kernel
theorem dX12_bait_91 : decode cX12_bait 91 = .ok (.getfield 13, 3) := by decide +kernel
theorem dX12_bait_94 : decode cX12_bait 94 = .ok (.bipush 12, 2) := by decide +kernel
theorem dX12_bait_96 : decode cX12_bait 96 = .ok (.iaload, 1) := by decide +kernel
theorem dX12_bait_97 : decode cX12_bait 97 = .ok (.imul, 1) := by decide +kernel
theorem dX12_bait_98 : decode cX12_bait 98 = .ok (.iastore, 1) := by decide +kernel
theorem dX12_bait_99 : decode cX12_bait 99 = .ok (.aload_n 0, 1) := by decide +kernel
theorem dX12_bait_100 : decode cX12_bait 100 = .ok (.invokevirtual 433, 3) := by decide +kernel
theorem dX12_bait_103 : decode cX12_bait 103 = .ok (.istore 7, 2) := by decide +kernel
theorem dX12_bait_105 : decode cX12_bait 105 = .ok (.iload 7, 2) := by decide +kernel
theorem dX12_bait_107 : decode cX12_bait 107 = .ok (.iload 4, 2) := by decide +kernel
theorem dX12_bait_109 : decode cX12_bait 109 = .ok (.if_icmp .le 8, 3) := by decide +kernel
theorem dX12_bait_112 : decode cX12_bait 112 = .ok (.iload 6, 2) := by decide +kernel
theorem dX12_bait_114 : decode cX12_bait 114 = .ok (.goto 5, 3) := by decide +kernel
theorem dX12_bait_117 : decode cX12_bait 117 = .ok (.iload 5, 2) := by decide +kernel
theorem dX12_bait_119 : decode cX12_bait 119 = .ok (.istore 5, 2) := by decide +kernel
theorem dX12_bait_121 : decode cX12_bait 121 = .ok (.iload 7, 2) := by decide +kernel
theorem dX12_bait_123 : decode cX12_bait 123 = .ok (.iload 4, 2) := by decide +kernel
theorem dX12_bait_125 : decode cX12_bait 125 = .ok (.if_icmp .le 8, 3) := by decide +kernel
theorem dX12_bait_128 : decode cX12_bait 128 = .ok (.iload 7, 2) := by decide +kernel
theorem dX12_bait_130 : decode cX12_bait 130 = .ok (.goto 5, 3) := by decide +kernel
theorem dX12_bait_133 : decode cX12_bait 133 = .ok (.iload 4, 2) := by decide +kernel
theorem dX12_bait_135 : decode cX12_bait 135 = .ok (.istore 4, 2) := by decide +kernel
theorem dX12_bait_137 : decode cX12_bait 137 = .ok (.iinc 6 1, 3) := by decide +kernel
theorem dX12_bait_140 : decode cX12_bait 140 = .ok (.goto (-87), 3) := by decide +kernel
theorem dX12_bait_143 : decode cX12_bait 143 = .ok (.iload_n 3, 1) := by decide +kernel
theorem dX12_bait_144 : decode cX12_bait 144 = .ok (.iconst 2, 1) := by decide +kernel
theorem dX12_bait_145 : decode cX12_bait 145 = .ok (.if_icmp .ne 8, 3) := by decide +kernel
theorem dX12_bait_148 : decode cX12_bait 148 = .ok (.iload 4, 2) := by decide +kernel
theorem dX12_bait_150 : decode cX12_bait 150 = .ok (.goto 28, 3) := by decide +kernel
theorem dX12_bait_153 : decode cX12_bait 153 = .ok (.iload_n 3, 1) := by decide +kernel
theorem dX12_bait_154 : decode cX12_bait 154 = .ok (.ifCond .ne 11, 3) := by decide +kernel
theorem dX12_bait_157 : decode cX12_bait 157 = .ok (.iload 5, 2) := by decide +kernel
theorem dX12_bait_159 : decode cX12_bait 159 = .ok (.bipush 21, 2) := by decide +kernel
theorem dX12_bait_161 : decode cX12_bait 161 = .ok (.idiv, 1) := by decide +kernel
theorem dX12_bait_162 : decode cX12_bait 162 = .ok (.goto 8, 3) := by decide +kernel
theorem dX12_bait_165 : decode cX12_bait 165 = .ok (.iload 5, 2) := by decide +kernel
theorem dX12_bait_167 : decode cX12_bait 167 = .ok (.bipush 21, 2) := by decide +kernel
theorem dX12_bait_169 : decode cX12_bait 169 = .ok (.irem, 1) := by decide +kernel
theorem dX12_bait_170 : decode cX12_bait 170 = .ok (.aload_n 0, 1) := by decide +kernel
theorem dX12_bait_171 : decode cX12_bait 171 = .ok (.getfield 13, 3) := by decide +kernel
theorem dX12_bait_174 : decode cX12_bait 174 = .ok (.bipush 12, 2) := by decide +kernel
theorem dX12_bait_176 : decode cX12_bait 176 = .ok (.iaload, 1) := by decide +kernel
theorem dX12_bait_177 : decode cX12_bait 177 = .ok (.imul, 1) := by decide +kernel
theorem dX12_bait_178 : decode cX12_bait 178 = .ok (.ireturn, 1) := by decide +kernel
set_option maxHeartbeats 4000000 in
set_option maxRecDepth 100000 in
theorem x_X12_bait_170 {p : Program} {l : Launch} {e : Env} {s : State} {m : MethodId} {args : Array Value} {below : List Frame} {meth : Method} {c : Code} {D : va_G} {K : Nat → ClassId} {A : Nat → Prop} {ad : Nat → Nat} {rest : va_W} (C : xC p s m args meth c D K A RX12 cX12_bait 8 (some .int)) (z : Int32 × xS) : ∀ (t0 : Int32) (σ : xS), F_X12_bait_170  t0 σ = some z → X p l e (xR 7 173) s m args below meth c D A 8 (xQi below D K A args s z.1 (RW K ad rest z.2)) 0 0 170 [(0, .ref (ad 0))] [.int t0] (RW K ad rest σ) := by
  intro t0 σ hF
  unfold F_X12_bait_170 at hF
  refine x_aload_n C 0 0 dX12_bait_170 rfl rfl ?_
  refine x_get C 0 dX12_bait_171 fl_X12_13 (RW_o K ad rest σ) rfl ?_
  refine x_bipush C 12 dX12_bait_174 (by decide +kernel) ?_
  refine x_iald C 2 dX12_bait_176 (RW_a3 K ad rest σ) hF (fun v18 hF => ?_)
  refine x_imul C dX12_bait_177 ?_
  exact x_iret C dX12_bait_178 rfl (congrArg Prod.fst (Option.some.inj hF)) (congrArg (fun q9 : Int32 × xS => RW K ad rest q9.2) (Option.some.inj hF))
set_option maxHeartbeats 4000000 in
set_option maxRecDepth 100000 in
theorem x_X12_bait_119 {p : Program} {l : Launch} {e : Env} {s : State} {m : MethodId} {args : Array Value} {below : List Frame} {meth : Method} {c : Code} {D : va_G} {K : Nat → ClassId} {A : Nat → Prop} {ad : Nat → Nat} {rest : va_W} (C : xC p s m args meth c D K A RX12 cX12_bait 8 (some .int)) (z : Int32 × xS) (k_53 : Int32 → Int32 → Int32 → Int32 → Int32 → Int32 → xS → Option (Int32 × xS)) (H_53 : ∀ (y1 : Int32) (y2 : Int32) (y3 : Int32) (y4 : Int32) (y5 : Int32) (y6 : Int32) (σ : xS), k_53 y1 y2 y3 y4 y5 y6 σ = some z → X p l e (xR 7 173) s m args below meth c D A 8 (xQi below D K A args s z.1 (RW K ad rest z.2)) 0 0 53 [(0, .ref (ad 0)), (1, .int y1), (2, .int y2), (3, .int y3), (4, .int y4), (5, .int y5), (6, .int y6)] [] (RW K ad rest σ)) : ∀ (y1 : Int32) (y2 : Int32) (y3 : Int32) (y4 : Int32) (y6 : Int32) (y7 : Int32) (t0 : Int32) (σ : xS), F_X12_bait_119 k_53 y1 y2 y3 y4 y6 y7 t0 σ = some z → X p l e (xR 7 173) s m args below meth c D A 8 (xQi below D K A args s z.1 (RW K ad rest z.2)) 0 0 119 [(0, .ref (ad 0)), (1, .int y1), (2, .int y2), (3, .int y3), (4, .int y4), (6, .int y6), (7, .int y7)] [.int t0] (RW K ad rest σ) := by
  intro y1 y2 y3 y4 y6 y7 t0 σ hF
  unfold F_X12_bait_119 at hF
  refine x_istore C [(5, .int t0), (0, .ref (ad 0)), (1, .int y1), (2, .int y2), (3, .int y3), (4, .int y4), (6, .int y6), (7, .int y7)] dX12_bait_119 (by decide) rfl ?_
  refine x_iload C 7 7 dX12_bait_121 rfl ?_
  refine x_iload C 5 4 dX12_bait_123 rfl ?_
  refine x_icmp_le C 133 dX12_bait_125 (by decide) hF (fun hF => ?_) (fun hF => ?_)
  · refine x_iload C 5 4 dX12_bait_133 rfl ?_
    refine x_istore C [(4, .int y4), (5, .int t0), (0, .ref (ad 0)), (1, .int y1), (2, .int y2), (3, .int y3), (6, .int y6), (7, .int y7)] dX12_bait_135 (by decide) rfl ?_
    refine x_iincN C 1 6 (fun x19 => [(6, .int x19), (4, .int y4), (5, .int t0), (0, .ref (ad 0)), (1, .int y1), (2, .int y2), (3, .int y3), (7, .int y7)]) dX12_bait_137 rfl (by decide +kernel) (by decide) (fun _ => rfl) hF (fun x19 hF => ?_)
    refine x_goto C 53 dX12_bait_140 (by decide) ?_
    refine x_loc [(0, .ref (ad 0)), (1, .int y1), (2, .int y2), (3, .int y3), (4, .int y4), (5, .int t0), (6, .int x19)] [3, 4, 5, 6, 1, 2, 0] rfl ?_
    exact H_53 y1 y2 y3 y4 t0 x19 σ hF
  · refine x_iload C 7 7 dX12_bait_128 rfl ?_
    refine x_goto C 135 dX12_bait_130 (by decide) ?_
    refine x_istore C [(4, .int y7), (5, .int t0), (0, .ref (ad 0)), (1, .int y1), (2, .int y2), (3, .int y3), (6, .int y6), (7, .int y7)] dX12_bait_135 (by decide) rfl ?_
    refine x_iincN C 1 6 (fun x20 => [(6, .int x20), (4, .int y7), (5, .int t0), (0, .ref (ad 0)), (1, .int y1), (2, .int y2), (3, .int y3), (7, .int y7)]) dX12_bait_137 rfl (by decide +kernel) (by decide) (fun _ => rfl) hF (fun x20 hF => ?_)
    refine x_goto C 53 dX12_bait_140 (by decide) ?_
    refine x_loc [(0, .ref (ad 0)), (1, .int y1), (2, .int y2), (3, .int y3), (4, .int y7), (5, .int t0), (6, .int x20)] [3, 4, 5, 6, 1, 2, 0] rfl ?_
    exact H_53 y1 y2 y3 y7 t0 x20 σ hF
set_option maxHeartbeats 4000000 in
set_option maxRecDepth 100000 in
theorem x_X12_bait_53 {p : Program} {l : Launch} {e : Env} {s : State} {m : MethodId} {args : Array Value} {below : List Frame} {meth : Method} {c : Code} {D : va_G} {K : Nat → ClassId} {A : Nat → Prop} {ad : Nat → Nat} {rest : va_W} (C : xC p s m args meth c D K A RX12 cX12_bait 8 (some .int)) (z : Int32 × xS) : ∀ (n : Nat) (y1 : Int32) (y2 : Int32) (y3 : Int32) (y4 : Int32) (y5 : Int32) (y6 : Int32) (σ : xS), F_X12_bait_53  n y1 y2 y3 y4 y5 y6 σ = some z → X p l e (xR 7 173) s m args below meth c D A 8 (xQi below D K A args s z.1 (RW K ad rest z.2)) 0 0 53 [(0, .ref (ad 0)), (1, .int y1), (2, .int y2), (3, .int y3), (4, .int y4), (5, .int y5), (6, .int y6)] [] (RW K ad rest σ) := by
  intro n
  induction n with
  | zero =>
    intro y1 y2 y3 y4 y5 y6 σ hF
    cases hF
  | succ n ih =>
    intro y1 y2 y3 y4 y5 y6 σ hF
    rw [F_X12_bait_53] at hF
    refine x_iload C 6 6 dX12_bait_53 rfl ?_
    refine x_sipush C 441 dX12_bait_55 (by decide +kernel) ?_
    refine x_icmp_ge C 143 dX12_bait_58 (by decide) hF (fun hF => ?_) (fun hF => ?_)
    · refine x_iload_n C 3 3 dX12_bait_143 rfl rfl ?_
      refine x_iconst C 2 dX12_bait_144 (by decide +kernel) ?_
      refine x_icmp_ne C 153 dX12_bait_145 (by decide) hF (fun hF => ?_) (fun hF => ?_)
      · refine x_iload_n C 3 3 dX12_bait_153 rfl rfl ?_
        refine x_if_ne C 165 dX12_bait_154 (by decide) hF (fun hF => ?_) (fun hF => ?_)
        · refine x_iload C 5 5 dX12_bait_165 rfl ?_
          refine x_bipush C 21 dX12_bait_167 (by decide +kernel) ?_
          refine x_irem C dX12_bait_169 hF (fun hF => ?_)
          refine x_loc [(0, .ref (ad 0))] [0] rfl ?_
          exact x_X12_bait_170 C z (y5 - y5 / 21 * 21) σ hF
        · refine x_iload C 5 5 dX12_bait_157 rfl ?_
          refine x_bipush C 21 dX12_bait_159 (by decide +kernel) ?_
          refine x_idiv C dX12_bait_161 hF (fun hF => ?_)
          refine x_goto C 170 dX12_bait_162 (by decide) ?_
          refine x_loc [(0, .ref (ad 0))] [0] rfl ?_
          exact x_X12_bait_170 C z (y5 / 21) σ hF
      · refine x_iload C 4 4 dX12_bait_148 rfl ?_
        refine x_goto C 178 dX12_bait_150 (by decide) ?_
        exact x_iret C dX12_bait_178 rfl (congrArg Prod.fst (Option.some.inj hF)) (congrArg (fun q9 : Int32 × xS => RW K ad rest q9.2) (Option.some.inj hF))
    · refine x_aload_n C 0 0 dX12_bait_61 rfl rfl ?_
      refine x_get C 0 dX12_bait_62 fl_X12_98 (RW_o K ad rest σ) rfl ?_
      refine x_iload_n C 1 1 dX12_bait_65 rfl rfl ?_
      refine x_iload C 6 6 dX12_bait_66 rfl ?_
      refine x_bipush C 21 dX12_bait_68 (by decide +kernel) ?_
      refine x_idiv C dX12_bait_70 hF (fun hF => ?_)
      refine x_aload_n C 0 0 dX12_bait_71 rfl rfl ?_
      refine x_get C 0 dX12_bait_72 fl_X12_13 (RW_o K ad rest σ) rfl ?_
      refine x_bipush C 12 dX12_bait_75 (by decide +kernel) ?_
      refine x_iald C 2 dX12_bait_77 (RW_a3 K ad rest σ) hF (fun v12 hF => ?_)
      refine x_imul C dX12_bait_78 ?_
      refine x_iast C 19 dX12_bait_79 (RW_a40 K ad rest σ) hF (RW_s40 K ad rest σ _) (fun hF => ?_)
      refine x_st (wf := RW K ad rest) hF (fun σ13 hF => ?_)
      refine x_aload_n C 0 0 dX12_bait_80 rfl rfl ?_
      refine x_get C 0 dX12_bait_81 fl_X12_98 (RW_o K ad rest σ13) rfl ?_
      refine x_iload_n C 2 2 dX12_bait_84 rfl rfl ?_
      refine x_iload C 6 6 dX12_bait_85 rfl ?_
      refine x_bipush C 21 dX12_bait_87 (by decide +kernel) ?_
      refine x_irem C dX12_bait_89 hF (fun hF => ?_)
      refine x_aload_n C 0 0 dX12_bait_90 rfl rfl ?_
      refine x_get C 0 dX12_bait_91 fl_X12_13 (RW_o K ad rest σ13) rfl ?_
      refine x_bipush C 12 dX12_bait_94 (by decide +kernel) ?_
      refine x_iald C 2 dX12_bait_96 (RW_a3 K ad rest σ13) hF (fun v14 hF => ?_)
      refine x_imul C dX12_bait_97 ?_
      refine x_iast C 19 dX12_bait_98 (RW_a40 K ad rest σ13) hF (RW_s40 K ad rest σ13 _) (fun hF => ?_)
      refine x_st (wf := RW K ad rest) hF (fun σ15 hF => ?_)
      refine x_aload_n C 0 0 dX12_bait_99 rfl rfl ?_
      refine x_callVI C (wf := RW K ad rest) (As := []) (rest := []) dX12_bait_100 ml_X12_433 rfl rfl (Nat.le_of_ble_eq_true rfl) 0 (RW_o K ad rest σ15) rfl ⟨Nat.le_of_ble_eq_true rfl, Nat.le_of_ble_eq_true rfl⟩ ⟨Nat.zero_le _, Nat.zero_le _⟩ (fun q9 hq9 => c_X12_allBring l D K ad rest σ15 q9 hq9) hF (fun v17 σ16 hF => ?_)
      refine x_istore C [(7, .int v17), (0, .ref (ad 0)), (1, .int y1), (2, .int y2), (3, .int y3), (4, .int y4), (5, .int y5), (6, .int y6)] dX12_bait_103 (by decide) rfl ?_
      refine x_iload C 0 7 dX12_bait_105 rfl ?_
      refine x_iload C 5 4 dX12_bait_107 rfl ?_
      refine x_icmp_le C 117 dX12_bait_109 (by decide) hF (fun hF => ?_) (fun hF => ?_)
      · refine x_iload C 6 5 dX12_bait_117 rfl ?_
        refine x_loc [(0, .ref (ad 0)), (1, .int y1), (2, .int y2), (3, .int y3), (4, .int y4), (6, .int y6), (7, .int v17)] [1, 2, 3, 4, 5, 7, 0] rfl ?_
        exact x_X12_bait_119 C z ((F_X12_bait_53 n)) ih y1 y2 y3 y4 y6 v17 y5 σ16 hF
      · refine x_iload C 7 6 dX12_bait_112 rfl ?_
        refine x_goto C 119 dX12_bait_114 (by decide) ?_
        refine x_loc [(0, .ref (ad 0)), (1, .int y1), (2, .int y2), (3, .int y3), (4, .int y4), (6, .int y6), (7, .int v17)] [1, 2, 3, 4, 5, 7, 0] rfl ?_
        exact x_X12_bait_119 C z ((F_X12_bait_53 n)) ih y1 y2 y3 y4 y6 v17 y6 σ16 hF
set_option maxHeartbeats 4000000 in
set_option maxRecDepth 100000 in
theorem c_X12_bait (l : Launch) (D : va_G) (K : Nat → ClassId) (ad : Nat → Nat) (rest : va_W) (a1 : Int32) (a2 : Int32) (a3 : Int32) (σ : xS) (z : Int32 × xS) (hF : F_X12_bait a1 a2 a3 σ = some z) : CI l D K yX12_bait cX12_bait 8 (some .int) 7 173 [.ref (ad 0), .int a1, .int a2, .int a3] (RW K ad rest σ) z.1 (RW K ad rest z.2) := by
  refine x_enterI [(0, .ref (ad 0)), (1, .int a1), (2, .int a2), (3, .int a3)] pnX12 (Nat.le_of_ble_eq_true rfl) rfl ?_
  intro p e s m args below meth c A C
  unfold F_X12_bait at hF
  refine x_aload_n C 0 0 dX12_bait_0 rfl rfl ?_
  refine x_iconst C 0 dX12_bait_1 (by decide +kernel) ?_
  refine x_put C 0 dX12_bait_2 fl_X12_107 fm_X12_0 rfl rfl (RW_o K ad rest σ) (Nat.le_of_ble_eq_true rfl) (RW_s0 K ad rest σ _) ?_
  refine x_st (wf := RW K ad rest) hF (fun σ1 hF => ?_)
  refine x_aload_n C 0 0 dX12_bait_5 rfl rfl ?_
  refine x_iload_n C 1 1 dX12_bait_6 rfl rfl ?_
  refine x_callVI C (wf := RW K ad rest) (As := [.int a1]) (rest := []) dX12_bait_7 ml_X12_140 rfl rfl (Nat.le_of_ble_eq_true rfl) 0 (RW_o K ad rest σ1) rfl ⟨Nat.le_of_ble_eq_true rfl, Nat.le_of_ble_eq_true rfl⟩ ⟨Nat.zero_le _, Nat.zero_le _⟩ (fun q9 hq9 => c_X12_isBook l D K ad rest a1 σ1 q9 hq9) hF (fun v3 σ2 hF => ?_)
  refine x_if_eq C 38 dX12_bait_10 (by decide) hF (fun hF => ?_) (fun hF => ?_)
  · refine x_iconst C (-1) dX12_bait_38 (by decide +kernel) ?_
    exact x_iret C dX12_bait_39 rfl (congrArg Prod.fst (Option.some.inj hF)) (congrArg (fun q9 : Int32 × xS => RW K ad rest q9.2) (Option.some.inj hF))
  · refine x_aload_n C 0 0 dX12_bait_13 rfl rfl ?_
    refine x_iload_n C 2 2 dX12_bait_14 rfl rfl ?_
    refine x_callVI C (wf := RW K ad rest) (As := [.int a2]) (rest := []) dX12_bait_15 ml_X12_140 rfl rfl (Nat.le_of_ble_eq_true rfl) 0 (RW_o K ad rest σ2) rfl ⟨Nat.le_of_ble_eq_true rfl, Nat.le_of_ble_eq_true rfl⟩ ⟨Nat.zero_le _, Nat.zero_le _⟩ (fun q9 hq9 => c_X12_isBook l D K ad rest a2 σ2 q9 hq9) hF (fun v5 σ4 hF => ?_)
    refine x_if_eq C 38 dX12_bait_18 (by decide) hF (fun hF => ?_) (fun hF => ?_)
    · refine x_iconst C (-1) dX12_bait_38 (by decide +kernel) ?_
      exact x_iret C dX12_bait_39 rfl (congrArg Prod.fst (Option.some.inj hF)) (congrArg (fun q9 : Int32 × xS => RW K ad rest q9.2) (Option.some.inj hF))
    · refine x_iload_n C 1 1 dX12_bait_21 rfl rfl ?_
      refine x_iload_n C 2 2 dX12_bait_22 rfl rfl ?_
      refine x_icmp_eq C 38 dX12_bait_23 (by decide) hF (fun hF => ?_) (fun hF => ?_)
      · refine x_iconst C (-1) dX12_bait_38 (by decide +kernel) ?_
        exact x_iret C dX12_bait_39 rfl (congrArg Prod.fst (Option.some.inj hF)) (congrArg (fun q9 : Int32 × xS => RW K ad rest q9.2) (Option.some.inj hF))
      · refine x_iload_n C 3 3 dX12_bait_26 rfl rfl ?_
        refine x_i2l C dX12_bait_27 ?_
        refine x_lconst C 0 dX12_bait_28 (by decide +kernel) ?_
        refine x_ldc2 C 2 dX12_bait_29 cl_X12_130 ?_
        refine x_callSI C (wf := RW K ad rest) (As := [.long (a3.toInt64), .long 0, .long 2]) (rest := []) dX12_bait_32 ml_X12_117 rfl rfl (Nat.le_of_ble_eq_true rfl) ⟨Nat.le_of_ble_eq_true rfl, Nat.le_of_ble_eq_true rfl⟩ ⟨Nat.zero_le _, Nat.zero_le _⟩ (fun q9 hq9 => c_X12_in l D K ad rest (a3.toInt64) 0 2 σ4 q9 hq9) hF (fun v7 σ6 hF => ?_)
        refine x_if_ne C 40 dX12_bait_35 (by decide) hF (fun hF => ?_) (fun hF => ?_)
        · refine x_aload_n C 0 0 dX12_bait_40 rfl rfl ?_
          refine x_callVV C (wf := RW K ad rest) (As := []) (rest := []) dX12_bait_41 ml_X12_424 rfl rfl (Nat.le_of_ble_eq_true rfl) 0 (RW_o K ad rest σ6) rfl ⟨Nat.le_of_ble_eq_true rfl, Nat.le_of_ble_eq_true rfl⟩ ⟨Nat.zero_le _, Nat.zero_le _⟩ (fun q9 hq9 => c_X12_asPriced l D K ad rest σ6 q9 hq9) hF (fun _ σ8 hF => ?_)
          refine x_iconst C (-1) dX12_bait_44 (by decide +kernel) ?_
          refine x_topI hF (fun x9 hF => ?_)
          refine x_istore C [(4, .int x9), (0, .ref (ad 0)), (1, .int a1), (2, .int a2), (3, .int a3)] dX12_bait_45 (by decide) rfl ?_
          refine x_iconst C (-1) dX12_bait_47 (by decide +kernel) ?_
          refine x_topI hF (fun x10 hF => ?_)
          refine x_istore C [(5, .int x10), (4, .int x9), (0, .ref (ad 0)), (1, .int a1), (2, .int a2), (3, .int a3)] dX12_bait_48 (by decide) rfl ?_
          refine x_iconst C 0 dX12_bait_50 (by decide +kernel) ?_
          refine x_topI hF (fun x11 hF => ?_)
          refine x_istore C [(6, .int x11), (5, .int x10), (4, .int x9), (0, .ref (ad 0)), (1, .int a1), (2, .int a2), (3, .int a3)] dX12_bait_51 (by decide) rfl ?_
          refine x_loc [(0, .ref (ad 0)), (1, .int a1), (2, .int a2), (3, .int a3), (4, .int x9), (5, .int x10), (6, .int x11)] [3, 4, 5, 6, 2, 1, 0] rfl ?_
          exact x_X12_bait_53 C z FU a1 a2 a3 x9 x10 x11 σ8 hF
        · refine x_iconst C (-1) dX12_bait_38 (by decide +kernel) ?_
          exact x_iret C dX12_bait_39 rfl (congrArg Prod.fst (Option.some.inj hF)) (congrArg (fun q9 : Int32 × xS => RW K ad rest q9.2) (Option.some.inj hF))
theorem dX12_october_0 : decode cX12_october 0 = .ok (.aload_n 0, 1) := by decide +kernel
theorem dX12_october_1 : decode cX12_october 1 = .ok (.iconst 0, 1) := by decide +kernel
theorem dX12_october_2 : decode cX12_october 2 = .ok (.putfield 107, 3) := by decide +kernel
theorem dX12_october_5 : decode cX12_october 5 = .ok (.iload_n 1, 1) := by decide +kernel
theorem dX12_october_6 : decode cX12_october 6 = .ok (.i2l, 1) := by decide +kernel
theorem dX12_october_7 : decode cX12_october 7 = .ok (.lconst 0, 1) := by decide +kernel
theorem dX12_october_8 : decode cX12_october 8 = .ok (.ldc2_w 126, 3) := by decide +kernel
theorem dX12_october_11 : decode cX12_october 11 = .ok (.invokestatic 117, 3) := by decide +kernel
theorem dX12_october_14 : decode cX12_october 14 = .ok (.ifCond .ne 9, 3) := by decide +kernel
theorem dX12_october_17 : decode cX12_october 17 = .ok (.aload_n 0, 1) := by decide +kernel
theorem dX12_october_18 : decode cX12_october 18 = .ok (.iconst (-1), 1) := by decide +kernel
theorem dX12_october_19 : decode cX12_october 19 = .ok (.invokevirtual 121, 3) := by decide +kernel
theorem dX12_october_22 : decode cX12_october 22 = .ok (.ireturn, 1) := by decide +kernel
theorem dX12_october_23 : decode cX12_october 23 = .ok (.aload_n 0, 1) := by decide +kernel
theorem dX12_october_24 : decode cX12_october 24 = .ok (.getfield 13, 3) := by decide +kernel
theorem dX12_october_27 : decode cX12_october 27 = .ok (.iconst 5, 1) := by decide +kernel
theorem dX12_october_28 : decode cX12_october 28 = .ok (.iaload, 1) := by decide +kernel
theorem dX12_october_29 : decode cX12_october 29 = .ok (.istore_n 2, 1) := by decide +kernel
theorem dX12_october_30 : decode cX12_october 30 = .ok (.iload_n 2, 1) := by decide +kernel
theorem dX12_october_31 : decode cX12_october 31 = .ok (.bipush 10, 2) := by decide +kernel
theorem dX12_october_33 : decode cX12_october 33 = .ok (.if_icmp .ne 10, 3) := by decide +kernel
theorem dX12_october_36 : decode cX12_october 36 = .ok (.aload_n 0, 1) := by decide +kernel
theorem dX12_october_37 : decode cX12_october 37 = .ok (.bipush (-5), 2) := by decide +kernel
theorem dX12_october_39 : decode cX12_october 39 = .ok (.invokevirtual 121, 3) := by decide +kernel
theorem dX12_october_42 : decode cX12_october 42 = .ok (.ireturn, 1) := by decide +kernel
theorem dX12_october_43 : decode cX12_october 43 = .ok (.aload_n 0, 1) := by decide +kernel
theorem dX12_october_44 : decode cX12_october 44 = .ok (.getfield 13, 3) := by decide +kernel
theorem dX12_october_47 : decode cX12_october 47 = .ok (.bipush 123, 2) := by decide +kernel
theorem dX12_october_49 : decode cX12_october 49 = .ok (.iload_n 2, 1) := by decide +kernel
theorem dX12_october_50 : decode cX12_october 50 = .ok (.iadd, 1) := by decide +kernel
theorem dX12_october_51 : decode cX12_october 51 = .ok (.iload_n 1, 1) := by decide +kernel
theorem dX12_october_52 : decode cX12_october 52 = .ok (.iastore, 1) := by decide +kernel
theorem dX12_october_53 : decode cX12_october 53 = .ok (.aload_n 0, 1) := by decide +kernel
theorem dX12_october_54 : decode cX12_october 54 = .ok (.getfield 13, 3) := by decide +kernel
theorem dX12_october_57 : decode cX12_october 57 = .ok (.iconst 5, 1) := by decide +kernel
theorem dX12_october_58 : decode cX12_october 58 = .ok (.dup2, 1) := by decide +kernel
theorem dX12_october_59 : decode cX12_october 59 = .ok (.iaload, 1) := by decide +kernel
theorem dX12_october_60 : decode cX12_october 60 = .ok (.iconst 1, 1) := by decide +kernel
theorem dX12_october_61 : decode cX12_october 61 = .ok (.iadd, 1) := by decide +kernel
theorem dX12_october_62 : decode cX12_october 62 = .ok (.iastore, 1) := by decide +kernel
theorem dX12_october_63 : decode cX12_october 63 = .ok (.aload_n 0, 1) := by decide +kernel
theorem dX12_october_64 : decode cX12_october 64 = .ok (.iload_n 2, 1) := by decide +kernel
theorem dX12_october_65 : decode cX12_october 65 = .ok (.iconst 1, 1) := by decide +kernel
theorem dX12_october_66 : decode cX12_october 66 = .ok (.iadd, 1) := by decide +kernel
theorem dX12_october_67 : decode cX12_october 67 = .ok (.invokevirtual 121, 3) := by decide +kernel
theorem dX12_october_70 : decode cX12_october 70 = .ok (.ireturn, 1) := by decide +kernel
set_option maxHeartbeats 4000000 in
set_option maxRecDepth 100000 in
theorem c_X12_october (l : Launch) (D : va_G) (K : Nat → ClassId) (ad : Nat → Nat) (rest : va_W) (a1 : Int32) (σ : xS) (z : Int32 × xS) (hF : F_X12_october a1 σ = some z) : CI l D K yX12_october cX12_october 3 (some .int) 1 25 [.ref (ad 0), .int a1] (RW K ad rest σ) z.1 (RW K ad rest z.2) := by
  refine x_enterI [(0, .ref (ad 0)), (1, .int a1)] pnX12 (Nat.le_of_ble_eq_true rfl) rfl ?_
  intro p e s m args below meth c A C
  unfold F_X12_october at hF
  refine x_aload_n C 0 0 dX12_october_0 rfl rfl ?_
  refine x_iconst C 0 dX12_october_1 (by decide +kernel) ?_
  refine x_put C 0 dX12_october_2 fl_X12_107 fm_X12_0 rfl rfl (RW_o K ad rest σ) (Nat.le_of_ble_eq_true rfl) (RW_s0 K ad rest σ _) ?_
  refine x_st (wf := RW K ad rest) hF (fun σ1 hF => ?_)
  refine x_iload_n C 1 1 dX12_october_5 rfl rfl ?_
  refine x_i2l C dX12_october_6 ?_
  refine x_lconst C 0 dX12_october_7 (by decide +kernel) ?_
  refine x_ldc2 C 999 dX12_october_8 cl_X12_126 ?_
  refine x_callSI C (wf := RW K ad rest) (As := [.long (a1.toInt64), .long 0, .long 999]) (rest := []) dX12_october_11 ml_X12_117 rfl rfl (Nat.le_of_ble_eq_true rfl) ⟨Nat.le_of_ble_eq_true rfl, Nat.le_of_ble_eq_true rfl⟩ ⟨Nat.zero_le _, Nat.zero_le _⟩ (fun q9 hq9 => c_X12_in l D K ad rest (a1.toInt64) 0 999 σ1 q9 hq9) hF (fun v3 σ2 hF => ?_)
  refine x_if_ne C 23 dX12_october_14 (by decide) hF (fun hF => ?_) (fun hF => ?_)
  · refine x_aload_n C 0 0 dX12_october_23 rfl rfl ?_
    refine x_get C 0 dX12_october_24 fl_X12_13 (RW_o K ad rest σ2) rfl ?_
    refine x_iconst C 5 dX12_october_27 (by decide +kernel) ?_
    refine x_iald C 2 dX12_october_28 (RW_a3 K ad rest σ2) hF (fun v4 hF => ?_)
    refine x_istore_n C [(2, .int v4), (0, .ref (ad 0)), (1, .int a1)] dX12_october_29 rfl (by decide) rfl ?_
    refine x_iload_n C 0 2 dX12_october_30 rfl rfl ?_
    refine x_bipush C 10 dX12_october_31 (by decide +kernel) ?_
    refine x_icmp_ne C 43 dX12_october_33 (by decide) hF (fun hF => ?_) (fun hF => ?_)
    · refine x_aload_n C 1 0 dX12_october_43 rfl rfl ?_
      refine x_get C 0 dX12_october_44 fl_X12_13 (RW_o K ad rest σ2) rfl ?_
      refine x_bipush C 123 dX12_october_47 (by decide +kernel) ?_
      refine x_iload_n C 0 2 dX12_october_49 rfl rfl ?_
      refine x_iadd C dX12_october_50 ?_
      refine x_iload_n C 2 1 dX12_october_51 rfl rfl ?_
      refine x_iast C 2 dX12_october_52 (RW_a3 K ad rest σ2) hF (RW_s3 K ad rest σ2 _) (fun hF => ?_)
      refine x_st (wf := RW K ad rest) hF (fun σ5 hF => ?_)
      refine x_aload_n C 1 0 dX12_october_53 rfl rfl ?_
      refine x_get C 0 dX12_october_54 fl_X12_13 (RW_o K ad rest σ5) rfl ?_
      refine x_iconst C 5 dX12_october_57 (by decide +kernel) ?_
      refine x_dup2 C rfl rfl dX12_october_58 ?_
      refine x_iald C 2 dX12_october_59 (RW_a3 K ad rest σ5) hF (fun v6 hF => ?_)
      refine x_iconst C 1 dX12_october_60 (by decide +kernel) ?_
      refine x_iadd C dX12_october_61 ?_
      refine x_iast C 2 dX12_october_62 (RW_a3 K ad rest σ5) hF (RW_s3 K ad rest σ5 _) (fun hF => ?_)
      refine x_st (wf := RW K ad rest) hF (fun σ7 hF => ?_)
      refine x_aload_n C 1 0 dX12_october_63 rfl rfl ?_
      refine x_iload_n C 0 2 dX12_october_64 rfl rfl ?_
      refine x_iconst C 1 dX12_october_65 (by decide +kernel) ?_
      refine x_iadd C dX12_october_66 ?_
      refine x_callVI C (wf := RW K ad rest) (As := [.int (v4 + 1)]) (rest := []) dX12_october_67 ml_X12_121 rfl rfl (Nat.le_of_ble_eq_true rfl) 0 (RW_o K ad rest σ7) rfl ⟨Nat.le_of_ble_eq_true rfl, Nat.le_of_ble_eq_true rfl⟩ ⟨Nat.zero_le _, Nat.zero_le _⟩ (fun q9 hq9 => c_X12_tell l D K ad rest (v4 + 1) σ7 q9 hq9) hF (fun v9 σ8 hF => ?_)
      exact x_iret C dX12_october_70 rfl (congrArg Prod.fst (Option.some.inj hF)) (congrArg (fun q9 : Int32 × xS => RW K ad rest q9.2) (Option.some.inj hF))
    · refine x_aload_n C 1 0 dX12_october_36 rfl rfl ?_
      refine x_bipush C (-5) dX12_october_37 (by decide +kernel) ?_
      refine x_callVI C (wf := RW K ad rest) (As := [.int ((-5))]) (rest := []) dX12_october_39 ml_X12_121 rfl rfl (Nat.le_of_ble_eq_true rfl) 0 (RW_o K ad rest σ2) rfl ⟨Nat.le_of_ble_eq_true rfl, Nat.le_of_ble_eq_true rfl⟩ ⟨Nat.zero_le _, Nat.zero_le _⟩ (fun q9 hq9 => c_X12_tell l D K ad rest ((-5)) σ2 q9 hq9) hF (fun v11 σ10 hF => ?_)
      exact x_iret C dX12_october_42 rfl (congrArg Prod.fst (Option.some.inj hF)) (congrArg (fun q9 : Int32 × xS => RW K ad rest q9.2) (Option.some.inj hF))
  · refine x_aload_n C 0 0 dX12_october_17 rfl rfl ?_
    refine x_iconst C (-1) dX12_october_18 (by decide +kernel) ?_
    refine x_callVI C (wf := RW K ad rest) (As := [.int ((-1))]) (rest := []) dX12_october_19 ml_X12_121 rfl rfl (Nat.le_of_ble_eq_true rfl) 0 (RW_o K ad rest σ2) rfl ⟨Nat.le_of_ble_eq_true rfl, Nat.le_of_ble_eq_true rfl⟩ ⟨Nat.zero_le _, Nat.zero_le _⟩ (fun q9 hq9 => c_X12_tell l D K ad rest ((-1)) σ2 q9 hq9) hF (fun v13 σ12 hF => ?_)
    exact x_iret C dX12_october_22 rfl (congrArg Prod.fst (Option.some.inj hF)) (congrArg (fun q9 : Int32 × xS => RW K ad rest q9.2) (Option.some.inj hF))
theorem dX12_forget_0 : decode cX12_forget 0 = .ok (.aload_n 0, 1) := by decide +kernel
theorem dX12_forget_1 : decode cX12_forget 1 = .ok (.iconst 0, 1) := by decide +kernel
theorem dX12_forget_2 : decode cX12_forget 2 = .ok (.putfield 107, 3) := by decide +kernel
theorem dX12_forget_5 : decode cX12_forget 5 = .ok (.aload_n 0, 1) := by decide +kernel
theorem dX12_forget_6 : decode cX12_forget 6 = .ok (.getfield 13, 3) := by decide +kernel
theorem dX12_forget_9 : decode cX12_forget 9 = .ok (.iconst 5, 1) := by decide +kernel
theorem dX12_forget_10 : decode cX12_forget 10 = .ok (.iaload, 1) := by decide +kernel
theorem dX12_forget_11 : decode cX12_forget 11 = .ok (.istore_n 1, 1) := by decide +kernel
theorem dX12_forget_12 : decode cX12_forget 12 = .ok (.aload_n 0, 1) := by decide +kernel
theorem dX12_forget_13 : decode cX12_forget 13 = .ok (.getfield 13, 3) := by decide +kernel
theorem dX12_forget_16 : decode cX12_forget 16 = .ok (.iconst 5, 1) := by decide +kernel
theorem dX12_forget_17 : decode cX12_forget 17 = .ok (.iconst 0, 1) := by decide +kernel
theorem dX12_forget_18 : decode cX12_forget 18 = .ok (.iastore, 1) := by decide +kernel
theorem dX12_forget_19 : decode cX12_forget 19 = .ok (.iload_n 1, 1) := by decide +kernel
theorem dX12_forget_20 : decode cX12_forget 20 = .ok (.ireturn, 1) := by decide +kernel
set_option maxHeartbeats 4000000 in
set_option maxRecDepth 100000 in
theorem c_X12_forget (l : Launch) (D : va_G) (K : Nat → ClassId) (ad : Nat → Nat) (rest : va_W)  (σ : xS) (z : Int32 × xS) (hF : F_X12_forget σ = some z) : CI l D K yX12_forget cX12_forget 2 (some .int) 0 0 [.ref (ad 0)] (RW K ad rest σ) z.1 (RW K ad rest z.2) := by
  refine x_enterI [(0, .ref (ad 0))] pnX12 (Nat.le_of_ble_eq_true rfl) rfl ?_
  intro p e s m args below meth c A C
  unfold F_X12_forget at hF
  refine x_aload_n C 0 0 dX12_forget_0 rfl rfl ?_
  refine x_iconst C 0 dX12_forget_1 (by decide +kernel) ?_
  refine x_put C 0 dX12_forget_2 fl_X12_107 fm_X12_0 rfl rfl (RW_o K ad rest σ) (Nat.le_of_ble_eq_true rfl) (RW_s0 K ad rest σ _) ?_
  refine x_st (wf := RW K ad rest) hF (fun σ1 hF => ?_)
  refine x_aload_n C 0 0 dX12_forget_5 rfl rfl ?_
  refine x_get C 0 dX12_forget_6 fl_X12_13 (RW_o K ad rest σ1) rfl ?_
  refine x_iconst C 5 dX12_forget_9 (by decide +kernel) ?_
  refine x_iald C 2 dX12_forget_10 (RW_a3 K ad rest σ1) hF (fun v2 hF => ?_)
  refine x_istore_n C [(1, .int v2), (0, .ref (ad 0))] dX12_forget_11 rfl (by decide) rfl ?_
  refine x_aload_n C 1 0 dX12_forget_12 rfl rfl ?_
  refine x_get C 0 dX12_forget_13 fl_X12_13 (RW_o K ad rest σ1) rfl ?_
  refine x_iconst C 5 dX12_forget_16 (by decide +kernel) ?_
  refine x_iconst C 0 dX12_forget_17 (by decide +kernel) ?_
  refine x_iast C 2 dX12_forget_18 (RW_a3 K ad rest σ1) hF (RW_s3 K ad rest σ1 _) (fun hF => ?_)
  refine x_st (wf := RW K ad rest) hF (fun σ3 hF => ?_)
  refine x_iload_n C 0 1 dX12_forget_19 rfl rfl ?_
  exact x_iret C dX12_forget_20 rfl (congrArg Prod.fst (Option.some.inj hF)) (congrArg (fun q9 : Int32 × xS => RW K ad rest q9.2) (Option.some.inj hF))
theorem dX12_areSums_0 : decode cX12_areSums 0 = .ok (.aload_n 0, 1) := by decide +kernel
theorem dX12_areSums_1 : decode cX12_areSums 1 = .ok (.getfield 13, 3) := by decide +kernel
theorem dX12_areSums_4 : decode cX12_areSums 4 = .ok (.iconst 5, 1) := by decide +kernel
theorem dX12_areSums_5 : decode cX12_areSums 5 = .ok (.iaload, 1) := by decide +kernel
theorem dX12_areSums_6 : decode cX12_areSums 6 = .ok (.ifCond .le 43, 3) := by decide +kernel
theorem dX12_areSums_9 : decode cX12_areSums 9 = .ok (.iload_n 1, 1) := by decide +kernel
theorem dX12_areSums_10 : decode cX12_areSums 10 = .ok (.i2l, 1) := by decide +kernel
theorem dX12_areSums_11 : decode cX12_areSums 11 = .ok (.lconst 0, 1) := by decide +kernel
theorem dX12_areSums_12 : decode cX12_areSums 12 = .ok (.ldc2_w 126, 3) := by decide +kernel
theorem dX12_areSums_15 : decode cX12_areSums 15 = .ok (.invokestatic 117, 3) := by decide +kernel
theorem dX12_areSums_18 : decode cX12_areSums 18 = .ok (.ifCond .eq 31, 3) := by decide +kernel
theorem dX12_areSums_21 : decode cX12_areSums 21 = .ok (.iload_n 2, 1) := by decide +kernel
theorem dX12_areSums_22 : decode cX12_areSums 22 = .ok (.i2l, 1) := by decide +kernel
theorem dX12_areSums_23 : decode cX12_areSums 23 = .ok (.lconst 0, 1) := by decide +kernel
theorem dX12_areSums_24 : decode cX12_areSums 24 = .ok (.ldc2_w 126, 3) := by decide +kernel
theorem dX12_areSums_27 : decode cX12_areSums 27 = .ok (.invokestatic 117, 3) := by decide +kernel
theorem dX12_areSums_30 : decode cX12_areSums 30 = .ok (.ifCond .eq 19, 3) := by decide +kernel
theorem dX12_areSums_33 : decode cX12_areSums 33 = .ok (.iload_n 3, 1) := by decide +kernel
theorem dX12_areSums_34 : decode cX12_areSums 34 = .ok (.i2l, 1) := by decide +kernel
theorem dX12_areSums_35 : decode cX12_areSums 35 = .ok (.lconst 0, 1) := by decide +kernel
theorem dX12_areSums_36 : decode cX12_areSums 36 = .ok (.ldc2_w 126, 3) := by decide +kernel
theorem dX12_areSums_39 : decode cX12_areSums 39 = .ok (.invokestatic 117, 3) := by decide +kernel
theorem dX12_areSums_42 : decode cX12_areSums 42 = .ok (.ifCond .eq 7, 3) := by decide +kernel
theorem dX12_areSums_45 : decode cX12_areSums 45 = .ok (.iconst 1, 1) := by decide +kernel
theorem dX12_areSums_46 : decode cX12_areSums 46 = .ok (.goto 4, 3) := by decide +kernel
theorem dX12_areSums_49 : decode cX12_areSums 49 = .ok (.iconst 0, 1) := by decide +kernel
theorem dX12_areSums_50 : decode cX12_areSums 50 = .ok (.ireturn, 1) := by decide +kernel
set_option maxHeartbeats 4000000 in
set_option maxRecDepth 100000 in
theorem c_X12_areSums (l : Launch) (D : va_G) (K : Nat → ClassId) (ad : Nat → Nat) (rest : va_W) (a1 : Int32) (a2 : Int32) (a3 : Int32) (σ : xS) (z : Int32 × xS) (hF : F_X12_areSums a1 a2 a3 σ = some z) : CI l D K yX12_areSums cX12_areSums 4 (some .boolean) 1 25 [.ref (ad 0), .int a1, .int a2, .int a3] (RW K ad rest σ) z.1 (RW K ad rest z.2) := by
  refine x_enterI [(0, .ref (ad 0)), (1, .int a1), (2, .int a2), (3, .int a3)] pnX12 (Nat.le_of_ble_eq_true rfl) rfl ?_
  intro p e s m args below meth c A C
  unfold F_X12_areSums at hF
  refine x_aload_n C 0 0 dX12_areSums_0 rfl rfl ?_
  refine x_get C 0 dX12_areSums_1 fl_X12_13 (RW_o K ad rest σ) rfl ?_
  refine x_iconst C 5 dX12_areSums_4 (by decide +kernel) ?_
  refine x_iald C 2 dX12_areSums_5 (RW_a3 K ad rest σ) hF (fun v1 hF => ?_)
  refine x_if_le C 49 dX12_areSums_6 (by decide) hF (fun hF => ?_) (fun hF => ?_)
  · refine x_iconst C 0 dX12_areSums_49 (by decide +kernel) ?_
    have hz := (cz_some hF).1
    replace hF := (cz_some hF).2
    exact x_zret C dX12_areSums_50 rfl hz (congrArg Prod.fst (Option.some.inj hF)) (congrArg (fun q9 : Int32 × xS => RW K ad rest q9.2) (Option.some.inj hF))
  · refine x_iload_n C 1 1 dX12_areSums_9 rfl rfl ?_
    refine x_i2l C dX12_areSums_10 ?_
    refine x_lconst C 0 dX12_areSums_11 (by decide +kernel) ?_
    refine x_ldc2 C 999 dX12_areSums_12 cl_X12_126 ?_
    refine x_callSI C (wf := RW K ad rest) (As := [.long (a1.toInt64), .long 0, .long 999]) (rest := []) dX12_areSums_15 ml_X12_117 rfl rfl (Nat.le_of_ble_eq_true rfl) ⟨Nat.le_of_ble_eq_true rfl, Nat.le_of_ble_eq_true rfl⟩ ⟨Nat.zero_le _, Nat.zero_le _⟩ (fun q9 hq9 => c_X12_in l D K ad rest (a1.toInt64) 0 999 σ q9 hq9) hF (fun v3 σ2 hF => ?_)
    refine x_if_eq C 49 dX12_areSums_18 (by decide) hF (fun hF => ?_) (fun hF => ?_)
    · refine x_iconst C 0 dX12_areSums_49 (by decide +kernel) ?_
      have hz := (cz_some hF).1
      replace hF := (cz_some hF).2
      exact x_zret C dX12_areSums_50 rfl hz (congrArg Prod.fst (Option.some.inj hF)) (congrArg (fun q9 : Int32 × xS => RW K ad rest q9.2) (Option.some.inj hF))
    · refine x_iload_n C 2 2 dX12_areSums_21 rfl rfl ?_
      refine x_i2l C dX12_areSums_22 ?_
      refine x_lconst C 0 dX12_areSums_23 (by decide +kernel) ?_
      refine x_ldc2 C 999 dX12_areSums_24 cl_X12_126 ?_
      refine x_callSI C (wf := RW K ad rest) (As := [.long (a2.toInt64), .long 0, .long 999]) (rest := []) dX12_areSums_27 ml_X12_117 rfl rfl (Nat.le_of_ble_eq_true rfl) ⟨Nat.le_of_ble_eq_true rfl, Nat.le_of_ble_eq_true rfl⟩ ⟨Nat.zero_le _, Nat.zero_le _⟩ (fun q9 hq9 => c_X12_in l D K ad rest (a2.toInt64) 0 999 σ2 q9 hq9) hF (fun v5 σ4 hF => ?_)
      refine x_if_eq C 49 dX12_areSums_30 (by decide) hF (fun hF => ?_) (fun hF => ?_)
      · refine x_iconst C 0 dX12_areSums_49 (by decide +kernel) ?_
        have hz := (cz_some hF).1
        replace hF := (cz_some hF).2
        exact x_zret C dX12_areSums_50 rfl hz (congrArg Prod.fst (Option.some.inj hF)) (congrArg (fun q9 : Int32 × xS => RW K ad rest q9.2) (Option.some.inj hF))
      · refine x_iload_n C 3 3 dX12_areSums_33 rfl rfl ?_
        refine x_i2l C dX12_areSums_34 ?_
        refine x_lconst C 0 dX12_areSums_35 (by decide +kernel) ?_
        refine x_ldc2 C 999 dX12_areSums_36 cl_X12_126 ?_
        refine x_callSI C (wf := RW K ad rest) (As := [.long (a3.toInt64), .long 0, .long 999]) (rest := []) dX12_areSums_39 ml_X12_117 rfl rfl (Nat.le_of_ble_eq_true rfl) ⟨Nat.le_of_ble_eq_true rfl, Nat.le_of_ble_eq_true rfl⟩ ⟨Nat.zero_le _, Nat.zero_le _⟩ (fun q9 hq9 => c_X12_in l D K ad rest (a3.toInt64) 0 999 σ4 q9 hq9) hF (fun v7 σ6 hF => ?_)
        refine x_if_eq C 49 dX12_areSums_42 (by decide) hF (fun hF => ?_) (fun hF => ?_)
        · refine x_iconst C 0 dX12_areSums_49 (by decide +kernel) ?_
          have hz := (cz_some hF).1
          replace hF := (cz_some hF).2
          exact x_zret C dX12_areSums_50 rfl hz (congrArg Prod.fst (Option.some.inj hF)) (congrArg (fun q9 : Int32 × xS => RW K ad rest q9.2) (Option.some.inj hF))
        · refine x_iconst C 1 dX12_areSums_45 (by decide +kernel) ?_
          refine x_goto C 50 dX12_areSums_46 (by decide) ?_
          have hz := (cz_some hF).1
          replace hF := (cz_some hF).2
          exact x_zret C dX12_areSums_50 rfl hz (congrArg Prod.fst (Option.some.inj hF)) (congrArg (fun q9 : Int32 × xS => RW K ad rest q9.2) (Option.some.inj hF))
theorem dX12_juneOf_0 : decode cX12_juneOf 0 = .ok (.lconst 0, 1) := by decide +kernel
theorem dX12_juneOf_1 : decode cX12_juneOf 1 = .ok (.lstore 5, 2) := by decide +kernel
theorem dX12_juneOf_3 : decode cX12_juneOf 3 = .ok (.iconst 0, 1) := by decide +kernel
theorem dX12_juneOf_4 : decode cX12_juneOf 4 = .ok (.istore 7, 2) := by decide +kernel
theorem dX12_juneOf_6 : decode cX12_juneOf 6 = .ok (.iload 7, 2) := by decide +kernel
theorem dX12_juneOf_8 : decode cX12_juneOf 8 = .ok (.aload_n 0, 1) := by decide +kernel
theorem dX12_juneOf_9 : decode cX12_juneOf 9 = .ok (.getfield 13, 3) := by decide +kernel
theorem dX12_juneOf_12 : decode cX12_juneOf 12 = .ok (.iconst 5, 1) := by decide +kernel
theorem dX12_juneOf_13 : decode cX12_juneOf 13 = .ok (.iaload, 1) := by decide +kernel
theorem dX12_juneOf_14 : decode cX12_juneOf 14 = .ok (.if_icmp .ge 66, 3) := by decide +kernel
theorem dX12_juneOf_17 : decode cX12_juneOf 17 = .ok (.iload_n 1, 1) := by decide +kernel
theorem dX12_juneOf_18 : decode cX12_juneOf 18 = .ok (.aload_n 0, 1) := by decide +kernel
theorem dX12_juneOf_19 : decode cX12_juneOf 19 = .ok (.getfield 13, 3) := by decide +kernel
theorem dX12_juneOf_22 : decode cX12_juneOf 22 = .ok (.bipush 123, 2) := by decide +kernel
theorem dX12_juneOf_24 : decode cX12_juneOf 24 = .ok (.iload 7, 2) := by decide +kernel
theorem dX12_juneOf_26 : decode cX12_juneOf 26 = .ok (.iadd, 1) := by decide +kernel
theorem dX12_juneOf_27 : decode cX12_juneOf 27 = .ok (.iaload, 1) := by decide +kernel
theorem dX12_juneOf_28 : decode cX12_juneOf 28 = .ok (.if_icmp .ge 7, 3) := by decide +kernel
theorem dX12_juneOf_31 : decode cX12_juneOf 31 = .ok (.iload_n 1, 1) := by decide +kernel
theorem dX12_juneOf_32 : decode cX12_juneOf 32 = .ok (.goto 13, 3) := by decide +kernel
theorem dX12_juneOf_35 : decode cX12_juneOf 35 = .ok (.aload_n 0, 1) := by decide +kernel
theorem dX12_juneOf_36 : decode cX12_juneOf 36 = .ok (.getfield 13, 3) := by decide +kernel
theorem dX12_juneOf_39 : decode cX12_juneOf 39 = .ok (.bipush 123, 2) := by decide +kernel
theorem dX12_juneOf_41 : decode cX12_juneOf 41 = .ok (.iload 7, 2) := by decide +kernel
theorem dX12_juneOf_43 : decode cX12_juneOf 43 = .ok (.iadd, 1) := by decide +kernel
theorem dX12_juneOf_44 : decode cX12_juneOf 44 = .ok (.iaload, 1) := by decide +kernel
theorem dX12_juneOf_45 : decode cX12_juneOf 45 = .ok (.istore 8, 2) := by decide +kernel
theorem dX12_juneOf_47 : decode cX12_juneOf 47 = .ok (.lload 5, 2) := by decide +kernel
theorem dX12_juneOf_49 : decode cX12_juneOf 49 = .ok (.iload_n 3, 1) := by decide +kernel
theorem dX12_juneOf_50 : decode cX12_juneOf 50 = .ok (.i2l, 1) := by decide +kernel
theorem dX12_juneOf_51 : decode cX12_juneOf 51 = .ok (.iload 8, 2) := by decide +kernel
theorem dX12_juneOf_53 : decode cX12_juneOf 53 = .ok (.i2l, 1) := by decide +kernel
theorem dX12_juneOf_54 : decode cX12_juneOf 54 = .ok (.lmul, 1) := by decide +kernel
theorem dX12_juneOf_55 : decode cX12_juneOf 55 = .ok (.iload 4, 2) := by decide +kernel
theorem dX12_juneOf_57 : decode cX12_juneOf 57 = .ok (.i2l, 1) := by decide +kernel
theorem dX12_juneOf_58 : decode cX12_juneOf 58 = .ok (.iload_n 1, 1) := by decide +kernel
theorem dX12_juneOf_59 : decode cX12_juneOf 59 = .ok (.iload 8, 2) := by decide +kernel
theorem dX12_juneOf_61 : decode cX12_juneOf 61 = .ok (.isub, 1) := by decide +kernel
theorem dX12_juneOf_62 : decode cX12_juneOf 62 = .ok (.i2l, 1) := by decide +kernel
theorem dX12_juneOf_63 : decode cX12_juneOf 63 = .ok (.lmul, 1) := by decide +kernel
theorem dX12_juneOf_64 : decode cX12_juneOf 64 = .ok (.ladd, 1) := by decide +kernel
theorem dX12_juneOf_65 : decode cX12_juneOf 65 = .ok (.iload_n 2, 1) := by decide +kernel
theorem dX12_juneOf_66 : decode cX12_juneOf 66 = .ok (.i2l, 1) := by decide +kernel
theorem dX12_juneOf_67 : decode cX12_juneOf 67 = .ok (.iload_n 1, 1) := by decide +kernel
theorem dX12_juneOf_68 : decode cX12_juneOf 68 = .ok (.i2l, 1) := by decide +kernel
theorem dX12_juneOf_69 : decode cX12_juneOf 69 = .ok (.lmul, 1) := by decide +kernel
theorem dX12_juneOf_70 : decode cX12_juneOf 70 = .ok (.lsub, 1) := by decide +kernel
theorem dX12_juneOf_71 : decode cX12_juneOf 71 = .ok (.ladd, 1) := by decide +kernel
theorem dX12_juneOf_72 : decode cX12_juneOf 72 = .ok (.lstore 5, 2) := by decide +kernel
theorem dX12_juneOf_74 : decode cX12_juneOf 74 = .ok (.iinc 7 1, 3) := by decide +kernel
theorem dX12_juneOf_77 : decode cX12_juneOf 77 = .ok (.goto (-71), 3) := by decide +kernel
theorem dX12_juneOf_80 : decode cX12_juneOf 80 = .ok (.lload 5, 2) := by decide +kernel
theorem dX12_juneOf_82 : decode cX12_juneOf 82 = .ok (.lreturn, 1) := by decide +kernel
set_option maxHeartbeats 4000000 in
set_option maxRecDepth 100000 in
theorem x_X12_juneOf_45 {p : Program} {l : Launch} {e : Env} {s : State} {m : MethodId} {args : Array Value} {below : List Frame} {meth : Method} {c : Code} {D : va_G} {K : Nat → ClassId} {A : Nat → Prop} {ad : Nat → Nat} {rest : va_W} (C : xC p s m args meth c D K A RX12 cX12_juneOf 9 (some .long)) (z : Int64 × xS) (k_6 : Int32 → Int32 → Int32 → Int32 → Int64 → Int32 → xS → Option (Int64 × xS)) (H_6 : ∀ (y1 : Int32) (y2 : Int32) (y3 : Int32) (y4 : Int32) (y5 : Int64) (y7 : Int32) (σ : xS), k_6 y1 y2 y3 y4 y5 y7 σ = some z → X p l e (xR 0 0) s m args below meth c D A 9 (xQl below D K A args s z.1 (RW K ad rest z.2)) 0 0 6 [(0, .ref (ad 0)), (1, .int y1), (2, .int y2), (3, .int y3), (4, .int y4), (5, .long y5), (7, .int y7)] [] (RW K ad rest σ)) : ∀ (y1 : Int32) (y2 : Int32) (y3 : Int32) (y4 : Int32) (y5 : Int64) (y7 : Int32) (t0 : Int32) (σ : xS), F_X12_juneOf_45 k_6 y1 y2 y3 y4 y5 y7 t0 σ = some z → X p l e (xR 0 0) s m args below meth c D A 9 (xQl below D K A args s z.1 (RW K ad rest z.2)) 0 0 45 [(0, .ref (ad 0)), (1, .int y1), (2, .int y2), (3, .int y3), (4, .int y4), (5, .long y5), (7, .int y7)] [.int t0] (RW K ad rest σ) := by
  intro y1 y2 y3 y4 y5 y7 t0 σ hF
  unfold F_X12_juneOf_45 at hF
  refine x_istore C [(8, .int t0), (0, .ref (ad 0)), (1, .int y1), (2, .int y2), (3, .int y3), (4, .int y4), (5, .long y5), (7, .int y7)] dX12_juneOf_45 (by decide) rfl ?_
  refine x_lload C 6 5 dX12_juneOf_47 rfl ?_
  refine x_iload_n C 4 3 dX12_juneOf_49 rfl rfl ?_
  refine x_i2l C dX12_juneOf_50 ?_
  refine x_iload C 0 8 dX12_juneOf_51 rfl ?_
  refine x_i2l C dX12_juneOf_53 ?_
  refine x_lmul C dX12_juneOf_54 ?_
  refine x_iload C 5 4 dX12_juneOf_55 rfl ?_
  refine x_i2l C dX12_juneOf_57 ?_
  refine x_iload_n C 2 1 dX12_juneOf_58 rfl rfl ?_
  refine x_iload C 0 8 dX12_juneOf_59 rfl ?_
  refine x_isub C dX12_juneOf_61 ?_
  refine x_i2l C dX12_juneOf_62 ?_
  refine x_lmul C dX12_juneOf_63 ?_
  refine x_ladd C dX12_juneOf_64 ?_
  refine x_iload_n C 3 2 dX12_juneOf_65 rfl rfl ?_
  refine x_i2l C dX12_juneOf_66 ?_
  refine x_iload_n C 2 1 dX12_juneOf_67 rfl rfl ?_
  refine x_i2l C dX12_juneOf_68 ?_
  refine x_lmul C dX12_juneOf_69 ?_
  refine x_lsub C dX12_juneOf_70 ?_
  refine x_ladd C dX12_juneOf_71 ?_
  refine x_topL hF (fun x6 hF => ?_)
  refine x_lstore C [(5, .long x6), (8, .int t0), (0, .ref (ad 0)), (1, .int y1), (2, .int y2), (3, .int y3), (4, .int y4), (7, .int y7)] dX12_juneOf_72 (by decide) rfl ?_
  refine x_iincN C 1 7 (fun x7 => [(7, .int x7), (5, .long x6), (8, .int t0), (0, .ref (ad 0)), (1, .int y1), (2, .int y2), (3, .int y3), (4, .int y4)]) dX12_juneOf_74 rfl (by decide +kernel) (by decide) (fun _ => rfl) hF (fun x7 hF => ?_)
  refine x_goto C 6 dX12_juneOf_77 (by decide) ?_
  refine x_loc [(0, .ref (ad 0)), (1, .int y1), (2, .int y2), (3, .int y3), (4, .int y4), (5, .long x6), (7, .int x7)] [3, 4, 5, 6, 7, 1, 0] rfl ?_
  exact H_6 y1 y2 y3 y4 x6 x7 σ hF
set_option maxHeartbeats 4000000 in
set_option maxRecDepth 100000 in
theorem x_X12_juneOf_6 {p : Program} {l : Launch} {e : Env} {s : State} {m : MethodId} {args : Array Value} {below : List Frame} {meth : Method} {c : Code} {D : va_G} {K : Nat → ClassId} {A : Nat → Prop} {ad : Nat → Nat} {rest : va_W} (C : xC p s m args meth c D K A RX12 cX12_juneOf 9 (some .long)) (z : Int64 × xS) : ∀ (n : Nat) (y1 : Int32) (y2 : Int32) (y3 : Int32) (y4 : Int32) (y5 : Int64) (y7 : Int32) (σ : xS), F_X12_juneOf_6  n y1 y2 y3 y4 y5 y7 σ = some z → X p l e (xR 0 0) s m args below meth c D A 9 (xQl below D K A args s z.1 (RW K ad rest z.2)) 0 0 6 [(0, .ref (ad 0)), (1, .int y1), (2, .int y2), (3, .int y3), (4, .int y4), (5, .long y5), (7, .int y7)] [] (RW K ad rest σ) := by
  intro n
  induction n with
  | zero =>
    intro y1 y2 y3 y4 y5 y7 σ hF
    cases hF
  | succ n ih =>
    intro y1 y2 y3 y4 y5 y7 σ hF
    rw [F_X12_juneOf_6] at hF
    refine x_iload C 6 7 dX12_juneOf_6 rfl ?_
    refine x_aload_n C 0 0 dX12_juneOf_8 rfl rfl ?_
    refine x_get C 0 dX12_juneOf_9 fl_X12_13 (RW_o K ad rest σ) rfl ?_
    refine x_iconst C 5 dX12_juneOf_12 (by decide +kernel) ?_
    refine x_iald C 2 dX12_juneOf_13 (RW_a3 K ad rest σ) hF (fun v3 hF => ?_)
    refine x_icmp_ge C 80 dX12_juneOf_14 (by decide) hF (fun hF => ?_) (fun hF => ?_)
    · refine x_lload C 5 5 dX12_juneOf_80 rfl ?_
      exact x_lret C dX12_juneOf_82 rfl (congrArg Prod.fst (Option.some.inj hF)) (congrArg (fun q9 : Int64 × xS => RW K ad rest q9.2) (Option.some.inj hF))
    · refine x_iload_n C 1 1 dX12_juneOf_17 rfl rfl ?_
      refine x_aload_n C 0 0 dX12_juneOf_18 rfl rfl ?_
      refine x_get C 0 dX12_juneOf_19 fl_X12_13 (RW_o K ad rest σ) rfl ?_
      refine x_bipush C 123 dX12_juneOf_22 (by decide +kernel) ?_
      refine x_iload C 6 7 dX12_juneOf_24 rfl ?_
      refine x_iadd C dX12_juneOf_26 ?_
      refine x_iald C 2 dX12_juneOf_27 (RW_a3 K ad rest σ) hF (fun v4 hF => ?_)
      refine x_icmp_ge C 35 dX12_juneOf_28 (by decide) hF (fun hF => ?_) (fun hF => ?_)
      · refine x_aload_n C 0 0 dX12_juneOf_35 rfl rfl ?_
        refine x_get C 0 dX12_juneOf_36 fl_X12_13 (RW_o K ad rest σ) rfl ?_
        refine x_bipush C 123 dX12_juneOf_39 (by decide +kernel) ?_
        refine x_iload C 6 7 dX12_juneOf_41 rfl ?_
        refine x_iadd C dX12_juneOf_43 ?_
        refine x_iald C 2 dX12_juneOf_44 (RW_a3 K ad rest σ) hF (fun v5 hF => ?_)
        exact x_X12_juneOf_45 C z ((F_X12_juneOf_6 n)) ih y1 y2 y3 y4 y5 y7 v5 σ hF
      · refine x_iload_n C 1 1 dX12_juneOf_31 rfl rfl ?_
        refine x_goto C 45 dX12_juneOf_32 (by decide) ?_
        exact x_X12_juneOf_45 C z ((F_X12_juneOf_6 n)) ih y1 y2 y3 y4 y5 y7 y1 σ hF
set_option maxHeartbeats 4000000 in
set_option maxRecDepth 100000 in
theorem c_X12_juneOf (l : Launch) (D : va_G) (K : Nat → ClassId) (ad : Nat → Nat) (rest : va_W) (a1 : Int32) (a2 : Int32) (a3 : Int32) (a4 : Int32) (σ : xS) (z : Int64 × xS) (hF : F_X12_juneOf a1 a2 a3 a4 σ = some z) : CL l D K yX12_juneOf cX12_juneOf 9 (some .long) 0 0 [.ref (ad 0), .int a1, .int a2, .int a3, .int a4] (RW K ad rest σ) z.1 (RW K ad rest z.2) := by
  refine x_enterL [(0, .ref (ad 0)), (1, .int a1), (2, .int a2), (3, .int a3), (4, .int a4)] pnX12 (Nat.le_of_ble_eq_true rfl) rfl ?_
  intro p e s m args below meth c A C
  unfold F_X12_juneOf at hF
  refine x_lconst C 0 dX12_juneOf_0 (by decide +kernel) ?_
  refine x_topL hF (fun x1 hF => ?_)
  refine x_lstore C [(5, .long x1), (0, .ref (ad 0)), (1, .int a1), (2, .int a2), (3, .int a3), (4, .int a4)] dX12_juneOf_1 (by decide) rfl ?_
  refine x_iconst C 0 dX12_juneOf_3 (by decide +kernel) ?_
  refine x_topI hF (fun x2 hF => ?_)
  refine x_istore C [(7, .int x2), (5, .long x1), (0, .ref (ad 0)), (1, .int a1), (2, .int a2), (3, .int a3), (4, .int a4)] dX12_juneOf_4 (by decide) rfl ?_
  refine x_loc [(0, .ref (ad 0)), (1, .int a1), (2, .int a2), (3, .int a3), (4, .int a4), (5, .long x1), (7, .int x2)] [2, 3, 4, 5, 6, 1, 0] rfl ?_
  exact x_X12_juneOf_6 C z FU a1 a2 a3 a4 x1 x2 σ hF
theorem dX12_june_0 : decode cX12_june 0 = .ok (.aload_n 0, 1) := by decide +kernel
theorem dX12_june_1 : decode cX12_june 1 = .ok (.iconst 0, 1) := by decide +kernel
theorem dX12_june_2 : decode cX12_june 2 = .ok (.putfield 107, 3) := by decide +kernel
theorem dX12_june_5 : decode cX12_june 5 = .ok (.iload_n 1, 1) := by decide +kernel
theorem dX12_june_6 : decode cX12_june 6 = .ok (.i2l, 1) := by decide +kernel
theorem dX12_june_7 : decode cX12_june 7 = .ok (.lconst 0, 1) := by decide +kernel
theorem dX12_june_8 : decode cX12_june 8 = .ok (.ldc2_w 126, 3) := by decide +kernel
theorem dX12_june_11 : decode cX12_june 11 = .ok (.invokestatic 117, 3) := by decide +kernel
theorem dX12_june_14 : decode cX12_june 14 = .ok (.ifCond .eq 26, 3) := by decide +kernel
theorem dX12_june_17 : decode cX12_june 17 = .ok (.aload_n 0, 1) := by decide +kernel
theorem dX12_june_18 : decode cX12_june 18 = .ok (.iload_n 2, 1) := by decide +kernel
theorem dX12_june_19 : decode cX12_june 19 = .ok (.iload_n 3, 1) := by decide +kernel
theorem dX12_june_20 : decode cX12_june 20 = .ok (.iload 4, 2) := by decide +kernel
theorem dX12_june_22 : decode cX12_june 22 = .ok (.invokevirtual 436, 3) := by decide +kernel
theorem dX12_june_25 : decode cX12_june 25 = .ok (.ifCond .eq 15, 3) := by decide +kernel
theorem dX12_june_28 : decode cX12_june 28 = .ok (.aload_n 0, 1) := by decide +kernel
theorem dX12_june_29 : decode cX12_june 29 = .ok (.iload_n 1, 1) := by decide +kernel
theorem dX12_june_30 : decode cX12_june 30 = .ok (.iload_n 2, 1) := by decide +kernel
theorem dX12_june_31 : decode cX12_june 31 = .ok (.iload_n 3, 1) := by decide +kernel
theorem dX12_june_32 : decode cX12_june 32 = .ok (.iload 4, 2) := by decide +kernel
theorem dX12_june_34 : decode cX12_june 34 = .ok (.invokevirtual 440, 3) := by decide +kernel
theorem dX12_june_37 : decode cX12_june 37 = .ok (.goto 6, 3) := by decide +kernel
theorem dX12_june_40 : decode cX12_june 40 = .ok (.ldc2_w 375, 3) := by decide +kernel
theorem dX12_june_43 : decode cX12_june 43 = .ok (.lreturn, 1) := by decide +kernel
set_option maxHeartbeats 4000000 in
set_option maxRecDepth 100000 in
theorem c_X12_june (l : Launch) (D : va_G) (K : Nat → ClassId) (ad : Nat → Nat) (rest : va_W) (a1 : Int32) (a2 : Int32) (a3 : Int32) (a4 : Int32) (σ : xS) (z : Int64 × xS) (hF : F_X12_june a1 a2 a3 a4 σ = some z) : CL l D K yX12_june cX12_june 5 (some .long) 2 48 [.ref (ad 0), .int a1, .int a2, .int a3, .int a4] (RW K ad rest σ) z.1 (RW K ad rest z.2) := by
  refine x_enterL [(0, .ref (ad 0)), (1, .int a1), (2, .int a2), (3, .int a3), (4, .int a4)] pnX12 (Nat.le_of_ble_eq_true rfl) rfl ?_
  intro p e s m args below meth c A C
  unfold F_X12_june at hF
  refine x_aload_n C 0 0 dX12_june_0 rfl rfl ?_
  refine x_iconst C 0 dX12_june_1 (by decide +kernel) ?_
  refine x_put C 0 dX12_june_2 fl_X12_107 fm_X12_0 rfl rfl (RW_o K ad rest σ) (Nat.le_of_ble_eq_true rfl) (RW_s0 K ad rest σ _) ?_
  refine x_st (wf := RW K ad rest) hF (fun σ1 hF => ?_)
  refine x_iload_n C 1 1 dX12_june_5 rfl rfl ?_
  refine x_i2l C dX12_june_6 ?_
  refine x_lconst C 0 dX12_june_7 (by decide +kernel) ?_
  refine x_ldc2 C 999 dX12_june_8 cl_X12_126 ?_
  refine x_callSI C (wf := RW K ad rest) (As := [.long (a1.toInt64), .long 0, .long 999]) (rest := []) dX12_june_11 ml_X12_117 rfl rfl (Nat.le_of_ble_eq_true rfl) ⟨Nat.le_of_ble_eq_true rfl, Nat.le_of_ble_eq_true rfl⟩ ⟨Nat.zero_le _, Nat.zero_le _⟩ (fun q9 hq9 => c_X12_in l D K ad rest (a1.toInt64) 0 999 σ1 q9 hq9) hF (fun v3 σ2 hF => ?_)
  refine x_if_eq C 40 dX12_june_14 (by decide) hF (fun hF => ?_) (fun hF => ?_)
  · refine x_ldc2 C (-1000000000000000000) dX12_june_40 cl_X12_375 ?_
    exact x_lret C dX12_june_43 rfl (congrArg Prod.fst (Option.some.inj hF)) (congrArg (fun q9 : Int64 × xS => RW K ad rest q9.2) (Option.some.inj hF))
  · refine x_aload_n C 0 0 dX12_june_17 rfl rfl ?_
    refine x_iload_n C 2 2 dX12_june_18 rfl rfl ?_
    refine x_iload_n C 3 3 dX12_june_19 rfl rfl ?_
    refine x_iload C 4 4 dX12_june_20 rfl ?_
    refine x_callVI C (wf := RW K ad rest) (As := [.int a2, .int a3, .int a4]) (rest := []) dX12_june_22 ml_X12_436 rfl rfl (Nat.le_of_ble_eq_true rfl) 0 (RW_o K ad rest σ2) rfl ⟨Nat.le_of_ble_eq_true rfl, Nat.le_of_ble_eq_true rfl⟩ ⟨Nat.zero_le _, Nat.zero_le _⟩ (fun q9 hq9 => c_X12_areSums l D K ad rest a2 a3 a4 σ2 q9 hq9) hF (fun v5 σ4 hF => ?_)
    refine x_if_eq C 40 dX12_june_25 (by decide) hF (fun hF => ?_) (fun hF => ?_)
    · refine x_ldc2 C (-1000000000000000000) dX12_june_40 cl_X12_375 ?_
      exact x_lret C dX12_june_43 rfl (congrArg Prod.fst (Option.some.inj hF)) (congrArg (fun q9 : Int64 × xS => RW K ad rest q9.2) (Option.some.inj hF))
    · refine x_aload_n C 0 0 dX12_june_28 rfl rfl ?_
      refine x_iload_n C 1 1 dX12_june_29 rfl rfl ?_
      refine x_iload_n C 2 2 dX12_june_30 rfl rfl ?_
      refine x_iload_n C 3 3 dX12_june_31 rfl rfl ?_
      refine x_iload C 4 4 dX12_june_32 rfl ?_
      refine x_callVL C (wf := RW K ad rest) (As := [.int a1, .int a2, .int a3, .int a4]) (rest := []) dX12_june_34 ml_X12_440 rfl rfl (Nat.le_of_ble_eq_true rfl) 0 (RW_o K ad rest σ4) rfl ⟨Nat.le_of_ble_eq_true rfl, Nat.le_of_ble_eq_true rfl⟩ ⟨Nat.zero_le _, Nat.zero_le _⟩ (fun q9 hq9 => c_X12_juneOf l D K ad rest a1 a2 a3 a4 σ4 q9 hq9) hF (fun v7 σ6 hF => ?_)
      refine x_goto C 43 dX12_june_37 (by decide) ?_
      exact x_lret C dX12_june_43 rfl (congrArg Prod.fst (Option.some.inj hF)) (congrArg (fun q9 : Int64 × xS => RW K ad rest q9.2) (Option.some.inj hF))
theorem dX12_copies_0 : decode cX12_copies 0 = .ok (.aload_n 0, 1) := by decide +kernel
theorem dX12_copies_1 : decode cX12_copies 1 = .ok (.iconst 0, 1) := by decide +kernel
theorem dX12_copies_2 : decode cX12_copies 2 = .ok (.putfield 107, 3) := by decide +kernel
theorem dX12_copies_5 : decode cX12_copies 5 = .ok (.aload_n 0, 1) := by decide +kernel
theorem dX12_copies_6 : decode cX12_copies 6 = .ok (.iload_n 1, 1) := by decide +kernel
theorem dX12_copies_7 : decode cX12_copies 7 = .ok (.iload_n 2, 1) := by decide +kernel
theorem dX12_copies_8 : decode cX12_copies 8 = .ok (.iload_n 3, 1) := by decide +kernel
theorem dX12_copies_9 : decode cX12_copies 9 = .ok (.invokevirtual 436, 3) := by decide +kernel
theorem dX12_copies_12 : decode cX12_copies 12 = .ok (.ifCond .ne 5, 3) := by decide +kernel
theorem dX12_copies_15 : decode cX12_copies 15 = .ok (.iconst (-1), 1) := by decide +kernel
theorem dX12_copies_16 : decode cX12_copies 16 = .ok (.ireturn, 1) := by decide +kernel
theorem dX12_copies_17 : decode cX12_copies 17 = .ok (.iconst 0, 1) := by decide +kernel
theorem dX12_copies_18 : decode cX12_copies 18 = .ok (.istore 4, 2) := by decide +kernel
theorem dX12_copies_20 : decode cX12_copies 20 = .ok (.iconst 1, 1) := by decide +kernel
theorem dX12_copies_21 : decode cX12_copies 21 = .ok (.istore 5, 2) := by decide +kernel
theorem dX12_copies_23 : decode cX12_copies 23 = .ok (.iload 5, 2) := by decide +kernel
theorem dX12_copies_25 : decode cX12_copies 25 = .ok (.sipush 1000, 3) := by decide +kernel
theorem dX12_copies_28 : decode cX12_copies 28 = .ok (.if_icmp .ge 40, 3) := by decide +kernel
theorem dX12_copies_31 : decode cX12_copies 31 = .ok (.aload_n 0, 1) := by decide +kernel
theorem dX12_copies_32 : decode cX12_copies 32 = .ok (.iload 5, 2) := by decide +kernel
theorem dX12_copies_34 : decode cX12_copies 34 = .ok (.iload_n 1, 1) := by decide +kernel
theorem dX12_copies_35 : decode cX12_copies 35 = .ok (.iload_n 2, 1) := by decide +kernel
theorem dX12_copies_36 : decode cX12_copies 36 = .ok (.iload_n 3, 1) := by decide +kernel
theorem dX12_copies_37 : decode cX12_copies 37 = .ok (.invokevirtual 440, 3) := by decide +kernel
theorem dX12_copies_40 : decode cX12_copies 40 = .ok (.aload_n 0, 1) := by decide +kernel
theorem dX12_copies_41 : decode cX12_copies 41 = .ok (.iload 4, 2) := by decide +kernel
theorem dX12_copies_43 : decode cX12_copies 43 = .ok (.iload_n 1, 1) := by decide +kernel
theorem dX12_copies_44 : decode cX12_copies 44 = .ok (.iload_n 2, 1) := by decide +kernel
theorem dX12_copies_45 : decode cX12_copies 45 = .ok (.iload_n 3, 1) := by decide +kernel
theorem dX12_copies_46 : decode cX12_copies 46 = .ok (.invokevirtual 440, 3) := by decide +kernel
theorem dX12_copies_49 : decode cX12_copies 49 = .ok (.lcmp, 1) := by decide +kernel
theorem dX12_copies_50 : decode cX12_copies 50 = .ok (.ifCond .le 8, 3) := by decide +kernel
theorem dX12_copies_53 : decode cX12_copies 53 = .ok (.iload 5, 2) := by decide +kernel
theorem dX12_copies_55 : decode cX12_copies 55 = .ok (.goto 5, 3) := by decide +kernel
theorem dX12_copies_58 : decode cX12_copies 58 = .ok (.iload 4, 2) := by decide +kernel
theorem dX12_copies_60 : decode cX12_copies 60 = .ok (.istore 4, 2) := by decide +kernel
theorem dX12_copies_62 : decode cX12_copies 62 = .ok (.iinc 5 1, 3) := by decide +kernel
theorem dX12_copies_65 : decode cX12_copies 65 = .ok (.goto (-42), 3) := by decide +kernel
theorem dX12_copies_68 : decode cX12_copies 68 = .ok (.iload 4, 2) := by decide +kernel
theorem dX12_copies_70 : decode cX12_copies 70 = .ok (.ireturn, 1) := by decide +kernel
set_option maxHeartbeats 4000000 in
set_option maxRecDepth 100000 in
theorem x_X12_copies_23 {p : Program} {l : Launch} {e : Env} {s : State} {m : MethodId} {args : Array Value} {below : List Frame} {meth : Method} {c : Code} {D : va_G} {K : Nat → ClassId} {A : Nat → Prop} {ad : Nat → Nat} {rest : va_W} (C : xC p s m args meth c D K A RX12 cX12_copies 6 (some .int)) (z : Int32 × xS) : ∀ (n : Nat) (y1 : Int32) (y2 : Int32) (y3 : Int32) (y4 : Int32) (y5 : Int32) (σ : xS), F_X12_copies_23  n y1 y2 y3 y4 y5 σ = some z → X p l e (xR 2 48) s m args below meth c D A 6 (xQi below D K A args s z.1 (RW K ad rest z.2)) 0 0 23 [(0, .ref (ad 0)), (1, .int y1), (2, .int y2), (3, .int y3), (4, .int y4), (5, .int y5)] [] (RW K ad rest σ) := by
  intro n
  induction n with
  | zero =>
    intro y1 y2 y3 y4 y5 σ hF
    cases hF
  | succ n ih =>
    intro y1 y2 y3 y4 y5 σ hF
    rw [F_X12_copies_23] at hF
    refine x_iload C 5 5 dX12_copies_23 rfl ?_
    refine x_sipush C 1000 dX12_copies_25 (by decide +kernel) ?_
    refine x_icmp_ge C 68 dX12_copies_28 (by decide) hF (fun hF => ?_) (fun hF => ?_)
    · refine x_iload C 4 4 dX12_copies_68 rfl ?_
      exact x_iret C dX12_copies_70 rfl (congrArg Prod.fst (Option.some.inj hF)) (congrArg (fun q9 : Int32 × xS => RW K ad rest q9.2) (Option.some.inj hF))
    · refine x_aload_n C 0 0 dX12_copies_31 rfl rfl ?_
      refine x_iload C 5 5 dX12_copies_32 rfl ?_
      refine x_iload_n C 1 1 dX12_copies_34 rfl rfl ?_
      refine x_iload_n C 2 2 dX12_copies_35 rfl rfl ?_
      refine x_iload_n C 3 3 dX12_copies_36 rfl rfl ?_
      refine x_callVL C (wf := RW K ad rest) (As := [.int y5, .int y1, .int y2, .int y3]) (rest := []) dX12_copies_37 ml_X12_440 rfl rfl (Nat.le_of_ble_eq_true rfl) 0 (RW_o K ad rest σ) rfl ⟨Nat.le_of_ble_eq_true rfl, Nat.le_of_ble_eq_true rfl⟩ ⟨Nat.zero_le _, Nat.zero_le _⟩ (fun q9 hq9 => c_X12_juneOf l D K ad rest y5 y1 y2 y3 σ q9 hq9) hF (fun v7 σ6 hF => ?_)
      refine x_aload_n C 0 0 dX12_copies_40 rfl rfl ?_
      refine x_iload C 4 4 dX12_copies_41 rfl ?_
      refine x_iload_n C 1 1 dX12_copies_43 rfl rfl ?_
      refine x_iload_n C 2 2 dX12_copies_44 rfl rfl ?_
      refine x_iload_n C 3 3 dX12_copies_45 rfl rfl ?_
      refine x_callVL C (wf := RW K ad rest) (As := [.int y4, .int y1, .int y2, .int y3]) (rest := [.long v7]) dX12_copies_46 ml_X12_440 rfl rfl (Nat.le_of_ble_eq_true rfl) 0 (RW_o K ad rest σ6) rfl ⟨Nat.le_of_ble_eq_true rfl, Nat.le_of_ble_eq_true rfl⟩ ⟨Nat.zero_le _, Nat.zero_le _⟩ (fun q9 hq9 => c_X12_juneOf l D K ad rest y4 y1 y2 y3 σ6 q9 hq9) hF (fun v9 σ8 hF => ?_)
      refine x_lcmp C dX12_copies_49 ?_
      refine x_if_le C 58 dX12_copies_50 (by decide) hF (fun hF => ?_) (fun hF => ?_)
      · refine x_iload C 4 4 dX12_copies_58 rfl ?_
        refine x_istore C [(4, .int y4), (0, .ref (ad 0)), (1, .int y1), (2, .int y2), (3, .int y3), (5, .int y5)] dX12_copies_60 (by decide) rfl ?_
        refine x_iincN C 1 5 (fun x10 => [(5, .int x10), (4, .int y4), (0, .ref (ad 0)), (1, .int y1), (2, .int y2), (3, .int y3)]) dX12_copies_62 rfl (by decide +kernel) (by decide) (fun _ => rfl) hF (fun x10 hF => ?_)
        refine x_goto C 23 dX12_copies_65 (by decide) ?_
        refine x_loc [(0, .ref (ad 0)), (1, .int y1), (2, .int y2), (3, .int y3), (4, .int y4), (5, .int x10)] [2, 3, 4, 5, 1, 0] rfl ?_
        exact ih y1 y2 y3 y4 x10 σ8 hF
      · refine x_iload C 5 5 dX12_copies_53 rfl ?_
        refine x_goto C 60 dX12_copies_55 (by decide) ?_
        refine x_istore C [(4, .int y5), (0, .ref (ad 0)), (1, .int y1), (2, .int y2), (3, .int y3), (5, .int y5)] dX12_copies_60 (by decide) rfl ?_
        refine x_iincN C 1 5 (fun x11 => [(5, .int x11), (4, .int y5), (0, .ref (ad 0)), (1, .int y1), (2, .int y2), (3, .int y3)]) dX12_copies_62 rfl (by decide +kernel) (by decide) (fun _ => rfl) hF (fun x11 hF => ?_)
        refine x_goto C 23 dX12_copies_65 (by decide) ?_
        refine x_loc [(0, .ref (ad 0)), (1, .int y1), (2, .int y2), (3, .int y3), (4, .int y5), (5, .int x11)] [2, 3, 4, 5, 1, 0] rfl ?_
        exact ih y1 y2 y3 y5 x11 σ8 hF
set_option maxHeartbeats 4000000 in
set_option maxRecDepth 100000 in
theorem c_X12_copies (l : Launch) (D : va_G) (K : Nat → ClassId) (ad : Nat → Nat) (rest : va_W) (a1 : Int32) (a2 : Int32) (a3 : Int32) (σ : xS) (z : Int32 × xS) (hF : F_X12_copies a1 a2 a3 σ = some z) : CI l D K yX12_copies cX12_copies 6 (some .int) 2 48 [.ref (ad 0), .int a1, .int a2, .int a3] (RW K ad rest σ) z.1 (RW K ad rest z.2) := by
  refine x_enterI [(0, .ref (ad 0)), (1, .int a1), (2, .int a2), (3, .int a3)] pnX12 (Nat.le_of_ble_eq_true rfl) rfl ?_
  intro p e s m args below meth c A C
  unfold F_X12_copies at hF
  refine x_aload_n C 0 0 dX12_copies_0 rfl rfl ?_
  refine x_iconst C 0 dX12_copies_1 (by decide +kernel) ?_
  refine x_put C 0 dX12_copies_2 fl_X12_107 fm_X12_0 rfl rfl (RW_o K ad rest σ) (Nat.le_of_ble_eq_true rfl) (RW_s0 K ad rest σ _) ?_
  refine x_st (wf := RW K ad rest) hF (fun σ1 hF => ?_)
  refine x_aload_n C 0 0 dX12_copies_5 rfl rfl ?_
  refine x_iload_n C 1 1 dX12_copies_6 rfl rfl ?_
  refine x_iload_n C 2 2 dX12_copies_7 rfl rfl ?_
  refine x_iload_n C 3 3 dX12_copies_8 rfl rfl ?_
  refine x_callVI C (wf := RW K ad rest) (As := [.int a1, .int a2, .int a3]) (rest := []) dX12_copies_9 ml_X12_436 rfl rfl (Nat.le_of_ble_eq_true rfl) 0 (RW_o K ad rest σ1) rfl ⟨Nat.le_of_ble_eq_true rfl, Nat.le_of_ble_eq_true rfl⟩ ⟨Nat.zero_le _, Nat.zero_le _⟩ (fun q9 hq9 => c_X12_areSums l D K ad rest a1 a2 a3 σ1 q9 hq9) hF (fun v3 σ2 hF => ?_)
  refine x_if_ne C 17 dX12_copies_12 (by decide) hF (fun hF => ?_) (fun hF => ?_)
  · refine x_iconst C 0 dX12_copies_17 (by decide +kernel) ?_
    refine x_topI hF (fun x4 hF => ?_)
    refine x_istore C [(4, .int x4), (0, .ref (ad 0)), (1, .int a1), (2, .int a2), (3, .int a3)] dX12_copies_18 (by decide) rfl ?_
    refine x_iconst C 1 dX12_copies_20 (by decide +kernel) ?_
    refine x_topI hF (fun x5 hF => ?_)
    refine x_istore C [(5, .int x5), (4, .int x4), (0, .ref (ad 0)), (1, .int a1), (2, .int a2), (3, .int a3)] dX12_copies_21 (by decide) rfl ?_
    refine x_loc [(0, .ref (ad 0)), (1, .int a1), (2, .int a2), (3, .int a3), (4, .int x4), (5, .int x5)] [2, 3, 4, 5, 1, 0] rfl ?_
    exact x_X12_copies_23 C z FU a1 a2 a3 x4 x5 σ2 hF
  · refine x_iconst C (-1) dX12_copies_15 (by decide +kernel) ?_
    exact x_iret C dX12_copies_16 rfl (congrArg Prod.fst (Option.some.inj hF)) (congrArg (fun q9 : Int32 × xS => RW K ad rest q9.2) (Option.some.inj hF))
theorem dX12_mark_0 : decode cX12_mark 0 = .ok (.aload_n 0, 1) := by decide +kernel
theorem dX12_mark_1 : decode cX12_mark 1 = .ok (.iconst 0, 1) := by decide +kernel
theorem dX12_mark_2 : decode cX12_mark 2 = .ok (.putfield 107, 3) := by decide +kernel
theorem dX12_mark_5 : decode cX12_mark 5 = .ok (.iload_n 1, 1) := by decide +kernel
theorem dX12_mark_6 : decode cX12_mark 6 = .ok (.i2l, 1) := by decide +kernel
theorem dX12_mark_7 : decode cX12_mark 7 = .ok (.lconst 0, 1) := by decide +kernel
theorem dX12_mark_8 : decode cX12_mark 8 = .ok (.ldc2_w 360, 3) := by decide +kernel
theorem dX12_mark_11 : decode cX12_mark 11 = .ok (.invokestatic 117, 3) := by decide +kernel
theorem dX12_mark_14 : decode cX12_mark 14 = .ok (.ifCond .eq 15, 3) := by decide +kernel
theorem dX12_mark_17 : decode cX12_mark 17 = .ok (.iload_n 2, 1) := by decide +kernel
theorem dX12_mark_18 : decode cX12_mark 18 = .ok (.i2l, 1) := by decide +kernel
theorem dX12_mark_19 : decode cX12_mark 19 = .ok (.lconst 0, 1) := by decide +kernel
theorem dX12_mark_20 : decode cX12_mark 20 = .ok (.ldc2_w 360, 3) := by decide +kernel
theorem dX12_mark_23 : decode cX12_mark 23 = .ok (.invokestatic 117, 3) := by decide +kernel
theorem dX12_mark_26 : decode cX12_mark 26 = .ok (.ifCond .ne 9, 3) := by decide +kernel
theorem dX12_mark_29 : decode cX12_mark 29 = .ok (.aload_n 0, 1) := by decide +kernel
theorem dX12_mark_30 : decode cX12_mark 30 = .ok (.iconst (-1), 1) := by decide +kernel
theorem dX12_mark_31 : decode cX12_mark 31 = .ok (.invokevirtual 121, 3) := by decide +kernel
theorem dX12_mark_34 : decode cX12_mark 34 = .ok (.ireturn, 1) := by decide +kernel
theorem dX12_mark_35 : decode cX12_mark 35 = .ok (.aload_n 0, 1) := by decide +kernel
theorem dX12_mark_36 : decode cX12_mark 36 = .ok (.getfield 13, 3) := by decide +kernel
theorem dX12_mark_39 : decode cX12_mark 39 = .ok (.bipush 6, 2) := by decide +kernel
theorem dX12_mark_41 : decode cX12_mark 41 = .ok (.iaload, 1) := by decide +kernel
theorem dX12_mark_42 : decode cX12_mark 42 = .ok (.istore_n 3, 1) := by decide +kernel
theorem dX12_mark_43 : decode cX12_mark 43 = .ok (.iload_n 3, 1) := by decide +kernel
theorem dX12_mark_44 : decode cX12_mark 44 = .ok (.bipush 6, 2) := by decide +kernel
theorem dX12_mark_46 : decode cX12_mark 46 = .ok (.if_icmp .ne 10, 3) := by decide +kernel
theorem dX12_mark_49 : decode cX12_mark 49 = .ok (.aload_n 0, 1) := by decide +kernel
theorem dX12_mark_50 : decode cX12_mark 50 = .ok (.bipush (-5), 2) := by decide +kernel
theorem dX12_mark_52 : decode cX12_mark 52 = .ok (.invokevirtual 121, 3) := by decide +kernel
theorem dX12_mark_55 : decode cX12_mark 55 = .ok (.ireturn, 1) := by decide +kernel
theorem dX12_mark_56 : decode cX12_mark 56 = .ok (.aload_n 0, 1) := by decide +kernel
theorem dX12_mark_57 : decode cX12_mark 57 = .ok (.getfield 13, 3) := by decide +kernel
theorem dX12_mark_60 : decode cX12_mark 60 = .ok (.sipush 133, 3) := by decide +kernel
theorem dX12_mark_63 : decode cX12_mark 63 = .ok (.iconst 2, 1) := by decide +kernel
theorem dX12_mark_64 : decode cX12_mark 64 = .ok (.iload_n 3, 1) := by decide +kernel
theorem dX12_mark_65 : decode cX12_mark 65 = .ok (.imul, 1) := by decide +kernel
theorem dX12_mark_66 : decode cX12_mark 66 = .ok (.iadd, 1) := by decide +kernel
theorem dX12_mark_67 : decode cX12_mark 67 = .ok (.iload_n 1, 1) := by decide +kernel
theorem dX12_mark_68 : decode cX12_mark 68 = .ok (.iastore, 1) := by decide +kernel
theorem dX12_mark_69 : decode cX12_mark 69 = .ok (.aload_n 0, 1) := by decide +kernel
theorem dX12_mark_70 : decode cX12_mark 70 = .ok (.getfield 13, 3) := by decide +kernel
theorem dX12_mark_73 : decode cX12_mark 73 = .ok (.sipush 133, 3) := by decide +kernel
theorem dX12_mark_76 : decode cX12_mark 76 = .ok (.iconst 2, 1) := by decide +kernel
theorem dX12_mark_77 : decode cX12_mark 77 = .ok (.iload_n 3, 1) := by decide +kernel
theorem dX12_mark_78 : decode cX12_mark 78 = .ok (.imul, 1) := by decide +kernel
theorem dX12_mark_79 : decode cX12_mark 79 = .ok (.iadd, 1) := by decide +kernel
theorem dX12_mark_80 : decode cX12_mark 80 = .ok (.iconst 1, 1) := by decide +kernel
theorem dX12_mark_81 : decode cX12_mark 81 = .ok (.iadd, 1) := by decide +kernel
theorem dX12_mark_82 : decode cX12_mark 82 = .ok (.iload_n 2, 1) := by decide +kernel
theorem dX12_mark_83 : decode cX12_mark 83 = .ok (.iastore, 1) := by decide +kernel
theorem dX12_mark_84 : decode cX12_mark 84 = .ok (.aload_n 0, 1) := by decide +kernel
theorem dX12_mark_85 : decode cX12_mark 85 = .ok (.getfield 13, 3) := by decide +kernel
theorem dX12_mark_88 : decode cX12_mark 88 = .ok (.bipush 6, 2) := by decide +kernel
theorem dX12_mark_90 : decode cX12_mark 90 = .ok (.dup2, 1) := by decide +kernel
theorem dX12_mark_91 : decode cX12_mark 91 = .ok (.iaload, 1) := by decide +kernel
theorem dX12_mark_92 : decode cX12_mark 92 = .ok (.iconst 1, 1) := by decide +kernel
theorem dX12_mark_93 : decode cX12_mark 93 = .ok (.iadd, 1) := by decide +kernel
theorem dX12_mark_94 : decode cX12_mark 94 = .ok (.iastore, 1) := by decide +kernel
theorem dX12_mark_95 : decode cX12_mark 95 = .ok (.aload_n 0, 1) := by decide +kernel
theorem dX12_mark_96 : decode cX12_mark 96 = .ok (.iload_n 3, 1) := by decide +kernel
theorem dX12_mark_97 : decode cX12_mark 97 = .ok (.invokevirtual 121, 3) := by decide +kernel
theorem dX12_mark_100 : decode cX12_mark 100 = .ok (.ireturn, 1) := by decide +kernel
set_option maxHeartbeats 4000000 in
set_option maxRecDepth 100000 in
theorem x_X12_mark_29 {p : Program} {l : Launch} {e : Env} {s : State} {m : MethodId} {args : Array Value} {below : List Frame} {meth : Method} {c : Code} {D : va_G} {K : Nat → ClassId} {A : Nat → Prop} {ad : Nat → Nat} {rest : va_W} (C : xC p s m args meth c D K A RX12 cX12_mark 4 (some .int)) (z : Int32 × xS) : ∀  (σ : xS), F_X12_mark_29  σ = some z → X p l e (xR 1 25) s m args below meth c D A 4 (xQi below D K A args s z.1 (RW K ad rest z.2)) 0 0 29 [(0, .ref (ad 0))] [] (RW K ad rest σ) := by
  intro σ hF
  unfold F_X12_mark_29 at hF
  refine x_aload_n C 0 0 dX12_mark_29 rfl rfl ?_
  refine x_iconst C (-1) dX12_mark_30 (by decide +kernel) ?_
  refine x_callVI C (wf := RW K ad rest) (As := [.int ((-1))]) (rest := []) dX12_mark_31 ml_X12_121 rfl rfl (Nat.le_of_ble_eq_true rfl) 0 (RW_o K ad rest σ) rfl ⟨Nat.le_of_ble_eq_true rfl, Nat.le_of_ble_eq_true rfl⟩ ⟨Nat.zero_le _, Nat.zero_le _⟩ (fun q9 hq9 => c_X12_tell l D K ad rest ((-1)) σ q9 hq9) hF (fun v16 σ15 hF => ?_)
  exact x_iret C dX12_mark_34 rfl (congrArg Prod.fst (Option.some.inj hF)) (congrArg (fun q9 : Int32 × xS => RW K ad rest q9.2) (Option.some.inj hF))
set_option maxHeartbeats 4000000 in
set_option maxRecDepth 100000 in
theorem c_X12_mark (l : Launch) (D : va_G) (K : Nat → ClassId) (ad : Nat → Nat) (rest : va_W) (a1 : Int32) (a2 : Int32) (σ : xS) (z : Int32 × xS) (hF : F_X12_mark a1 a2 σ = some z) : CI l D K yX12_mark cX12_mark 4 (some .int) 1 25 [.ref (ad 0), .int a1, .int a2] (RW K ad rest σ) z.1 (RW K ad rest z.2) := by
  refine x_enterI [(0, .ref (ad 0)), (1, .int a1), (2, .int a2)] pnX12 (Nat.le_of_ble_eq_true rfl) rfl ?_
  intro p e s m args below meth c A C
  unfold F_X12_mark at hF
  refine x_aload_n C 0 0 dX12_mark_0 rfl rfl ?_
  refine x_iconst C 0 dX12_mark_1 (by decide +kernel) ?_
  refine x_put C 0 dX12_mark_2 fl_X12_107 fm_X12_0 rfl rfl (RW_o K ad rest σ) (Nat.le_of_ble_eq_true rfl) (RW_s0 K ad rest σ _) ?_
  refine x_st (wf := RW K ad rest) hF (fun σ1 hF => ?_)
  refine x_iload_n C 1 1 dX12_mark_5 rfl rfl ?_
  refine x_i2l C dX12_mark_6 ?_
  refine x_lconst C 0 dX12_mark_7 (by decide +kernel) ?_
  refine x_ldc2 C 100 dX12_mark_8 cl_X12_360 ?_
  refine x_callSI C (wf := RW K ad rest) (As := [.long (a1.toInt64), .long 0, .long 100]) (rest := []) dX12_mark_11 ml_X12_117 rfl rfl (Nat.le_of_ble_eq_true rfl) ⟨Nat.le_of_ble_eq_true rfl, Nat.le_of_ble_eq_true rfl⟩ ⟨Nat.zero_le _, Nat.zero_le _⟩ (fun q9 hq9 => c_X12_in l D K ad rest (a1.toInt64) 0 100 σ1 q9 hq9) hF (fun v3 σ2 hF => ?_)
  refine x_if_eq C 29 dX12_mark_14 (by decide) hF (fun hF => ?_) (fun hF => ?_)
  · refine x_loc [(0, .ref (ad 0))] [0] rfl ?_
    exact x_X12_mark_29 C z σ2 hF
  · refine x_iload_n C 2 2 dX12_mark_17 rfl rfl ?_
    refine x_i2l C dX12_mark_18 ?_
    refine x_lconst C 0 dX12_mark_19 (by decide +kernel) ?_
    refine x_ldc2 C 100 dX12_mark_20 cl_X12_360 ?_
    refine x_callSI C (wf := RW K ad rest) (As := [.long (a2.toInt64), .long 0, .long 100]) (rest := []) dX12_mark_23 ml_X12_117 rfl rfl (Nat.le_of_ble_eq_true rfl) ⟨Nat.le_of_ble_eq_true rfl, Nat.le_of_ble_eq_true rfl⟩ ⟨Nat.zero_le _, Nat.zero_le _⟩ (fun q9 hq9 => c_X12_in l D K ad rest (a2.toInt64) 0 100 σ2 q9 hq9) hF (fun v5 σ4 hF => ?_)
    refine x_if_ne C 35 dX12_mark_26 (by decide) hF (fun hF => ?_) (fun hF => ?_)
    · refine x_aload_n C 0 0 dX12_mark_35 rfl rfl ?_
      refine x_get C 0 dX12_mark_36 fl_X12_13 (RW_o K ad rest σ4) rfl ?_
      refine x_bipush C 6 dX12_mark_39 (by decide +kernel) ?_
      refine x_iald C 2 dX12_mark_41 (RW_a3 K ad rest σ4) hF (fun v6 hF => ?_)
      refine x_istore_n C [(3, .int v6), (0, .ref (ad 0)), (1, .int a1), (2, .int a2)] dX12_mark_42 rfl (by decide) rfl ?_
      refine x_iload_n C 0 3 dX12_mark_43 rfl rfl ?_
      refine x_bipush C 6 dX12_mark_44 (by decide +kernel) ?_
      refine x_icmp_ne C 56 dX12_mark_46 (by decide) hF (fun hF => ?_) (fun hF => ?_)
      · refine x_aload_n C 1 0 dX12_mark_56 rfl rfl ?_
        refine x_get C 0 dX12_mark_57 fl_X12_13 (RW_o K ad rest σ4) rfl ?_
        refine x_sipush C 133 dX12_mark_60 (by decide +kernel) ?_
        refine x_iconst C 2 dX12_mark_63 (by decide +kernel) ?_
        refine x_iload_n C 0 3 dX12_mark_64 rfl rfl ?_
        refine x_imul C dX12_mark_65 ?_
        refine x_iadd C dX12_mark_66 ?_
        refine x_iload_n C 2 1 dX12_mark_67 rfl rfl ?_
        refine x_iast C 2 dX12_mark_68 (RW_a3 K ad rest σ4) hF (RW_s3 K ad rest σ4 _) (fun hF => ?_)
        refine x_st (wf := RW K ad rest) hF (fun σ7 hF => ?_)
        refine x_aload_n C 1 0 dX12_mark_69 rfl rfl ?_
        refine x_get C 0 dX12_mark_70 fl_X12_13 (RW_o K ad rest σ7) rfl ?_
        refine x_sipush C 133 dX12_mark_73 (by decide +kernel) ?_
        refine x_iconst C 2 dX12_mark_76 (by decide +kernel) ?_
        refine x_iload_n C 0 3 dX12_mark_77 rfl rfl ?_
        refine x_imul C dX12_mark_78 ?_
        refine x_iadd C dX12_mark_79 ?_
        refine x_iconst C 1 dX12_mark_80 (by decide +kernel) ?_
        refine x_iadd C dX12_mark_81 ?_
        refine x_iload_n C 3 2 dX12_mark_82 rfl rfl ?_
        refine x_iast C 2 dX12_mark_83 (RW_a3 K ad rest σ7) hF (RW_s3 K ad rest σ7 _) (fun hF => ?_)
        refine x_st (wf := RW K ad rest) hF (fun σ8 hF => ?_)
        refine x_aload_n C 1 0 dX12_mark_84 rfl rfl ?_
        refine x_get C 0 dX12_mark_85 fl_X12_13 (RW_o K ad rest σ8) rfl ?_
        refine x_bipush C 6 dX12_mark_88 (by decide +kernel) ?_
        refine x_dup2 C rfl rfl dX12_mark_90 ?_
        refine x_iald C 2 dX12_mark_91 (RW_a3 K ad rest σ8) hF (fun v9 hF => ?_)
        refine x_iconst C 1 dX12_mark_92 (by decide +kernel) ?_
        refine x_iadd C dX12_mark_93 ?_
        refine x_iast C 2 dX12_mark_94 (RW_a3 K ad rest σ8) hF (RW_s3 K ad rest σ8 _) (fun hF => ?_)
        refine x_st (wf := RW K ad rest) hF (fun σ10 hF => ?_)
        refine x_aload_n C 1 0 dX12_mark_95 rfl rfl ?_
        refine x_iload_n C 0 3 dX12_mark_96 rfl rfl ?_
        refine x_callVI C (wf := RW K ad rest) (As := [.int v6]) (rest := []) dX12_mark_97 ml_X12_121 rfl rfl (Nat.le_of_ble_eq_true rfl) 0 (RW_o K ad rest σ10) rfl ⟨Nat.le_of_ble_eq_true rfl, Nat.le_of_ble_eq_true rfl⟩ ⟨Nat.zero_le _, Nat.zero_le _⟩ (fun q9 hq9 => c_X12_tell l D K ad rest v6 σ10 q9 hq9) hF (fun v12 σ11 hF => ?_)
        exact x_iret C dX12_mark_100 rfl (congrArg Prod.fst (Option.some.inj hF)) (congrArg (fun q9 : Int32 × xS => RW K ad rest q9.2) (Option.some.inj hF))
      · refine x_aload_n C 1 0 dX12_mark_49 rfl rfl ?_
        refine x_bipush C (-5) dX12_mark_50 (by decide +kernel) ?_
        refine x_callVI C (wf := RW K ad rest) (As := [.int ((-5))]) (rest := []) dX12_mark_52 ml_X12_121 rfl rfl (Nat.le_of_ble_eq_true rfl) 0 (RW_o K ad rest σ4) rfl ⟨Nat.le_of_ble_eq_true rfl, Nat.le_of_ble_eq_true rfl⟩ ⟨Nat.zero_le _, Nat.zero_le _⟩ (fun q9 hq9 => c_X12_tell l D K ad rest ((-5)) σ4 q9 hq9) hF (fun v14 σ13 hF => ?_)
        exact x_iret C dX12_mark_55 rfl (congrArg Prod.fst (Option.some.inj hF)) (congrArg (fun q9 : Int32 × xS => RW K ad rest q9.2) (Option.some.inj hF))
    · refine x_loc [(0, .ref (ad 0))] [0] rfl ?_
      exact x_X12_mark_29 C z σ4 hF
