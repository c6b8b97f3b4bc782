/-! sumOf over each of its three rows; the law's loop; by program (wip/p34/gen40.py) -/
theorem L_115_42 : a_look 115 42 = some (.aload_n 2, 0, 0, 0) := by decide +kernel
theorem L_115_43 : a_look 115 43 = some (.iconst 5, 0, 0, 0) := by decide +kernel
theorem L_115_44 : a_look 115 44 = some (.bipush 40, 0, 0, 0) := by decide +kernel
theorem L_115_46 : a_look 115 46 = some (.iastore, 0, 0, 0) := by decide +kernel
theorem L_115_47 : a_look 115 47 = some (.aload_n 2, 0, 0, 0) := by decide +kernel
theorem L_115_48 : a_look 115 48 = some (.bipush 6, 0, 0, 0) := by decide +kernel
theorem L_115_50 : a_look 115 50 = some (.iconst 4, 0, 0, 0) := by decide +kernel
theorem L_115_51 : a_look 115 51 = some (.iastore, 0, 0, 0) := by decide +kernel
theorem L_115_52 : a_look 115 52 = some (.aload_n 2, 0, 0, 0) := by decide +kernel
theorem L_115_53 : a_look 115 53 = some (.bipush 7, 0, 0, 0) := by decide +kernel
theorem L_115_55 : a_look 115 55 = some (.iconst 3, 0, 0, 0) := by decide +kernel
theorem L_115_56 : a_look 115 56 = some (.iastore, 0, 0, 0) := by decide +kernel
theorem L_115_57 : a_look 115 57 = some (.aload_n 1, 0, 0, 0) := by decide +kernel
theorem L_115_58 : a_look 115 58 = some (.aload_n 2, 0, 0, 0) := by decide +kernel
theorem L_115_59 : a_look 115 59 = some (.aload_n 3, 0, 0, 0) := by decide +kernel
theorem L_115_60 : a_look 115 60 = some (.aload 4, 0, 0, 0) := by decide +kernel
theorem L_115_62 : a_look 115 62 = some (.aload 5, 0, 0, 0) := by decide +kernel
theorem L_115_64 : a_look 115 64 = some (.aload 6, 0, 0, 0) := by decide +kernel
theorem L_115_66 : a_look 115 66 = some (.aload 7, 0, 0, 0) := by decide +kernel
theorem L_115_68 : a_look 115 68 = some (.invokestatic 122, 114, 7, 315) := by decide +kernel
theorem L_115_71 : a_look 115 71 = some (.istore 8, 0, 0, 0) := by decide +kernel
theorem L_115_73 : a_look 115 73 = some (.iconst 0, 0, 0, 0) := by decide +kernel
theorem L_115_74 : a_look 115 74 = some (.istore 9, 0, 0, 0) := by decide +kernel
theorem L_115_76 : a_look 115 76 = some (.iload 9, 0, 0, 0) := by decide +kernel
theorem L_115_78 : a_look 115 78 = some (.bipush 12, 0, 0, 0) := by decide +kernel
theorem L_115_80 : a_look 115 80 = some (.if_icmp .ge 73, 153, 0, 0) := by decide +kernel
theorem L_115_83 : a_look 115 83 = some (.iload 8, 0, 0, 0) := by decide +kernel
theorem L_115_85 : a_look 115 85 = some (.ifCond .eq 68, 153, 0, 0) := by decide +kernel
theorem L_115_88 : a_look 115 88 = some (.aload_n 1, 0, 0, 0) := by decide +kernel
theorem L_115_89 : a_look 115 89 = some (.aload_n 2, 0, 0, 0) := by decide +kernel
theorem L_115_90 : a_look 115 90 = some (.aload_n 3, 0, 0, 0) := by decide +kernel
theorem L_115_91 : a_look 115 91 = some (.aload 4, 0, 0, 0) := by decide +kernel
theorem L_115_93 : a_look 115 93 = some (.aload 5, 0, 0, 0) := by decide +kernel
theorem L_115_95 : a_look 115 95 = some (.aload 6, 0, 0, 0) := by decide +kernel
theorem L_115_97 : a_look 115 97 = some (.aload 7, 0, 0, 0) := by decide +kernel
theorem L_115_99 : a_look 115 99 = some (.aload_n 0, 0, 0, 0) := by decide +kernel
theorem L_115_100 : a_look 115 100 = some (.iconst 1, 0, 0, 0) := by decide +kernel
theorem L_115_101 : a_look 115 101 = some (.iload 9, 0, 0, 0) := by decide +kernel
theorem L_115_103 : a_look 115 103 = some (.iadd, 0, 0, 0) := by decide +kernel
theorem L_115_104 : a_look 115 104 = some (.invokestatic 126, 97, 2, 1113) := by decide +kernel
theorem L_115_107 : a_look 115 107 = some (.ldc 8, 2147483647, 0, 4) := by decide +kernel
theorem L_115_109 : a_look 115 109 = some (.iand, 0, 0, 0) := by decide +kernel
theorem L_115_110 : a_look 115 110 = some (.sipush 800, 0, 0, 0) := by decide +kernel
theorem L_115_113 : a_look 115 113 = some (.idiv, 0, 0, 0) := by decide +kernel
theorem L_115_114 : a_look 115 114 = some (.sipush 800, 0, 0, 0) := by decide +kernel
theorem L_115_117 : a_look 115 117 = some (.imul, 0, 0, 0) := by decide +kernel
theorem L_115_118 : a_look 115 118 = some (.iload 9, 0, 0, 0) := by decide +kernel
theorem L_115_120 : a_look 115 120 = some (.iconst 3, 0, 0, 0) := by decide +kernel
theorem L_115_121 : a_look 115 121 = some (.if_icmp .ge 7, 128, 0, 0) := by decide +kernel
theorem L_115_124 : a_look 115 124 = some (.iconst 0, 0, 0, 0) := by decide +kernel
theorem L_115_125 : a_look 115 125 = some (.goto 16, 141, 0, 0) := by decide +kernel
theorem L_115_128 : a_look 115 128 = some (.iload 9, 0, 0, 0) := by decide +kernel
theorem L_115_130 : a_look 115 130 = some (.bipush 8, 0, 0, 0) := by decide +kernel
theorem L_115_132 : a_look 115 132 = some (.if_icmp .ge 7, 139, 0, 0) := by decide +kernel
theorem L_115_135 : a_look 115 135 = some (.iconst 3, 0, 0, 0) := by decide +kernel
theorem L_115_136 : a_look 115 136 = some (.goto 5, 141, 0, 0) := by decide +kernel
theorem L_115_139 : a_look 115 139 = some (.bipush 12, 0, 0, 0) := by decide +kernel
theorem L_115_141 : a_look 115 141 = some (.iadd, 0, 0, 0) := by decide +kernel
theorem L_115_142 : a_look 115 142 = some (.invokestatic 130, 113, 8, 1117) := by decide +kernel
theorem L_115_145 : a_look 115 145 = some (.istore 8, 0, 0, 0) := by decide +kernel
theorem L_115_147 : a_look 115 147 = some (.iinc 9 1, 0, 0, 0) := by decide +kernel
theorem L_115_150 : a_look 115 150 = some (.goto (-74), 76, 0, 0) := by decide +kernel
theorem L_115_153 : a_look 115 153 = some (.bipush 8, 0, 0, 0) := by decide +kernel
theorem L_115_155 : a_look 115 155 = some (.aload_n 0, 0, 0, 0) := by decide +kernel
theorem L_115_156 : a_look 115 156 = some (.iconst 0, 0, 0, 0) := by decide +kernel
theorem L_115_157 : a_look 115 157 = some (.invokestatic 126, 97, 2, 1113) := by decide +kernel
theorem L_115_160 : a_look 115 160 = some (.bipush 42, 0, 0, 0) := by decide +kernel
theorem L_115_162 : a_look 115 162 = some (.invokestatic 86, 98, 2, 1121) := by decide +kernel
theorem L_115_165 : a_look 115 165 = some (.iadd, 0, 0, 0) := by decide +kernel
theorem L_115_166 : a_look 115 166 = some (.istore 9, 0, 0, 0) := by decide +kernel
theorem L_115_168 : a_look 115 168 = some (.iconst 0, 0, 0, 0) := by decide +kernel
theorem L_115_169 : a_look 115 169 = some (.istore 10, 0, 0, 0) := by decide +kernel
theorem L_115_171 : a_look 115 171 = some (.iload 10, 0, 0, 0) := by decide +kernel
theorem L_115_173 : a_look 115 173 = some (.iload 9, 0, 0, 0) := by decide +kernel
theorem L_115_175 : a_look 115 175 = some (.if_icmp .ge 71, 246, 0, 0) := by decide +kernel
theorem L_115_178 : a_look 115 178 = some (.iload 8, 0, 0, 0) := by decide +kernel
theorem L_115_180 : a_look 115 180 = some (.ifCond .eq 66, 246, 0, 0) := by decide +kernel
theorem L_115_183 : a_look 115 183 = some (.aload_n 1, 0, 0, 0) := by decide +kernel
theorem L_115_184 : a_look 115 184 = some (.aload_n 2, 0, 0, 0) := by decide +kernel
theorem L_115_185 : a_look 115 185 = some (.aload_n 3, 0, 0, 0) := by decide +kernel
theorem L_115_186 : a_look 115 186 = some (.aload 4, 0, 0, 0) := by decide +kernel
theorem L_115_188 : a_look 115 188 = some (.aload 5, 0, 0, 0) := by decide +kernel
theorem L_115_190 : a_look 115 190 = some (.aload 6, 0, 0, 0) := by decide +kernel
theorem L_115_192 : a_look 115 192 = some (.aload 7, 0, 0, 0) := by decide +kernel
theorem L_115_194 : a_look 115 194 = some (.aload_n 0, 0, 0, 0) := by decide +kernel
theorem L_115_195 : a_look 115 195 = some (.bipush 13, 0, 0, 0) := by decide +kernel
theorem L_115_197 : a_look 115 197 = some (.iload 10, 0, 0, 0) := by decide +kernel
theorem L_115_199 : a_look 115 199 = some (.iadd, 0, 0, 0) := by decide +kernel
theorem L_115_200 : a_look 115 200 = some (.invokestatic 126, 97, 2, 1113) := by decide +kernel
theorem L_115_203 : a_look 115 203 = some (.sipush 7919, 0, 0, 0) := by decide +kernel
theorem L_115_206 : a_look 115 206 = some (.iload 10, 0, 0, 0) := by decide +kernel
theorem L_115_208 : a_look 115 208 = some (.imul, 0, 0, 0) := by decide +kernel
theorem L_115_209 : a_look 115 209 = some (.ixor, 0, 0, 0) := by decide +kernel
theorem L_115_210 : a_look 115 210 = some (.invokestatic 130, 113, 8, 1117) := by decide +kernel
theorem L_115_213 : a_look 115 213 = some (.ifCond .eq 24, 237, 0, 0) := by decide +kernel
theorem L_115_216 : a_look 115 216 = some (.aload_n 1, 0, 0, 0) := by decide +kernel
theorem L_115_217 : a_look 115 217 = some (.aload_n 2, 0, 0, 0) := by decide +kernel
theorem L_115_218 : a_look 115 218 = some (.aload_n 3, 0, 0, 0) := by decide +kernel
theorem L_115_219 : a_look 115 219 = some (.aload 4, 0, 0, 0) := by decide +kernel
theorem L_115_221 : a_look 115 221 = some (.aload 5, 0, 0, 0) := by decide +kernel
theorem L_115_223 : a_look 115 223 = some (.aload 6, 0, 0, 0) := by decide +kernel
theorem L_115_225 : a_look 115 225 = some (.aload 7, 0, 0, 0) := by decide +kernel
theorem L_115_227 : a_look 115 227 = some (.invokestatic 122, 114, 7, 315) := by decide +kernel
theorem L_115_230 : a_look 115 230 = some (.ifCond .eq 7, 237, 0, 0) := by decide +kernel
theorem L_115_233 : a_look 115 233 = some (.iconst 1, 0, 0, 0) := by decide +kernel
theorem L_115_234 : a_look 115 234 = some (.goto 4, 238, 0, 0) := by decide +kernel
theorem L_115_237 : a_look 115 237 = some (.iconst 0, 0, 0, 0) := by decide +kernel
theorem L_115_238 : a_look 115 238 = some (.istore 8, 0, 0, 0) := by decide +kernel
theorem L_115_240 : a_look 115 240 = some (.iinc 10 1, 0, 0, 0) := by decide +kernel
theorem L_115_243 : a_look 115 243 = some (.goto (-72), 171, 0, 0) := by decide +kernel
theorem L_115_246 : a_look 115 246 = some (.iload 8, 0, 0, 0) := by decide +kernel
theorem L_115_248 : a_look 115 248 = some (.ifCond .eq 75, 323, 0, 0) := by decide +kernel
theorem L_115_251 : a_look 115 251 = some (.aload_n 1, 0, 0, 0) := by decide +kernel
theorem L_115_252 : a_look 115 252 = some (.bipush 16, 0, 0, 0) := by decide +kernel
theorem L_115_254 : a_look 115 254 = some (.invokevirtual 118, 85, 2, 1004) := by decide +kernel
theorem L_115_257 : a_look 115 257 = some (.bipush (-2), 0, 0, 0) := by decide +kernel
theorem L_115_259 : a_look 115 259 = some (.if_icmp .ne 64, 323, 0, 0) := by decide +kernel
theorem L_115_262 : a_look 115 262 = some (.aload_n 1, 0, 0, 0) := by decide +kernel
theorem L_115_263 : a_look 115 263 = some (.iconst (-1), 0, 0, 0) := by decide +kernel
theorem L_115_264 : a_look 115 264 = some (.invokevirtual 118, 85, 2, 1004) := by decide +kernel
theorem L_115_267 : a_look 115 267 = some (.bipush (-2), 0, 0, 0) := by decide +kernel
theorem L_115_269 : a_look 115 269 = some (.if_icmp .ne 54, 323, 0, 0) := by decide +kernel
theorem L_115_272 : a_look 115 272 = some (.aload_n 1, 0, 0, 0) := by decide +kernel
theorem L_115_273 : a_look 115 273 = some (.aload_n 2, 0, 0, 0) := by decide +kernel
theorem L_115_274 : a_look 115 274 = some (.iconst 1, 0, 0, 0) := by decide +kernel
theorem L_115_275 : a_look 115 275 = some (.iaload, 0, 0, 0) := by decide +kernel
theorem L_115_276 : a_look 115 276 = some (.iconst 0, 0, 0, 0) := by decide +kernel
theorem L_115_277 : a_look 115 277 = some (.invokevirtual 107, 78, 3, 410) := by decide +kernel
theorem L_115_280 : a_look 115 280 = some (.iconst (-1), 0, 0, 0) := by decide +kernel
theorem L_115_281 : a_look 115 281 = some (.if_icmp .ne 42, 323, 0, 0) := by decide +kernel
theorem L_115_284 : a_look 115 284 = some (.aload_n 1, 0, 0, 0) := by decide +kernel
theorem L_115_285 : a_look 115 285 = some (.aload_n 2, 0, 0, 0) := by decide +kernel
theorem L_115_286 : a_look 115 286 = some (.iconst 2, 0, 0, 0) := by decide +kernel
theorem L_115_287 : a_look 115 287 = some (.iaload, 0, 0, 0) := by decide +kernel
theorem L_115_288 : a_look 115 288 = some (.iconst 0, 0, 0, 0) := by decide +kernel
theorem L_115_289 : a_look 115 289 = some (.invokevirtual 110, 79, 3, 805) := by decide +kernel
theorem L_115_292 : a_look 115 292 = some (.iconst (-1), 0, 0, 0) := by decide +kernel
theorem L_115_293 : a_look 115 293 = some (.if_icmp .ne 30, 323, 0, 0) := by decide +kernel
theorem L_115_296 : a_look 115 296 = some (.aload_n 1, 0, 0, 0) := by decide +kernel
theorem L_115_297 : a_look 115 297 = some (.aload_n 2, 0, 0, 0) := by decide +kernel
theorem L_115_298 : a_look 115 298 = some (.iconst 3, 0, 0, 0) := by decide +kernel
theorem L_115_299 : a_look 115 299 = some (.iaload, 0, 0, 0) := by decide +kernel
theorem L_115_300 : a_look 115 300 = some (.iconst 0, 0, 0, 0) := by decide +kernel
theorem L_115_301 : a_look 115 301 = some (.invokevirtual 113, 80, 3, 820) := by decide +kernel
theorem L_115_304 : a_look 115 304 = some (.iconst (-1), 0, 0, 0) := by decide +kernel
theorem L_115_305 : a_look 115 305 = some (.if_icmp .ne 18, 323, 0, 0) := by decide +kernel
theorem L_115_308 : a_look 115 308 = some (.aload_n 1, 0, 0, 0) := by decide +kernel
theorem L_115_309 : a_look 115 309 = some (.bipush 8, 0, 0, 0) := by decide +kernel
theorem L_115_311 : a_look 115 311 = some (.invokevirtual 116, 84, 2, 917) := by decide +kernel
theorem L_115_314 : a_look 115 314 = some (.bipush (-2), 0, 0, 0) := by decide +kernel
theorem L_115_316 : a_look 115 316 = some (.if_icmp .ne 7, 323, 0, 0) := by decide +kernel
theorem L_115_319 : a_look 115 319 = some (.iconst 1, 0, 0, 0) := by decide +kernel
theorem L_115_320 : a_look 115 320 = some (.goto 4, 324, 0, 0) := by decide +kernel
theorem L_115_323 : a_look 115 323 = some (.iconst 0, 0, 0, 0) := by decide +kernel
theorem L_115_324 : a_look 115 324 = some (.ireturn, 0, 0, 0) := by decide +kernel
def H_18_23_4 (b : Nat) (x2 x3 : Int32) (m : aM) (Q : Int32 → aM → Prop) : Prop := Rg 18 4 [some (.inr (3, b)), some (.inr (23, b)), some (.inl x2), some (.inl x3)] [] m (qI Q)
/-- Devices.sumOf, the loop at 4 -/
theorem T_18_23_4 {b : Nat} {x2 x3 : Int32} {m : aM} {Q : Int32 → aM → Prop} (h :
   if x3 < (m 3 b 10) then
    (if x3 < (nI 16) then
     (a_in x3 16 = true ∧
      H_18_23_4 b (x2 + (m 23 b x3.toNatClampNeg)) (x3 + 1) m Q)
    else
     Q x2 m)
   else
    Q x2 m
  ) : H_18_23_4 b x2 x3 m Q := by
  show Rg 18 4 [some (.inr (3, b)), some (.inr (23, b)), some (.inl x2), some (.inl x3)] [] m (qI Q)
  refine r_iload_n L_18_4 rfl ?_
  refine r_aload_n L_18_5 rfl ?_
  refine r_geti L_18_6 rfl rfl ?_
  refine r_icmpn L_18_9 cc_ge (i_mono h (fun c1 h => ?_) (fun c1 h => ?_))
  · refine r_iload_n L_18_12 rfl ?_
    refine r_aload_n L_18_13 rfl ?_
    refine r_alen (N := 16) L_18_14 (by decide +kernel) rfl ?_
    refine r_icmpn L_18_15 cc_ge (i_mono h (fun c2 h => ?_) (fun c2 h => ?_))
    · refine r_iload_n L_18_18 rfl ?_
      refine r_aload_n L_18_19 rfl ?_
      refine r_iload_n L_18_20 rfl ?_
      obtain ⟨g3, h⟩ := h
      refine r_iald (N := 16) (j := x3.toNatClampNeg) L_18_21 (by decide +kernel) rfl g3 rfl ?_
      refine r_iadd L_18_22 ?_
      refine r_istore_n (ls1 := [some (.inr (3, b)), some (.inr (23, b)), some (.inl (x2 + (m 23 b x3.toNatClampNeg))), some (.inl x3)]) L_18_23 (Nat.le_of_ble_eq_true rfl) rfl ?_
      refine r_iinc (ls1 := [some (.inr (3, b)), some (.inr (23, b)), some (.inl (x2 + (m 23 b x3.toNatClampNeg))), some (.inl (x3 + 1))]) L_18_24 kI_1 rfl (Nat.le_of_ble_eq_true rfl) rfl ?_
      refine r_goto L_18_27 ?_
      exact h
    · refine r_iload_n L_18_30 rfl ?_
      exact r_iret L_18_31 RT_18 h
  · refine r_iload_n L_18_30 rfl ?_
    exact r_iret L_18_31 RT_18 h
/-- Devices.sumOf -/
theorem T_18_23 {b : Nat} {m : aM} {Q : Int32 → aM → Prop} (h :
   H_18_23_4 b 0 0 m Q
  ) : Mi 18 [.inr (3, b), .inr (23, b)] m Q := by
  refine Mi_in ML_18 (show Rg 18 0 [some (.inr (3, b)), some (.inr (23, b)), none, none] [] m (qI Q) from ?_)
  refine r_iconst L_18_0 kI_0 ?_
  refine r_istore_n (ls1 := [some (.inr (3, b)), some (.inr (23, b)), some (.inl 0), none]) L_18_1 (Nat.le_of_ble_eq_true rfl) rfl ?_
  refine r_iconst L_18_2 kI_0 ?_
  refine r_istore_n (ls1 := [some (.inr (3, b)), some (.inr (23, b)), some (.inl 0), some (.inl 0)]) L_18_3 (Nat.le_of_ble_eq_true rfl) rfl ?_
  exact h
def H_18_24_4 (b : Nat) (x2 x3 : Int32) (m : aM) (Q : Int32 → aM → Prop) : Prop := Rg 18 4 [some (.inr (3, b)), some (.inr (24, b)), some (.inl x2), some (.inl x3)] [] m (qI Q)
/-- Devices.sumOf, the loop at 4 -/
theorem T_18_24_4 {b : Nat} {x2 x3 : Int32} {m : aM} {Q : Int32 → aM → Prop} (h :
   if x3 < (m 3 b 10) then
    (if x3 < (nI 16) then
     (a_in x3 16 = true ∧
      H_18_24_4 b (x2 + (m 24 b x3.toNatClampNeg)) (x3 + 1) m Q)
    else
     Q x2 m)
   else
    Q x2 m
  ) : H_18_24_4 b x2 x3 m Q := by
  show Rg 18 4 [some (.inr (3, b)), some (.inr (24, b)), some (.inl x2), some (.inl x3)] [] m (qI Q)
  refine r_iload_n L_18_4 rfl ?_
  refine r_aload_n L_18_5 rfl ?_
  refine r_geti L_18_6 rfl rfl ?_
  refine r_icmpn L_18_9 cc_ge (i_mono h (fun c1 h => ?_) (fun c1 h => ?_))
  · refine r_iload_n L_18_12 rfl ?_
    refine r_aload_n L_18_13 rfl ?_
    refine r_alen (N := 16) L_18_14 (by decide +kernel) rfl ?_
    refine r_icmpn L_18_15 cc_ge (i_mono h (fun c2 h => ?_) (fun c2 h => ?_))
    · refine r_iload_n L_18_18 rfl ?_
      refine r_aload_n L_18_19 rfl ?_
      refine r_iload_n L_18_20 rfl ?_
      obtain ⟨g3, h⟩ := h
      refine r_iald (N := 16) (j := x3.toNatClampNeg) L_18_21 (by decide +kernel) rfl g3 rfl ?_
      refine r_iadd L_18_22 ?_
      refine r_istore_n (ls1 := [some (.inr (3, b)), some (.inr (24, b)), some (.inl (x2 + (m 24 b x3.toNatClampNeg))), some (.inl x3)]) L_18_23 (Nat.le_of_ble_eq_true rfl) rfl ?_
      refine r_iinc (ls1 := [some (.inr (3, b)), some (.inr (24, b)), some (.inl (x2 + (m 24 b x3.toNatClampNeg))), some (.inl (x3 + 1))]) L_18_24 kI_1 rfl (Nat.le_of_ble_eq_true rfl) rfl ?_
      refine r_goto L_18_27 ?_
      exact h
    · refine r_iload_n L_18_30 rfl ?_
      exact r_iret L_18_31 RT_18 h
  · refine r_iload_n L_18_30 rfl ?_
    exact r_iret L_18_31 RT_18 h
/-- Devices.sumOf -/
theorem T_18_24 {b : Nat} {m : aM} {Q : Int32 → aM → Prop} (h :
   H_18_24_4 b 0 0 m Q
  ) : Mi 18 [.inr (3, b), .inr (24, b)] m Q := by
  refine Mi_in ML_18 (show Rg 18 0 [some (.inr (3, b)), some (.inr (24, b)), none, none] [] m (qI Q) from ?_)
  refine r_iconst L_18_0 kI_0 ?_
  refine r_istore_n (ls1 := [some (.inr (3, b)), some (.inr (24, b)), some (.inl 0), none]) L_18_1 (Nat.le_of_ble_eq_true rfl) rfl ?_
  refine r_iconst L_18_2 kI_0 ?_
  refine r_istore_n (ls1 := [some (.inr (3, b)), some (.inr (24, b)), some (.inl 0), some (.inl 0)]) L_18_3 (Nat.le_of_ble_eq_true rfl) rfl ?_
  exact h
def H_18_25_4 (b : Nat) (x2 x3 : Int32) (m : aM) (Q : Int32 → aM → Prop) : Prop := Rg 18 4 [some (.inr (3, b)), some (.inr (25, b)), some (.inl x2), some (.inl x3)] [] m (qI Q)
/-- Devices.sumOf, the loop at 4 -/
theorem T_18_25_4 {b : Nat} {x2 x3 : Int32} {m : aM} {Q : Int32 → aM → Prop} (h :
   if x3 < (m 3 b 10) then
    (if x3 < (nI 16) then
     (a_in x3 16 = true ∧
      H_18_25_4 b (x2 + (m 25 b x3.toNatClampNeg)) (x3 + 1) m Q)
    else
     Q x2 m)
   else
    Q x2 m
  ) : H_18_25_4 b x2 x3 m Q := by
  show Rg 18 4 [some (.inr (3, b)), some (.inr (25, b)), some (.inl x2), some (.inl x3)] [] m (qI Q)
  refine r_iload_n L_18_4 rfl ?_
  refine r_aload_n L_18_5 rfl ?_
  refine r_geti L_18_6 rfl rfl ?_
  refine r_icmpn L_18_9 cc_ge (i_mono h (fun c1 h => ?_) (fun c1 h => ?_))
  · refine r_iload_n L_18_12 rfl ?_
    refine r_aload_n L_18_13 rfl ?_
    refine r_alen (N := 16) L_18_14 (by decide +kernel) rfl ?_
    refine r_icmpn L_18_15 cc_ge (i_mono h (fun c2 h => ?_) (fun c2 h => ?_))
    · refine r_iload_n L_18_18 rfl ?_
      refine r_aload_n L_18_19 rfl ?_
      refine r_iload_n L_18_20 rfl ?_
      obtain ⟨g3, h⟩ := h
      refine r_iald (N := 16) (j := x3.toNatClampNeg) L_18_21 (by decide +kernel) rfl g3 rfl ?_
      refine r_iadd L_18_22 ?_
      refine r_istore_n (ls1 := [some (.inr (3, b)), some (.inr (25, b)), some (.inl (x2 + (m 25 b x3.toNatClampNeg))), some (.inl x3)]) L_18_23 (Nat.le_of_ble_eq_true rfl) rfl ?_
      refine r_iinc (ls1 := [some (.inr (3, b)), some (.inr (25, b)), some (.inl (x2 + (m 25 b x3.toNatClampNeg))), some (.inl (x3 + 1))]) L_18_24 kI_1 rfl (Nat.le_of_ble_eq_true rfl) rfl ?_
      refine r_goto L_18_27 ?_
      exact h
    · refine r_iload_n L_18_30 rfl ?_
      exact r_iret L_18_31 RT_18 h
  · refine r_iload_n L_18_30 rfl ?_
    exact r_iret L_18_31 RT_18 h
/-- Devices.sumOf -/
theorem T_18_25 {b : Nat} {m : aM} {Q : Int32 → aM → Prop} (h :
   H_18_25_4 b 0 0 m Q
  ) : Mi 18 [.inr (3, b), .inr (25, b)] m Q := by
  refine Mi_in ML_18 (show Rg 18 0 [some (.inr (3, b)), some (.inr (25, b)), none, none] [] m (qI Q) from ?_)
  refine r_iconst L_18_0 kI_0 ?_
  refine r_istore_n (ls1 := [some (.inr (3, b)), some (.inr (25, b)), some (.inl 0), none]) L_18_1 (Nat.le_of_ble_eq_true rfl) rfl ?_
  refine r_iconst L_18_2 kI_0 ?_
  refine r_istore_n (ls1 := [some (.inr (3, b)), some (.inr (25, b)), some (.inl 0), some (.inl 0)]) L_18_3 (Nat.le_of_ble_eq_true rfl) rfl ?_
  exact h
def H_115_76 (x8 x9 : Int32) (m : aM) (Q : Int32 → aM → Prop) : Prop := ∀ d10 : Option aV, Rg 115 76 [some (.inr (46, 0)), some (.inr (27, 0)), some (.inr (34, 0)), some (.inr (35, 0)), some (.inr (36, 0)), some (.inr (37, 0)), some (.inr (38, 0)), some (.inr (39, 0)), some (.inl x8), some (.inl x9), d10] [] m (qI Q)
def H_115_171 (x8 x9 x10 : Int32) (m : aM) (Q : Int32 → aM → Prop) : Prop := Rg 115 171 [some (.inr (46, 0)), some (.inr (27, 0)), some (.inr (34, 0)), some (.inr (35, 0)), some (.inr (36, 0)), some (.inr (37, 0)), some (.inr (38, 0)), some (.inr (39, 0)), some (.inl x8), some (.inl x9), some (.inl x10)] [] m (qI Q)
/-- Law.law, the loop at 171 -/
theorem T_115_171 {x8 x9 x10 : Int32} {m : aM} {Q : Int32 → aM → Prop} (h :
   if x10 < x9 then
    (if x8 = 0 then
     Q 0 m
    else
     Mi 97 [.inr (46, 0), .inl (13 + x10)] m (fun v4 m3 =>
      Mi 113 [.inr (27, 0), .inr (34, 0), .inr (35, 0), .inr (36, 0), .inr (37, 0), .inr (38, 0), .inr (39, 0), .inl (v4 ^^^ (7919 * x10))] m3 (fun v6 m5 =>
       if v6 = 0 then
        H_115_171 0 x9 (x10 + 1) m5 Q
       else
        Mi 114 [.inr (27, 0), .inr (34, 0), .inr (35, 0), .inr (36, 0), .inr (37, 0), .inr (38, 0), .inr (39, 0)] m5 (fun v9 m8 =>
         if v9 = 0 then
          H_115_171 0 x9 (x10 + 1) m8 Q
         else
          H_115_171 1 x9 (x10 + 1) m8 Q))))
   else
    if x8 = 0 then
     Q 0 m
    else
     Mi 85 [.inr (27, 0), .inl 16] m (fun v13 m12 =>
      if v13 = (-2) then
       (Mi 85 [.inr (27, 0), .inl (-1)] m12 (fun v16 m15 =>
        if v16 = (-2) then
         (Mi 78 [.inr (27, 0), .inl (m15 34 0 1), .inl 0] m15 (fun v19 m18 =>
          if v19 = (-1) then
           (Mi 79 [.inr (27, 0), .inl (m18 34 0 2), .inl 0] m18 (fun v22 m21 =>
            if v22 = (-1) then
             (Mi 80 [.inr (27, 0), .inl (m21 34 0 3), .inl 0] m21 (fun v25 m24 =>
              if v25 = (-1) then
               (Mi 84 [.inr (27, 0), .inl 8] m24 (fun v28 m27 =>
                if v28 = (-2) then
                 Q 1 m27
                else
                 Q 0 m27))
              else
               Q 0 m24))
            else
             Q 0 m21))
          else
           Q 0 m18))
        else
         Q 0 m15))
      else
       Q 0 m12)
  ) : H_115_171 x8 x9 x10 m Q := by
  show Rg 115 171 [some (.inr (46, 0)), some (.inr (27, 0)), some (.inr (34, 0)), some (.inr (35, 0)), some (.inr (36, 0)), some (.inr (37, 0)), some (.inr (38, 0)), some (.inr (39, 0)), some (.inl x8), some (.inl x9), some (.inl x10)] [] m (qI Q)
  refine r_iload L_115_171 rfl ?_
  refine r_iload L_115_173 rfl ?_
  refine r_icmpn L_115_175 cc_ge (i_mono h (fun c1 h => ?_) (fun c1 h => ?_))
  · refine r_iload L_115_178 rfl ?_
    refine r_if L_115_180 rfl (i_mono h (fun c2 h => ?_) (fun c2 h => ?_))
    · refine r_iload L_115_246 rfl ?_
      refine r_if L_115_248 rfl (i_pos c2 ?_)
      refine r_iconst L_115_323 kI_0 ?_
      exact r_zret L_115_324 RT_115 (Or.inl rfl) h
    · refine r_aload_n L_115_183 rfl ?_
      refine r_aload_n L_115_184 rfl ?_
      refine r_aload_n L_115_185 rfl ?_
      refine r_aload L_115_186 rfl ?_
      refine r_aload L_115_188 rfl ?_
      refine r_aload L_115_190 rfl ?_
      refine r_aload L_115_192 rfl ?_
      refine r_aload_n L_115_194 rfl ?_
      refine r_bipush L_115_195 kB_13 ?_
      refine r_iload L_115_197 rfl ?_
      refine r_iadd L_115_199 ?_
      refine r_cs L_115_200 (by decide) rfl (Mi_mono h fun v4 m3 h => ?_)
      refine r_sipush L_115_203 kS_7919 ?_
      refine r_iload L_115_206 rfl ?_
      refine r_imul L_115_208 ?_
      refine r_ixor L_115_209 ?_
      refine r_cs L_115_210 (by decide) rfl (Mi_mono h fun v6 m5 h => ?_)
      refine r_if L_115_213 rfl (i_mono h (fun c7 h => ?_) (fun c7 h => ?_))
      · refine r_iconst L_115_237 kI_0 ?_
        refine r_istore (ls1 := [some (.inr (46, 0)), some (.inr (27, 0)), some (.inr (34, 0)), some (.inr (35, 0)), some (.inr (36, 0)), some (.inr (37, 0)), some (.inr (38, 0)), some (.inr (39, 0)), some (.inl 0), some (.inl x9), some (.inl x10)]) L_115_238 (Nat.le_of_ble_eq_true rfl) rfl ?_
        refine r_iinc (ls1 := [some (.inr (46, 0)), some (.inr (27, 0)), some (.inr (34, 0)), some (.inr (35, 0)), some (.inr (36, 0)), some (.inr (37, 0)), some (.inr (38, 0)), some (.inr (39, 0)), some (.inl 0), some (.inl x9), some (.inl (x10 + 1))]) L_115_240 kI_1 rfl (Nat.le_of_ble_eq_true rfl) rfl ?_
        refine r_goto L_115_243 ?_
        exact h
      · refine r_aload_n L_115_216 rfl ?_
        refine r_aload_n L_115_217 rfl ?_
        refine r_aload_n L_115_218 rfl ?_
        refine r_aload L_115_219 rfl ?_
        refine r_aload L_115_221 rfl ?_
        refine r_aload L_115_223 rfl ?_
        refine r_aload L_115_225 rfl ?_
        refine r_cs L_115_227 (by decide) rfl (Mi_mono h fun v9 m8 h => ?_)
        refine r_if L_115_230 rfl (i_mono h (fun c10 h => ?_) (fun c10 h => ?_))
        · refine r_iconst L_115_237 kI_0 ?_
          refine r_istore (ls1 := [some (.inr (46, 0)), some (.inr (27, 0)), some (.inr (34, 0)), some (.inr (35, 0)), some (.inr (36, 0)), some (.inr (37, 0)), some (.inr (38, 0)), some (.inr (39, 0)), some (.inl 0), some (.inl x9), some (.inl x10)]) L_115_238 (Nat.le_of_ble_eq_true rfl) rfl ?_
          refine r_iinc (ls1 := [some (.inr (46, 0)), some (.inr (27, 0)), some (.inr (34, 0)), some (.inr (35, 0)), some (.inr (36, 0)), some (.inr (37, 0)), some (.inr (38, 0)), some (.inr (39, 0)), some (.inl 0), some (.inl x9), some (.inl (x10 + 1))]) L_115_240 kI_1 rfl (Nat.le_of_ble_eq_true rfl) rfl ?_
          refine r_goto L_115_243 ?_
          exact h
        · refine r_iconst L_115_233 kI_1 ?_
          refine r_goto L_115_234 ?_
          refine r_istore (ls1 := [some (.inr (46, 0)), some (.inr (27, 0)), some (.inr (34, 0)), some (.inr (35, 0)), some (.inr (36, 0)), some (.inr (37, 0)), some (.inr (38, 0)), some (.inr (39, 0)), some (.inl 1), some (.inl x9), some (.inl x10)]) L_115_238 (Nat.le_of_ble_eq_true rfl) rfl ?_
          refine r_iinc (ls1 := [some (.inr (46, 0)), some (.inr (27, 0)), some (.inr (34, 0)), some (.inr (35, 0)), some (.inr (36, 0)), some (.inr (37, 0)), some (.inr (38, 0)), some (.inr (39, 0)), some (.inl 1), some (.inl x9), some (.inl (x10 + 1))]) L_115_240 kI_1 rfl (Nat.le_of_ble_eq_true rfl) rfl ?_
          refine r_goto L_115_243 ?_
          exact h
  · refine r_iload L_115_246 rfl ?_
    refine r_if L_115_248 rfl (i_mono h (fun c11 h => ?_) (fun c11 h => ?_))
    · refine r_iconst L_115_323 kI_0 ?_
      exact r_zret L_115_324 RT_115 (Or.inl rfl) h
    · refine r_aload_n L_115_251 rfl ?_
      refine r_bipush L_115_252 kB_16 ?_
      refine r_cv L_115_254 rfl (Mi_mono h fun v13 m12 h => ?_)
      refine r_bipush L_115_257 kB_m2 ?_
      refine r_icmpn L_115_259 rfl (i_mono h (fun c14 h => ?_) (fun c14 h => ?_))
      · refine r_aload_n L_115_262 rfl ?_
        refine r_iconst L_115_263 kI_m1 ?_
        refine r_cv L_115_264 rfl (Mi_mono h fun v16 m15 h => ?_)
        refine r_bipush L_115_267 kB_m2 ?_
        refine r_icmpn L_115_269 rfl (i_mono h (fun c17 h => ?_) (fun c17 h => ?_))
        · refine r_aload_n L_115_272 rfl ?_
          refine r_aload_n L_115_273 rfl ?_
          refine r_iconst L_115_274 kI_1 ?_
          refine r_iald (N := 8) (j := 1) L_115_275 (by decide +kernel) rfl (by decide +kernel) (by decide +kernel) ?_
          refine r_iconst L_115_276 kI_0 ?_
          refine r_cv L_115_277 rfl (Mi_mono h fun v19 m18 h => ?_)
          refine r_iconst L_115_280 kI_m1 ?_
          refine r_icmpn L_115_281 rfl (i_mono h (fun c20 h => ?_) (fun c20 h => ?_))
          · refine r_aload_n L_115_284 rfl ?_
            refine r_aload_n L_115_285 rfl ?_
            refine r_iconst L_115_286 kI_2 ?_
            refine r_iald (N := 8) (j := 2) L_115_287 (by decide +kernel) rfl (by decide +kernel) (by decide +kernel) ?_
            refine r_iconst L_115_288 kI_0 ?_
            refine r_cv L_115_289 rfl (Mi_mono h fun v22 m21 h => ?_)
            refine r_iconst L_115_292 kI_m1 ?_
            refine r_icmpn L_115_293 rfl (i_mono h (fun c23 h => ?_) (fun c23 h => ?_))
            · refine r_aload_n L_115_296 rfl ?_
              refine r_aload_n L_115_297 rfl ?_
              refine r_iconst L_115_298 kI_3 ?_
              refine r_iald (N := 8) (j := 3) L_115_299 (by decide +kernel) rfl (by decide +kernel) (by decide +kernel) ?_
              refine r_iconst L_115_300 kI_0 ?_
              refine r_cv L_115_301 rfl (Mi_mono h fun v25 m24 h => ?_)
              refine r_iconst L_115_304 kI_m1 ?_
              refine r_icmpn L_115_305 rfl (i_mono h (fun c26 h => ?_) (fun c26 h => ?_))
              · refine r_aload_n L_115_308 rfl ?_
                refine r_bipush L_115_309 kB_8 ?_
                refine r_cv L_115_311 rfl (Mi_mono h fun v28 m27 h => ?_)
                refine r_bipush L_115_314 kB_m2 ?_
                refine r_icmpn L_115_316 rfl (i_mono h (fun c29 h => ?_) (fun c29 h => ?_))
                · refine r_iconst L_115_319 kI_1 ?_
                  refine r_goto L_115_320 ?_
                  exact r_zret L_115_324 RT_115 (Or.inr rfl) h
                · refine r_iconst L_115_323 kI_0 ?_
                  exact r_zret L_115_324 RT_115 (Or.inl rfl) h
              · refine r_iconst L_115_323 kI_0 ?_
                exact r_zret L_115_324 RT_115 (Or.inl rfl) h
            · refine r_iconst L_115_323 kI_0 ?_
              exact r_zret L_115_324 RT_115 (Or.inl rfl) h
          · refine r_iconst L_115_323 kI_0 ?_
            exact r_zret L_115_324 RT_115 (Or.inl rfl) h
        · refine r_iconst L_115_323 kI_0 ?_
          exact r_zret L_115_324 RT_115 (Or.inl rfl) h
      · refine r_iconst L_115_323 kI_0 ?_
        exact r_zret L_115_324 RT_115 (Or.inl rfl) h
/-- Law.law, the loop at 76 -/
theorem T_115_76 {x8 x9 : Int32} {m : aM} {Q : Int32 → aM → Prop} (h :
   if x9 < 12 then
    (if x8 = 0 then
     (Mi 97 [.inr (46, 0), .inl 0] m (fun v4 m3 =>
      (¬ (42 : Int32) = 0) ∧
       H_115_171 x8 (8 + (lowI v4 42)) 0 m3 Q))
    else
     Mi 97 [.inr (46, 0), .inl (1 + x9)] m (fun v7 m6 =>
      if x9 < 3 then
       (Mi 113 [.inr (27, 0), .inr (34, 0), .inr (35, 0), .inr (36, 0), .inr (37, 0), .inr (38, 0), .inr (39, 0), .inl ((((v7 &&& 2147483647) / 800) * 800) + 0)] m6 (fun v10 m9 =>
        H_115_76 v10 (x9 + 1) m9 Q))
      else
       if x9 < 8 then
        (Mi 113 [.inr (27, 0), .inr (34, 0), .inr (35, 0), .inr (36, 0), .inr (37, 0), .inr (38, 0), .inr (39, 0), .inl ((((v7 &&& 2147483647) / 800) * 800) + 3)] m6 (fun v13 m12 =>
         H_115_76 v13 (x9 + 1) m12 Q))
       else
        Mi 113 [.inr (27, 0), .inr (34, 0), .inr (35, 0), .inr (36, 0), .inr (37, 0), .inr (38, 0), .inr (39, 0), .inl ((((v7 &&& 2147483647) / 800) * 800) + 12)] m6 (fun v15 m14 =>
         H_115_76 v15 (x9 + 1) m14 Q)))
   else
    Mi 97 [.inr (46, 0), .inl 0] m (fun v17 m16 =>
     (¬ (42 : Int32) = 0) ∧
      H_115_171 x8 (8 + (lowI v17 42)) 0 m16 Q)
  ) : H_115_76 x8 x9 m Q := by
  intro d10
  show Rg 115 76 [some (.inr (46, 0)), some (.inr (27, 0)), some (.inr (34, 0)), some (.inr (35, 0)), some (.inr (36, 0)), some (.inr (37, 0)), some (.inr (38, 0)), some (.inr (39, 0)), some (.inl x8), some (.inl x9), d10] [] m (qI Q)
  refine r_iload L_115_76 rfl ?_
  refine r_bipush L_115_78 kB_12 ?_
  refine r_icmpn L_115_80 cc_ge (i_mono h (fun c1 h => ?_) (fun c1 h => ?_))
  · refine r_iload L_115_83 rfl ?_
    refine r_if L_115_85 rfl (i_mono h (fun c2 h => ?_) (fun c2 h => ?_))
    · refine r_bipush L_115_153 kB_8 ?_
      refine r_aload_n L_115_155 rfl ?_
      refine r_iconst L_115_156 kI_0 ?_
      refine r_cs L_115_157 (by decide) rfl (Mi_mono h fun v4 m3 h => ?_)
      refine r_bipush L_115_160 kB_42 ?_
      obtain ⟨g5, h⟩ := h
      refine r_cs L_115_162 (by decide) rfl (V_98 g5 ?_)
      refine r_iadd L_115_165 ?_
      refine r_istore (ls1 := [some (.inr (46, 0)), some (.inr (27, 0)), some (.inr (34, 0)), some (.inr (35, 0)), some (.inr (36, 0)), some (.inr (37, 0)), some (.inr (38, 0)), some (.inr (39, 0)), some (.inl x8), some (.inl (8 + (lowI v4 42))), d10]) L_115_166 (Nat.le_of_ble_eq_true rfl) rfl ?_
      refine r_iconst L_115_168 kI_0 ?_
      refine r_istore (ls1 := [some (.inr (46, 0)), some (.inr (27, 0)), some (.inr (34, 0)), some (.inr (35, 0)), some (.inr (36, 0)), some (.inr (37, 0)), some (.inr (38, 0)), some (.inr (39, 0)), some (.inl x8), some (.inl (8 + (lowI v4 42))), some (.inl 0)]) L_115_169 (Nat.le_of_ble_eq_true rfl) rfl ?_
      exact h
    · refine r_aload_n L_115_88 rfl ?_
      refine r_aload_n L_115_89 rfl ?_
      refine r_aload_n L_115_90 rfl ?_
      refine r_aload L_115_91 rfl ?_
      refine r_aload L_115_93 rfl ?_
      refine r_aload L_115_95 rfl ?_
      refine r_aload L_115_97 rfl ?_
      refine r_aload_n L_115_99 rfl ?_
      refine r_iconst L_115_100 kI_1 ?_
      refine r_iload L_115_101 rfl ?_
      refine r_iadd L_115_103 ?_
      refine r_cs L_115_104 (by decide) rfl (Mi_mono h fun v7 m6 h => ?_)
      refine r_ldc L_115_107 kN_2147483647 ?_
      refine r_iand L_115_109 ?_
      refine r_sipush L_115_110 kS_800 ?_
      refine r_idiv L_115_113 (by decide +kernel) ?_
      refine r_sipush L_115_114 kS_800 ?_
      refine r_imul L_115_117 ?_
      refine r_iload L_115_118 rfl ?_
      refine r_iconst L_115_120 kI_3 ?_
      refine r_icmpn L_115_121 cc_ge (i_mono h (fun c8 h => ?_) (fun c8 h => ?_))
      · refine r_iconst L_115_124 kI_0 ?_
        refine r_goto L_115_125 ?_
        refine r_iadd L_115_141 ?_
        refine r_cs L_115_142 (by decide) rfl (Mi_mono h fun v10 m9 h => ?_)
        refine r_istore (ls1 := [some (.inr (46, 0)), some (.inr (27, 0)), some (.inr (34, 0)), some (.inr (35, 0)), some (.inr (36, 0)), some (.inr (37, 0)), some (.inr (38, 0)), some (.inr (39, 0)), some (.inl v10), some (.inl x9), d10]) L_115_145 (Nat.le_of_ble_eq_true rfl) rfl ?_
        refine r_iinc (ls1 := [some (.inr (46, 0)), some (.inr (27, 0)), some (.inr (34, 0)), some (.inr (35, 0)), some (.inr (36, 0)), some (.inr (37, 0)), some (.inr (38, 0)), some (.inr (39, 0)), some (.inl v10), some (.inl (x9 + 1)), d10]) L_115_147 kI_1 rfl (Nat.le_of_ble_eq_true rfl) rfl ?_
        refine r_goto L_115_150 ?_
        exact h _
      · refine r_iload L_115_128 rfl ?_
        refine r_bipush L_115_130 kB_8 ?_
        refine r_icmpn L_115_132 cc_ge (i_mono h (fun c11 h => ?_) (fun c11 h => ?_))
        · refine r_iconst L_115_135 kI_3 ?_
          refine r_goto L_115_136 ?_
          refine r_iadd L_115_141 ?_
          refine r_cs L_115_142 (by decide) rfl (Mi_mono h fun v13 m12 h => ?_)
          refine r_istore (ls1 := [some (.inr (46, 0)), some (.inr (27, 0)), some (.inr (34, 0)), some (.inr (35, 0)), some (.inr (36, 0)), some (.inr (37, 0)), some (.inr (38, 0)), some (.inr (39, 0)), some (.inl v13), some (.inl x9), d10]) L_115_145 (Nat.le_of_ble_eq_true rfl) rfl ?_
          refine r_iinc (ls1 := [some (.inr (46, 0)), some (.inr (27, 0)), some (.inr (34, 0)), some (.inr (35, 0)), some (.inr (36, 0)), some (.inr (37, 0)), some (.inr (38, 0)), some (.inr (39, 0)), some (.inl v13), some (.inl (x9 + 1)), d10]) L_115_147 kI_1 rfl (Nat.le_of_ble_eq_true rfl) rfl ?_
          refine r_goto L_115_150 ?_
          exact h _
        · refine r_bipush L_115_139 kB_12 ?_
          refine r_iadd L_115_141 ?_
          refine r_cs L_115_142 (by decide) rfl (Mi_mono h fun v15 m14 h => ?_)
          refine r_istore (ls1 := [some (.inr (46, 0)), some (.inr (27, 0)), some (.inr (34, 0)), some (.inr (35, 0)), some (.inr (36, 0)), some (.inr (37, 0)), some (.inr (38, 0)), some (.inr (39, 0)), some (.inl v15), some (.inl x9), d10]) L_115_145 (Nat.le_of_ble_eq_true rfl) rfl ?_
          refine r_iinc (ls1 := [some (.inr (46, 0)), some (.inr (27, 0)), some (.inr (34, 0)), some (.inr (35, 0)), some (.inr (36, 0)), some (.inr (37, 0)), some (.inr (38, 0)), some (.inr (39, 0)), some (.inl v15), some (.inl (x9 + 1)), d10]) L_115_147 kI_1 rfl (Nat.le_of_ble_eq_true rfl) rfl ?_
          refine r_goto L_115_150 ?_
          exact h _
  · refine r_bipush L_115_153 kB_8 ?_
    refine r_aload_n L_115_155 rfl ?_
    refine r_iconst L_115_156 kI_0 ?_
    refine r_cs L_115_157 (by decide) rfl (Mi_mono h fun v17 m16 h => ?_)
    refine r_bipush L_115_160 kB_42 ?_
    obtain ⟨g18, h⟩ := h
    refine r_cs L_115_162 (by decide) rfl (V_98 g18 ?_)
    refine r_iadd L_115_165 ?_
    refine r_istore (ls1 := [some (.inr (46, 0)), some (.inr (27, 0)), some (.inr (34, 0)), some (.inr (35, 0)), some (.inr (36, 0)), some (.inr (37, 0)), some (.inr (38, 0)), some (.inr (39, 0)), some (.inl x8), some (.inl (8 + (lowI v17 42))), d10]) L_115_166 (Nat.le_of_ble_eq_true rfl) rfl ?_
    refine r_iconst L_115_168 kI_0 ?_
    refine r_istore (ls1 := [some (.inr (46, 0)), some (.inr (27, 0)), some (.inr (34, 0)), some (.inr (35, 0)), some (.inr (36, 0)), some (.inr (37, 0)), some (.inr (38, 0)), some (.inr (39, 0)), some (.inl x8), some (.inl (8 + (lowI v17 42))), some (.inl 0)]) L_115_169 (Nat.le_of_ble_eq_true rfl) rfl ?_
    exact h
/-- the law, behind its makings -/
theorem T_115_42 {m : aM} {Q : Int32 → aM → Prop} (h :
   (∀ m1, m1 = a_up m 34 0 5 40 →
   (∀ m2, m2 = a_up m1 34 0 6 4 →
   (∀ m3, m3 = a_up m2 34 0 7 3 →
   Mi 114 [.inr (27, 0), .inr (34, 0), .inr (35, 0), .inr (36, 0), .inr (37, 0), .inr (38, 0), .inr (39, 0)] m3 (fun v5 m4 =>
    H_115_76 v5 0 m4 Q))))
  ) : Rg 115 42 [some (.inr (46, 0)), some (.inr (27, 0)), some (.inr (34, 0)), some (.inr (35, 0)), some (.inr (36, 0)), some (.inr (37, 0)), some (.inr (38, 0)), some (.inr (39, 0)), none, none, none] [] m (qI Q) := by
  refine r_aload_n L_115_42 rfl ?_
  refine r_iconst L_115_43 kI_5 ?_
  refine r_bipush L_115_44 kB_40 ?_
  refine r_iast (N := 8) (j := 5) L_115_46 (by decide +kernel) rfl (by decide +kernel) (by decide +kernel) ?_
  refine r_nm fun m1 em1 => ?_
  have h := h m1 em1
  refine r_aload_n L_115_47 rfl ?_
  refine r_bipush L_115_48 kB_6 ?_
  refine r_iconst L_115_50 kI_4 ?_
  refine r_iast (N := 8) (j := 6) L_115_51 (by decide +kernel) rfl (by decide +kernel) (by decide +kernel) ?_
  refine r_nm fun m2 em2 => ?_
  have h := h m2 em2
  refine r_aload_n L_115_52 rfl ?_
  refine r_bipush L_115_53 kB_7 ?_
  refine r_iconst L_115_55 kI_3 ?_
  refine r_iast (N := 8) (j := 7) L_115_56 (by decide +kernel) rfl (by decide +kernel) (by decide +kernel) ?_
  refine r_nm fun m3 em3 => ?_
  have h := h m3 em3
  refine r_aload_n L_115_57 rfl ?_
  refine r_aload_n L_115_58 rfl ?_
  refine r_aload_n L_115_59 rfl ?_
  refine r_aload L_115_60 rfl ?_
  refine r_aload L_115_62 rfl ?_
  refine r_aload L_115_64 rfl ?_
  refine r_aload L_115_66 rfl ?_
  refine r_cs L_115_68 (by decide) rfl (Mi_mono h fun v5 m4 h => ?_)
  refine r_istore (ls1 := [some (.inr (46, 0)), some (.inr (27, 0)), some (.inr (34, 0)), some (.inr (35, 0)), some (.inr (36, 0)), some (.inr (37, 0)), some (.inr (38, 0)), some (.inr (39, 0)), some (.inl v5), none, none]) L_115_71 (Nat.le_of_ble_eq_true rfl) rfl ?_
  refine r_iconst L_115_73 kI_0 ?_
  refine r_istore (ls1 := [some (.inr (46, 0)), some (.inr (27, 0)), some (.inr (34, 0)), some (.inr (35, 0)), some (.inr (36, 0)), some (.inr (37, 0)), some (.inr (38, 0)), some (.inr (39, 0)), some (.inl v5), some (.inl 0), none]) L_115_74 (Nat.le_of_ble_eq_true rfl) rfl ?_
  exact h _
