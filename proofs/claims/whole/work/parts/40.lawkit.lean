set_option maxRecDepth 100000 in
theorem lawXI {p : Program} {l : Launch} {e : Env} {R : Room} {s : State} {m : MethodId} {args : Array Value} {below : List Frame} {meth : Method} {c : Code} {H : Heap} {locs : List Loc} {cells slots : Nat} {Q : State → Prop} {pc : Nat} {ls : Array Slot} {rest : List Value} {A : Nat → Prop} {G : GG} {H0 : Heap} {st0 : List Value} {a : Array Value} {hX hM : Nat} {xd md : Nat → Nat → Nat} {σ μ : SS} {xd' : Nat → Nat → Nat} {σ' : SS} {v : Int32} (hr : va_Run p l e R s m args below meth c H locs cells slots 0 0 (F0 m pc ls st0) rest (QcI G (XW G hX xd σ) (XW G hX xd' σ') H.size v a) (va_A (XW G hX xd σ) H.size)) (hA : ∀ q, H0.size ≤ q → A q) (hW : Wd G A H0 (XW G hX xd σ ++ MW G hM md μ) H locs) (kk : ∀ (H1 : Heap) (locs1 : List Loc), Wd G A H0 (XW G hX xd' σ' ++ MW G hM md μ) H1 locs1 → W p l e R s m args below meth c H1 locs1 cells slots Q (F0 m (pc + 3) ls (.int v :: rest))) : W p l e R s m args below meth c H locs cells slots Q (F0 m pc ls st0) := wcI (wc := (XW G hX xd σ)) (wr := (MW G hM md μ)) (w1 := (XW G hX xd' σ')) (ws' := XW G hX xd' σ' ++ MW G hM md μ) hr hA hW [0, 1, 2, 3, 4, 5, 6, 7, 8, 9, 10, 11, 12, 13, 14, 15, 16, 17, 18, 19, 20, 21, 22, 23, 24, 25, 26, 27, 28, 29, 30, 31, 32, 33, 34, 35, 36, 37, 38, 39, 40, 41, 42, 43, 44, 45] [46, 47, 48, 49, 50, 51, 52, 53, 54, 55, 56, 57, 58, 59, 60, 61, 62, 63, 64, 65, 66, 67, 68, 69, 70] [25, 26, 27, 28, 29, 30, 31, 32, 33, 34, 35, 36, 37, 38, 39, 40, 41, 42, 43, 44, 45, 46, 47, 48, 49, 50, 51, 52, 53, 54, 55, 56, 57, 58, 59, 60, 61, 62, 63, 64, 65, 66, 67, 68, 69, 70, 0, 1, 2, 3, 4, 5, 6, 7, 8, 9, 10, 11, 12, 13, 14, 15, 16, 17, 18, 19, 20, 21, 22, 23, 24] rfl rfl (by decide) (by decide) rfl (by decide) kk
set_option maxRecDepth 100000 in
theorem lawMI {p : Program} {l : Launch} {e : Env} {R : Room} {s : State} {m : MethodId} {args : Array Value} {below : List Frame} {meth : Method} {c : Code} {H : Heap} {locs : List Loc} {cells slots : Nat} {Q : State → Prop} {pc : Nat} {ls : Array Slot} {rest : List Value} {A : Nat → Prop} {G : GG} {H0 : Heap} {st0 : List Value} {a : Array Value} {hX hM : Nat} {xd md : Nat → Nat → Nat} {σ μ : SS} {md' : Nat → Nat → Nat} {σ' : SS} {v : Int32} (hr : va_Run p l e R s m args below meth c H locs cells slots 0 0 (F0 m pc ls st0) rest (QcI G (MW G hM md μ) (MW G hM md' σ') H.size v a) (va_A (MW G hM md μ) H.size)) (hA : ∀ q, H0.size ≤ q → A q) (hW : Wd G A H0 (XW G hX xd σ ++ MW G hM md μ) H locs) (kk : ∀ (H1 : Heap) (locs1 : List Loc), Wd G A H0 (XW G hX xd σ ++ MW G hM md' σ') H1 locs1 → W p l e R s m args below meth c H1 locs1 cells slots Q (F0 m (pc + 3) ls (.int v :: rest))) : W p l e R s m args below meth c H locs cells slots Q (F0 m pc ls st0) := wcI (wc := (MW G hM md μ)) (wr := (XW G hX xd σ)) (w1 := (MW G hM md' σ')) (ws' := XW G hX xd σ ++ MW G hM md' σ') hr hA hW [46, 47, 48, 49, 50, 51, 52, 53, 54, 55, 56, 57, 58, 59, 60, 61, 62, 63, 64, 65, 66, 67, 68, 69, 70] [0, 1, 2, 3, 4, 5, 6, 7, 8, 9, 10, 11, 12, 13, 14, 15, 16, 17, 18, 19, 20, 21, 22, 23, 24, 25, 26, 27, 28, 29, 30, 31, 32, 33, 34, 35, 36, 37, 38, 39, 40, 41, 42, 43, 44, 45] [0, 1, 2, 3, 4, 5, 6, 7, 8, 9, 10, 11, 12, 13, 14, 15, 16, 17, 18, 19, 20, 21, 22, 23, 24, 25, 26, 27, 28, 29, 30, 31, 32, 33, 34, 35, 36, 37, 38, 39, 40, 41, 42, 43, 44, 45, 46, 47, 48, 49, 50, 51, 52, 53, 54, 55, 56, 57, 58, 59, 60, 61, 62, 63, 64, 65, 66, 67, 68, 69, 70] rfl rfl (by decide) (by decide) rfl (by decide) kk
set_option maxRecDepth 100000 in
theorem lawXJ {p : Program} {l : Launch} {e : Env} {R : Room} {s : State} {m : MethodId} {args : Array Value} {below : List Frame} {meth : Method} {c : Code} {H : Heap} {locs : List Loc} {cells slots : Nat} {Q : State → Prop} {pc : Nat} {ls : Array Slot} {rest : List Value} {A : Nat → Prop} {G : GG} {H0 : Heap} {st0 : List Value} {a : Array Value} {hX hM : Nat} {xd md : Nat → Nat → Nat} {σ μ : SS} {xd' : Nat → Nat → Nat} {σ' : SS} {v : Int64} (hr : va_Run p l e R s m args below meth c H locs cells slots 0 0 (F0 m pc ls st0) rest (QcJ G (XW G hX xd σ) (XW G hX xd' σ') H.size v a) (va_A (XW G hX xd σ) H.size)) (hA : ∀ q, H0.size ≤ q → A q) (hW : Wd G A H0 (XW G hX xd σ ++ MW G hM md μ) H locs) (kk : ∀ (H1 : Heap) (locs1 : List Loc), Wd G A H0 (XW G hX xd' σ' ++ MW G hM md μ) H1 locs1 → W p l e R s m args below meth c H1 locs1 cells slots Q (F0 m (pc + 3) ls (.long v :: rest))) : W p l e R s m args below meth c H locs cells slots Q (F0 m pc ls st0) := wcJ (wc := (XW G hX xd σ)) (wr := (MW G hM md μ)) (w1 := (XW G hX xd' σ')) (ws' := XW G hX xd' σ' ++ MW G hM md μ) hr hA hW [0, 1, 2, 3, 4, 5, 6, 7, 8, 9, 10, 11, 12, 13, 14, 15, 16, 17, 18, 19, 20, 21, 22, 23, 24, 25, 26, 27, 28, 29, 30, 31, 32, 33, 34, 35, 36, 37, 38, 39, 40, 41, 42, 43, 44, 45] [46, 47, 48, 49, 50, 51, 52, 53, 54, 55, 56, 57, 58, 59, 60, 61, 62, 63, 64, 65, 66, 67, 68, 69, 70] [25, 26, 27, 28, 29, 30, 31, 32, 33, 34, 35, 36, 37, 38, 39, 40, 41, 42, 43, 44, 45, 46, 47, 48, 49, 50, 51, 52, 53, 54, 55, 56, 57, 58, 59, 60, 61, 62, 63, 64, 65, 66, 67, 68, 69, 70, 0, 1, 2, 3, 4, 5, 6, 7, 8, 9, 10, 11, 12, 13, 14, 15, 16, 17, 18, 19, 20, 21, 22, 23, 24] rfl rfl (by decide) (by decide) rfl (by decide) kk
set_option maxRecDepth 100000 in
theorem lawMJ {p : Program} {l : Launch} {e : Env} {R : Room} {s : State} {m : MethodId} {args : Array Value} {below : List Frame} {meth : Method} {c : Code} {H : Heap} {locs : List Loc} {cells slots : Nat} {Q : State → Prop} {pc : Nat} {ls : Array Slot} {rest : List Value} {A : Nat → Prop} {G : GG} {H0 : Heap} {st0 : List Value} {a : Array Value} {hX hM : Nat} {xd md : Nat → Nat → Nat} {σ μ : SS} {md' : Nat → Nat → Nat} {σ' : SS} {v : Int64} (hr : va_Run p l e R s m args below meth c H locs cells slots 0 0 (F0 m pc ls st0) rest (QcJ G (MW G hM md μ) (MW G hM md' σ') H.size v a) (va_A (MW G hM md μ) H.size)) (hA : ∀ q, H0.size ≤ q → A q) (hW : Wd G A H0 (XW G hX xd σ ++ MW G hM md μ) H locs) (kk : ∀ (H1 : Heap) (locs1 : List Loc), Wd G A H0 (XW G hX xd σ ++ MW G hM md' σ') H1 locs1 → W p l e R s m args below meth c H1 locs1 cells slots Q (F0 m (pc + 3) ls (.long v :: rest))) : W p l e R s m args below meth c H locs cells slots Q (F0 m pc ls st0) := wcJ (wc := (MW G hM md μ)) (wr := (XW G hX xd σ)) (w1 := (MW G hM md' σ')) (ws' := XW G hX xd σ ++ MW G hM md' σ') hr hA hW [46, 47, 48, 49, 50, 51, 52, 53, 54, 55, 56, 57, 58, 59, 60, 61, 62, 63, 64, 65, 66, 67, 68, 69, 70] [0, 1, 2, 3, 4, 5, 6, 7, 8, 9, 10, 11, 12, 13, 14, 15, 16, 17, 18, 19, 20, 21, 22, 23, 24, 25, 26, 27, 28, 29, 30, 31, 32, 33, 34, 35, 36, 37, 38, 39, 40, 41, 42, 43, 44, 45] [0, 1, 2, 3, 4, 5, 6, 7, 8, 9, 10, 11, 12, 13, 14, 15, 16, 17, 18, 19, 20, 21, 22, 23, 24, 25, 26, 27, 28, 29, 30, 31, 32, 33, 34, 35, 36, 37, 38, 39, 40, 41, 42, 43, 44, 45, 46, 47, 48, 49, 50, 51, 52, 53, 54, 55, 56, 57, 58, 59, 60, 61, 62, 63, 64, 65, 66, 67, 68, 69, 70] rfl rfl (by decide) (by decide) rfl (by decide) kk
set_option maxRecDepth 100000 in
theorem lawPreX {s : State} {H : Heap} {locs : List Loc} {A : Nat → Prop} {G : GG} {H0 : Heap} {hX hM : Nat} {xd md : Nat → Nat → Nat} {σ μ : SS} {As : List Value} (hc : ctx G s) (hW : Wd G A H0 (XW G hX xd σ ++ MW G hM md μ) H locs) : PreV s H RX9 hX (PcW G (.ref hX :: As) (XW G hX xd σ) H.size) As := preV hc hW [0, 1, 2, 3, 4, 5, 6, 7, 8, 9, 10, 11, 12, 13, 14, 15, 16, 17, 18, 19, 20, 21, 22, 23, 24, 25, 26, 27, 28, 29, 30, 31, 32, 33, 34, 35, 36, 37, 38, 39, 40, 41, 42, 43, 44, 45] rfl (by decide) rfl rfl
set_option maxRecDepth 100000 in
theorem lawPreM {s : State} {H : Heap} {locs : List Loc} {A : Nat → Prop} {G : GG} {H0 : Heap} {hX hM : Nat} {xd md : Nat → Nat → Nat} {σ μ : SS} {As : List Value} (hc : ctx G s) (hW : Wd G A H0 (XW G hX xd σ ++ MW G hM md μ) H locs) : PreV s H RX10 hM (PcW G (.ref hM :: As) (MW G hM md μ) H.size) As := preV hc hW [46, 47, 48, 49, 50, 51, 52, 53, 54, 55, 56, 57, 58, 59, 60, 61, 62, 63, 64, 65, 66, 67, 68, 69, 70] rfl (by decide) rfl rfl
theorem lg_cmp_self {x y : Int64} (h : x = y) : lg_cmp x y = 0 := by subst h; simp [lg_cmp]
theorem dL_law_0 : decode code 0 = .ok (.new 7, 3) := by decide +kernel
theorem dL_law_3 : decode code 3 = .ok (.dup, 1) := by decide +kernel
theorem dL_law_4 : decode code 4 = .ok (.invokespecial 9, 3) := by decide +kernel
theorem dL_law_7 : decode code 7 = .ok (.astore_n 1, 1) := by decide +kernel
theorem dL_law_8 : decode code 8 = .ok (.new 10, 3) := by decide +kernel
theorem dL_law_11 : decode code 11 = .ok (.dup, 1) := by decide +kernel
theorem dL_law_12 : decode code 12 = .ok (.invokespecial 12, 3) := by decide +kernel
theorem dL_law_15 : decode code 15 = .ok (.astore_n 2, 1) := by decide +kernel
theorem dL_law_16 : decode code 16 = .ok (.iconst 0, 1) := by decide +kernel
theorem dL_law_17 : decode code 17 = .ok (.istore_n 3, 1) := by decide +kernel
theorem dL_law_18 : decode code 18 = .ok (.iload_n 3, 1) := by decide +kernel
theorem dL_law_19 : decode code 19 = .ok (.aload_n 0, 1) := by decide +kernel
theorem dL_law_20 : decode code 20 = .ok (.arraylength, 1) := by decide +kernel
theorem dL_law_21 : decode code 21 = .ok (.bipush 6, 2) := by decide +kernel
theorem dL_law_23 : decode code 23 = .ok (.isub, 1) := by decide +kernel
theorem dL_law_24 : decode code 24 = .ok (.if_icmp .gt 843, 3) := by decide +kernel
theorem dL_law_27 : decode code 27 = .ok (.aload_n 0, 1) := by decide +kernel
theorem dL_law_28 : decode code 28 = .ok (.iload_n 3, 1) := by decide +kernel
theorem dL_law_29 : decode code 29 = .ok (.iaload, 1) := by decide +kernel
theorem dL_law_30 : decode code 30 = .ok (.bipush 31, 2) := by decide +kernel
theorem dL_law_32 : decode code 32 = .ok (.iand, 1) := by decide +kernel
theorem dL_law_33 : decode code 33 = .ok (.tableswitch 828 0 26 #[123, 146, 159, 172, 185, 218, 251, 284, 317, 330, 364, 408, 452, 475, 509, 542, 565, 588, 651, 684, 697, 710, 723, 736, 779, 792, 805], 123) := by decide +kernel
theorem dL_law_156 : decode code 156 = .ok (.aload_n 1, 1) := by decide +kernel
theorem dL_law_157 : decode code 157 = .ok (.aload_n 0, 1) := by decide +kernel
theorem dL_law_158 : decode code 158 = .ok (.iload_n 3, 1) := by decide +kernel
theorem dL_law_159 : decode code 159 = .ok (.iconst 1, 1) := by decide +kernel
theorem dL_law_160 : decode code 160 = .ok (.iadd, 1) := by decide +kernel
theorem dL_law_161 : decode code 161 = .ok (.iaload, 1) := by decide +kernel
theorem dL_law_162 : decode code 162 = .ok (.invokevirtual 13, 3) := by decide +kernel
theorem dL_law_165 : decode code 165 = .ok (.aload_n 2, 1) := by decide +kernel
theorem dL_law_166 : decode code 166 = .ok (.aload_n 0, 1) := by decide +kernel
theorem dL_law_167 : decode code 167 = .ok (.iload_n 3, 1) := by decide +kernel
theorem dL_law_168 : decode code 168 = .ok (.iconst 1, 1) := by decide +kernel
theorem dL_law_169 : decode code 169 = .ok (.iadd, 1) := by decide +kernel
theorem dL_law_170 : decode code 170 = .ok (.iaload, 1) := by decide +kernel
theorem dL_law_171 : decode code 171 = .ok (.invokevirtual 17, 3) := by decide +kernel
theorem dL_law_174 : decode code 174 = .ok (.if_icmp .eq 687, 3) := by decide +kernel
theorem dL_law_177 : decode code 177 = .ok (.iconst 0, 1) := by decide +kernel
theorem dL_law_178 : decode code 178 = .ok (.ireturn, 1) := by decide +kernel
theorem dL_law_179 : decode code 179 = .ok (.aload_n 1, 1) := by decide +kernel
theorem dL_law_180 : decode code 180 = .ok (.invokevirtual 18, 3) := by decide +kernel
theorem dL_law_183 : decode code 183 = .ok (.aload_n 2, 1) := by decide +kernel
theorem dL_law_184 : decode code 184 = .ok (.invokevirtual 22, 3) := by decide +kernel
theorem dL_law_187 : decode code 187 = .ok (.if_icmp .eq 674, 3) := by decide +kernel
theorem dL_law_190 : decode code 190 = .ok (.iconst 0, 1) := by decide +kernel
theorem dL_law_191 : decode code 191 = .ok (.ireturn, 1) := by decide +kernel
theorem dL_law_192 : decode code 192 = .ok (.aload_n 1, 1) := by decide +kernel
theorem dL_law_193 : decode code 193 = .ok (.invokevirtual 23, 3) := by decide +kernel
theorem dL_law_196 : decode code 196 = .ok (.aload_n 2, 1) := by decide +kernel
theorem dL_law_197 : decode code 197 = .ok (.invokevirtual 26, 3) := by decide +kernel
theorem dL_law_200 : decode code 200 = .ok (.if_icmp .eq 661, 3) := by decide +kernel
theorem dL_law_203 : decode code 203 = .ok (.iconst 0, 1) := by decide +kernel
theorem dL_law_204 : decode code 204 = .ok (.ireturn, 1) := by decide +kernel
theorem dL_law_205 : decode code 205 = .ok (.aload_n 1, 1) := by decide +kernel
theorem dL_law_206 : decode code 206 = .ok (.invokevirtual 27, 3) := by decide +kernel
theorem dL_law_209 : decode code 209 = .ok (.aload_n 2, 1) := by decide +kernel
theorem dL_law_210 : decode code 210 = .ok (.invokevirtual 30, 3) := by decide +kernel
theorem dL_law_213 : decode code 213 = .ok (.if_icmp .eq 648, 3) := by decide +kernel
theorem dL_law_216 : decode code 216 = .ok (.iconst 0, 1) := by decide +kernel
theorem dL_law_217 : decode code 217 = .ok (.ireturn, 1) := by decide +kernel
theorem dL_law_218 : decode code 218 = .ok (.aload_n 1, 1) := by decide +kernel
theorem dL_law_219 : decode code 219 = .ok (.aload_n 0, 1) := by decide +kernel
theorem dL_law_220 : decode code 220 = .ok (.iload_n 3, 1) := by decide +kernel
theorem dL_law_221 : decode code 221 = .ok (.iconst 1, 1) := by decide +kernel
theorem dL_law_222 : decode code 222 = .ok (.iadd, 1) := by decide +kernel
theorem dL_law_223 : decode code 223 = .ok (.iaload, 1) := by decide +kernel
theorem dL_law_224 : decode code 224 = .ok (.aload_n 0, 1) := by decide +kernel
theorem dL_law_225 : decode code 225 = .ok (.iload_n 3, 1) := by decide +kernel
theorem dL_law_226 : decode code 226 = .ok (.iconst 2, 1) := by decide +kernel
theorem dL_law_227 : decode code 227 = .ok (.iadd, 1) := by decide +kernel
theorem dL_law_228 : decode code 228 = .ok (.iaload, 1) := by decide +kernel
theorem dL_law_229 : decode code 229 = .ok (.invokevirtual 31, 3) := by decide +kernel
theorem dL_law_232 : decode code 232 = .ok (.aload_n 2, 1) := by decide +kernel
theorem dL_law_233 : decode code 233 = .ok (.aload_n 0, 1) := by decide +kernel
theorem dL_law_234 : decode code 234 = .ok (.iload_n 3, 1) := by decide +kernel
theorem dL_law_235 : decode code 235 = .ok (.iconst 1, 1) := by decide +kernel
theorem dL_law_236 : decode code 236 = .ok (.iadd, 1) := by decide +kernel
theorem dL_law_237 : decode code 237 = .ok (.iaload, 1) := by decide +kernel
theorem dL_law_238 : decode code 238 = .ok (.aload_n 0, 1) := by decide +kernel
theorem dL_law_239 : decode code 239 = .ok (.iload_n 3, 1) := by decide +kernel
theorem dL_law_240 : decode code 240 = .ok (.iconst 2, 1) := by decide +kernel
theorem dL_law_241 : decode code 241 = .ok (.iadd, 1) := by decide +kernel
theorem dL_law_242 : decode code 242 = .ok (.iaload, 1) := by decide +kernel
theorem dL_law_243 : decode code 243 = .ok (.invokevirtual 35, 3) := by decide +kernel
theorem dL_law_246 : decode code 246 = .ok (.if_icmp .eq 615, 3) := by decide +kernel
theorem dL_law_249 : decode code 249 = .ok (.iconst 0, 1) := by decide +kernel
theorem dL_law_250 : decode code 250 = .ok (.ireturn, 1) := by decide +kernel
theorem dL_law_251 : decode code 251 = .ok (.aload_n 1, 1) := by decide +kernel
theorem dL_law_252 : decode code 252 = .ok (.aload_n 0, 1) := by decide +kernel
theorem dL_law_253 : decode code 253 = .ok (.iload_n 3, 1) := by decide +kernel
theorem dL_law_254 : decode code 254 = .ok (.iconst 1, 1) := by decide +kernel
theorem dL_law_255 : decode code 255 = .ok (.iadd, 1) := by decide +kernel
theorem dL_law_256 : decode code 256 = .ok (.iaload, 1) := by decide +kernel
theorem dL_law_257 : decode code 257 = .ok (.aload_n 0, 1) := by decide +kernel
theorem dL_law_258 : decode code 258 = .ok (.iload_n 3, 1) := by decide +kernel
theorem dL_law_259 : decode code 259 = .ok (.iconst 2, 1) := by decide +kernel
theorem dL_law_260 : decode code 260 = .ok (.iadd, 1) := by decide +kernel
theorem dL_law_261 : decode code 261 = .ok (.iaload, 1) := by decide +kernel
theorem dL_law_262 : decode code 262 = .ok (.invokevirtual 36, 3) := by decide +kernel
theorem dL_law_265 : decode code 265 = .ok (.aload_n 2, 1) := by decide +kernel
theorem dL_law_266 : decode code 266 = .ok (.aload_n 0, 1) := by decide +kernel
theorem dL_law_267 : decode code 267 = .ok (.iload_n 3, 1) := by decide +kernel
theorem dL_law_268 : decode code 268 = .ok (.iconst 1, 1) := by decide +kernel
theorem dL_law_269 : decode code 269 = .ok (.iadd, 1) := by decide +kernel
theorem dL_law_270 : decode code 270 = .ok (.iaload, 1) := by decide +kernel
theorem dL_law_271 : decode code 271 = .ok (.aload_n 0, 1) := by decide +kernel
theorem dL_law_272 : decode code 272 = .ok (.iload_n 3, 1) := by decide +kernel
theorem dL_law_273 : decode code 273 = .ok (.iconst 2, 1) := by decide +kernel
theorem dL_law_274 : decode code 274 = .ok (.iadd, 1) := by decide +kernel
theorem dL_law_275 : decode code 275 = .ok (.iaload, 1) := by decide +kernel
theorem dL_law_276 : decode code 276 = .ok (.invokevirtual 39, 3) := by decide +kernel
theorem dL_law_279 : decode code 279 = .ok (.if_icmp .eq 582, 3) := by decide +kernel
theorem dL_law_282 : decode code 282 = .ok (.iconst 0, 1) := by decide +kernel
theorem dL_law_283 : decode code 283 = .ok (.ireturn, 1) := by decide +kernel
theorem dL_law_284 : decode code 284 = .ok (.aload_n 1, 1) := by decide +kernel
theorem dL_law_285 : decode code 285 = .ok (.aload_n 0, 1) := by decide +kernel
theorem dL_law_286 : decode code 286 = .ok (.iload_n 3, 1) := by decide +kernel
theorem dL_law_287 : decode code 287 = .ok (.iconst 1, 1) := by decide +kernel
theorem dL_law_288 : decode code 288 = .ok (.iadd, 1) := by decide +kernel
theorem dL_law_289 : decode code 289 = .ok (.iaload, 1) := by decide +kernel
theorem dL_law_290 : decode code 290 = .ok (.aload_n 0, 1) := by decide +kernel
theorem dL_law_291 : decode code 291 = .ok (.iload_n 3, 1) := by decide +kernel
theorem dL_law_292 : decode code 292 = .ok (.iconst 2, 1) := by decide +kernel
theorem dL_law_293 : decode code 293 = .ok (.iadd, 1) := by decide +kernel
theorem dL_law_294 : decode code 294 = .ok (.iaload, 1) := by decide +kernel
theorem dL_law_295 : decode code 295 = .ok (.invokevirtual 40, 3) := by decide +kernel
theorem dL_law_298 : decode code 298 = .ok (.aload_n 2, 1) := by decide +kernel
theorem dL_law_299 : decode code 299 = .ok (.aload_n 0, 1) := by decide +kernel
theorem dL_law_300 : decode code 300 = .ok (.iload_n 3, 1) := by decide +kernel
theorem dL_law_301 : decode code 301 = .ok (.iconst 1, 1) := by decide +kernel
theorem dL_law_302 : decode code 302 = .ok (.iadd, 1) := by decide +kernel
theorem dL_law_303 : decode code 303 = .ok (.iaload, 1) := by decide +kernel
theorem dL_law_304 : decode code 304 = .ok (.aload_n 0, 1) := by decide +kernel
theorem dL_law_305 : decode code 305 = .ok (.iload_n 3, 1) := by decide +kernel
theorem dL_law_306 : decode code 306 = .ok (.iconst 2, 1) := by decide +kernel
theorem dL_law_307 : decode code 307 = .ok (.iadd, 1) := by decide +kernel
theorem dL_law_308 : decode code 308 = .ok (.iaload, 1) := by decide +kernel
theorem dL_law_309 : decode code 309 = .ok (.invokevirtual 43, 3) := by decide +kernel
theorem dL_law_312 : decode code 312 = .ok (.if_icmp .eq 549, 3) := by decide +kernel
theorem dL_law_315 : decode code 315 = .ok (.iconst 0, 1) := by decide +kernel
theorem dL_law_316 : decode code 316 = .ok (.ireturn, 1) := by decide +kernel
theorem dL_law_317 : decode code 317 = .ok (.aload_n 1, 1) := by decide +kernel
theorem dL_law_318 : decode code 318 = .ok (.aload_n 0, 1) := by decide +kernel
theorem dL_law_319 : decode code 319 = .ok (.iload_n 3, 1) := by decide +kernel
theorem dL_law_320 : decode code 320 = .ok (.iconst 1, 1) := by decide +kernel
theorem dL_law_321 : decode code 321 = .ok (.iadd, 1) := by decide +kernel
theorem dL_law_322 : decode code 322 = .ok (.iaload, 1) := by decide +kernel
theorem dL_law_323 : decode code 323 = .ok (.aload_n 0, 1) := by decide +kernel
theorem dL_law_324 : decode code 324 = .ok (.iload_n 3, 1) := by decide +kernel
theorem dL_law_325 : decode code 325 = .ok (.iconst 2, 1) := by decide +kernel
theorem dL_law_326 : decode code 326 = .ok (.iadd, 1) := by decide +kernel
theorem dL_law_327 : decode code 327 = .ok (.iaload, 1) := by decide +kernel
theorem dL_law_328 : decode code 328 = .ok (.invokevirtual 44, 3) := by decide +kernel
theorem dL_law_331 : decode code 331 = .ok (.aload_n 2, 1) := by decide +kernel
theorem dL_law_332 : decode code 332 = .ok (.aload_n 0, 1) := by decide +kernel
theorem dL_law_333 : decode code 333 = .ok (.iload_n 3, 1) := by decide +kernel
theorem dL_law_334 : decode code 334 = .ok (.iconst 1, 1) := by decide +kernel
theorem dL_law_335 : decode code 335 = .ok (.iadd, 1) := by decide +kernel
theorem dL_law_336 : decode code 336 = .ok (.iaload, 1) := by decide +kernel
theorem dL_law_337 : decode code 337 = .ok (.aload_n 0, 1) := by decide +kernel
theorem dL_law_338 : decode code 338 = .ok (.iload_n 3, 1) := by decide +kernel
theorem dL_law_339 : decode code 339 = .ok (.iconst 2, 1) := by decide +kernel
theorem dL_law_340 : decode code 340 = .ok (.iadd, 1) := by decide +kernel
theorem dL_law_341 : decode code 341 = .ok (.iaload, 1) := by decide +kernel
theorem dL_law_342 : decode code 342 = .ok (.invokevirtual 47, 3) := by decide +kernel
theorem dL_law_345 : decode code 345 = .ok (.if_icmp .eq 516, 3) := by decide +kernel
theorem dL_law_348 : decode code 348 = .ok (.iconst 0, 1) := by decide +kernel
theorem dL_law_349 : decode code 349 = .ok (.ireturn, 1) := by decide +kernel
theorem dL_law_350 : decode code 350 = .ok (.aload_n 1, 1) := by decide +kernel
theorem dL_law_351 : decode code 351 = .ok (.invokevirtual 48, 3) := by decide +kernel
theorem dL_law_354 : decode code 354 = .ok (.aload_n 2, 1) := by decide +kernel
theorem dL_law_355 : decode code 355 = .ok (.invokevirtual 51, 3) := by decide +kernel
theorem dL_law_358 : decode code 358 = .ok (.if_icmp .eq 503, 3) := by decide +kernel
theorem dL_law_361 : decode code 361 = .ok (.iconst 0, 1) := by decide +kernel
theorem dL_law_362 : decode code 362 = .ok (.ireturn, 1) := by decide +kernel
theorem dL_law_363 : decode code 363 = .ok (.aload_n 1, 1) := by decide +kernel
theorem dL_law_364 : decode code 364 = .ok (.aload_n 0, 1) := by decide +kernel
theorem dL_law_365 : decode code 365 = .ok (.iload_n 3, 1) := by decide +kernel
theorem dL_law_366 : decode code 366 = .ok (.iconst 1, 1) := by decide +kernel
theorem dL_law_367 : decode code 367 = .ok (.iadd, 1) := by decide +kernel
theorem dL_law_368 : decode code 368 = .ok (.iaload, 1) := by decide +kernel
theorem dL_law_369 : decode code 369 = .ok (.aload_n 0, 1) := by decide +kernel
theorem dL_law_370 : decode code 370 = .ok (.iload_n 3, 1) := by decide +kernel
theorem dL_law_371 : decode code 371 = .ok (.iconst 2, 1) := by decide +kernel
theorem dL_law_372 : decode code 372 = .ok (.iadd, 1) := by decide +kernel
theorem dL_law_373 : decode code 373 = .ok (.iaload, 1) := by decide +kernel
theorem dL_law_374 : decode code 374 = .ok (.invokevirtual 52, 3) := by decide +kernel
theorem dL_law_377 : decode code 377 = .ok (.aload_n 2, 1) := by decide +kernel
theorem dL_law_378 : decode code 378 = .ok (.aload_n 0, 1) := by decide +kernel
theorem dL_law_379 : decode code 379 = .ok (.iload_n 3, 1) := by decide +kernel
theorem dL_law_380 : decode code 380 = .ok (.iconst 1, 1) := by decide +kernel
theorem dL_law_381 : decode code 381 = .ok (.iadd, 1) := by decide +kernel
theorem dL_law_382 : decode code 382 = .ok (.iaload, 1) := by decide +kernel
theorem dL_law_383 : decode code 383 = .ok (.aload_n 0, 1) := by decide +kernel
theorem dL_law_384 : decode code 384 = .ok (.iload_n 3, 1) := by decide +kernel
theorem dL_law_385 : decode code 385 = .ok (.iconst 2, 1) := by decide +kernel
theorem dL_law_386 : decode code 386 = .ok (.iadd, 1) := by decide +kernel
theorem dL_law_387 : decode code 387 = .ok (.iaload, 1) := by decide +kernel
theorem dL_law_388 : decode code 388 = .ok (.invokevirtual 56, 3) := by decide +kernel
theorem dL_law_391 : decode code 391 = .ok (.lcmp, 1) := by decide +kernel
theorem dL_law_392 : decode code 392 = .ok (.ifCond .eq 469, 3) := by decide +kernel
theorem dL_law_395 : decode code 395 = .ok (.iconst 0, 1) := by decide +kernel
theorem dL_law_396 : decode code 396 = .ok (.ireturn, 1) := by decide +kernel
theorem dL_law_397 : decode code 397 = .ok (.aload_n 1, 1) := by decide +kernel
theorem dL_law_398 : decode code 398 = .ok (.aload_n 0, 1) := by decide +kernel
theorem dL_law_399 : decode code 399 = .ok (.iload_n 3, 1) := by decide +kernel
theorem dL_law_400 : decode code 400 = .ok (.iconst 1, 1) := by decide +kernel
theorem dL_law_401 : decode code 401 = .ok (.iadd, 1) := by decide +kernel
theorem dL_law_402 : decode code 402 = .ok (.iaload, 1) := by decide +kernel
theorem dL_law_403 : decode code 403 = .ok (.aload_n 0, 1) := by decide +kernel
theorem dL_law_404 : decode code 404 = .ok (.iload_n 3, 1) := by decide +kernel
theorem dL_law_405 : decode code 405 = .ok (.iconst 2, 1) := by decide +kernel
theorem dL_law_406 : decode code 406 = .ok (.iadd, 1) := by decide +kernel
theorem dL_law_407 : decode code 407 = .ok (.iaload, 1) := by decide +kernel
theorem dL_law_408 : decode code 408 = .ok (.aload_n 0, 1) := by decide +kernel
theorem dL_law_409 : decode code 409 = .ok (.iload_n 3, 1) := by decide +kernel
theorem dL_law_410 : decode code 410 = .ok (.iconst 3, 1) := by decide +kernel
theorem dL_law_411 : decode code 411 = .ok (.iadd, 1) := by decide +kernel
theorem dL_law_412 : decode code 412 = .ok (.iaload, 1) := by decide +kernel
theorem dL_law_413 : decode code 413 = .ok (.invokevirtual 57, 3) := by decide +kernel
theorem dL_law_416 : decode code 416 = .ok (.aload_n 2, 1) := by decide +kernel
theorem dL_law_417 : decode code 417 = .ok (.aload_n 0, 1) := by decide +kernel
theorem dL_law_418 : decode code 418 = .ok (.iload_n 3, 1) := by decide +kernel
theorem dL_law_419 : decode code 419 = .ok (.iconst 1, 1) := by decide +kernel
theorem dL_law_420 : decode code 420 = .ok (.iadd, 1) := by decide +kernel
theorem dL_law_421 : decode code 421 = .ok (.iaload, 1) := by decide +kernel
theorem dL_law_422 : decode code 422 = .ok (.aload_n 0, 1) := by decide +kernel
theorem dL_law_423 : decode code 423 = .ok (.iload_n 3, 1) := by decide +kernel
theorem dL_law_424 : decode code 424 = .ok (.iconst 2, 1) := by decide +kernel
theorem dL_law_425 : decode code 425 = .ok (.iadd, 1) := by decide +kernel
theorem dL_law_426 : decode code 426 = .ok (.iaload, 1) := by decide +kernel
theorem dL_law_427 : decode code 427 = .ok (.aload_n 0, 1) := by decide +kernel
theorem dL_law_428 : decode code 428 = .ok (.iload_n 3, 1) := by decide +kernel
theorem dL_law_429 : decode code 429 = .ok (.iconst 3, 1) := by decide +kernel
theorem dL_law_430 : decode code 430 = .ok (.iadd, 1) := by decide +kernel
theorem dL_law_431 : decode code 431 = .ok (.iaload, 1) := by decide +kernel
theorem dL_law_432 : decode code 432 = .ok (.invokevirtual 61, 3) := by decide +kernel
theorem dL_law_435 : decode code 435 = .ok (.lcmp, 1) := by decide +kernel
theorem dL_law_436 : decode code 436 = .ok (.ifCond .eq 425, 3) := by decide +kernel
theorem dL_law_439 : decode code 439 = .ok (.iconst 0, 1) := by decide +kernel
theorem dL_law_440 : decode code 440 = .ok (.ireturn, 1) := by decide +kernel
theorem dL_law_441 : decode code 441 = .ok (.aload_n 1, 1) := by decide +kernel
theorem dL_law_442 : decode code 442 = .ok (.aload_n 0, 1) := by decide +kernel
theorem dL_law_443 : decode code 443 = .ok (.iload_n 3, 1) := by decide +kernel
theorem dL_law_444 : decode code 444 = .ok (.iconst 1, 1) := by decide +kernel
theorem dL_law_445 : decode code 445 = .ok (.iadd, 1) := by decide +kernel
theorem dL_law_446 : decode code 446 = .ok (.iaload, 1) := by decide +kernel
theorem dL_law_447 : decode code 447 = .ok (.aload_n 0, 1) := by decide +kernel
theorem dL_law_448 : decode code 448 = .ok (.iload_n 3, 1) := by decide +kernel
theorem dL_law_449 : decode code 449 = .ok (.iconst 2, 1) := by decide +kernel
theorem dL_law_450 : decode code 450 = .ok (.iadd, 1) := by decide +kernel
theorem dL_law_451 : decode code 451 = .ok (.iaload, 1) := by decide +kernel
theorem dL_law_452 : decode code 452 = .ok (.aload_n 0, 1) := by decide +kernel
theorem dL_law_453 : decode code 453 = .ok (.iload_n 3, 1) := by decide +kernel
theorem dL_law_454 : decode code 454 = .ok (.iconst 3, 1) := by decide +kernel
theorem dL_law_455 : decode code 455 = .ok (.iadd, 1) := by decide +kernel
theorem dL_law_456 : decode code 456 = .ok (.iaload, 1) := by decide +kernel
theorem dL_law_457 : decode code 457 = .ok (.invokevirtual 62, 3) := by decide +kernel
theorem dL_law_460 : decode code 460 = .ok (.aload_n 2, 1) := by decide +kernel
theorem dL_law_461 : decode code 461 = .ok (.aload_n 0, 1) := by decide +kernel
theorem dL_law_462 : decode code 462 = .ok (.iload_n 3, 1) := by decide +kernel
theorem dL_law_463 : decode code 463 = .ok (.iconst 1, 1) := by decide +kernel
theorem dL_law_464 : decode code 464 = .ok (.iadd, 1) := by decide +kernel
theorem dL_law_465 : decode code 465 = .ok (.iaload, 1) := by decide +kernel
theorem dL_law_466 : decode code 466 = .ok (.aload_n 0, 1) := by decide +kernel
theorem dL_law_467 : decode code 467 = .ok (.iload_n 3, 1) := by decide +kernel
theorem dL_law_468 : decode code 468 = .ok (.iconst 2, 1) := by decide +kernel
theorem dL_law_469 : decode code 469 = .ok (.iadd, 1) := by decide +kernel
theorem dL_law_470 : decode code 470 = .ok (.iaload, 1) := by decide +kernel
theorem dL_law_471 : decode code 471 = .ok (.aload_n 0, 1) := by decide +kernel
theorem dL_law_472 : decode code 472 = .ok (.iload_n 3, 1) := by decide +kernel
theorem dL_law_473 : decode code 473 = .ok (.iconst 3, 1) := by decide +kernel
theorem dL_law_474 : decode code 474 = .ok (.iadd, 1) := by decide +kernel
theorem dL_law_475 : decode code 475 = .ok (.iaload, 1) := by decide +kernel
theorem dL_law_476 : decode code 476 = .ok (.invokevirtual 65, 3) := by decide +kernel
theorem dL_law_479 : decode code 479 = .ok (.lcmp, 1) := by decide +kernel
theorem dL_law_480 : decode code 480 = .ok (.ifCond .eq 381, 3) := by decide +kernel
theorem dL_law_483 : decode code 483 = .ok (.iconst 0, 1) := by decide +kernel
theorem dL_law_484 : decode code 484 = .ok (.ireturn, 1) := by decide +kernel
theorem dL_law_485 : decode code 485 = .ok (.aload_n 1, 1) := by decide +kernel
theorem dL_law_486 : decode code 486 = .ok (.aload_n 0, 1) := by decide +kernel
theorem dL_law_487 : decode code 487 = .ok (.iload_n 3, 1) := by decide +kernel
theorem dL_law_488 : decode code 488 = .ok (.iconst 1, 1) := by decide +kernel
theorem dL_law_489 : decode code 489 = .ok (.iadd, 1) := by decide +kernel
theorem dL_law_490 : decode code 490 = .ok (.iaload, 1) := by decide +kernel
theorem dL_law_491 : decode code 491 = .ok (.invokevirtual 66, 3) := by decide +kernel
theorem dL_law_494 : decode code 494 = .ok (.aload_n 2, 1) := by decide +kernel
theorem dL_law_495 : decode code 495 = .ok (.aload_n 0, 1) := by decide +kernel
theorem dL_law_496 : decode code 496 = .ok (.iload_n 3, 1) := by decide +kernel
theorem dL_law_497 : decode code 497 = .ok (.iconst 1, 1) := by decide +kernel
theorem dL_law_498 : decode code 498 = .ok (.iadd, 1) := by decide +kernel
theorem dL_law_499 : decode code 499 = .ok (.iaload, 1) := by decide +kernel
theorem dL_law_500 : decode code 500 = .ok (.invokevirtual 69, 3) := by decide +kernel
theorem dL_law_503 : decode code 503 = .ok (.if_icmp .eq 358, 3) := by decide +kernel
theorem dL_law_506 : decode code 506 = .ok (.iconst 0, 1) := by decide +kernel
theorem dL_law_507 : decode code 507 = .ok (.ireturn, 1) := by decide +kernel
theorem dL_law_508 : decode code 508 = .ok (.aload_n 1, 1) := by decide +kernel
theorem dL_law_509 : decode code 509 = .ok (.aload_n 0, 1) := by decide +kernel
theorem dL_law_510 : decode code 510 = .ok (.iload_n 3, 1) := by decide +kernel
theorem dL_law_511 : decode code 511 = .ok (.iconst 1, 1) := by decide +kernel
theorem dL_law_512 : decode code 512 = .ok (.iadd, 1) := by decide +kernel
theorem dL_law_513 : decode code 513 = .ok (.iaload, 1) := by decide +kernel
theorem dL_law_514 : decode code 514 = .ok (.aload_n 0, 1) := by decide +kernel
theorem dL_law_515 : decode code 515 = .ok (.iload_n 3, 1) := by decide +kernel
theorem dL_law_516 : decode code 516 = .ok (.iconst 2, 1) := by decide +kernel
theorem dL_law_517 : decode code 517 = .ok (.iadd, 1) := by decide +kernel
theorem dL_law_518 : decode code 518 = .ok (.iaload, 1) := by decide +kernel
theorem dL_law_519 : decode code 519 = .ok (.invokevirtual 70, 3) := by decide +kernel
theorem dL_law_522 : decode code 522 = .ok (.aload_n 2, 1) := by decide +kernel
theorem dL_law_523 : decode code 523 = .ok (.aload_n 0, 1) := by decide +kernel
theorem dL_law_524 : decode code 524 = .ok (.iload_n 3, 1) := by decide +kernel
theorem dL_law_525 : decode code 525 = .ok (.iconst 1, 1) := by decide +kernel
theorem dL_law_526 : decode code 526 = .ok (.iadd, 1) := by decide +kernel
theorem dL_law_527 : decode code 527 = .ok (.iaload, 1) := by decide +kernel
theorem dL_law_528 : decode code 528 = .ok (.aload_n 0, 1) := by decide +kernel
theorem dL_law_529 : decode code 529 = .ok (.iload_n 3, 1) := by decide +kernel
theorem dL_law_530 : decode code 530 = .ok (.iconst 2, 1) := by decide +kernel
theorem dL_law_531 : decode code 531 = .ok (.iadd, 1) := by decide +kernel
theorem dL_law_532 : decode code 532 = .ok (.iaload, 1) := by decide +kernel
theorem dL_law_533 : decode code 533 = .ok (.invokevirtual 73, 3) := by decide +kernel
theorem dL_law_536 : decode code 536 = .ok (.lcmp, 1) := by decide +kernel
theorem dL_law_537 : decode code 537 = .ok (.ifCond .eq 324, 3) := by decide +kernel
theorem dL_law_540 : decode code 540 = .ok (.iconst 0, 1) := by decide +kernel
theorem dL_law_541 : decode code 541 = .ok (.ireturn, 1) := by decide +kernel
theorem dL_law_542 : decode code 542 = .ok (.aload_n 1, 1) := by decide +kernel
theorem dL_law_543 : decode code 543 = .ok (.aload_n 0, 1) := by decide +kernel
theorem dL_law_544 : decode code 544 = .ok (.iload_n 3, 1) := by decide +kernel
theorem dL_law_545 : decode code 545 = .ok (.iconst 1, 1) := by decide +kernel
theorem dL_law_546 : decode code 546 = .ok (.iadd, 1) := by decide +kernel
theorem dL_law_547 : decode code 547 = .ok (.iaload, 1) := by decide +kernel
theorem dL_law_548 : decode code 548 = .ok (.aload_n 0, 1) := by decide +kernel
theorem dL_law_549 : decode code 549 = .ok (.iload_n 3, 1) := by decide +kernel
theorem dL_law_550 : decode code 550 = .ok (.iconst 2, 1) := by decide +kernel
theorem dL_law_551 : decode code 551 = .ok (.iadd, 1) := by decide +kernel
theorem dL_law_552 : decode code 552 = .ok (.iaload, 1) := by decide +kernel
theorem dL_law_553 : decode code 553 = .ok (.invokevirtual 74, 3) := by decide +kernel
theorem dL_law_556 : decode code 556 = .ok (.aload_n 2, 1) := by decide +kernel
theorem dL_law_557 : decode code 557 = .ok (.aload_n 0, 1) := by decide +kernel
theorem dL_law_558 : decode code 558 = .ok (.iload_n 3, 1) := by decide +kernel
theorem dL_law_559 : decode code 559 = .ok (.iconst 1, 1) := by decide +kernel
theorem dL_law_560 : decode code 560 = .ok (.iadd, 1) := by decide +kernel
theorem dL_law_561 : decode code 561 = .ok (.iaload, 1) := by decide +kernel
theorem dL_law_562 : decode code 562 = .ok (.aload_n 0, 1) := by decide +kernel
theorem dL_law_563 : decode code 563 = .ok (.iload_n 3, 1) := by decide +kernel
theorem dL_law_564 : decode code 564 = .ok (.iconst 2, 1) := by decide +kernel
theorem dL_law_565 : decode code 565 = .ok (.iadd, 1) := by decide +kernel
theorem dL_law_566 : decode code 566 = .ok (.iaload, 1) := by decide +kernel
theorem dL_law_567 : decode code 567 = .ok (.invokevirtual 77, 3) := by decide +kernel
theorem dL_law_570 : decode code 570 = .ok (.if_icmp .eq 291, 3) := by decide +kernel
theorem dL_law_573 : decode code 573 = .ok (.iconst 0, 1) := by decide +kernel
theorem dL_law_574 : decode code 574 = .ok (.ireturn, 1) := by decide +kernel
theorem dL_law_575 : decode code 575 = .ok (.aload_n 1, 1) := by decide +kernel
theorem dL_law_576 : decode code 576 = .ok (.aload_n 0, 1) := by decide +kernel
theorem dL_law_577 : decode code 577 = .ok (.iload_n 3, 1) := by decide +kernel
theorem dL_law_578 : decode code 578 = .ok (.iconst 1, 1) := by decide +kernel
theorem dL_law_579 : decode code 579 = .ok (.iadd, 1) := by decide +kernel
theorem dL_law_580 : decode code 580 = .ok (.iaload, 1) := by decide +kernel
theorem dL_law_581 : decode code 581 = .ok (.invokevirtual 78, 3) := by decide +kernel
theorem dL_law_584 : decode code 584 = .ok (.aload_n 2, 1) := by decide +kernel
theorem dL_law_585 : decode code 585 = .ok (.aload_n 0, 1) := by decide +kernel
theorem dL_law_586 : decode code 586 = .ok (.iload_n 3, 1) := by decide +kernel
theorem dL_law_587 : decode code 587 = .ok (.iconst 1, 1) := by decide +kernel
theorem dL_law_588 : decode code 588 = .ok (.iadd, 1) := by decide +kernel
theorem dL_law_589 : decode code 589 = .ok (.iaload, 1) := by decide +kernel
theorem dL_law_590 : decode code 590 = .ok (.invokevirtual 81, 3) := by decide +kernel
theorem dL_law_593 : decode code 593 = .ok (.if_icmp .eq 268, 3) := by decide +kernel
theorem dL_law_596 : decode code 596 = .ok (.iconst 0, 1) := by decide +kernel
theorem dL_law_597 : decode code 597 = .ok (.ireturn, 1) := by decide +kernel
theorem dL_law_598 : decode code 598 = .ok (.aload_n 1, 1) := by decide +kernel
theorem dL_law_599 : decode code 599 = .ok (.aload_n 0, 1) := by decide +kernel
theorem dL_law_600 : decode code 600 = .ok (.iload_n 3, 1) := by decide +kernel
theorem dL_law_601 : decode code 601 = .ok (.iconst 1, 1) := by decide +kernel
theorem dL_law_602 : decode code 602 = .ok (.iadd, 1) := by decide +kernel
theorem dL_law_603 : decode code 603 = .ok (.iaload, 1) := by decide +kernel
theorem dL_law_604 : decode code 604 = .ok (.invokevirtual 82, 3) := by decide +kernel
theorem dL_law_607 : decode code 607 = .ok (.aload_n 2, 1) := by decide +kernel
theorem dL_law_608 : decode code 608 = .ok (.aload_n 0, 1) := by decide +kernel
theorem dL_law_609 : decode code 609 = .ok (.iload_n 3, 1) := by decide +kernel
theorem dL_law_610 : decode code 610 = .ok (.iconst 1, 1) := by decide +kernel
theorem dL_law_611 : decode code 611 = .ok (.iadd, 1) := by decide +kernel
theorem dL_law_612 : decode code 612 = .ok (.iaload, 1) := by decide +kernel
theorem dL_law_613 : decode code 613 = .ok (.invokevirtual 85, 3) := by decide +kernel
theorem dL_law_616 : decode code 616 = .ok (.if_icmp .eq 245, 3) := by decide +kernel
theorem dL_law_619 : decode code 619 = .ok (.iconst 0, 1) := by decide +kernel
theorem dL_law_620 : decode code 620 = .ok (.ireturn, 1) := by decide +kernel
theorem dL_law_621 : decode code 621 = .ok (.aload_n 1, 1) := by decide +kernel
theorem dL_law_622 : decode code 622 = .ok (.aload_n 0, 1) := by decide +kernel
theorem dL_law_623 : decode code 623 = .ok (.iload_n 3, 1) := by decide +kernel
theorem dL_law_624 : decode code 624 = .ok (.iconst 1, 1) := by decide +kernel
theorem dL_law_625 : decode code 625 = .ok (.iadd, 1) := by decide +kernel
theorem dL_law_626 : decode code 626 = .ok (.iaload, 1) := by decide +kernel
theorem dL_law_627 : decode code 627 = .ok (.aload_n 0, 1) := by decide +kernel
theorem dL_law_628 : decode code 628 = .ok (.iload_n 3, 1) := by decide +kernel
theorem dL_law_629 : decode code 629 = .ok (.iconst 2, 1) := by decide +kernel
theorem dL_law_630 : decode code 630 = .ok (.iadd, 1) := by decide +kernel
theorem dL_law_631 : decode code 631 = .ok (.iaload, 1) := by decide +kernel
theorem dL_law_632 : decode code 632 = .ok (.aload_n 0, 1) := by decide +kernel
theorem dL_law_633 : decode code 633 = .ok (.iload_n 3, 1) := by decide +kernel
theorem dL_law_634 : decode code 634 = .ok (.iconst 3, 1) := by decide +kernel
theorem dL_law_635 : decode code 635 = .ok (.iadd, 1) := by decide +kernel
theorem dL_law_636 : decode code 636 = .ok (.iaload, 1) := by decide +kernel
theorem dL_law_637 : decode code 637 = .ok (.aload_n 0, 1) := by decide +kernel
theorem dL_law_638 : decode code 638 = .ok (.iload_n 3, 1) := by decide +kernel
theorem dL_law_639 : decode code 639 = .ok (.iconst 4, 1) := by decide +kernel
theorem dL_law_640 : decode code 640 = .ok (.iadd, 1) := by decide +kernel
theorem dL_law_641 : decode code 641 = .ok (.iaload, 1) := by decide +kernel
theorem dL_law_642 : decode code 642 = .ok (.aload_n 0, 1) := by decide +kernel
theorem dL_law_643 : decode code 643 = .ok (.iload_n 3, 1) := by decide +kernel
theorem dL_law_644 : decode code 644 = .ok (.iconst 5, 1) := by decide +kernel
theorem dL_law_645 : decode code 645 = .ok (.iadd, 1) := by decide +kernel
theorem dL_law_646 : decode code 646 = .ok (.iaload, 1) := by decide +kernel
theorem dL_law_647 : decode code 647 = .ok (.invokevirtual 86, 3) := by decide +kernel
theorem dL_law_650 : decode code 650 = .ok (.aload_n 2, 1) := by decide +kernel
theorem dL_law_651 : decode code 651 = .ok (.aload_n 0, 1) := by decide +kernel
theorem dL_law_652 : decode code 652 = .ok (.iload_n 3, 1) := by decide +kernel
theorem dL_law_653 : decode code 653 = .ok (.iconst 1, 1) := by decide +kernel
theorem dL_law_654 : decode code 654 = .ok (.iadd, 1) := by decide +kernel
theorem dL_law_655 : decode code 655 = .ok (.iaload, 1) := by decide +kernel
theorem dL_law_656 : decode code 656 = .ok (.aload_n 0, 1) := by decide +kernel
theorem dL_law_657 : decode code 657 = .ok (.iload_n 3, 1) := by decide +kernel
theorem dL_law_658 : decode code 658 = .ok (.iconst 2, 1) := by decide +kernel
theorem dL_law_659 : decode code 659 = .ok (.iadd, 1) := by decide +kernel
theorem dL_law_660 : decode code 660 = .ok (.iaload, 1) := by decide +kernel
theorem dL_law_661 : decode code 661 = .ok (.aload_n 0, 1) := by decide +kernel
theorem dL_law_662 : decode code 662 = .ok (.iload_n 3, 1) := by decide +kernel
theorem dL_law_663 : decode code 663 = .ok (.iconst 3, 1) := by decide +kernel
theorem dL_law_664 : decode code 664 = .ok (.iadd, 1) := by decide +kernel
theorem dL_law_665 : decode code 665 = .ok (.iaload, 1) := by decide +kernel
theorem dL_law_666 : decode code 666 = .ok (.aload_n 0, 1) := by decide +kernel
theorem dL_law_667 : decode code 667 = .ok (.iload_n 3, 1) := by decide +kernel
theorem dL_law_668 : decode code 668 = .ok (.iconst 4, 1) := by decide +kernel
theorem dL_law_669 : decode code 669 = .ok (.iadd, 1) := by decide +kernel
theorem dL_law_670 : decode code 670 = .ok (.iaload, 1) := by decide +kernel
theorem dL_law_671 : decode code 671 = .ok (.aload_n 0, 1) := by decide +kernel
theorem dL_law_672 : decode code 672 = .ok (.iload_n 3, 1) := by decide +kernel
theorem dL_law_673 : decode code 673 = .ok (.iconst 5, 1) := by decide +kernel
theorem dL_law_674 : decode code 674 = .ok (.iadd, 1) := by decide +kernel
theorem dL_law_675 : decode code 675 = .ok (.iaload, 1) := by decide +kernel
theorem dL_law_676 : decode code 676 = .ok (.invokevirtual 90, 3) := by decide +kernel
theorem dL_law_679 : decode code 679 = .ok (.if_icmp .eq 182, 3) := by decide +kernel
theorem dL_law_682 : decode code 682 = .ok (.iconst 0, 1) := by decide +kernel
theorem dL_law_683 : decode code 683 = .ok (.ireturn, 1) := by decide +kernel
theorem dL_law_684 : decode code 684 = .ok (.aload_n 1, 1) := by decide +kernel
theorem dL_law_685 : decode code 685 = .ok (.aload_n 0, 1) := by decide +kernel
theorem dL_law_686 : decode code 686 = .ok (.iload_n 3, 1) := by decide +kernel
theorem dL_law_687 : decode code 687 = .ok (.iconst 1, 1) := by decide +kernel
theorem dL_law_688 : decode code 688 = .ok (.iadd, 1) := by decide +kernel
theorem dL_law_689 : decode code 689 = .ok (.iaload, 1) := by decide +kernel
theorem dL_law_690 : decode code 690 = .ok (.aload_n 0, 1) := by decide +kernel
theorem dL_law_691 : decode code 691 = .ok (.iload_n 3, 1) := by decide +kernel
theorem dL_law_692 : decode code 692 = .ok (.iconst 2, 1) := by decide +kernel
theorem dL_law_693 : decode code 693 = .ok (.iadd, 1) := by decide +kernel
theorem dL_law_694 : decode code 694 = .ok (.iaload, 1) := by decide +kernel
theorem dL_law_695 : decode code 695 = .ok (.invokevirtual 91, 3) := by decide +kernel
theorem dL_law_698 : decode code 698 = .ok (.aload_n 2, 1) := by decide +kernel
theorem dL_law_699 : decode code 699 = .ok (.aload_n 0, 1) := by decide +kernel
theorem dL_law_700 : decode code 700 = .ok (.iload_n 3, 1) := by decide +kernel
theorem dL_law_701 : decode code 701 = .ok (.iconst 1, 1) := by decide +kernel
theorem dL_law_702 : decode code 702 = .ok (.iadd, 1) := by decide +kernel
theorem dL_law_703 : decode code 703 = .ok (.iaload, 1) := by decide +kernel
theorem dL_law_704 : decode code 704 = .ok (.aload_n 0, 1) := by decide +kernel
theorem dL_law_705 : decode code 705 = .ok (.iload_n 3, 1) := by decide +kernel
theorem dL_law_706 : decode code 706 = .ok (.iconst 2, 1) := by decide +kernel
theorem dL_law_707 : decode code 707 = .ok (.iadd, 1) := by decide +kernel
theorem dL_law_708 : decode code 708 = .ok (.iaload, 1) := by decide +kernel
theorem dL_law_709 : decode code 709 = .ok (.invokevirtual 94, 3) := by decide +kernel
theorem dL_law_712 : decode code 712 = .ok (.if_icmp .eq 149, 3) := by decide +kernel
theorem dL_law_715 : decode code 715 = .ok (.iconst 0, 1) := by decide +kernel
theorem dL_law_716 : decode code 716 = .ok (.ireturn, 1) := by decide +kernel
theorem dL_law_717 : decode code 717 = .ok (.aload_n 1, 1) := by decide +kernel
theorem dL_law_718 : decode code 718 = .ok (.invokevirtual 95, 3) := by decide +kernel
theorem dL_law_721 : decode code 721 = .ok (.aload_n 2, 1) := by decide +kernel
theorem dL_law_722 : decode code 722 = .ok (.invokevirtual 98, 3) := by decide +kernel
theorem dL_law_725 : decode code 725 = .ok (.if_icmp .eq 136, 3) := by decide +kernel
theorem dL_law_728 : decode code 728 = .ok (.iconst 0, 1) := by decide +kernel
theorem dL_law_729 : decode code 729 = .ok (.ireturn, 1) := by decide +kernel
theorem dL_law_730 : decode code 730 = .ok (.aload_n 1, 1) := by decide +kernel
theorem dL_law_731 : decode code 731 = .ok (.invokevirtual 99, 3) := by decide +kernel
theorem dL_law_734 : decode code 734 = .ok (.aload_n 2, 1) := by decide +kernel
theorem dL_law_735 : decode code 735 = .ok (.invokevirtual 102, 3) := by decide +kernel
theorem dL_law_738 : decode code 738 = .ok (.if_icmp .eq 123, 3) := by decide +kernel
theorem dL_law_741 : decode code 741 = .ok (.iconst 0, 1) := by decide +kernel
theorem dL_law_742 : decode code 742 = .ok (.ireturn, 1) := by decide +kernel
theorem dL_law_743 : decode code 743 = .ok (.aload_n 1, 1) := by decide +kernel
theorem dL_law_744 : decode code 744 = .ok (.invokevirtual 103, 3) := by decide +kernel
theorem dL_law_747 : decode code 747 = .ok (.aload_n 2, 1) := by decide +kernel
theorem dL_law_748 : decode code 748 = .ok (.invokevirtual 106, 3) := by decide +kernel
theorem dL_law_751 : decode code 751 = .ok (.if_icmp .eq 110, 3) := by decide +kernel
theorem dL_law_754 : decode code 754 = .ok (.iconst 0, 1) := by decide +kernel
theorem dL_law_755 : decode code 755 = .ok (.ireturn, 1) := by decide +kernel
theorem dL_law_756 : decode code 756 = .ok (.aload_n 1, 1) := by decide +kernel
theorem dL_law_757 : decode code 757 = .ok (.invokevirtual 107, 3) := by decide +kernel
theorem dL_law_760 : decode code 760 = .ok (.aload_n 2, 1) := by decide +kernel
theorem dL_law_761 : decode code 761 = .ok (.invokevirtual 110, 3) := by decide +kernel
theorem dL_law_764 : decode code 764 = .ok (.if_icmp .eq 97, 3) := by decide +kernel
theorem dL_law_767 : decode code 767 = .ok (.iconst 0, 1) := by decide +kernel
theorem dL_law_768 : decode code 768 = .ok (.ireturn, 1) := by decide +kernel
theorem dL_law_769 : decode code 769 = .ok (.aload_n 1, 1) := by decide +kernel
theorem dL_law_770 : decode code 770 = .ok (.aload_n 0, 1) := by decide +kernel
theorem dL_law_771 : decode code 771 = .ok (.iload_n 3, 1) := by decide +kernel
theorem dL_law_772 : decode code 772 = .ok (.iconst 1, 1) := by decide +kernel
theorem dL_law_773 : decode code 773 = .ok (.iadd, 1) := by decide +kernel
theorem dL_law_774 : decode code 774 = .ok (.iaload, 1) := by decide +kernel
theorem dL_law_775 : decode code 775 = .ok (.aload_n 0, 1) := by decide +kernel
theorem dL_law_776 : decode code 776 = .ok (.iload_n 3, 1) := by decide +kernel
theorem dL_law_777 : decode code 777 = .ok (.iconst 2, 1) := by decide +kernel
theorem dL_law_778 : decode code 778 = .ok (.iadd, 1) := by decide +kernel
theorem dL_law_779 : decode code 779 = .ok (.iaload, 1) := by decide +kernel
theorem dL_law_780 : decode code 780 = .ok (.aload_n 0, 1) := by decide +kernel
theorem dL_law_781 : decode code 781 = .ok (.iload_n 3, 1) := by decide +kernel
theorem dL_law_782 : decode code 782 = .ok (.iconst 3, 1) := by decide +kernel
theorem dL_law_783 : decode code 783 = .ok (.iadd, 1) := by decide +kernel
theorem dL_law_784 : decode code 784 = .ok (.iaload, 1) := by decide +kernel
theorem dL_law_785 : decode code 785 = .ok (.invokevirtual 111, 3) := by decide +kernel
theorem dL_law_788 : decode code 788 = .ok (.aload_n 2, 1) := by decide +kernel
theorem dL_law_789 : decode code 789 = .ok (.aload_n 0, 1) := by decide +kernel
theorem dL_law_790 : decode code 790 = .ok (.iload_n 3, 1) := by decide +kernel
theorem dL_law_791 : decode code 791 = .ok (.iconst 1, 1) := by decide +kernel
theorem dL_law_792 : decode code 792 = .ok (.iadd, 1) := by decide +kernel
theorem dL_law_793 : decode code 793 = .ok (.iaload, 1) := by decide +kernel
theorem dL_law_794 : decode code 794 = .ok (.aload_n 0, 1) := by decide +kernel
theorem dL_law_795 : decode code 795 = .ok (.iload_n 3, 1) := by decide +kernel
theorem dL_law_796 : decode code 796 = .ok (.iconst 2, 1) := by decide +kernel
theorem dL_law_797 : decode code 797 = .ok (.iadd, 1) := by decide +kernel
theorem dL_law_798 : decode code 798 = .ok (.iaload, 1) := by decide +kernel
theorem dL_law_799 : decode code 799 = .ok (.aload_n 0, 1) := by decide +kernel
theorem dL_law_800 : decode code 800 = .ok (.iload_n 3, 1) := by decide +kernel
theorem dL_law_801 : decode code 801 = .ok (.iconst 3, 1) := by decide +kernel
theorem dL_law_802 : decode code 802 = .ok (.iadd, 1) := by decide +kernel
theorem dL_law_803 : decode code 803 = .ok (.iaload, 1) := by decide +kernel
theorem dL_law_804 : decode code 804 = .ok (.invokevirtual 115, 3) := by decide +kernel
theorem dL_law_807 : decode code 807 = .ok (.if_icmp .eq 54, 3) := by decide +kernel
theorem dL_law_810 : decode code 810 = .ok (.iconst 0, 1) := by decide +kernel
theorem dL_law_811 : decode code 811 = .ok (.ireturn, 1) := by decide +kernel
theorem dL_law_812 : decode code 812 = .ok (.aload_n 1, 1) := by decide +kernel
theorem dL_law_813 : decode code 813 = .ok (.invokevirtual 116, 3) := by decide +kernel
theorem dL_law_816 : decode code 816 = .ok (.aload_n 2, 1) := by decide +kernel
theorem dL_law_817 : decode code 817 = .ok (.invokevirtual 119, 3) := by decide +kernel
theorem dL_law_820 : decode code 820 = .ok (.if_icmp .eq 41, 3) := by decide +kernel
theorem dL_law_823 : decode code 823 = .ok (.iconst 0, 1) := by decide +kernel
theorem dL_law_824 : decode code 824 = .ok (.ireturn, 1) := by decide +kernel
theorem dL_law_825 : decode code 825 = .ok (.aload_n 1, 1) := by decide +kernel
theorem dL_law_826 : decode code 826 = .ok (.invokevirtual 120, 3) := by decide +kernel
theorem dL_law_829 : decode code 829 = .ok (.aload_n 2, 1) := by decide +kernel
theorem dL_law_830 : decode code 830 = .ok (.invokevirtual 123, 3) := by decide +kernel
theorem dL_law_833 : decode code 833 = .ok (.if_icmp .eq 28, 3) := by decide +kernel
theorem dL_law_836 : decode code 836 = .ok (.iconst 0, 1) := by decide +kernel
theorem dL_law_837 : decode code 837 = .ok (.ireturn, 1) := by decide +kernel
theorem dL_law_838 : decode code 838 = .ok (.aload_n 1, 1) := by decide +kernel
theorem dL_law_839 : decode code 839 = .ok (.aload_n 0, 1) := by decide +kernel
theorem dL_law_840 : decode code 840 = .ok (.iload_n 3, 1) := by decide +kernel
theorem dL_law_841 : decode code 841 = .ok (.iconst 1, 1) := by decide +kernel
theorem dL_law_842 : decode code 842 = .ok (.iadd, 1) := by decide +kernel
theorem dL_law_843 : decode code 843 = .ok (.iaload, 1) := by decide +kernel
theorem dL_law_844 : decode code 844 = .ok (.invokevirtual 124, 3) := by decide +kernel
theorem dL_law_847 : decode code 847 = .ok (.aload_n 2, 1) := by decide +kernel
theorem dL_law_848 : decode code 848 = .ok (.aload_n 0, 1) := by decide +kernel
theorem dL_law_849 : decode code 849 = .ok (.iload_n 3, 1) := by decide +kernel
theorem dL_law_850 : decode code 850 = .ok (.iconst 1, 1) := by decide +kernel
theorem dL_law_851 : decode code 851 = .ok (.iadd, 1) := by decide +kernel
theorem dL_law_852 : decode code 852 = .ok (.iaload, 1) := by decide +kernel
theorem dL_law_853 : decode code 853 = .ok (.invokevirtual 127, 3) := by decide +kernel
theorem dL_law_856 : decode code 856 = .ok (.if_icmp .eq 5, 3) := by decide +kernel
theorem dL_law_859 : decode code 859 = .ok (.iconst 0, 1) := by decide +kernel
theorem dL_law_860 : decode code 860 = .ok (.ireturn, 1) := by decide +kernel
theorem dL_law_861 : decode code 861 = .ok (.iinc 3 6, 3) := by decide +kernel
theorem dL_law_864 : decode code 864 = .ok (.goto (-846), 3) := by decide +kernel
theorem dL_law_867 : decode code 867 = .ok (.iconst 1, 1) := by decide +kernel
theorem dL_law_868 : decode code 868 = .ok (.ireturn, 1) := by decide +kernel
theorem wd_2_136 : Cond.methodLink RL 13 yX9_write ∈ GOODS := mg2 136 rfl rfl
theorem wd_2_137 : Cond.instanceMethod yX9_write ∈ GOODS := mg2 137 rfl rfl
theorem wd_2_138 : Cond.selects RX9 yX9_write yX9_write ∈ GOODS := mg2 138 rfl rfl
theorem wd_2_139 : Cond.code yX9_write cX9_write 2 (some .int) ∈ GOODS := mg2 139 rfl rfl
theorem wd_2_141 : Cond.methodLink RL 18 yX9_wipe ∈ GOODS := mg2 141 rfl rfl
theorem wd_2_142 : Cond.instanceMethod yX9_wipe ∈ GOODS := mg2 142 rfl rfl
theorem wd_2_143 : Cond.selects RX9 yX9_wipe yX9_wipe ∈ GOODS := mg2 143 rfl rfl
theorem wd_2_144 : Cond.code yX9_wipe cX9_wipe 2 (some .int) ∈ GOODS := mg2 144 rfl rfl
theorem wd_2_145 : Cond.methodLink RL 23 yX9_fault ∈ GOODS := mg2 145 rfl rfl
theorem wd_2_146 : Cond.instanceMethod yX9_fault ∈ GOODS := mg2 146 rfl rfl
theorem wd_2_147 : Cond.selects RX9 yX9_fault yX9_fault ∈ GOODS := mg2 147 rfl rfl
theorem wd_2_148 : Cond.code yX9_fault cX9_fault 1 (some .int) ∈ GOODS := mg2 148 rfl rfl
theorem wd_2_149 : Cond.methodLink RL 27 yX9_lay ∈ GOODS := mg2 149 rfl rfl
theorem wd_2_150 : Cond.instanceMethod yX9_lay ∈ GOODS := mg2 150 rfl rfl
theorem wd_2_151 : Cond.selects RX9 yX9_lay yX9_lay ∈ GOODS := mg2 151 rfl rfl
theorem wd_2_152 : Cond.code yX9_lay cX9_lay 2 (some .int) ∈ GOODS := mg2 152 rfl rfl
theorem wd_2_153 : Cond.methodLink RL 31 yX9_sign ∈ GOODS := mg2 153 rfl rfl
theorem wd_2_154 : Cond.instanceMethod yX9_sign ∈ GOODS := mg2 154 rfl rfl
theorem wd_2_155 : Cond.selects RX9 yX9_sign yX9_sign ∈ GOODS := mg2 155 rfl rfl
theorem wd_2_156 : Cond.code yX9_sign cX9_sign 3 (some .int) ∈ GOODS := mg2 156 rfl rfl
theorem wd_2_162 : Cond.methodLink RL 36 yX9_works ∈ GOODS := mg2 162 rfl rfl
theorem wd_2_163 : Cond.instanceMethod yX9_works ∈ GOODS := mg2 163 rfl rfl
theorem wd_2_164 : Cond.selects RX9 yX9_works yX9_works ∈ GOODS := mg2 164 rfl rfl
theorem wd_2_165 : Cond.code yX9_works cX9_works 3 (some .int) ∈ GOODS := mg2 165 rfl rfl
theorem wd_2_186 : Cond.methodLink RL 40 yX9_day ∈ GOODS := mg2 186 rfl rfl
theorem wd_2_187 : Cond.instanceMethod yX9_day ∈ GOODS := mg2 187 rfl rfl
theorem wd_2_188 : Cond.selects RX9 yX9_day yX9_day ∈ GOODS := mg2 188 rfl rfl
theorem wd_2_189 : Cond.code yX9_day cX9_day 3 (some .int) ∈ GOODS := mg2 189 rfl rfl
theorem wd_2_195 : Cond.methodLink RL 44 yX9_diary ∈ GOODS := mg2 195 rfl rfl
theorem wd_2_196 : Cond.instanceMethod yX9_diary ∈ GOODS := mg2 196 rfl rfl
theorem wd_2_197 : Cond.selects RX9 yX9_diary yX9_diary ∈ GOODS := mg2 197 rfl rfl
theorem wd_2_198 : Cond.code yX9_diary cX9_diary 3 (some .int) ∈ GOODS := mg2 198 rfl rfl
theorem wd_2_208 : Cond.methodLink RL 48 yX9_undo ∈ GOODS := mg2 208 rfl rfl
theorem wd_2_209 : Cond.instanceMethod yX9_undo ∈ GOODS := mg2 209 rfl rfl
theorem wd_2_210 : Cond.selects RX9 yX9_undo yX9_undo ∈ GOODS := mg2 210 rfl rfl
theorem wd_2_211 : Cond.code yX9_undo cX9_undo 1 (some .int) ∈ GOODS := mg2 211 rfl rfl
theorem wd_2_212 : Cond.methodLink RL 52 yX9_belief ∈ GOODS := mg2 212 rfl rfl
theorem wd_2_213 : Cond.instanceMethod yX9_belief ∈ GOODS := mg2 213 rfl rfl
theorem wd_2_214 : Cond.selects RX9 yX9_belief yX9_belief ∈ GOODS := mg2 214 rfl rfl
theorem wd_2_215 : Cond.code yX9_belief cX9_belief 3 (some .long) ∈ GOODS := mg2 215 rfl rfl
theorem wd_3_42 : Cond.methodLink RL 57 yX9_near ∈ GOODS := mg3 42 rfl rfl
theorem wd_3_43 : Cond.instanceMethod yX9_near ∈ GOODS := mg3 43 rfl rfl
theorem wd_3_44 : Cond.selects RX9 yX9_near yX9_near ∈ GOODS := mg3 44 rfl rfl
theorem wd_3_45 : Cond.code yX9_near cX9_near 4 (some .long) ∈ GOODS := mg3 45 rfl rfl
theorem wd_3_60 : Cond.methodLink RL 62 yX9_sight ∈ GOODS := mg3 60 rfl rfl
theorem wd_3_61 : Cond.instanceMethod yX9_sight ∈ GOODS := mg3 61 rfl rfl
theorem wd_3_62 : Cond.selects RX9 yX9_sight yX9_sight ∈ GOODS := mg3 62 rfl rfl
theorem wd_3_63 : Cond.code yX9_sight cX9_sight 4 (some .long) ∈ GOODS := mg3 63 rfl rfl
theorem wd_3_77 : Cond.methodLink RL 66 yX9_tells ∈ GOODS := mg3 77 rfl rfl
theorem wd_3_78 : Cond.instanceMethod yX9_tells ∈ GOODS := mg3 78 rfl rfl
theorem wd_3_79 : Cond.selects RX9 yX9_tells yX9_tells ∈ GOODS := mg3 79 rfl rfl
theorem wd_3_80 : Cond.code yX9_tells cX9_tells 8 (some .int) ∈ GOODS := mg3 80 rfl rfl
theorem wd_3_89 : Cond.methodLink RL 70 yX9_board ∈ GOODS := mg3 89 rfl rfl
theorem wd_3_90 : Cond.instanceMethod yX9_board ∈ GOODS := mg3 90 rfl rfl
theorem wd_3_91 : Cond.selects RX9 yX9_board yX9_board ∈ GOODS := mg3 91 rfl rfl
theorem wd_3_92 : Cond.code yX9_board cX9_board 9 (some .long) ∈ GOODS := mg3 92 rfl rfl
theorem wd_3_100 : Cond.methodLink RL 74 yX9_quiet ∈ GOODS := mg3 100 rfl rfl
theorem wd_3_101 : Cond.instanceMethod yX9_quiet ∈ GOODS := mg3 101 rfl rfl
theorem wd_3_102 : Cond.selects RX9 yX9_quiet yX9_quiet ∈ GOODS := mg3 102 rfl rfl
theorem wd_3_103 : Cond.code yX9_quiet cX9_quiet 7 (some .int) ∈ GOODS := mg3 103 rfl rfl
theorem wd_3_109 : Cond.methodLink RL 78 yX9_saved ∈ GOODS := mg3 109 rfl rfl
theorem wd_3_110 : Cond.instanceMethod yX9_saved ∈ GOODS := mg3 110 rfl rfl
theorem wd_3_111 : Cond.selects RX9 yX9_saved yX9_saved ∈ GOODS := mg3 111 rfl rfl
theorem wd_3_112 : Cond.code yX9_saved cX9_saved 2 (some .int) ∈ GOODS := mg3 112 rfl rfl
theorem wd_3_130 : Cond.methodLink RL 82 yX9_crews ∈ GOODS := mg3 130 rfl rfl
theorem wd_3_131 : Cond.instanceMethod yX9_crews ∈ GOODS := mg3 131 rfl rfl
theorem wd_3_132 : Cond.selects RX9 yX9_crews yX9_crews ∈ GOODS := mg3 132 rfl rfl
theorem wd_3_133 : Cond.code yX9_crews cX9_crews 2 (some .int) ∈ GOODS := mg3 133 rfl rfl
theorem wd_3_161 : Cond.methodLink RL 86 yX9_drift ∈ GOODS := mg3 161 rfl rfl
theorem wd_3_162 : Cond.instanceMethod yX9_drift ∈ GOODS := mg3 162 rfl rfl
theorem wd_3_163 : Cond.selects RX9 yX9_drift yX9_drift ∈ GOODS := mg3 163 rfl rfl
theorem wd_3_164 : Cond.code yX9_drift cX9_drift 7 (some .int) ∈ GOODS := mg3 164 rfl rfl
theorem wd_3_180 : Cond.methodLink RL 91 yX9_ahead ∈ GOODS := mg3 180 rfl rfl
theorem wd_3_181 : Cond.instanceMethod yX9_ahead ∈ GOODS := mg3 181 rfl rfl
theorem wd_3_182 : Cond.selects RX9 yX9_ahead yX9_ahead ∈ GOODS := mg3 182 rfl rfl
theorem wd_3_183 : Cond.code yX9_ahead cX9_ahead 3 (some .int) ∈ GOODS := mg3 183 rfl rfl
theorem wd_3_189 : Cond.methodLink RL 95 yX9_forget ∈ GOODS := mg3 189 rfl rfl
theorem wd_3_190 : Cond.instanceMethod yX9_forget ∈ GOODS := mg3 190 rfl rfl
theorem wd_3_191 : Cond.selects RX9 yX9_forget yX9_forget ∈ GOODS := mg3 191 rfl rfl
theorem wd_3_192 : Cond.code yX9_forget cX9_forget 2 (some .int) ∈ GOODS := mg3 192 rfl rfl
theorem wd_3_193 : Cond.methodLink RL 99 yX9_first ∈ GOODS := mg3 193 rfl rfl
theorem wd_3_194 : Cond.instanceMethod yX9_first ∈ GOODS := mg3 194 rfl rfl
theorem wd_3_195 : Cond.selects RX9 yX9_first yX9_first ∈ GOODS := mg3 195 rfl rfl
theorem wd_3_196 : Cond.code yX9_first cX9_first 1 (some .int) ∈ GOODS := mg3 196 rfl rfl
theorem wd_3_212 : Cond.methodLink RL 103 yX9_orders ∈ GOODS := mg3 212 rfl rfl
theorem wd_3_213 : Cond.instanceMethod yX9_orders ∈ GOODS := mg3 213 rfl rfl
theorem wd_3_214 : Cond.selects RX9 yX9_orders yX9_orders ∈ GOODS := mg3 214 rfl rfl
theorem wd_3_215 : Cond.code yX9_orders cX9_orders 1 (some .int) ∈ GOODS := mg3 215 rfl rfl
theorem wd_3_216 : Cond.methodLink RL 107 yX9_feigned ∈ GOODS := mg3 216 rfl rfl
theorem wd_3_217 : Cond.instanceMethod yX9_feigned ∈ GOODS := mg3 217 rfl rfl
theorem wd_3_218 : Cond.selects RX9 yX9_feigned yX9_feigned ∈ GOODS := mg3 218 rfl rfl
theorem wd_3_219 : Cond.code yX9_feigned cX9_feigned 7 (some .int) ∈ GOODS := mg3 219 rfl rfl
theorem wd_3_220 : Cond.methodLink RL 111 yX9_spring ∈ GOODS := mg3 220 rfl rfl
theorem wd_3_221 : Cond.instanceMethod yX9_spring ∈ GOODS := mg3 221 rfl rfl
theorem wd_3_222 : Cond.selects RX9 yX9_spring yX9_spring ∈ GOODS := mg3 222 rfl rfl
theorem wd_3_223 : Cond.code yX9_spring cX9_spring 9 (some .int) ∈ GOODS := mg3 223 rfl rfl
theorem wd_3_232 : Cond.methodLink RL 116 yX9_keep ∈ GOODS := mg3 232 rfl rfl
theorem wd_3_233 : Cond.instanceMethod yX9_keep ∈ GOODS := mg3 233 rfl rfl
theorem wd_3_234 : Cond.selects RX9 yX9_keep yX9_keep ∈ GOODS := mg3 234 rfl rfl
theorem wd_3_235 : Cond.code yX9_keep cX9_keep 2 (some .int) ∈ GOODS := mg3 235 rfl rfl
theorem wd_4_3 : Cond.methodLink RL 120 yX9_back ∈ GOODS := mg4 3 rfl rfl
theorem wd_4_4 : Cond.instanceMethod yX9_back ∈ GOODS := mg4 4 rfl rfl
theorem wd_4_5 : Cond.selects RX9 yX9_back yX9_back ∈ GOODS := mg4 5 rfl rfl
theorem wd_4_6 : Cond.code yX9_back cX9_back 2 (some .int) ∈ GOODS := mg4 6 rfl rfl
theorem wd_4_7 : Cond.methodLink RL 124 yX9_count ∈ GOODS := mg4 7 rfl rfl
theorem wd_4_8 : Cond.instanceMethod yX9_count ∈ GOODS := mg4 8 rfl rfl
theorem wd_4_9 : Cond.selects RX9 yX9_count yX9_count ∈ GOODS := mg4 9 rfl rfl
theorem wd_4_10 : Cond.code yX9_count cX9_count 2 (some .int) ∈ GOODS := mg4 10 rfl rfl
theorem wd_4_132 : Cond.methodLink RL 17 yX10_write ∈ GOODS := mg4 132 rfl rfl
theorem wd_4_133 : Cond.instanceMethod yX10_write ∈ GOODS := mg4 133 rfl rfl
theorem wd_4_134 : Cond.selects RX10 yX10_write yX10_write ∈ GOODS := mg4 134 rfl rfl
theorem wd_4_135 : Cond.code yX10_write cX10_write 2 (some .int) ∈ GOODS := mg4 135 rfl rfl
theorem wd_4_139 : Cond.methodLink RL 22 yX10_wipe ∈ GOODS := mg4 139 rfl rfl
theorem wd_4_140 : Cond.instanceMethod yX10_wipe ∈ GOODS := mg4 140 rfl rfl
theorem wd_4_141 : Cond.selects RX10 yX10_wipe yX10_wipe ∈ GOODS := mg4 141 rfl rfl
theorem wd_4_142 : Cond.code yX10_wipe cX10_wipe 2 (some .int) ∈ GOODS := mg4 142 rfl rfl
theorem wd_4_143 : Cond.methodLink RL 26 yX10_fault ∈ GOODS := mg4 143 rfl rfl
theorem wd_4_159 : Cond.methodLink RL 30 yX10_lay ∈ GOODS := mg4 159 rfl rfl
theorem wd_4_160 : Cond.instanceMethod yX10_lay ∈ GOODS := mg4 160 rfl rfl
theorem wd_4_161 : Cond.selects RX10 yX10_lay yX10_lay ∈ GOODS := mg4 161 rfl rfl
theorem wd_4_162 : Cond.code yX10_lay cX10_lay 2 (some .int) ∈ GOODS := mg4 162 rfl rfl
theorem wd_4_164 : Cond.methodLink RL 35 yX10_sign ∈ GOODS := mg4 164 rfl rfl
theorem wd_4_165 : Cond.instanceMethod yX10_sign ∈ GOODS := mg4 165 rfl rfl
theorem wd_4_166 : Cond.selects RX10 yX10_sign yX10_sign ∈ GOODS := mg4 166 rfl rfl
theorem wd_4_167 : Cond.code yX10_sign cX10_sign 3 (some .int) ∈ GOODS := mg4 167 rfl rfl
theorem wd_4_172 : Cond.methodLink RL 39 yX10_works ∈ GOODS := mg4 172 rfl rfl
theorem wd_4_173 : Cond.instanceMethod yX10_works ∈ GOODS := mg4 173 rfl rfl
theorem wd_4_174 : Cond.selects RX10 yX10_works yX10_works ∈ GOODS := mg4 174 rfl rfl
theorem wd_4_175 : Cond.code yX10_works cX10_works 3 (some .int) ∈ GOODS := mg4 175 rfl rfl
theorem wd_4_188 : Cond.methodLink RL 43 yX10_day ∈ GOODS := mg4 188 rfl rfl
theorem wd_4_189 : Cond.instanceMethod yX10_day ∈ GOODS := mg4 189 rfl rfl
theorem wd_4_190 : Cond.selects RX10 yX10_day yX10_day ∈ GOODS := mg4 190 rfl rfl
theorem wd_4_191 : Cond.code yX10_day cX10_day 3 (some .int) ∈ GOODS := mg4 191 rfl rfl
theorem wd_4_192 : Cond.methodLink RL 47 yX10_diary ∈ GOODS := mg4 192 rfl rfl
theorem wd_4_193 : Cond.instanceMethod yX10_diary ∈ GOODS := mg4 193 rfl rfl
theorem wd_4_194 : Cond.selects RX10 yX10_diary yX10_diary ∈ GOODS := mg4 194 rfl rfl
theorem wd_4_195 : Cond.code yX10_diary cX10_diary 3 (some .int) ∈ GOODS := mg4 195 rfl rfl
theorem wd_4_196 : Cond.methodLink RL 51 yX10_undo ∈ GOODS := mg4 196 rfl rfl
theorem wd_4_197 : Cond.instanceMethod yX10_undo ∈ GOODS := mg4 197 rfl rfl
theorem wd_4_198 : Cond.selects RX10 yX10_undo yX10_undo ∈ GOODS := mg4 198 rfl rfl
theorem wd_4_199 : Cond.code yX10_undo cX10_undo 1 (some .int) ∈ GOODS := mg4 199 rfl rfl
theorem wd_4_200 : Cond.methodLink RL 56 yX10_belief ∈ GOODS := mg4 200 rfl rfl
theorem wd_4_201 : Cond.instanceMethod yX10_belief ∈ GOODS := mg4 201 rfl rfl
theorem wd_4_202 : Cond.selects RX10 yX10_belief yX10_belief ∈ GOODS := mg4 202 rfl rfl
theorem wd_4_203 : Cond.code yX10_belief cX10_belief 3 (some .long) ∈ GOODS := mg4 203 rfl rfl
theorem wd_5_4 : Cond.methodLink RL 61 yX10_near ∈ GOODS := mg5 4 rfl rfl
theorem wd_5_5 : Cond.instanceMethod yX10_near ∈ GOODS := mg5 5 rfl rfl
theorem wd_5_6 : Cond.selects RX10 yX10_near yX10_near ∈ GOODS := mg5 6 rfl rfl
theorem wd_5_7 : Cond.code yX10_near cX10_near 4 (some .long) ∈ GOODS := mg5 7 rfl rfl
theorem wd_5_14 : Cond.methodLink RL 65 yX10_sight ∈ GOODS := mg5 14 rfl rfl
theorem wd_5_15 : Cond.instanceMethod yX10_sight ∈ GOODS := mg5 15 rfl rfl
theorem wd_5_16 : Cond.selects RX10 yX10_sight yX10_sight ∈ GOODS := mg5 16 rfl rfl
theorem wd_5_17 : Cond.code yX10_sight cX10_sight 6 (some .long) ∈ GOODS := mg5 17 rfl rfl
theorem wd_5_27 : Cond.methodLink RL 69 yX10_tells ∈ GOODS := mg5 27 rfl rfl
theorem wd_5_28 : Cond.instanceMethod yX10_tells ∈ GOODS := mg5 28 rfl rfl
theorem wd_5_29 : Cond.selects RX10 yX10_tells yX10_tells ∈ GOODS := mg5 29 rfl rfl
theorem wd_5_30 : Cond.code yX10_tells cX10_tells 8 (some .int) ∈ GOODS := mg5 30 rfl rfl
theorem wd_5_32 : Cond.methodLink RL 73 yX10_board ∈ GOODS := mg5 32 rfl rfl
theorem wd_5_33 : Cond.instanceMethod yX10_board ∈ GOODS := mg5 33 rfl rfl
theorem wd_5_34 : Cond.selects RX10 yX10_board yX10_board ∈ GOODS := mg5 34 rfl rfl
theorem wd_5_35 : Cond.code yX10_board cX10_board 5 (some .long) ∈ GOODS := mg5 35 rfl rfl
theorem wd_5_40 : Cond.methodLink RL 77 yX10_quiet ∈ GOODS := mg5 40 rfl rfl
theorem wd_5_41 : Cond.instanceMethod yX10_quiet ∈ GOODS := mg5 41 rfl rfl
theorem wd_5_42 : Cond.selects RX10 yX10_quiet yX10_quiet ∈ GOODS := mg5 42 rfl rfl
theorem wd_5_43 : Cond.code yX10_quiet cX10_quiet 6 (some .int) ∈ GOODS := mg5 43 rfl rfl
theorem wd_5_45 : Cond.methodLink RL 81 yX10_saved ∈ GOODS := mg5 45 rfl rfl
theorem wd_5_46 : Cond.instanceMethod yX10_saved ∈ GOODS := mg5 46 rfl rfl
theorem wd_5_47 : Cond.selects RX10 yX10_saved yX10_saved ∈ GOODS := mg5 47 rfl rfl
theorem wd_5_48 : Cond.code yX10_saved cX10_saved 5 (some .int) ∈ GOODS := mg5 48 rfl rfl
theorem wd_5_49 : Cond.methodLink RL 85 yX10_crews ∈ GOODS := mg5 49 rfl rfl
theorem wd_5_50 : Cond.instanceMethod yX10_crews ∈ GOODS := mg5 50 rfl rfl
theorem wd_5_51 : Cond.selects RX10 yX10_crews yX10_crews ∈ GOODS := mg5 51 rfl rfl
theorem wd_5_52 : Cond.code yX10_crews cX10_crews 7 (some .int) ∈ GOODS := mg5 52 rfl rfl
theorem wd_5_60 : Cond.methodLink RL 90 yX10_drift ∈ GOODS := mg5 60 rfl rfl
theorem wd_5_61 : Cond.instanceMethod yX10_drift ∈ GOODS := mg5 61 rfl rfl
theorem wd_5_62 : Cond.selects RX10 yX10_drift yX10_drift ∈ GOODS := mg5 62 rfl rfl
theorem wd_5_63 : Cond.code yX10_drift cX10_drift 9 (some .int) ∈ GOODS := mg5 63 rfl rfl
theorem wd_5_64 : Cond.methodLink RL 94 yX10_ahead ∈ GOODS := mg5 64 rfl rfl
theorem wd_5_65 : Cond.instanceMethod yX10_ahead ∈ GOODS := mg5 65 rfl rfl
theorem wd_5_66 : Cond.selects RX10 yX10_ahead yX10_ahead ∈ GOODS := mg5 66 rfl rfl
theorem wd_5_67 : Cond.code yX10_ahead cX10_ahead 3 (some .int) ∈ GOODS := mg5 67 rfl rfl
theorem wd_5_68 : Cond.methodLink RL 98 yX10_forget ∈ GOODS := mg5 68 rfl rfl
theorem wd_5_69 : Cond.instanceMethod yX10_forget ∈ GOODS := mg5 69 rfl rfl
theorem wd_5_70 : Cond.selects RX10 yX10_forget yX10_forget ∈ GOODS := mg5 70 rfl rfl
theorem wd_5_71 : Cond.code yX10_forget cX10_forget 2 (some .int) ∈ GOODS := mg5 71 rfl rfl
theorem wd_5_72 : Cond.methodLink RL 106 yX10_orders ∈ GOODS := mg5 72 rfl rfl
theorem wd_5_76 : Cond.methodLink RL 102 yX10_first ∈ GOODS := mg5 76 rfl rfl
theorem wd_5_77 : Cond.instanceMethod yX10_first ∈ GOODS := mg5 77 rfl rfl
theorem wd_5_78 : Cond.selects RX10 yX10_first yX10_first ∈ GOODS := mg5 78 rfl rfl
theorem wd_5_79 : Cond.code yX10_first cX10_first 3 (some .int) ∈ GOODS := mg5 79 rfl rfl
theorem wd_5_81 : Cond.methodLink RL 110 yX10_feigned ∈ GOODS := mg5 81 rfl rfl
theorem wd_5_82 : Cond.instanceMethod yX10_feigned ∈ GOODS := mg5 82 rfl rfl
theorem wd_5_83 : Cond.selects RX10 yX10_feigned yX10_feigned ∈ GOODS := mg5 83 rfl rfl
theorem wd_5_84 : Cond.code yX10_feigned cX10_feigned 7 (some .int) ∈ GOODS := mg5 84 rfl rfl
theorem wd_5_85 : Cond.methodLink RL 115 yX10_spring ∈ GOODS := mg5 85 rfl rfl
theorem wd_5_86 : Cond.instanceMethod yX10_spring ∈ GOODS := mg5 86 rfl rfl
theorem wd_5_87 : Cond.selects RX10 yX10_spring yX10_spring ∈ GOODS := mg5 87 rfl rfl
theorem wd_5_88 : Cond.code yX10_spring cX10_spring 11 (some .int) ∈ GOODS := mg5 88 rfl rfl
theorem wd_5_92 : Cond.methodLink RL 119 yX10_keep ∈ GOODS := mg5 92 rfl rfl
theorem wd_5_93 : Cond.instanceMethod yX10_keep ∈ GOODS := mg5 93 rfl rfl
theorem wd_5_94 : Cond.selects RX10 yX10_keep yX10_keep ∈ GOODS := mg5 94 rfl rfl
theorem wd_5_95 : Cond.code yX10_keep cX10_keep 1 (some .int) ∈ GOODS := mg5 95 rfl rfl
theorem wd_5_100 : Cond.methodLink RL 123 yX10_back ∈ GOODS := mg5 100 rfl rfl
theorem wd_5_101 : Cond.instanceMethod yX10_back ∈ GOODS := mg5 101 rfl rfl
theorem wd_5_102 : Cond.selects RX10 yX10_back yX10_back ∈ GOODS := mg5 102 rfl rfl
theorem wd_5_103 : Cond.code yX10_back cX10_back 1 (some .int) ∈ GOODS := mg5 103 rfl rfl
theorem wd_5_104 : Cond.methodLink RL 127 yX10_count ∈ GOODS := mg5 104 rfl rfl
theorem wd_5_105 : Cond.instanceMethod yX10_count ∈ GOODS := mg5 105 rfl rfl
theorem wd_5_106 : Cond.selects RX10 yX10_count yX10_count ∈ GOODS := mg5 106 rfl rfl
theorem wd_5_107 : Cond.code yX10_count cX10_count 4 (some .int) ∈ GOODS := mg5 107 rfl rfl
