theorem wd_1_10 : Cond.initialized RJ0 ∈ GOODS := mg1 10 rfl rfl
theorem wd_1_11 : Cond.initialized RJ1 ∈ GOODS := mg1 11 rfl rfl
theorem wd_1_12 : Cond.initialized RJ3 ∈ GOODS := mg1 12 rfl rfl
theorem wd_1_208 : Cond.methodLink RJ0 335 yJ0_coder_7d493 ∈ GOODS := mg1 208 rfl rfl
theorem wd_1_209 : Cond.instanceMethod yJ0_coder_7d493 ∈ GOODS := mg1 209 rfl rfl
theorem wd_1_210 : Cond.selects RJ0 yJ0_coder_7d493 yJ0_coder_7d493 ∈ GOODS := mg1 210 rfl rfl
theorem wd_1_211 : Cond.code yJ0_coder_7d493 cJ0_coder_7d493 1 (some .byte) ∈ GOODS := mg1 211 rfl rfl
theorem wd_1_212 : Cond.fieldLink RJ0 38 "java/lang/String" "COMPACT_STRINGS" "Z" ∈ GOODS := mg1 212 rfl rfl
theorem wd_1_218 : Cond.methodLink RJ0 492 yJ0_isLatin1_aae02 ∈ GOODS := mg1 218 rfl rfl
theorem wd_1_219 : Cond.instanceMethod yJ0_isLatin1_aae02 ∈ GOODS := mg1 219 rfl rfl
theorem wd_1_220 : Cond.selects RJ0 yJ0_isLatin1_aae02 yJ0_isLatin1_aae02 ∈ GOODS := mg1 220 rfl rfl
theorem wd_1_221 : Cond.code yJ0_isLatin1_aae02 cJ0_isLatin1_aae02 1 (some .boolean) ∈ GOODS := mg1 221 rfl rfl
theorem wd_1_222 : Cond.methodLink RJ0 495 yJ1_charAt_3b067 ∈ GOODS := mg1 222 rfl rfl
theorem wd_1_223 : Cond.static yJ1_charAt_3b067 ∈ GOODS := mg1 223 rfl rfl
theorem wd_1_224 : Cond.code yJ1_charAt_3b067 cJ1_charAt_3b067 2 (some .char) ∈ GOODS := mg1 224 rfl rfl
theorem wd_1_225 : Cond.methodLink RJ1 9 yJ0_checkIndex_df160 ∈ GOODS := mg1 225 rfl rfl
theorem wd_1_226 : Cond.static yJ0_checkIndex_df160 ∈ GOODS := mg1 226 rfl rfl
theorem wd_1_227 : Cond.code yJ0_checkIndex_df160 cJ0_checkIndex_df160 2 none ∈ GOODS := mg1 227 rfl rfl
theorem wd_1_228 : Cond.fieldLink RJ0 1053 "jdk/internal/util/Preconditions" "SIOOBE_FORMATTER" "Ljava/util/function/BiFunction;" ∈ GOODS := mg1 228 rfl rfl
theorem wd_1_230 : Cond.methodLink RJ0 1059 yJ3_checkIndex_8e157 ∈ GOODS := mg1 230 rfl rfl
theorem wd_1_231 : Cond.static yJ3_checkIndex_8e157 ∈ GOODS := mg1 231 rfl rfl
theorem wd_1_232 : Cond.code yJ3_checkIndex_8e157 cJ3_checkIndex_8e157 3 (some .int) ∈ GOODS := mg1 232 rfl rfl
theorem wd_5_108 : Cond.fieldLink RJ0 9 "java/lang/String" "value" "[B" ∈ GOODS := mg5 108 rfl rfl
theorem wd_5_109 : Cond.fieldLink RJ0 15 "java/lang/String" "coder" "B" ∈ GOODS := mg5 109 rfl rfl
/-! the one String constant and the JDK's members that read it -/
def FTB : List Int32 := [97, 49, 44, 50, 44, 49, 59, 115, 48, 44, 49, 44, 50, 44, 51, 59, 115, 49, 44, 48, 44, 50, 44, 52, 59, 115, 50, 44, 52, 44, 51, 44, 49, 59, 115, 51, 44, 50, 44, 50, 44, 50, 59, 104, 52, 44, 49, 48, 59, 104, 51, 44, 50, 53, 59, 104, 54, 44, 53, 59, 104, 50, 44, 52, 48, 59, 98, 56, 59, 98, 53, 59, 98, 57, 59, 119, 49, 44, 54, 59, 119, 48, 44, 50, 59, 119, 50, 44, 57, 59, 108, 54, 48, 44, 53, 59]
abbrev SFa (aK aV : Nat) (A : Nat → Prop) (U : State) (H : Heap) : Prop := vk_S 1 [96] [FTB] (fun _ => aK) (fun _ => aV) A U H ∧ va_Z "java/lang/String" "COMPACT_STRINGS" "Z" (.int 1) A U H ∧ va_Zq "jdk/internal/util/Preconditions" "SIOOBE_FORMATTER" "Ljava/util/function/BiFunction;" A U H
def SF (aK aV : Nat) (U : State) : Prop := SFa aK aV (fun q => U.heap.size ≤ q) U U.heap
theorem SF.calling {aK aV : Nat} {U : State} {g : JFrame} {mk : MethodId} {a : Array Value} (h : SF aK aV U) : SF aK aV (U.calling g mk a) := ⟨vk_S.moved (u := U) (U := U.calling g mk a) (Vm.Alike.refl U.vm) h.1, va_Z.moved (u := U) (U := U.calling g mk a) (Vm.Alike.refl U.vm) h.2.1, va_Zq.moved (u := U) (U := U.calling g mk a) (Vm.Alike.refl U.vm) h.2.2⟩
theorem SFa.to {aK aV : Nat} {A : Nat → Prop} {s U : State} {H : Heap} {locs : List Loc} (h : SFa aK aV A s s.heap) (hS : va_S A s.heap H locs) (hA : ∀ q, s.heap.size ≤ q → A q) (hU : U.heap = H) (hW : s.WarmedH U.vm) : SF aK aV U := by
  have hn : ∀ q : Nat, U.heap.size ≤ q → A q := fun q hq => hA q (Nat.le_trans hS.1 (by rw [← hU]; exact hq))
  subst hU
  exact ⟨vk_S.narrow (vk_S.moved hW.alike (vk_S.kept h.1 hS.2.1)) hn, va_Z.narrow (va_Z.moved hW.alike (va_Z.kept h.2.1 hS.2.1)) hn, va_Zq.narrow (va_Zq.moved hW.alike (va_Zq.kept h.2.2 hS.2.1)) hn⟩
theorem SF.at {aK aV : Nat} {s : State} (h : SF aK aV s) : SFa aK aV (va_A [] s.heap.size) s s.heap := by
  have hn : ∀ q : Nat, va_A [] s.heap.size q → s.heap.size ≤ q := fun q hq => hq.elim (fun ⟨k, e, h9⟩ => by simp at h9) id
  exact ⟨vk_S.narrow h.1 hn, va_Z.narrow h.2.1 hn, va_Zq.narrow h.2.2 hn⟩
abbrev PcS (av : List Value) (aK aV sz : Nat) : Array Value → State → Prop := va_Pc av (fun U => U.heap.size = sz ∧ SF aK aV U)
abbrev QS (v : Int32) (sz : Nat) : Array Value → State → Outcome → State → Prop := va_Qi (fun (r : Int32) (_ : Unit) => r = v) (fun _ _ => True) (va_A [] sz)
abbrev QSv (sz : Nat) : Array Value → State → Outcome → State → Prop := va_Qv (fun (_ : Unit) => True) (fun _ _ => True) (va_A [] sz)
def CtrS (l : Launch) (y : MethodName) (ws : List Cond) (rm : Room) (aK aV : Nat) (av : List Value) (v : Int32) : Prop := ∀ sz : Nat, Met l y ws rm (PcS av aK aV sz) (QS v sz) 0 0 (va_A [] sz)
def CtrSv (l : Launch) (y : MethodName) (ws : List Cond) (rm : Room) (aK aV : Nat) (av : List Value) : Prop := ∀ sz : Nat, Met l y ws rm (PcS av aK aV sz) (QSv sz) 0 0 (va_A [] sz)
section KS
variable {p : Program} {l : Launch} {e : Env} {R : Room} {s : State} {m : MethodId} {args : Array Value} {below : List Frame} {meth : Method} {c : Code} {H : Heap} {locs : List Loc} {cells slots : Nat} {Q : State → Prop}
variable {pc : Nat} {ls : Array Slot} {rest : List Value} {A : Nat → Prop} {H0 : Heap} {st0 : List Value} {a : Array Value} {aK aV : Nat}
theorem wcS {v : Int32} (hr : va_Run p l e R s m args below meth c H locs cells slots 0 0 (F0 m pc ls st0) rest (QS v H.size a) (va_A [] H.size)) (hA : ∀ q, H0.size ≤ q → A q) (hS : va_S A H0 H locs)
    (kk : ∀ (H1 : Heap) (locs1 : List Loc), (∀ q : Nat, q < H.size → H1[q]? = H[q]?) → va_S A H0 H1 locs1 → W p l e R s m args below meth c H1 locs1 cells slots Q (F0 m (pc + 3) ls (.int v :: rest))) : W p l e R s m args below meth c H locs cells slots Q (F0 m pc ls st0) := by
  have hE : ∀ q : Nat, va_A [] H.size q → H.size ≤ q := fun q hq => hq.elim (fun ⟨k, e, h9⟩ => by simp at h9) id
  refine va_calli hr hS (fun q h1 h2 => absurd (hE q h2) (by omega)) (fun q h => hA q (Nat.le_trans hS.1 (hE q h))) (fun r u t H1 locs1 ht hvm hw hB hz hk hS => ?_)
  subst hw
  exact kk H1 locs1 (fun q h1 => hk q h1 (fun h2 => absurd (hE q h2) (by omega))) hS
theorem wcSv (hr : va_Run p l e R s m args below meth c H locs cells slots 0 0 (F0 m pc ls st0) rest (QSv H.size a) (va_A [] H.size)) (hA : ∀ q, H0.size ≤ q → A q) (hS : va_S A H0 H locs)
    (kk : ∀ (H1 : Heap) (locs1 : List Loc), (∀ q : Nat, q < H.size → H1[q]? = H[q]?) → va_S A H0 H1 locs1 → W p l e R s m args below meth c H1 locs1 cells slots Q (F0 m (pc + 3) ls rest)) : W p l e R s m args below meth c H locs cells slots Q (F0 m pc ls st0) := by
  have hE : ∀ q : Nat, va_A [] H.size q → H.size ≤ q := fun q hq => hq.elim (fun ⟨k, e, h9⟩ => by simp at h9) id
  refine va_callv hr hS (fun q h1 h2 => absurd (hE q h2) (by omega)) (fun q h => hA q (Nat.le_trans hS.1 (hE q h))) (fun u t H1 locs1 ht hvm hw hB hz hk hS => ?_)
  exact kk H1 locs1 (fun q h1 => hk q h1 (fun h2 => absurd (hE q h2) (by omega))) hS
theorem sblind (av : List Value) (sz : Nat) : FrameBlind (PcS av aK aV sz) := fun a U g mk q => by
  obtain ⟨q0, q1, q2⟩ := q
  exact ⟨q0, q1, q2.calling⟩
theorem preSS {As : List Value} (hF : SFa aK aV A s s.heap) (hS : va_S A s.heap H locs) (hA : ∀ q, s.heap.size ≤ q → A q) : PreS s H (PcS As aK aV H.size) As :=
  ⟨sblind As H.size, fun U hU hW => ⟨rfl, by rw [hU], hF.to hS hA hU hW⟩⟩
theorem preVS {As : List Value} (hF : SFa aK aV A s s.heap) (hS : va_S A s.heap H locs) (hA : ∀ q, s.heap.size ≤ q → A q) : PreV s H RJ0 aK (PcS (.ref aK :: As) aK aV H.size) As :=
  ⟨sblind (.ref aK :: As) H.size, vk_recv hF.1 (i := 0) (by decide) hS, fun U hU hW => ⟨rfl, by rw [hU], hF.to hS hA hU hW⟩⟩
end KS
section KT
variable {l : Launch} {y : MethodName} {ws ws' : List Cond} {cc : ByteArray} {maxL : Nat} {av : List Value} {rm : Room} {aK aV : Nat}
theorem startS {v : Int32} {rt : FieldType} (hy : plainName y.cls = true) (hw : ws = Cond.code y cc maxL (some rt) :: ws') (hlen : (lg_sl av).length ≤ maxL) (hn : narrow rt (.int v) = .int v)
    (body : ∀ (p : Program) (e : Env) (s : State) (m : MethodId) (args : Array Value) (below : List Frame) (meth : Method) (c : Code) (A : Nat → Prop) (Q : State → Prop), p.tables.exec = Jvm.exec → c.code = cc → c.maxLocals = maxL → (∀ w ∈ ws, w.before args s = true) → s.vm.findClass y.cls = some m.cls → SFa aK aV A s s.heap → (∀ q, s.heap.size ≤ q → A q) →
      (∀ (pc : Nat) (ls : Array Slot) (H : Heap) (locs : List Loc), va_S A s.heap H locs → decode cc pc = .ok (.ireturn, 1) → W p l e rm s m args below meth c H locs 0 0 Q (F0 m pc ls [.int v])) →
      ∀ (ls : Array Slot) (H : Heap) (locs : List Loc), lv_has ls maxL (lv_args 0 av) → va_S A s.heap H locs → W p l e rm s m args below meth c H locs 0 0 Q (F0 m 0 ls [])) : CtrS l y ws rm aK aV av v := by
  intro sz
  refine Met.ofW (cc := cc) (maxL := maxL) (ret := some rt) hy hw ?_
  intro p e s m args below meth c s₁ B hml hv
  obtain ⟨rfl, hsz, hF⟩ := hv
  subst hsz
  have hlocks := B.notSynchronized
  have hr := B.returns
  rw [lg_entry_eq]
  refine body p e s m av.toArray below meth c (va_A [] s.heap.size) _ B.exec B.bytes hml (atoms_spec (ws := ws) B.pre) (findClass_of_methodNamed B.named) hF.at (fun q h => Or.inr h) ?_ _ _ _ (lv_entry av hlen) va_S.rf
  intro pc ls H locs hS hdg
  exact W.zret (ty := rt) B.exec B.bytes hr hn (fun t ht hWm => ⟨⟨v, (), rfl, rfl, trivial⟩, hS.F ht⟩) hS.2.2 hdg
theorem startSv (hy : plainName y.cls = true) (hw : ws = Cond.code y cc maxL none :: ws') (hlen : (lg_sl av).length ≤ maxL)
    (body : ∀ (p : Program) (e : Env) (s : State) (m : MethodId) (args : Array Value) (below : List Frame) (meth : Method) (c : Code) (A : Nat → Prop) (Q : State → Prop), p.tables.exec = Jvm.exec → c.code = cc → c.maxLocals = maxL → (∀ w ∈ ws, w.before args s = true) → s.vm.findClass y.cls = some m.cls → SFa aK aV A s s.heap → (∀ q, s.heap.size ≤ q → A q) →
      (∀ (pc : Nat) (ls : Array Slot) (H : Heap) (locs : List Loc), va_S A s.heap H locs → decode cc pc = .ok (.return_, 1) → W p l e rm s m args below meth c H locs 0 0 Q (F0 m pc ls [])) →
      ∀ (ls : Array Slot) (H : Heap) (locs : List Loc), lv_has ls maxL (lv_args 0 av) → va_S A s.heap H locs → W p l e rm s m args below meth c H locs 0 0 Q (F0 m 0 ls [])) : CtrSv l y ws rm aK aV av := by
  intro sz
  refine Met.ofW (cc := cc) (maxL := maxL) (ret := none) hy hw ?_
  intro p e s m args below meth c s₁ B hml hv
  obtain ⟨rfl, hsz, hF⟩ := hv
  subst hsz
  have hlocks := B.notSynchronized
  have hr := B.returns
  rw [lg_entry_eq]
  refine body p e s m av.toArray below meth c (va_A [] s.heap.size) _ B.exec B.bytes hml (atoms_spec (ws := ws) B.pre) (findClass_of_methodNamed B.named) hF.at (fun q h => Or.inr h) ?_ _ _ _ (lv_entry av hlen) va_S.rf
  intro pc ls H locs hS hdg
  exact W.vret B.exec B.bytes hr (fun t ht hWm => ⟨⟨(), rfl, trivial, trivial⟩, hS.F ht⟩) hS.2.2 hdg
end KT
def chv (k : Nat) : Int32 := FTB.getD k 0
theorem chv_ok : ∀ k, k < 96 → ((chv k &&& 255).toUInt32 % 65536).toInt32 = chv k ∧ chv k &&& 255 = chv k := by decide +kernel
theorem chv_nar {k : Nat} (hk : k < 96) : narrow .char (.int (chv k)) = .int (chv k) := by rw [← (chv_ok k hk).2]; exact sc_nar _
theorem dJ0_coder_7d493_0 : decode cJ0_coder_7d493 0 = .ok (.getstatic 38, 3) := by decide +kernel
theorem dJ0_coder_7d493_3 : decode cJ0_coder_7d493 3 = .ok (.ifCond .eq 10, 3) := by decide +kernel
theorem dJ0_coder_7d493_6 : decode cJ0_coder_7d493 6 = .ok (.aload_n 0, 1) := by decide +kernel
theorem dJ0_coder_7d493_7 : decode cJ0_coder_7d493 7 = .ok (.getfield 15, 3) := by decide +kernel
theorem dJ0_coder_7d493_10 : decode cJ0_coder_7d493 10 = .ok (.goto 4, 3) := by decide +kernel
theorem dJ0_coder_7d493_14 : decode cJ0_coder_7d493 14 = .ok (.ireturn, 1) := by decide +kernel
theorem hdV_J0_coder_7d493 : yJ0_coder_7d493.cls = RJ0 ∧ yJ0_coder_7d493.cls ≠ "java/lang/invoke/MethodHandle" ∧ yJ0_coder_7d493.cls ≠ "java/lang/invoke/VarHandle" ∧ (parseMethodDescriptor yJ0_coder_7d493.desc).map (fun d => d.parameters.length) = some 0 := by decide +kernel
set_option maxHeartbeats 4000000 in
set_option maxRecDepth 100000 in
theorem c_J0_coder_7d493 (l : Launch) (aK aV : Nat) : CtrS l yJ0_coder_7d493 (WS yJ0_coder_7d493 cJ0_coder_7d493 1 (some .byte)) { frames := 0, cells := 0, slots := 0, locals := 0 } aK aV [.ref aK] 0 := by
  refine startS (cc := cJ0_coder_7d493) (maxL := 1) (rt := .byte) (by decide) rfl (Nat.le_of_ble_eq_true rfl) rfl ?_
  intro p e s m args below meth c A Q hx hb hml hts hown hF hA hret ls H locs hl hS
  have hown : s.vm.findClass RJ0 = some m.cls := hown
  have hg : ∀ w ∈ GOODS, w.before _ s = true := fun w h => hts w (List.mem_cons_of_mem _ h)
  have hl : lv_has ls 1 [(0, .ref aK)] := hl
  refine va_gets hx hb hF.2.1 hS hown (hg _ wd_1_212) (fun _ h9 => h9) dJ0_coder_7d493_0 ?_
  refine lv_if_eq (tgt := 13) hx hb dJ0_coder_7d493_3 (by decide) (fun c_3 => absurd c_3 (by decide)) (fun c_3 => ?_)
  refine lv_aload_n hx hb dJ0_coder_7d493_6 rfl (lv_at hl 0 rfl) ?_
  refine vk_getf hx hb (hF.1.1 0 (by decide)).2.1 hS hown (hg _ wd_5_109) (fun _ h9 => h9) dJ0_coder_7d493_7 ?_
  refine lv_goto (tgt := 14) hx hb dJ0_coder_7d493_10 (by decide) ?_
  exact hret _ _ _ _ hS dJ0_coder_7d493_14
theorem dJ0_isLatin1_aae02_0 : decode cJ0_isLatin1_aae02 0 = .ok (.getstatic 38, 3) := by decide +kernel
theorem dJ0_isLatin1_aae02_3 : decode cJ0_isLatin1_aae02 3 = .ok (.ifCond .eq 14, 3) := by decide +kernel
theorem dJ0_isLatin1_aae02_6 : decode cJ0_isLatin1_aae02 6 = .ok (.aload_n 0, 1) := by decide +kernel
theorem dJ0_isLatin1_aae02_7 : decode cJ0_isLatin1_aae02 7 = .ok (.getfield 15, 3) := by decide +kernel
theorem dJ0_isLatin1_aae02_10 : decode cJ0_isLatin1_aae02 10 = .ok (.ifCond .ne 7, 3) := by decide +kernel
theorem dJ0_isLatin1_aae02_13 : decode cJ0_isLatin1_aae02 13 = .ok (.iconst 1, 1) := by decide +kernel
theorem dJ0_isLatin1_aae02_14 : decode cJ0_isLatin1_aae02 14 = .ok (.goto 4, 3) := by decide +kernel
theorem dJ0_isLatin1_aae02_18 : decode cJ0_isLatin1_aae02 18 = .ok (.ireturn, 1) := by decide +kernel
theorem hdV_J0_isLatin1_aae02 : yJ0_isLatin1_aae02.cls = RJ0 ∧ yJ0_isLatin1_aae02.cls ≠ "java/lang/invoke/MethodHandle" ∧ yJ0_isLatin1_aae02.cls ≠ "java/lang/invoke/VarHandle" ∧ (parseMethodDescriptor yJ0_isLatin1_aae02.desc).map (fun d => d.parameters.length) = some 0 := by decide +kernel
set_option maxHeartbeats 4000000 in
set_option maxRecDepth 100000 in
theorem c_J0_isLatin1_aae02 (l : Launch) (aK aV : Nat) : CtrS l yJ0_isLatin1_aae02 (WS yJ0_isLatin1_aae02 cJ0_isLatin1_aae02 1 (some .boolean)) { frames := 0, cells := 0, slots := 0, locals := 0 } aK aV [.ref aK] 1 := by
  refine startS (cc := cJ0_isLatin1_aae02) (maxL := 1) (rt := .boolean) (by decide) rfl (Nat.le_of_ble_eq_true rfl) rfl ?_
  intro p e s m args below meth c A Q hx hb hml hts hown hF hA hret ls H locs hl hS
  have hown : s.vm.findClass RJ0 = some m.cls := hown
  have hg : ∀ w ∈ GOODS, w.before _ s = true := fun w h => hts w (List.mem_cons_of_mem _ h)
  have hl : lv_has ls 1 [(0, .ref aK)] := hl
  refine va_gets hx hb hF.2.1 hS hown (hg _ wd_1_212) (fun _ h9 => h9) dJ0_isLatin1_aae02_0 ?_
  refine lv_if_eq (tgt := 17) hx hb dJ0_isLatin1_aae02_3 (by decide) (fun c_3 => absurd c_3 (by decide)) (fun c_3 => ?_)
  refine lv_aload_n hx hb dJ0_isLatin1_aae02_6 rfl (lv_at hl 0 rfl) ?_
  refine vk_getf hx hb (hF.1.1 0 (by decide)).2.1 hS hown (hg _ wd_5_109) (fun _ h9 => h9) dJ0_isLatin1_aae02_7 ?_
  refine lv_if_ne (tgt := 17) hx hb dJ0_isLatin1_aae02_10 (by decide) (fun c_10 => absurd rfl c_10) (fun c_10 => ?_)
  refine lv_iconst (v := 1) hx hb dJ0_isLatin1_aae02_13 (by decide) ?_
  refine lv_goto (tgt := 18) hx hb dJ0_isLatin1_aae02_14 (by decide) ?_
  exact hret _ _ _ _ hS dJ0_isLatin1_aae02_18
theorem dJ0_length_8abf5_0 : decode cJ0_length_8abf5 0 = .ok (.aload_n 0, 1) := by decide +kernel
theorem dJ0_length_8abf5_1 : decode cJ0_length_8abf5 1 = .ok (.getfield 9, 3) := by decide +kernel
theorem dJ0_length_8abf5_4 : decode cJ0_length_8abf5 4 = .ok (.arraylength, 1) := by decide +kernel
theorem dJ0_length_8abf5_5 : decode cJ0_length_8abf5 5 = .ok (.aload_n 0, 1) := by decide +kernel
theorem dJ0_length_8abf5_6 : decode cJ0_length_8abf5 6 = .ok (.invokevirtual 335, 3) := by decide +kernel
theorem dJ0_length_8abf5_9 : decode cJ0_length_8abf5 9 = .ok (.ishr, 1) := by decide +kernel
theorem dJ0_length_8abf5_10 : decode cJ0_length_8abf5 10 = .ok (.ireturn, 1) := by decide +kernel
theorem hdV_J0_length_8abf5 : yJ0_length_8abf5.cls = RJ0 ∧ yJ0_length_8abf5.cls ≠ "java/lang/invoke/MethodHandle" ∧ yJ0_length_8abf5.cls ≠ "java/lang/invoke/VarHandle" ∧ (parseMethodDescriptor yJ0_length_8abf5.desc).map (fun d => d.parameters.length) = some 0 := by decide +kernel
set_option maxHeartbeats 4000000 in
set_option maxRecDepth 100000 in
theorem c_J0_length_8abf5 (l : Launch) (aK aV : Nat) : CtrS l yJ0_length_8abf5 (WS yJ0_length_8abf5 cJ0_length_8abf5 1 (some .int)) { frames := 1, cells := 0, slots := 0, locals := 20 } aK aV [.ref aK] 96 := by
  refine startS (cc := cJ0_length_8abf5) (maxL := 1) (rt := .int) (by decide) rfl (Nat.le_of_ble_eq_true rfl) rfl ?_
  intro p e s m args below meth c A Q hx hb hml hts hown hF hA hret ls H locs hl hS
  have hown : s.vm.findClass RJ0 = some m.cls := hown
  have hg : ∀ w ∈ GOODS, w.before _ s = true := fun w h => hts w (List.mem_cons_of_mem _ h)
  have hl : lv_has ls 1 [(0, .ref aK)] := hl
  refine lv_aload_n hx hb dJ0_length_8abf5_0 rfl (lv_at hl 0 rfl) ?_
  refine vk_getf hx hb (hF.1.1 0 (by decide)).2.2.1 hS hown (hg _ wd_5_108) (fun _ h9 => h9) dJ0_length_8abf5_1 ?_
  refine va_tlen (v := 96) hx hb (hF.1.1 0 (by decide)).2.2.2 hS rfl dJ0_length_8abf5_4 ?_
  refine lv_aload_n hx hb dJ0_length_8abf5_5 rfl (lv_at hl 0 rfl) ?_
  refine wcS (va_runV (As := []) (rest := [.int 96]) ⟨hx, hb, hml, hown, hg⟩ (c_J0_coder_7d493 l aK aV H.size) (cwV 0 hg (gV wd_1_208 wd_1_209 wd_1_210 wd_1_10 wd_1_211) rfl rfl rfl hdV_J0_coder_7d493 ⟨(Nat.le_of_ble_eq_true rfl), (Nat.le_of_ble_eq_true rfl)⟩) (preVS hF hS hA) rfl rfl hl.1 rfl (lv_room (Nat.le_of_ble_eq_true rfl)) dJ0_length_8abf5_6 ⟨Nat.zero_le _, Nat.zero_le _⟩) hA hS (fun H locs hH hS => ?_)
  refine lv_ishr hx hb dJ0_length_8abf5_9 ?_
  exact hret _ _ _ _ hS dJ0_length_8abf5_10
theorem dJ3_checkIndex_8e157_0 : decode cJ3_checkIndex_8e157 0 = .ok (.iload_n 0, 1) := by decide +kernel
theorem dJ3_checkIndex_8e157_1 : decode cJ3_checkIndex_8e157 1 = .ok (.ifCond .lt 8, 3) := by decide +kernel
theorem dJ3_checkIndex_8e157_4 : decode cJ3_checkIndex_8e157 4 = .ok (.iload_n 0, 1) := by decide +kernel
theorem dJ3_checkIndex_8e157_5 : decode cJ3_checkIndex_8e157 5 = .ok (.iload_n 1, 1) := by decide +kernel
theorem dJ3_checkIndex_8e157_6 : decode cJ3_checkIndex_8e157 6 = .ok (.if_icmp .lt 10, 3) := by decide +kernel
theorem dJ3_checkIndex_8e157_16 : decode cJ3_checkIndex_8e157 16 = .ok (.iload_n 0, 1) := by decide +kernel
theorem dJ3_checkIndex_8e157_17 : decode cJ3_checkIndex_8e157 17 = .ok (.ireturn, 1) := by decide +kernel
theorem hdS_J3_checkIndex_8e157 : yJ3_checkIndex_8e157.cls ≠ "java/lang/invoke/MethodHandle" ∧ yJ3_checkIndex_8e157.cls ≠ "java/lang/invoke/VarHandle" ∧ (parseMethodDescriptor yJ3_checkIndex_8e157.desc).map (fun d => d.parameters.length) = some 3 := by decide +kernel
set_option maxHeartbeats 4000000 in
set_option maxRecDepth 100000 in
theorem c_J3_checkIndex_8e157 (l : Launch) (aK aV : Nat) (i n : Int32) (x : Value) (hx0 : x = .null ∨ ∃ a : Nat, x = .ref a) (h1 : ¬ i < 0) (h2 : i < n) : CtrS l yJ3_checkIndex_8e157 (WS yJ3_checkIndex_8e157 cJ3_checkIndex_8e157 3 (some .int)) { frames := 0, cells := 0, slots := 0, locals := 0 } aK aV [.int i, .int n, x] i := by
  rcases hx0 with rfl | ⟨a, rfl⟩
  · refine startS (cc := cJ3_checkIndex_8e157) (maxL := 3) (rt := .int) (by decide) rfl (Nat.le_of_ble_eq_true rfl) rfl ?_
    intro p e s m args below meth c A Q hx hb hml hts hown hF hA hret ls H locs hl hS
    have hl : lv_has ls 3 [(0, .int i), (1, .int n), (2, .null)] := hl
    refine lv_iload_n hx hb dJ3_checkIndex_8e157_0 rfl (lv_at hl 0 rfl) ?_
    refine lv_if_lt (tgt := 9) hx hb dJ3_checkIndex_8e157_1 (by decide) (fun c_1 => absurd c_1 h1) (fun c_1 => ?_)
    refine lv_iload_n hx hb dJ3_checkIndex_8e157_4 rfl (lv_at hl 0 rfl) ?_
    refine lv_iload_n hx hb dJ3_checkIndex_8e157_5 rfl (lv_at hl 1 rfl) ?_
    refine lv_icmp_lt (tgt := 16) hx hb dJ3_checkIndex_8e157_6 (by decide) (fun c_6 => ?_) (fun c_6 => absurd h2 c_6)
    refine lv_iload_n hx hb dJ3_checkIndex_8e157_16 rfl (lv_at hl 0 rfl) ?_
    exact hret _ _ _ _ hS dJ3_checkIndex_8e157_17
  · refine startS (cc := cJ3_checkIndex_8e157) (maxL := 3) (rt := .int) (by decide) rfl (Nat.le_of_ble_eq_true rfl) rfl ?_
    intro p e s m args below meth c A Q hx hb hml hts hown hF hA hret ls H locs hl hS
    have hl : lv_has ls 3 [(0, .int i), (1, .int n), (2, .ref a)] := hl
    refine lv_iload_n hx hb dJ3_checkIndex_8e157_0 rfl (lv_at hl 0 rfl) ?_
    refine lv_if_lt (tgt := 9) hx hb dJ3_checkIndex_8e157_1 (by decide) (fun c_1 => absurd c_1 h1) (fun c_1 => ?_)
    refine lv_iload_n hx hb dJ3_checkIndex_8e157_4 rfl (lv_at hl 0 rfl) ?_
    refine lv_iload_n hx hb dJ3_checkIndex_8e157_5 rfl (lv_at hl 1 rfl) ?_
    refine lv_icmp_lt (tgt := 16) hx hb dJ3_checkIndex_8e157_6 (by decide) (fun c_6 => ?_) (fun c_6 => absurd h2 c_6)
    refine lv_iload_n hx hb dJ3_checkIndex_8e157_16 rfl (lv_at hl 0 rfl) ?_
    exact hret _ _ _ _ hS dJ3_checkIndex_8e157_17
theorem dJ0_checkIndex_df160_0 : decode cJ0_checkIndex_df160 0 = .ok (.iload_n 0, 1) := by decide +kernel
theorem dJ0_checkIndex_df160_1 : decode cJ0_checkIndex_df160 1 = .ok (.iload_n 1, 1) := by decide +kernel
theorem dJ0_checkIndex_df160_2 : decode cJ0_checkIndex_df160 2 = .ok (.getstatic 1053, 3) := by decide +kernel
theorem dJ0_checkIndex_df160_5 : decode cJ0_checkIndex_df160 5 = .ok (.invokestatic 1059, 3) := by decide +kernel
theorem dJ0_checkIndex_df160_8 : decode cJ0_checkIndex_df160 8 = .ok (.pop, 1) := by decide +kernel
theorem dJ0_checkIndex_df160_9 : decode cJ0_checkIndex_df160 9 = .ok (.return_, 1) := by decide +kernel
theorem hdS_J0_checkIndex_df160 : yJ0_checkIndex_df160.cls ≠ "java/lang/invoke/MethodHandle" ∧ yJ0_checkIndex_df160.cls ≠ "java/lang/invoke/VarHandle" ∧ (parseMethodDescriptor yJ0_checkIndex_df160.desc).map (fun d => d.parameters.length) = some 2 := by decide +kernel
set_option maxHeartbeats 4000000 in
set_option maxRecDepth 100000 in
theorem c_J0_checkIndex_df160 (l : Launch) (aK aV : Nat) (i n : Int32) (h1 : ¬ i < 0) (h2 : i < n) : CtrSv l yJ0_checkIndex_df160 (WS yJ0_checkIndex_df160 cJ0_checkIndex_df160 2 none) { frames := 1, cells := 0, slots := 0, locals := 22 } aK aV [.int i, .int n] := by
  refine startSv (cc := cJ0_checkIndex_df160) (maxL := 2) (by decide) rfl (Nat.le_of_ble_eq_true rfl) ?_
  intro p e s m args below meth c A Q hx hb hml hts hown hF hA hret ls H locs hl hS
  have hown : s.vm.findClass RJ0 = some m.cls := hown
  have hg : ∀ w ∈ GOODS, w.before _ s = true := fun w h => hts w (List.mem_cons_of_mem _ h)
  have hl : lv_has ls 2 [(0, .int i), (1, .int n)] := hl
  refine lv_iload_n hx hb dJ0_checkIndex_df160_0 rfl (lv_at hl 0 rfl) ?_
  refine lv_iload_n hx hb dJ0_checkIndex_df160_1 rfl (lv_at hl 1 rfl) ?_
  rcases hF.2.2 with hz | ⟨tz, hz⟩
  · refine va_gets (v := .null) hx hb hz hS hown (hg _ wd_1_228) (fun _ h9 => h9) dJ0_checkIndex_df160_2 ?_
    refine wcS (va_runS (As := [.int i, .int n, .null]) (rest := []) ⟨hx, hb, hml, hown, hg⟩ (c_J3_checkIndex_8e157 l aK aV i n .null (Or.inl rfl) h1 h2 H.size) (va_cwS 3 hg (gS wd_1_230 wd_1_231 wd_1_12 wd_1_232) rfl rfl rfl hdS_J3_checkIndex_8e157 ⟨(Nat.le_of_ble_eq_true rfl), (Nat.le_of_ble_eq_true rfl)⟩) (preSS hF hS hA) rfl rfl hl.1 rfl (lv_room (Nat.le_of_ble_eq_true rfl)) dJ0_checkIndex_df160_5 ⟨Nat.zero_le _, Nat.zero_le _⟩) hA hS (fun H locs hH hS => ?_)
    refine lv_pop hx hb dJ0_checkIndex_df160_8 rfl ?_
    exact hret _ _ _ _ hS dJ0_checkIndex_df160_9
  · refine va_gets (v := .ref tz) hx hb hz hS hown (hg _ wd_1_228) (fun _ h9 => h9) dJ0_checkIndex_df160_2 ?_
    refine wcS (va_runS (As := [.int i, .int n, .ref tz]) (rest := []) ⟨hx, hb, hml, hown, hg⟩ (c_J3_checkIndex_8e157 l aK aV i n (.ref tz) (Or.inr ⟨_, rfl⟩) h1 h2 H.size) (va_cwS 3 hg (gS wd_1_230 wd_1_231 wd_1_12 wd_1_232) rfl rfl rfl hdS_J3_checkIndex_8e157 ⟨(Nat.le_of_ble_eq_true rfl), (Nat.le_of_ble_eq_true rfl)⟩) (preSS hF hS hA) rfl rfl hl.1 rfl (lv_room (Nat.le_of_ble_eq_true rfl)) dJ0_checkIndex_df160_5 ⟨Nat.zero_le _, Nat.zero_le _⟩) hA hS (fun H locs hH hS => ?_)
    refine lv_pop hx hb dJ0_checkIndex_df160_8 rfl ?_
    exact hret _ _ _ _ hS dJ0_checkIndex_df160_9
theorem dJ1_charAt_3b067_0 : decode cJ1_charAt_3b067 0 = .ok (.iload_n 1, 1) := by decide +kernel
theorem dJ1_charAt_3b067_1 : decode cJ1_charAt_3b067 1 = .ok (.aload_n 0, 1) := by decide +kernel
theorem dJ1_charAt_3b067_2 : decode cJ1_charAt_3b067 2 = .ok (.arraylength, 1) := by decide +kernel
theorem dJ1_charAt_3b067_3 : decode cJ1_charAt_3b067 3 = .ok (.invokestatic 9, 3) := by decide +kernel
theorem dJ1_charAt_3b067_6 : decode cJ1_charAt_3b067 6 = .ok (.aload_n 0, 1) := by decide +kernel
theorem dJ1_charAt_3b067_7 : decode cJ1_charAt_3b067 7 = .ok (.iload_n 1, 1) := by decide +kernel
theorem dJ1_charAt_3b067_8 : decode cJ1_charAt_3b067 8 = .ok (.baload, 1) := by decide +kernel
theorem dJ1_charAt_3b067_9 : decode cJ1_charAt_3b067 9 = .ok (.sipush 255, 3) := by decide +kernel
theorem dJ1_charAt_3b067_12 : decode cJ1_charAt_3b067 12 = .ok (.iand, 1) := by decide +kernel
theorem dJ1_charAt_3b067_13 : decode cJ1_charAt_3b067 13 = .ok (.i2c, 1) := by decide +kernel
theorem dJ1_charAt_3b067_14 : decode cJ1_charAt_3b067 14 = .ok (.ireturn, 1) := by decide +kernel
theorem hdS_J1_charAt_3b067 : yJ1_charAt_3b067.cls ≠ "java/lang/invoke/MethodHandle" ∧ yJ1_charAt_3b067.cls ≠ "java/lang/invoke/VarHandle" ∧ (parseMethodDescriptor yJ1_charAt_3b067.desc).map (fun d => d.parameters.length) = some 2 := by decide +kernel
set_option maxHeartbeats 4000000 in
set_option maxRecDepth 100000 in
theorem c_J1_charAt_3b067 (l : Launch) (aK aV : Nat) (k : Nat) (hk : k < 96) : CtrS l yJ1_charAt_3b067 (WS yJ1_charAt_3b067 cJ1_charAt_3b067 2 (some .char)) { frames := 2, cells := 0, slots := 0, locals := 43 } aK aV [.ref aV, .int (nI k)] (chv k) := by
  refine startS (cc := cJ1_charAt_3b067) (maxL := 2) (rt := .char) (by decide) rfl (Nat.le_of_ble_eq_true rfl) (chv_nar hk) ?_
  intro p e s m args below meth c A Q hx hb hml hts hown hF hA hret ls H locs hl hS
  have hown : s.vm.findClass RJ1 = some m.cls := hown
  have hg : ∀ w ∈ GOODS, w.before _ s = true := fun w h => hts w (List.mem_cons_of_mem _ h)
  have hl : lv_has ls 2 [(0, .ref aV), (1, .int (nI k))] := hl
  have hT := (hF.1.1 0 (by decide)).2.2.2
  refine lv_iload_n hx hb dJ1_charAt_3b067_0 rfl (lv_at hl 1 rfl) ?_
  refine lv_aload_n hx hb dJ1_charAt_3b067_1 rfl (lv_at hl 0 rfl) ?_
  refine va_tlen (v := 96) hx hb hT hS rfl dJ1_charAt_3b067_2 ?_
  refine wcSv (va_runS (As := [.int (nI k), .int 96]) (rest := []) ⟨hx, hb, hml, hown, hg⟩ (c_J0_checkIndex_df160 l aK aV (nI k) 96 (nI_pos (by omega)) (nI_lt (b := 96) hk (by decide)) H.size) (va_cwS 2 hg (gS wd_1_225 wd_1_226 wd_1_10 wd_1_227) rfl rfl rfl hdS_J0_checkIndex_df160 ⟨(Nat.le_of_ble_eq_true rfl), (Nat.le_of_ble_eq_true rfl)⟩) (preSS hF hS hA) rfl rfl hl.1 rfl (lv_room (Nat.le_of_ble_eq_true rfl)) dJ1_charAt_3b067_3 ⟨Nat.zero_le _, Nat.zero_le _⟩) hA hS (fun H locs hH hS => ?_)
  refine lv_aload_n hx hb dJ1_charAt_3b067_6 rfl (lv_at hl 0 rfl) ?_
  refine lv_iload_n hx hb dJ1_charAt_3b067_7 rfl (lv_at hl 1 rfl) ?_
  refine va_tb (v := .int (chv k)) hx hb hT hS (vp_in_nI hk (by decide)) (by rw [nI_clamp (by omega)]; rfl) dJ1_charAt_3b067_8 ?_
  refine lv_sipush (v := 255) hx hb dJ1_charAt_3b067_9 (by decide) ?_
  refine lv_iand hx hb dJ1_charAt_3b067_12 ?_
  refine lv_i2c (v := chv k) hx hb dJ1_charAt_3b067_13 (chv_ok k hk).1 ?_
  exact hret _ _ _ _ hS dJ1_charAt_3b067_14
theorem dJ0_charAt_5068e_0 : decode cJ0_charAt_5068e 0 = .ok (.aload_n 0, 1) := by decide +kernel
theorem dJ0_charAt_5068e_1 : decode cJ0_charAt_5068e 1 = .ok (.invokevirtual 492, 3) := by decide +kernel
theorem dJ0_charAt_5068e_4 : decode cJ0_charAt_5068e 4 = .ok (.ifCond .eq 12, 3) := by decide +kernel
theorem dJ0_charAt_5068e_7 : decode cJ0_charAt_5068e 7 = .ok (.aload_n 0, 1) := by decide +kernel
theorem dJ0_charAt_5068e_8 : decode cJ0_charAt_5068e 8 = .ok (.getfield 9, 3) := by decide +kernel
theorem dJ0_charAt_5068e_11 : decode cJ0_charAt_5068e 11 = .ok (.iload_n 1, 1) := by decide +kernel
theorem dJ0_charAt_5068e_12 : decode cJ0_charAt_5068e 12 = .ok (.invokestatic 495, 3) := by decide +kernel
theorem dJ0_charAt_5068e_15 : decode cJ0_charAt_5068e 15 = .ok (.ireturn, 1) := by decide +kernel
theorem hdV_J0_charAt_5068e : yJ0_charAt_5068e.cls = RJ0 ∧ yJ0_charAt_5068e.cls ≠ "java/lang/invoke/MethodHandle" ∧ yJ0_charAt_5068e.cls ≠ "java/lang/invoke/VarHandle" ∧ (parseMethodDescriptor yJ0_charAt_5068e.desc).map (fun d => d.parameters.length) = some 1 := by decide +kernel
set_option maxHeartbeats 4000000 in
set_option maxRecDepth 100000 in
theorem c_J0_charAt_5068e (l : Launch) (aK aV : Nat) (k : Nat) (hk : k < 96) : CtrS l yJ0_charAt_5068e (WS yJ0_charAt_5068e cJ0_charAt_5068e 2 (some .char)) { frames := 3, cells := 0, slots := 0, locals := 64 } aK aV [.ref aK, .int (nI k)] (chv k) := by
  refine startS (cc := cJ0_charAt_5068e) (maxL := 2) (rt := .char) (by decide) rfl (Nat.le_of_ble_eq_true rfl) (chv_nar hk) ?_
  intro p e s m args below meth c A Q hx hb hml hts hown hF hA hret ls H locs hl hS
  have hown : s.vm.findClass RJ0 = some m.cls := hown
  have hg : ∀ w ∈ GOODS, w.before _ s = true := fun w h => hts w (List.mem_cons_of_mem _ h)
  have hl : lv_has ls 2 [(0, .ref aK), (1, .int (nI k))] := hl
  refine lv_aload_n hx hb dJ0_charAt_5068e_0 rfl (lv_at hl 0 rfl) ?_
  refine wcS (va_runV (As := []) (rest := []) ⟨hx, hb, hml, hown, hg⟩ (c_J0_isLatin1_aae02 l aK aV H.size) (cwV 0 hg (gV wd_1_218 wd_1_219 wd_1_220 wd_1_10 wd_1_221) rfl rfl rfl hdV_J0_isLatin1_aae02 ⟨(Nat.le_of_ble_eq_true rfl), (Nat.le_of_ble_eq_true rfl)⟩) (preVS hF hS hA) rfl rfl hl.1 rfl (lv_room (Nat.le_of_ble_eq_true rfl)) dJ0_charAt_5068e_1 ⟨Nat.zero_le _, Nat.zero_le _⟩) hA hS (fun H locs hH hS => ?_)
  refine lv_if_eq (tgt := 16) hx hb dJ0_charAt_5068e_4 (by decide) (fun c_4 => absurd c_4 (by decide)) (fun c_4 => ?_)
  refine lv_aload_n hx hb dJ0_charAt_5068e_7 rfl (lv_at hl 0 rfl) ?_
  refine vk_getf hx hb (hF.1.1 0 (by decide)).2.2.1 hS hown (hg _ wd_5_108) (fun _ h9 => h9) dJ0_charAt_5068e_8 ?_
  refine lv_iload_n hx hb dJ0_charAt_5068e_11 rfl (lv_at hl 1 rfl) ?_
  refine wcS (va_runS (As := [.ref aV, .int (nI k)]) (rest := []) ⟨hx, hb, hml, hown, hg⟩ (c_J1_charAt_3b067 l aK aV k hk H.size) (va_cwS 2 hg (gS wd_1_222 wd_1_223 wd_1_11 wd_1_224) rfl rfl rfl hdS_J1_charAt_3b067 ⟨(Nat.le_of_ble_eq_true rfl), (Nat.le_of_ble_eq_true rfl)⟩) (preSS hF hS hA) rfl rfl hl.1 rfl (lv_room (Nat.le_of_ble_eq_true rfl)) dJ0_charAt_5068e_12 ⟨Nat.zero_le _, Nat.zero_le _⟩) hA hS (fun H locs hH hS => ?_)
  exact hret _ _ _ _ hS dJ0_charAt_5068e_15
