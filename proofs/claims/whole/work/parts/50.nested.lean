theorem wd_1_24 : Cond.instanceMethod objectInit ∈ GOODS := mg1 24 rfl rfl
theorem wd_1_25 : Cond.code objectInit ⟨#[0xb1]⟩ 1 none ∈ GOODS := mg1 25 rfl rfl
theorem wd_1_31 : Cond.methodLink RX6 1 objectInit ∈ GOODS := mg1 31 rfl rfl
theorem wd_1_41 : Cond.arrayClass .int ∈ GOODS := mg1 41 rfl rfl
theorem wd_1_47 : Cond.methodLink RX3 3 objectInit ∈ GOODS := mg1 47 rfl rfl
theorem wd_1_68 : Cond.methodLink RX8 3 objectInit ∈ GOODS := mg1 68 rfl rfl
theorem wd_1_122 : Cond.methodLink RX1 1 objectInit ∈ GOODS := mg1 122 rfl rfl
theorem wd_1_140 : Cond.methodLink RX5 3 objectInit ∈ GOODS := mg1 140 rfl rfl
theorem wd_1_152 : Cond.arrayClass .long ∈ GOODS := mg1 152 rfl rfl
theorem wd_1_158 : Cond.methodLink RX7 1 objectInit ∈ GOODS := mg1 158 rfl rfl
theorem wd_1_178 : Cond.methodLink RX0 1 objectInit ∈ GOODS := mg1 178 rfl rfl
theorem wd_1_195 : Cond.methodLink RX2 1 objectInit ∈ GOODS := mg1 195 rfl rfl
/-! constructors -/
abbrev QcN (G : GG) (wc : va_W) (w1 : (Nat → Nat) → va_W) (sz : Nat) : Array Value → State → Outcome → State → Prop := va_Qv (fun (_ : Unit) => True) (fun _ t => ∃ ad : Nat → Nat, va_P G.1 vwCl (w1 ad) t.heap ∧ va_D (va_A wc sz) (w1 ad)) (va_A wc sz)
def CtrN (l : Launch) (y : MethodName) (ws : List Cond) (rm : Room) (G : GG) (h : Nat) (w0 : va_E) (w1 : (Nat → Nat) → va_W) (mc ms : Nat) : Prop := ∀ sz : Nat, Met l y ws rm (PcW G [.ref h] [(h, w0)] sz) (QcN G [(h, w0)] w1 sz) mc ms (va_A [(h, w0)] sz)
section KN
variable {p : Program} {l : Launch} {e : Env} {R : Room} {s : State} {m : MethodId} {args : Array Value} {below : List Frame} {meth : Method} {c : Code} {H : Heap} {locs : List Loc} {cells slots mc ms : Nat} {Q : State → Prop}
variable {cc : ByteArray} {pc : Nat} {ls : Array Slot} {rest : List Value} {A : Nat → Prop} {G : GG} {ws wc wr : va_W} {w1 : (Nat → Nat) → va_W} {H0 : Heap} {st0 : List Value} {a : Array Value}
theorem wcN (hr : va_Run p l e R s m args below meth c H locs cells slots mc ms (F0 m pc ls st0) rest (QcN G wc w1 H.size a) (va_A wc H.size)) (hA : ∀ q, H0.size ≤ q → A q) (hW : Wd G A H0 ws H locs) (isC isR : List Nat) (hC : isC.map (fun i => ws[i]?) = wc.map some) (hR : isR.map (fun i => ws[i]?) = wr.map some) (hn : va_nd isR = true) (hdis : ∀ i ∈ isR, i ∉ isC)
    (kk : ∀ (ad : Nat → Nat) (H1 : Heap) (locs1 : List Loc), Wd G A H0 (wr ++ w1 ad) H1 locs1 → W p l e R s m args below meth c H1 locs1 (cells + mc) (slots + ms) Q (F0 m (pc + 3) ls rest)) : W p l e R s m args below meth c H locs cells slots Q (F0 m pc ls st0) := by
  have hF := va_free (wc := wc) hW.2.1 hW.2.2 hA isC hC
  refine va_callv hr hW.2.2 (fun q _ h => hF q h) hF (fun u t H1 locs1 ht hvm hw hB hz hk hS => ?_)
  obtain ⟨ad, hP1, hD1⟩ := hB
  rw [ht] at hP1
  obtain ⟨hP, hD⟩ := va_join (wr := wr) (w1 := w1 ad) hW.1 hW.2.1 isC isR hC hR hn hdis hk hF hP1 hD1
  exact kk ad H1 locs1 ⟨hP, hD, hS⟩
theorem wd_newI (hx : p.tables.exec = Jvm.exec) (hb : c.code = cc) (harr : (Cond.arrayClass .int).before args s = true) (hc : ctx G s) (hA : ∀ q, H0.size ≤ q → A q) (hW : Wd G A H0 ws H locs) {n : Int32} (N : Nat) (hn : ¬ n < 0) (hN : n.toNatClampNeg = N) (hby : N * 4 ≤ 536870912) (hcells : cells + 1 ≤ R.cells) (hslots : slots + N ≤ R.slots) (hdg : decode cc pc = .ok (.newarray .int, 2))
    (kk : ∀ (q : Nat) (H1 : Heap), Wd G A H0 (ws ++ [(q, cI G N (fun _ => 0))]) H1 locs → W p l e R s m args below meth c H1 locs (cells + 1) (slots + N) Q (F0 m (pc + 2) ls (.ref q :: rest))) : W p l e R s m args below meth c H locs cells slots Q (F0 m pc ls (.int n :: rest)) := by
  refine va_newa (atype := .int) (ty := .int) (N' := N) (a0 := (N, .inl (fun _ => 0))) hx hb harr rfl hc.1 hW.1 hW.2.1 hW.2.2 hA (fun _ => rfl) hn hN hby hcells hslots hdg (fun q cA H1 hK hP hD hS => ?_)
  have e1 : s.vm.findClass _ = some cA := (hK.2 3 (cA, .int) rfl).2
  have e2 : s.vm.findClass _ = some G.2.1 := (hc.1.2 0 (G.2.1, .int) rfl).2
  obtain rfl : cA = G.2.1 := Option.some.inj (e1.symm.trans e2)
  exact kk q H1 ⟨hP, hD, hS⟩
theorem wd_newJ (hx : p.tables.exec = Jvm.exec) (hb : c.code = cc) (harr : (Cond.arrayClass .long).before args s = true) (hc : ctx G s) (hA : ∀ q, H0.size ≤ q → A q) (hW : Wd G A H0 ws H locs) {n : Int32} (N : Nat) (hn : ¬ n < 0) (hN : n.toNatClampNeg = N) (hby : N * 8 ≤ 536870912) (hcells : cells + 1 ≤ R.cells) (hslots : slots + N ≤ R.slots) (hdg : decode cc pc = .ok (.newarray .long, 2))
    (kk : ∀ (q : Nat) (H1 : Heap), Wd G A H0 (ws ++ [(q, cJ G N (fun _ => 0))]) H1 locs → W p l e R s m args below meth c H1 locs (cells + 1) (slots + N) Q (F0 m (pc + 2) ls (.ref q :: rest))) : W p l e R s m args below meth c H locs cells slots Q (F0 m pc ls (.int n :: rest)) := by
  refine va_newa (atype := .long) (ty := .long) (N' := N) (a0 := (N, .inr (.inl (fun _ => 0)))) hx hb harr rfl hc.1 hW.1 hW.2.1 hW.2.2 hA (fun _ => rfl) hn hN hby hcells hslots hdg (fun q cA H1 hK hP hD hS => ?_)
  have e1 : s.vm.findClass _ = some cA := (hK.2 3 (cA, .long) rfl).2
  have e2 : s.vm.findClass _ = some G.2.2.1 := (hc.1.2 1 (G.2.2.1, .long) rfl).2
  obtain rfl : cA = G.2.2.1 := Option.some.inj (e1.symm.trans e2)
  exact kk q H1 ⟨hP, hD, hS⟩
theorem wd_newB (hx : p.tables.exec = Jvm.exec) (hb : c.code = cc) (harr : (Cond.arrayClass .byte).before args s = true) (hc : ctx G s) (hA : ∀ q, H0.size ≤ q → A q) (hW : Wd G A H0 ws H locs) {n : Int32} (N : Nat) (hn : ¬ n < 0) (hN : n.toNatClampNeg = N) (hby : N * 1 ≤ 536870912) (hcells : cells + 1 ≤ R.cells) (hslots : slots + N ≤ R.slots) (hdg : decode cc pc = .ok (.newarray .byte, 2))
    (kk : ∀ (q : Nat) (H1 : Heap), Wd G A H0 (ws ++ [(q, cB G N (fun _ => 0))]) H1 locs → W p l e R s m args below meth c H1 locs (cells + 1) (slots + N) Q (F0 m (pc + 2) ls (.ref q :: rest))) : W p l e R s m args below meth c H locs cells slots Q (F0 m pc ls (.int n :: rest)) := by
  refine va_newa (atype := .byte) (ty := .byte) (N' := N) (a0 := (N, .inl (fun _ => 0))) hx hb harr rfl hc.1 hW.1 hW.2.1 hW.2.2 hA (fun _ => rfl) hn hN hby hcells hslots hdg (fun q cA H1 hK hP hD hS => ?_)
  have e1 : s.vm.findClass _ = some cA := (hK.2 3 (cA, .byte) rfl).2
  have e2 : s.vm.findClass _ = some G.2.2.2 := (hc.1.2 2 (G.2.2.2, .byte) rfl).2
  obtain rfl : cA = G.2.2.2 := Option.some.inj (e1.symm.trans e2)
  exact kk q H1 ⟨hP, hD, hS⟩
end KN
theorem startN {l : Launch} {y : MethodName} {ws ws' : List Cond} {cc : ByteArray} {maxL : Nat} {G : GG} {h : Nat} {w0 : va_E} {w1 : (Nat → Nat) → va_W} {rm : Room} {mc ms : Nat} (hy : plainName y.cls = true) (hw : ws = Cond.code y cc maxL none :: ws') (hlen : (lg_sl [.ref h]).length ≤ maxL)
    (body : ∀ (p : Program) (e : Env) (s : State) (m : MethodId) (args : Array Value) (below : List Frame) (meth : Method) (c : Code) (A : Nat → Prop) (Q : State → Prop), p.tables.exec = Jvm.exec → c.code = cc → c.maxLocals = maxL → (∀ w ∈ ws, w.before args s = true) → s.vm.findClass y.cls = some m.cls → meth.name = y.name → ctx G s → (∀ q, s.heap.size ≤ q → A q) →
      (∀ (pc : Nat) (ls : Array Slot) (H : Heap) (locs : List Loc) (ad : Nat → Nat), Wd G A s.heap (w1 ad) H locs → decode cc pc = .ok (.return_, 1) → W p l e rm s m args below meth c H locs mc ms Q (F0 m pc ls [])) →
      ∀ (ls : Array Slot) (H : Heap) (locs : List Loc), lv_has ls maxL (lv_args 0 [.ref h]) → Wd G A s.heap [(h, w0)] H locs → W p l e rm s m args below meth c H locs 0 0 Q (F0 m 0 ls [])) : CtrN l y ws rm G h w0 w1 mc ms := by
  intro sz
  refine Met.ofW (cc := cc) (maxL := maxL) (ret := none) hy hw ?_
  intro p e s m args below meth c s₁ B hml hv
  obtain ⟨rfl, hsz, hP, hK, hD0⟩ := hv
  subst hsz
  have hlocks := B.notSynchronized
  have hr := B.returns
  rw [lg_entry_eq]
  refine body p e s m _ below meth c (va_A [(h, w0)] s.heap.size) _ B.exec B.bytes hml (atoms_spec (ws := ws) B.pre) (findClass_of_methodNamed B.named) (name_of_methodNamed B.named B.method).1 hK (fun q h => Or.inr h) ?_ _ _ _ (lv_entry [.ref h] hlen) ⟨hP, hD0.self, va_S.rf⟩
  intro pc ls H locs ad hW hdg
  exact W.vret B.exec B.bytes hr (fun t ht hWm => ⟨⟨(), rfl, trivial, ad, by rw [ht]; exact hW.1, hW.2.1⟩, hW.2.2.F ht⟩) hW.2.2.2.2 hdg
theorem hf_X0 : ∀ j, j < 3 → defaultValue (tyX0 j) = vp_V [.null, .null, .int 0] j := fun j hj => by
  rcases (show j = 0 ∨ j = 1 ∨ j = 2 by omega) with rfl | rfl | rfl <;> rfl
theorem hf_X1 : ∀ j, j < 3 → defaultValue (tyX1 j) = vp_V [.null, .null, .int 0] j := fun j hj => by
  rcases (show j = 0 ∨ j = 1 ∨ j = 2 by omega) with rfl | rfl | rfl <;> rfl
theorem hf_X2 : ∀ j, j < 2 → defaultValue (tyX2 j) = vp_V [.null, .null] j := fun j hj => by
  rcases (show j = 0 ∨ j = 1 by omega) with rfl | rfl <;> rfl
theorem hf_X3 : ∀ j, j < 4 → defaultValue (tyX3 j) = vp_V [.null, .int 0, .int 0, .int 0] j := fun j hj => by
  rcases (show j = 0 ∨ j = 1 ∨ j = 2 ∨ j = 3 by omega) with rfl | rfl | rfl | rfl <;> rfl
theorem hf_X5 : ∀ j, j < 3 → defaultValue (tyX5 j) = vp_V [.null, .null, .long 0] j := fun j hj => by
  rcases (show j = 0 ∨ j = 1 ∨ j = 2 by omega) with rfl | rfl | rfl <;> rfl
theorem hf_X6 : ∀ j, j < 2 → defaultValue (tyX6 j) = vp_V [.null, .int 0] j := fun j hj => by
  rcases (show j = 0 ∨ j = 1 by omega) with rfl | rfl <;> rfl
theorem hf_X7 : ∀ j, j < 4 → defaultValue (tyX7 j) = vp_V [.null, .null, .null, .int 0] j := fun j hj => by
  rcases (show j = 0 ∨ j = 1 ∨ j = 2 ∨ j = 3 by omega) with rfl | rfl | rfl | rfl <;> rfl
theorem hf_X8 : ∀ j, j < 13 → defaultValue (tyX8 j) = vp_V [.null, .null, .null, .null, .null, .null, .null, .int 0, .int 0, .int 0, .int 0, .int 0, .int 0] j := fun j hj => by
  rcases (show j = 0 ∨ j = 1 ∨ j = 2 ∨ j = 3 ∨ j = 4 ∨ j = 5 ∨ j = 6 ∨ j = 7 ∨ j = 8 ∨ j = 9 ∨ j = 10 ∨ j = 11 ∨ j = 12 by omega) with rfl | rfl | rfl | rfl | rfl | rfl | rfl | rfl | rfl | rfl | rfl | rfl | rfl <;> rfl
theorem hf_X9 : ∀ j, j < 13 → defaultValue (tyX9 j) = vp_V [.null, .null, .null, .null, .null, .null, .null, .int 0, .null, .null, .null, .null, .null] j := fun j hj => by
  rcases (show j = 0 ∨ j = 1 ∨ j = 2 ∨ j = 3 ∨ j = 4 ∨ j = 5 ∨ j = 6 ∨ j = 7 ∨ j = 8 ∨ j = 9 ∨ j = 10 ∨ j = 11 ∨ j = 12 by omega) with rfl | rfl | rfl | rfl | rfl | rfl | rfl | rfl | rfl | rfl | rfl | rfl | rfl <;> rfl
theorem hf_X10 : ∀ j, j < 31 → defaultValue (tyX10 j) = vp_V [.null, .int 0, .null, .null, .null, .null, .null, .null, .null, .null, .null, .null, .null, .null, .int 0, .int 0, .null, .null, .null, .int 0, .null, .null, .long 0, .null, .long 0, .null, .null, .null, .null, .int 0, .null] j := fun j hj => by
  rcases (show j = 0 ∨ j = 1 ∨ j = 2 ∨ j = 3 ∨ j = 4 ∨ j = 5 ∨ j = 6 ∨ j = 7 ∨ j = 8 ∨ j = 9 ∨ j = 10 ∨ j = 11 ∨ j = 12 ∨ j = 13 ∨ j = 14 ∨ j = 15 ∨ j = 16 ∨ j = 17 ∨ j = 18 ∨ j = 19 ∨ j = 20 ∨ j = 21 ∨ j = 22 ∨ j = 23 ∨ j = 24 ∨ j = 25 ∨ j = 26 ∨ j = 27 ∨ j = 28 ∨ j = 29 ∨ j = 30 by omega) with rfl | rfl | rfl | rfl | rfl | rfl | rfl | rfl | rfl | rfl | rfl | rfl | rfl | rfl | rfl | rfl | rfl | rfl | rfl | rfl | rfl | rfl | rfl | rfl | rfl | rfl | rfl | rfl | rfl | rfl | rfl <;> rfl
theorem dX6_init_0 : decode cX6_init 0 = .ok (.aload_n 0, 1) := by decide +kernel
theorem dX6_init_1 : decode cX6_init 1 = .ok (.invokespecial 1, 3) := by decide +kernel
theorem dX6_init_4 : decode cX6_init 4 = .ok (.aload_n 0, 1) := by decide +kernel
theorem dX6_init_5 : decode cX6_init 5 = .ok (.sipush 200, 3) := by decide +kernel
theorem dX6_init_8 : decode cX6_init 8 = .ok (.newarray .int, 2) := by decide +kernel
theorem dX6_init_10 : decode cX6_init 10 = .ok (.putfield 9, 3) := by decide +kernel
theorem dX6_init_13 : decode cX6_init 13 = .ok (.return_, 1) := by decide +kernel
theorem hdI_X6_init : yX6_init.cls ≠ "java/lang/invoke/MethodHandle" ∧ yX6_init.cls ≠ "java/lang/invoke/VarHandle" ∧ (parseMethodDescriptor yX6_init.desc).map (fun d => d.parameters.length) = some 0 := by decide +kernel
set_option maxHeartbeats 4000000 in
set_option maxRecDepth 100000 in
theorem c_X6_init (l : Launch) (G : GG) (h_this : Nat) : CtrN l yX6_init (WS yX6_init cX6_init 1 none) { frames := 1, cells := 1, slots := 200, locals := 12 } G h_this (.inr (5, [.null, .int 0])) (fun ad => [(h_this, oX6 ad 0), ((ad 0), cI G 200 (fun _ => 0))]) 1 200 := by
  refine startN (cc := cX6_init) (maxL := 1) (by decide) rfl (Nat.le_of_ble_eq_true rfl) ?_
  intro p e s m args below meth c A Q hx hb hml hts hown hin hc hA hret ls H locs hl hW
  have hown : s.vm.findClass RX6 = some m.cls := hown
  have hg : ∀ w ∈ GOODS, w.before _ s = true := fun w h => hts w (List.mem_cons_of_mem _ h)
  have hl : lv_has ls 1 [(0, .ref h_this)] := hl
  refine lv_aload_n hx hb dX6_init_0 rfl (lv_at hl 0 rfl) ?_
  refine W.objInit hx hb hown (hg _ wd_1_31) (hg _ wd_1_24) (hg _ wd_1_25) rfl (by rw [hml]; exact hl.1) rfl dX6_init_1 (Nat.le_of_ble_eq_true rfl) (Nat.le_of_ble_eq_true rfl) ?_
  refine W.eq (g2 := F0 m 4 ls []) rfl ?_
  refine lv_aload_n hx hb dX6_init_4 rfl (lv_at hl 0 rfl) ?_
  refine lv_sipush (v := 200) hx hb dX6_init_5 (by decide) ?_
  refine wd_newI hx hb (hg _ wd_1_41) hc hA hW 200 (by decide) rfl (Nat.le_of_ble_eq_true rfl) (Nat.le_of_ble_eq_true rfl) (Nat.le_of_ble_eq_true rfl) dX6_init_8 (fun q8 H hW => ?_)
  have hW : Wd G A s.heap [(h_this, .inr (5, [.null, .int 0])), (q8, cI G 200 (fun _ => 0))] H locs := hW
  refine va_putF (D := G.1) (ci := 5) (v := .ref q8) (ty := (.array .int)) (C := RX6) (T := TX6) (N := 2) hx hb hg hu_X6 tyX6 tyX6_ok nmX6 hown hc.1 hW.1 hW.2.1 hW.2.2 0 rfl rfl 0 (by decide) (hg _ wd_1_32) (fun _ h9 => h9) rfl hin rfl (by decide +kernel) rfl rfl (Nat.le_of_ble_eq_true rfl) dX6_init_10 (fun H locs hP hD hS => ?_)
  have hW : Wd G A s.heap [(h_this, .inr (5, [.ref q8, .int 0])), (q8, cI G 200 (fun _ => 0))] H locs := ⟨hP, hD, hS⟩
  exact hret _ _ _ _ (fun k => [q8, 0].getD k 0) hW dX6_init_13
theorem dX3_init_0 : decode cX3_init 0 = .ok (.aload_n 0, 1) := by decide +kernel
theorem dX3_init_1 : decode cX3_init 1 = .ok (.invokespecial 3, 3) := by decide +kernel
theorem dX3_init_4 : decode cX3_init 4 = .ok (.aload_n 0, 1) := by decide +kernel
theorem dX3_init_5 : decode cX3_init 5 = .ok (.iconst 4, 1) := by decide +kernel
theorem dX3_init_6 : decode cX3_init 6 = .ok (.newarray .int, 2) := by decide +kernel
theorem dX3_init_8 : decode cX3_init 8 = .ok (.putfield 11, 3) := by decide +kernel
theorem dX3_init_11 : decode cX3_init 11 = .ok (.return_, 1) := by decide +kernel
theorem hdI_X3_init : yX3_init.cls ≠ "java/lang/invoke/MethodHandle" ∧ yX3_init.cls ≠ "java/lang/invoke/VarHandle" ∧ (parseMethodDescriptor yX3_init.desc).map (fun d => d.parameters.length) = some 0 := by decide +kernel
set_option maxHeartbeats 4000000 in
set_option maxRecDepth 100000 in
theorem c_X3_init (l : Launch) (G : GG) (h_this : Nat) : CtrN l yX3_init (WS yX3_init cX3_init 1 none) { frames := 1, cells := 1, slots := 4, locals := 12 } G h_this (.inr (3, [.null, .int 0, .int 0, .int 0])) (fun ad => [(h_this, oX3 ad 0 0 0), ((ad 0), cI G 4 (fun _ => 0))]) 1 4 := by
  refine startN (cc := cX3_init) (maxL := 1) (by decide) rfl (Nat.le_of_ble_eq_true rfl) ?_
  intro p e s m args below meth c A Q hx hb hml hts hown hin hc hA hret ls H locs hl hW
  have hown : s.vm.findClass RX3 = some m.cls := hown
  have hg : ∀ w ∈ GOODS, w.before _ s = true := fun w h => hts w (List.mem_cons_of_mem _ h)
  have hl : lv_has ls 1 [(0, .ref h_this)] := hl
  refine lv_aload_n hx hb dX3_init_0 rfl (lv_at hl 0 rfl) ?_
  refine W.objInit hx hb hown (hg _ wd_1_47) (hg _ wd_1_24) (hg _ wd_1_25) rfl (by rw [hml]; exact hl.1) rfl dX3_init_1 (Nat.le_of_ble_eq_true rfl) (Nat.le_of_ble_eq_true rfl) ?_
  refine W.eq (g2 := F0 m 4 ls []) rfl ?_
  refine lv_aload_n hx hb dX3_init_4 rfl (lv_at hl 0 rfl) ?_
  refine lv_iconst (v := 4) hx hb dX3_init_5 (by decide) ?_
  refine wd_newI hx hb (hg _ wd_1_41) hc hA hW 4 (by decide) rfl (Nat.le_of_ble_eq_true rfl) (Nat.le_of_ble_eq_true rfl) (Nat.le_of_ble_eq_true rfl) dX3_init_6 (fun q6 H hW => ?_)
  have hW : Wd G A s.heap [(h_this, .inr (3, [.null, .int 0, .int 0, .int 0])), (q6, cI G 4 (fun _ => 0))] H locs := hW
  refine va_putF (D := G.1) (ci := 3) (v := .ref q6) (ty := (.array .int)) (C := RX3) (T := TX3) (N := 4) hx hb hg hu_X3 tyX3 tyX3_ok nmX3 hown hc.1 hW.1 hW.2.1 hW.2.2 0 rfl rfl 0 (by decide) (hg _ wd_1_48) (fun _ h9 => h9) rfl hin rfl (by decide +kernel) rfl rfl (Nat.le_of_ble_eq_true rfl) dX3_init_8 (fun H locs hP hD hS => ?_)
  have hW : Wd G A s.heap [(h_this, .inr (3, [.ref q6, .int 0, .int 0, .int 0])), (q6, cI G 4 (fun _ => 0))] H locs := ⟨hP, hD, hS⟩
  exact hret _ _ _ _ (fun k => [q6, 0, 0, 0].getD k 0) hW dX3_init_11
theorem dX8_init_0 : decode cX8_init 0 = .ok (.aload_n 0, 1) := by decide +kernel
theorem dX8_init_1 : decode cX8_init 1 = .ok (.invokespecial 3, 3) := by decide +kernel
theorem dX8_init_4 : decode cX8_init 4 = .ok (.aload_n 0, 1) := by decide +kernel
theorem dX8_init_5 : decode cX8_init 5 = .ok (.iconst 3, 1) := by decide +kernel
theorem dX8_init_6 : decode cX8_init 6 = .ok (.newarray .int, 2) := by decide +kernel
theorem dX8_init_8 : decode cX8_init 8 = .ok (.putfield 9, 3) := by decide +kernel
theorem dX8_init_11 : decode cX8_init 11 = .ok (.aload_n 0, 1) := by decide +kernel
theorem dX8_init_12 : decode cX8_init 12 = .ok (.bipush 16, 2) := by decide +kernel
theorem dX8_init_14 : decode cX8_init 14 = .ok (.newarray .int, 2) := by decide +kernel
theorem dX8_init_16 : decode cX8_init 16 = .ok (.putfield 15, 3) := by decide +kernel
theorem dX8_init_19 : decode cX8_init 19 = .ok (.aload_n 0, 1) := by decide +kernel
theorem dX8_init_20 : decode cX8_init 20 = .ok (.bipush 6, 2) := by decide +kernel
theorem dX8_init_22 : decode cX8_init 22 = .ok (.newarray .int, 2) := by decide +kernel
theorem dX8_init_24 : decode cX8_init 24 = .ok (.putfield 18, 3) := by decide +kernel
theorem dX8_init_27 : decode cX8_init 27 = .ok (.aload_n 0, 1) := by decide +kernel
theorem dX8_init_28 : decode cX8_init 28 = .ok (.bipush 6, 2) := by decide +kernel
theorem dX8_init_30 : decode cX8_init 30 = .ok (.newarray .int, 2) := by decide +kernel
theorem dX8_init_32 : decode cX8_init 32 = .ok (.putfield 21, 3) := by decide +kernel
theorem dX8_init_35 : decode cX8_init 35 = .ok (.aload_n 0, 1) := by decide +kernel
theorem dX8_init_36 : decode cX8_init 36 = .ok (.iconst 4, 1) := by decide +kernel
theorem dX8_init_37 : decode cX8_init 37 = .ok (.newarray .int, 2) := by decide +kernel
theorem dX8_init_39 : decode cX8_init 39 = .ok (.putfield 24, 3) := by decide +kernel
theorem dX8_init_42 : decode cX8_init 42 = .ok (.aload_n 0, 1) := by decide +kernel
theorem dX8_init_43 : decode cX8_init 43 = .ok (.iconst 5, 1) := by decide +kernel
theorem dX8_init_44 : decode cX8_init 44 = .ok (.newarray .int, 2) := by decide +kernel
theorem dX8_init_46 : decode cX8_init 46 = .ok (.putfield 27, 3) := by decide +kernel
theorem dX8_init_49 : decode cX8_init 49 = .ok (.aload_n 0, 1) := by decide +kernel
theorem dX8_init_50 : decode cX8_init 50 = .ok (.iconst 5, 1) := by decide +kernel
theorem dX8_init_51 : decode cX8_init 51 = .ok (.newarray .int, 2) := by decide +kernel
theorem dX8_init_53 : decode cX8_init 53 = .ok (.putfield 30, 3) := by decide +kernel
theorem dX8_init_56 : decode cX8_init 56 = .ok (.return_, 1) := by decide +kernel
theorem hdI_X8_init : yX8_init.cls ≠ "java/lang/invoke/MethodHandle" ∧ yX8_init.cls ≠ "java/lang/invoke/VarHandle" ∧ (parseMethodDescriptor yX8_init.desc).map (fun d => d.parameters.length) = some 0 := by decide +kernel
set_option maxHeartbeats 4000000 in
set_option maxRecDepth 100000 in
theorem c_X8_init (l : Launch) (G : GG) (h_this : Nat) : CtrN l yX8_init (WS yX8_init cX8_init 1 none) { frames := 1, cells := 7, slots := 45, locals := 12 } G h_this (.inr (7, [.null, .null, .null, .null, .null, .null, .null, .int 0, .int 0, .int 0, .int 0, .int 0, .int 0])) (fun ad => [(h_this, oX8 ad 0 0 0 0 0 0), ((ad 0), cI G 3 (fun _ => 0)), ((ad 1), cI G 16 (fun _ => 0)), ((ad 2), cI G 6 (fun _ => 0)), ((ad 3), cI G 6 (fun _ => 0)), ((ad 4), cI G 4 (fun _ => 0)), ((ad 5), cI G 5 (fun _ => 0)), ((ad 6), cI G 5 (fun _ => 0))]) 7 45 := by
  refine startN (cc := cX8_init) (maxL := 1) (by decide) rfl (Nat.le_of_ble_eq_true rfl) ?_
  intro p e s m args below meth c A Q hx hb hml hts hown hin hc hA hret ls H locs hl hW
  have hown : s.vm.findClass RX8 = some m.cls := hown
  have hg : ∀ w ∈ GOODS, w.before _ s = true := fun w h => hts w (List.mem_cons_of_mem _ h)
  have hl : lv_has ls 1 [(0, .ref h_this)] := hl
  refine lv_aload_n hx hb dX8_init_0 rfl (lv_at hl 0 rfl) ?_
  refine W.objInit hx hb hown (hg _ wd_1_68) (hg _ wd_1_24) (hg _ wd_1_25) rfl (by rw [hml]; exact hl.1) rfl dX8_init_1 (Nat.le_of_ble_eq_true rfl) (Nat.le_of_ble_eq_true rfl) ?_
  refine W.eq (g2 := F0 m 4 ls []) rfl ?_
  refine lv_aload_n hx hb dX8_init_4 rfl (lv_at hl 0 rfl) ?_
  refine lv_iconst (v := 3) hx hb dX8_init_5 (by decide) ?_
  refine wd_newI hx hb (hg _ wd_1_41) hc hA hW 3 (by decide) rfl (Nat.le_of_ble_eq_true rfl) (Nat.le_of_ble_eq_true rfl) (Nat.le_of_ble_eq_true rfl) dX8_init_6 (fun q6 H hW => ?_)
  have hW : Wd G A s.heap [(h_this, .inr (7, [.null, .null, .null, .null, .null, .null, .null, .int 0, .int 0, .int 0, .int 0, .int 0, .int 0])), (q6, cI G 3 (fun _ => 0))] H locs := hW
  refine va_putF (D := G.1) (ci := 7) (v := .ref q6) (ty := (.array .int)) (C := RX8) (T := TX8) (N := 13) hx hb hg hu_X8 tyX8 tyX8_ok nmX8 hown hc.1 hW.1 hW.2.1 hW.2.2 0 rfl rfl 0 (by decide) (hg _ wd_1_69) (fun _ h9 => h9) rfl hin rfl (by decide +kernel) rfl rfl (Nat.le_of_ble_eq_true rfl) dX8_init_8 (fun H locs hP hD hS => ?_)
  have hW : Wd G A s.heap [(h_this, .inr (7, [.ref q6, .null, .null, .null, .null, .null, .null, .int 0, .int 0, .int 0, .int 0, .int 0, .int 0])), (q6, cI G 3 (fun _ => 0))] H locs := ⟨hP, hD, hS⟩
  refine lv_aload_n hx hb dX8_init_11 rfl (lv_at hl 0 rfl) ?_
  refine lv_bipush (v := 16) hx hb dX8_init_12 (by decide) ?_
  refine wd_newI hx hb (hg _ wd_1_41) hc hA hW 16 (by decide) rfl (Nat.le_of_ble_eq_true rfl) (Nat.le_of_ble_eq_true rfl) (Nat.le_of_ble_eq_true rfl) dX8_init_14 (fun q14 H hW => ?_)
  have hW : Wd G A s.heap [(h_this, .inr (7, [.ref q6, .null, .null, .null, .null, .null, .null, .int 0, .int 0, .int 0, .int 0, .int 0, .int 0])), (q6, cI G 3 (fun _ => 0)), (q14, cI G 16 (fun _ => 0))] H locs := hW
  refine va_putF (D := G.1) (ci := 7) (v := .ref q14) (ty := (.array .int)) (C := RX8) (T := TX8) (N := 13) hx hb hg hu_X8 tyX8 tyX8_ok nmX8 hown hc.1 hW.1 hW.2.1 hW.2.2 0 rfl rfl 1 (by decide) (hg _ wd_1_70) (fun _ h9 => h9) rfl hin rfl (by decide +kernel) rfl rfl (Nat.le_of_ble_eq_true rfl) dX8_init_16 (fun H locs hP hD hS => ?_)
  have hW : Wd G A s.heap [(h_this, .inr (7, [.ref q6, .ref q14, .null, .null, .null, .null, .null, .int 0, .int 0, .int 0, .int 0, .int 0, .int 0])), (q6, cI G 3 (fun _ => 0)), (q14, cI G 16 (fun _ => 0))] H locs := ⟨hP, hD, hS⟩
  refine lv_aload_n hx hb dX8_init_19 rfl (lv_at hl 0 rfl) ?_
  refine lv_bipush (v := 6) hx hb dX8_init_20 (by decide) ?_
  refine wd_newI hx hb (hg _ wd_1_41) hc hA hW 6 (by decide) rfl (Nat.le_of_ble_eq_true rfl) (Nat.le_of_ble_eq_true rfl) (Nat.le_of_ble_eq_true rfl) dX8_init_22 (fun q22 H hW => ?_)
  have hW : Wd G A s.heap [(h_this, .inr (7, [.ref q6, .ref q14, .null, .null, .null, .null, .null, .int 0, .int 0, .int 0, .int 0, .int 0, .int 0])), (q6, cI G 3 (fun _ => 0)), (q14, cI G 16 (fun _ => 0)), (q22, cI G 6 (fun _ => 0))] H locs := hW
  refine va_putF (D := G.1) (ci := 7) (v := .ref q22) (ty := (.array .int)) (C := RX8) (T := TX8) (N := 13) hx hb hg hu_X8 tyX8 tyX8_ok nmX8 hown hc.1 hW.1 hW.2.1 hW.2.2 0 rfl rfl 2 (by decide) (hg _ wd_1_71) (fun _ h9 => h9) rfl hin rfl (by decide +kernel) rfl rfl (Nat.le_of_ble_eq_true rfl) dX8_init_24 (fun H locs hP hD hS => ?_)
  have hW : Wd G A s.heap [(h_this, .inr (7, [.ref q6, .ref q14, .ref q22, .null, .null, .null, .null, .int 0, .int 0, .int 0, .int 0, .int 0, .int 0])), (q6, cI G 3 (fun _ => 0)), (q14, cI G 16 (fun _ => 0)), (q22, cI G 6 (fun _ => 0))] H locs := ⟨hP, hD, hS⟩
  refine lv_aload_n hx hb dX8_init_27 rfl (lv_at hl 0 rfl) ?_
  refine lv_bipush (v := 6) hx hb dX8_init_28 (by decide) ?_
  refine wd_newI hx hb (hg _ wd_1_41) hc hA hW 6 (by decide) rfl (Nat.le_of_ble_eq_true rfl) (Nat.le_of_ble_eq_true rfl) (Nat.le_of_ble_eq_true rfl) dX8_init_30 (fun q30 H hW => ?_)
  have hW : Wd G A s.heap [(h_this, .inr (7, [.ref q6, .ref q14, .ref q22, .null, .null, .null, .null, .int 0, .int 0, .int 0, .int 0, .int 0, .int 0])), (q6, cI G 3 (fun _ => 0)), (q14, cI G 16 (fun _ => 0)), (q22, cI G 6 (fun _ => 0)), (q30, cI G 6 (fun _ => 0))] H locs := hW
  refine va_putF (D := G.1) (ci := 7) (v := .ref q30) (ty := (.array .int)) (C := RX8) (T := TX8) (N := 13) hx hb hg hu_X8 tyX8 tyX8_ok nmX8 hown hc.1 hW.1 hW.2.1 hW.2.2 0 rfl rfl 3 (by decide) (hg _ wd_1_72) (fun _ h9 => h9) rfl hin rfl (by decide +kernel) rfl rfl (Nat.le_of_ble_eq_true rfl) dX8_init_32 (fun H locs hP hD hS => ?_)
  have hW : Wd G A s.heap [(h_this, .inr (7, [.ref q6, .ref q14, .ref q22, .ref q30, .null, .null, .null, .int 0, .int 0, .int 0, .int 0, .int 0, .int 0])), (q6, cI G 3 (fun _ => 0)), (q14, cI G 16 (fun _ => 0)), (q22, cI G 6 (fun _ => 0)), (q30, cI G 6 (fun _ => 0))] H locs := ⟨hP, hD, hS⟩
  refine lv_aload_n hx hb dX8_init_35 rfl (lv_at hl 0 rfl) ?_
  refine lv_iconst (v := 4) hx hb dX8_init_36 (by decide) ?_
  refine wd_newI hx hb (hg _ wd_1_41) hc hA hW 4 (by decide) rfl (Nat.le_of_ble_eq_true rfl) (Nat.le_of_ble_eq_true rfl) (Nat.le_of_ble_eq_true rfl) dX8_init_37 (fun q37 H hW => ?_)
  have hW : Wd G A s.heap [(h_this, .inr (7, [.ref q6, .ref q14, .ref q22, .ref q30, .null, .null, .null, .int 0, .int 0, .int 0, .int 0, .int 0, .int 0])), (q6, cI G 3 (fun _ => 0)), (q14, cI G 16 (fun _ => 0)), (q22, cI G 6 (fun _ => 0)), (q30, cI G 6 (fun _ => 0)), (q37, cI G 4 (fun _ => 0))] H locs := hW
  refine va_putF (D := G.1) (ci := 7) (v := .ref q37) (ty := (.array .int)) (C := RX8) (T := TX8) (N := 13) hx hb hg hu_X8 tyX8 tyX8_ok nmX8 hown hc.1 hW.1 hW.2.1 hW.2.2 0 rfl rfl 4 (by decide) (hg _ wd_1_73) (fun _ h9 => h9) rfl hin rfl (by decide +kernel) rfl rfl (Nat.le_of_ble_eq_true rfl) dX8_init_39 (fun H locs hP hD hS => ?_)
  have hW : Wd G A s.heap [(h_this, .inr (7, [.ref q6, .ref q14, .ref q22, .ref q30, .ref q37, .null, .null, .int 0, .int 0, .int 0, .int 0, .int 0, .int 0])), (q6, cI G 3 (fun _ => 0)), (q14, cI G 16 (fun _ => 0)), (q22, cI G 6 (fun _ => 0)), (q30, cI G 6 (fun _ => 0)), (q37, cI G 4 (fun _ => 0))] H locs := ⟨hP, hD, hS⟩
  refine lv_aload_n hx hb dX8_init_42 rfl (lv_at hl 0 rfl) ?_
  refine lv_iconst (v := 5) hx hb dX8_init_43 (by decide) ?_
  refine wd_newI hx hb (hg _ wd_1_41) hc hA hW 5 (by decide) rfl (Nat.le_of_ble_eq_true rfl) (Nat.le_of_ble_eq_true rfl) (Nat.le_of_ble_eq_true rfl) dX8_init_44 (fun q44 H hW => ?_)
  have hW : Wd G A s.heap [(h_this, .inr (7, [.ref q6, .ref q14, .ref q22, .ref q30, .ref q37, .null, .null, .int 0, .int 0, .int 0, .int 0, .int 0, .int 0])), (q6, cI G 3 (fun _ => 0)), (q14, cI G 16 (fun _ => 0)), (q22, cI G 6 (fun _ => 0)), (q30, cI G 6 (fun _ => 0)), (q37, cI G 4 (fun _ => 0)), (q44, cI G 5 (fun _ => 0))] H locs := hW
  refine va_putF (D := G.1) (ci := 7) (v := .ref q44) (ty := (.array .int)) (C := RX8) (T := TX8) (N := 13) hx hb hg hu_X8 tyX8 tyX8_ok nmX8 hown hc.1 hW.1 hW.2.1 hW.2.2 0 rfl rfl 5 (by decide) (hg _ wd_1_74) (fun _ h9 => h9) rfl hin rfl (by decide +kernel) rfl rfl (Nat.le_of_ble_eq_true rfl) dX8_init_46 (fun H locs hP hD hS => ?_)
  have hW : Wd G A s.heap [(h_this, .inr (7, [.ref q6, .ref q14, .ref q22, .ref q30, .ref q37, .ref q44, .null, .int 0, .int 0, .int 0, .int 0, .int 0, .int 0])), (q6, cI G 3 (fun _ => 0)), (q14, cI G 16 (fun _ => 0)), (q22, cI G 6 (fun _ => 0)), (q30, cI G 6 (fun _ => 0)), (q37, cI G 4 (fun _ => 0)), (q44, cI G 5 (fun _ => 0))] H locs := ⟨hP, hD, hS⟩
  refine lv_aload_n hx hb dX8_init_49 rfl (lv_at hl 0 rfl) ?_
  refine lv_iconst (v := 5) hx hb dX8_init_50 (by decide) ?_
  refine wd_newI hx hb (hg _ wd_1_41) hc hA hW 5 (by decide) rfl (Nat.le_of_ble_eq_true rfl) (Nat.le_of_ble_eq_true rfl) (Nat.le_of_ble_eq_true rfl) dX8_init_51 (fun q51 H hW => ?_)
  have hW : Wd G A s.heap [(h_this, .inr (7, [.ref q6, .ref q14, .ref q22, .ref q30, .ref q37, .ref q44, .null, .int 0, .int 0, .int 0, .int 0, .int 0, .int 0])), (q6, cI G 3 (fun _ => 0)), (q14, cI G 16 (fun _ => 0)), (q22, cI G 6 (fun _ => 0)), (q30, cI G 6 (fun _ => 0)), (q37, cI G 4 (fun _ => 0)), (q44, cI G 5 (fun _ => 0)), (q51, cI G 5 (fun _ => 0))] H locs := hW
  refine va_putF (D := G.1) (ci := 7) (v := .ref q51) (ty := (.array .int)) (C := RX8) (T := TX8) (N := 13) hx hb hg hu_X8 tyX8 tyX8_ok nmX8 hown hc.1 hW.1 hW.2.1 hW.2.2 0 rfl rfl 6 (by decide) (hg _ wd_1_75) (fun _ h9 => h9) rfl hin rfl (by decide +kernel) rfl rfl (Nat.le_of_ble_eq_true rfl) dX8_init_53 (fun H locs hP hD hS => ?_)
  have hW : Wd G A s.heap [(h_this, .inr (7, [.ref q6, .ref q14, .ref q22, .ref q30, .ref q37, .ref q44, .ref q51, .int 0, .int 0, .int 0, .int 0, .int 0, .int 0])), (q6, cI G 3 (fun _ => 0)), (q14, cI G 16 (fun _ => 0)), (q22, cI G 6 (fun _ => 0)), (q30, cI G 6 (fun _ => 0)), (q37, cI G 4 (fun _ => 0)), (q44, cI G 5 (fun _ => 0)), (q51, cI G 5 (fun _ => 0))] H locs := ⟨hP, hD, hS⟩
  exact hret _ _ _ _ (fun k => [q6, q14, q22, q30, q37, q44, q51, 0, 0, 0, 0, 0, 0].getD k 0) hW dX8_init_56
theorem dX1_init_0 : decode cX1_init 0 = .ok (.aload_n 0, 1) := by decide +kernel
theorem dX1_init_1 : decode cX1_init 1 = .ok (.invokespecial 1, 3) := by decide +kernel
theorem dX1_init_4 : decode cX1_init 4 = .ok (.aload_n 0, 1) := by decide +kernel
theorem dX1_init_5 : decode cX1_init 5 = .ok (.iconst 5, 1) := by decide +kernel
theorem dX1_init_6 : decode cX1_init 6 = .ok (.newarray .int, 2) := by decide +kernel
theorem dX1_init_8 : decode cX1_init 8 = .ok (.putfield 9, 3) := by decide +kernel
theorem dX1_init_11 : decode cX1_init 11 = .ok (.aload_n 0, 1) := by decide +kernel
theorem dX1_init_12 : decode cX1_init 12 = .ok (.iconst 5, 1) := by decide +kernel
theorem dX1_init_13 : decode cX1_init 13 = .ok (.newarray .int, 2) := by decide +kernel
theorem dX1_init_15 : decode cX1_init 15 = .ok (.putfield 13, 3) := by decide +kernel
theorem dX1_init_18 : decode cX1_init 18 = .ok (.return_, 1) := by decide +kernel
theorem hdI_X1_init : yX1_init.cls ≠ "java/lang/invoke/MethodHandle" ∧ yX1_init.cls ≠ "java/lang/invoke/VarHandle" ∧ (parseMethodDescriptor yX1_init.desc).map (fun d => d.parameters.length) = some 0 := by decide +kernel
set_option maxHeartbeats 4000000 in
set_option maxRecDepth 100000 in
theorem c_X1_init (l : Launch) (G : GG) (h_this : Nat) : CtrN l yX1_init (WS yX1_init cX1_init 1 none) { frames := 1, cells := 2, slots := 10, locals := 12 } G h_this (.inr (1, [.null, .null, .int 0])) (fun ad => [(h_this, oX1 ad 0), ((ad 0), cI G 5 (fun _ => 0)), ((ad 1), cI G 5 (fun _ => 0))]) 2 10 := by
  refine startN (cc := cX1_init) (maxL := 1) (by decide) rfl (Nat.le_of_ble_eq_true rfl) ?_
  intro p e s m args below meth c A Q hx hb hml hts hown hin hc hA hret ls H locs hl hW
  have hown : s.vm.findClass RX1 = some m.cls := hown
  have hg : ∀ w ∈ GOODS, w.before _ s = true := fun w h => hts w (List.mem_cons_of_mem _ h)
  have hl : lv_has ls 1 [(0, .ref h_this)] := hl
  refine lv_aload_n hx hb dX1_init_0 rfl (lv_at hl 0 rfl) ?_
  refine W.objInit hx hb hown (hg _ wd_1_122) (hg _ wd_1_24) (hg _ wd_1_25) rfl (by rw [hml]; exact hl.1) rfl dX1_init_1 (Nat.le_of_ble_eq_true rfl) (Nat.le_of_ble_eq_true rfl) ?_
  refine W.eq (g2 := F0 m 4 ls []) rfl ?_
  refine lv_aload_n hx hb dX1_init_4 rfl (lv_at hl 0 rfl) ?_
  refine lv_iconst (v := 5) hx hb dX1_init_5 (by decide) ?_
  refine wd_newI hx hb (hg _ wd_1_41) hc hA hW 5 (by decide) rfl (Nat.le_of_ble_eq_true rfl) (Nat.le_of_ble_eq_true rfl) (Nat.le_of_ble_eq_true rfl) dX1_init_6 (fun q6 H hW => ?_)
  have hW : Wd G A s.heap [(h_this, .inr (1, [.null, .null, .int 0])), (q6, cI G 5 (fun _ => 0))] H locs := hW
  refine va_putF (D := G.1) (ci := 1) (v := .ref q6) (ty := (.array .int)) (C := RX1) (T := TX1) (N := 3) hx hb hg hu_X1 tyX1 tyX1_ok nmX1 hown hc.1 hW.1 hW.2.1 hW.2.2 0 rfl rfl 0 (by decide) (hg _ wd_1_123) (fun _ h9 => h9) rfl hin rfl (by decide +kernel) rfl rfl (Nat.le_of_ble_eq_true rfl) dX1_init_8 (fun H locs hP hD hS => ?_)
  have hW : Wd G A s.heap [(h_this, .inr (1, [.ref q6, .null, .int 0])), (q6, cI G 5 (fun _ => 0))] H locs := ⟨hP, hD, hS⟩
  refine lv_aload_n hx hb dX1_init_11 rfl (lv_at hl 0 rfl) ?_
  refine lv_iconst (v := 5) hx hb dX1_init_12 (by decide) ?_
  refine wd_newI hx hb (hg _ wd_1_41) hc hA hW 5 (by decide) rfl (Nat.le_of_ble_eq_true rfl) (Nat.le_of_ble_eq_true rfl) (Nat.le_of_ble_eq_true rfl) dX1_init_13 (fun q13 H hW => ?_)
  have hW : Wd G A s.heap [(h_this, .inr (1, [.ref q6, .null, .int 0])), (q6, cI G 5 (fun _ => 0)), (q13, cI G 5 (fun _ => 0))] H locs := hW
  refine va_putF (D := G.1) (ci := 1) (v := .ref q13) (ty := (.array .int)) (C := RX1) (T := TX1) (N := 3) hx hb hg hu_X1 tyX1 tyX1_ok nmX1 hown hc.1 hW.1 hW.2.1 hW.2.2 0 rfl rfl 1 (by decide) (hg _ wd_1_124) (fun _ h9 => h9) rfl hin rfl (by decide +kernel) rfl rfl (Nat.le_of_ble_eq_true rfl) dX1_init_15 (fun H locs hP hD hS => ?_)
  have hW : Wd G A s.heap [(h_this, .inr (1, [.ref q6, .ref q13, .int 0])), (q6, cI G 5 (fun _ => 0)), (q13, cI G 5 (fun _ => 0))] H locs := ⟨hP, hD, hS⟩
  exact hret _ _ _ _ (fun k => [q6, q13, 0].getD k 0) hW dX1_init_18
theorem dX5_init_0 : decode cX5_init 0 = .ok (.aload_n 0, 1) := by decide +kernel
theorem dX5_init_1 : decode cX5_init 1 = .ok (.invokespecial 3, 3) := by decide +kernel
theorem dX5_init_4 : decode cX5_init 4 = .ok (.aload_n 0, 1) := by decide +kernel
theorem dX5_init_5 : decode cX5_init 5 = .ok (.iconst 3, 1) := by decide +kernel
theorem dX5_init_6 : decode cX5_init 6 = .ok (.newarray .long, 2) := by decide +kernel
theorem dX5_init_8 : decode cX5_init 8 = .ok (.putfield 9, 3) := by decide +kernel
theorem dX5_init_11 : decode cX5_init 11 = .ok (.aload_n 0, 1) := by decide +kernel
theorem dX5_init_12 : decode cX5_init 12 = .ok (.iconst 3, 1) := by decide +kernel
theorem dX5_init_13 : decode cX5_init 13 = .ok (.newarray .long, 2) := by decide +kernel
theorem dX5_init_15 : decode cX5_init 15 = .ok (.putfield 15, 3) := by decide +kernel
theorem dX5_init_18 : decode cX5_init 18 = .ok (.return_, 1) := by decide +kernel
theorem hdI_X5_init : yX5_init.cls ≠ "java/lang/invoke/MethodHandle" ∧ yX5_init.cls ≠ "java/lang/invoke/VarHandle" ∧ (parseMethodDescriptor yX5_init.desc).map (fun d => d.parameters.length) = some 0 := by decide +kernel
set_option maxHeartbeats 4000000 in
set_option maxRecDepth 100000 in
theorem c_X5_init (l : Launch) (G : GG) (h_this : Nat) : CtrN l yX5_init (WS yX5_init cX5_init 1 none) { frames := 1, cells := 2, slots := 6, locals := 12 } G h_this (.inr (4, [.null, .null, .long 0])) (fun ad => [(h_this, oX5 ad 0), ((ad 0), cJ G 3 (fun _ => 0)), ((ad 1), cJ G 3 (fun _ => 0))]) 2 6 := by
  refine startN (cc := cX5_init) (maxL := 1) (by decide) rfl (Nat.le_of_ble_eq_true rfl) ?_
  intro p e s m args below meth c A Q hx hb hml hts hown hin hc hA hret ls H locs hl hW
  have hown : s.vm.findClass RX5 = some m.cls := hown
  have hg : ∀ w ∈ GOODS, w.before _ s = true := fun w h => hts w (List.mem_cons_of_mem _ h)
  have hl : lv_has ls 1 [(0, .ref h_this)] := hl
  refine lv_aload_n hx hb dX5_init_0 rfl (lv_at hl 0 rfl) ?_
  refine W.objInit hx hb hown (hg _ wd_1_140) (hg _ wd_1_24) (hg _ wd_1_25) rfl (by rw [hml]; exact hl.1) rfl dX5_init_1 (Nat.le_of_ble_eq_true rfl) (Nat.le_of_ble_eq_true rfl) ?_
  refine W.eq (g2 := F0 m 4 ls []) rfl ?_
  refine lv_aload_n hx hb dX5_init_4 rfl (lv_at hl 0 rfl) ?_
  refine lv_iconst (v := 3) hx hb dX5_init_5 (by decide) ?_
  refine wd_newJ hx hb (hg _ wd_1_152) hc hA hW 3 (by decide) rfl (Nat.le_of_ble_eq_true rfl) (Nat.le_of_ble_eq_true rfl) (Nat.le_of_ble_eq_true rfl) dX5_init_6 (fun q6 H hW => ?_)
  have hW : Wd G A s.heap [(h_this, .inr (4, [.null, .null, .long 0])), (q6, cJ G 3 (fun _ => 0))] H locs := hW
  refine va_putF (D := G.1) (ci := 4) (v := .ref q6) (ty := (.array .long)) (C := RX5) (T := TX5) (N := 3) hx hb hg hu_X5 tyX5 tyX5_ok nmX5 hown hc.1 hW.1 hW.2.1 hW.2.2 0 rfl rfl 0 (by decide) (hg _ wd_1_141) (fun _ h9 => h9) rfl hin rfl (by decide +kernel) rfl rfl (Nat.le_of_ble_eq_true rfl) dX5_init_8 (fun H locs hP hD hS => ?_)
  have hW : Wd G A s.heap [(h_this, .inr (4, [.ref q6, .null, .long 0])), (q6, cJ G 3 (fun _ => 0))] H locs := ⟨hP, hD, hS⟩
  refine lv_aload_n hx hb dX5_init_11 rfl (lv_at hl 0 rfl) ?_
  refine lv_iconst (v := 3) hx hb dX5_init_12 (by decide) ?_
  refine wd_newJ hx hb (hg _ wd_1_152) hc hA hW 3 (by decide) rfl (Nat.le_of_ble_eq_true rfl) (Nat.le_of_ble_eq_true rfl) (Nat.le_of_ble_eq_true rfl) dX5_init_13 (fun q13 H hW => ?_)
  have hW : Wd G A s.heap [(h_this, .inr (4, [.ref q6, .null, .long 0])), (q6, cJ G 3 (fun _ => 0)), (q13, cJ G 3 (fun _ => 0))] H locs := hW
  refine va_putF (D := G.1) (ci := 4) (v := .ref q13) (ty := (.array .long)) (C := RX5) (T := TX5) (N := 3) hx hb hg hu_X5 tyX5 tyX5_ok nmX5 hown hc.1 hW.1 hW.2.1 hW.2.2 0 rfl rfl 1 (by decide) (hg _ wd_1_142) (fun _ h9 => h9) rfl hin rfl (by decide +kernel) rfl rfl (Nat.le_of_ble_eq_true rfl) dX5_init_15 (fun H locs hP hD hS => ?_)
  have hW : Wd G A s.heap [(h_this, .inr (4, [.ref q6, .ref q13, .long 0])), (q6, cJ G 3 (fun _ => 0)), (q13, cJ G 3 (fun _ => 0))] H locs := ⟨hP, hD, hS⟩
  exact hret _ _ _ _ (fun k => [q6, q13, 0].getD k 0) hW dX5_init_18
theorem dX7_init_0 : decode cX7_init 0 = .ok (.aload_n 0, 1) := by decide +kernel
theorem dX7_init_1 : decode cX7_init 1 = .ok (.invokespecial 1, 3) := by decide +kernel
theorem dX7_init_4 : decode cX7_init 4 = .ok (.aload_n 0, 1) := by decide +kernel
theorem dX7_init_5 : decode cX7_init 5 = .ok (.bipush 8, 2) := by decide +kernel
theorem dX7_init_7 : decode cX7_init 7 = .ok (.newarray .int, 2) := by decide +kernel
theorem dX7_init_9 : decode cX7_init 9 = .ok (.putfield 9, 3) := by decide +kernel
theorem dX7_init_12 : decode cX7_init 12 = .ok (.aload_n 0, 1) := by decide +kernel
theorem dX7_init_13 : decode cX7_init 13 = .ok (.bipush 8, 2) := by decide +kernel
theorem dX7_init_15 : decode cX7_init 15 = .ok (.newarray .int, 2) := by decide +kernel
theorem dX7_init_17 : decode cX7_init 17 = .ok (.putfield 13, 3) := by decide +kernel
theorem dX7_init_20 : decode cX7_init 20 = .ok (.aload_n 0, 1) := by decide +kernel
theorem dX7_init_21 : decode cX7_init 21 = .ok (.bipush 16, 2) := by decide +kernel
theorem dX7_init_23 : decode cX7_init 23 = .ok (.newarray .int, 2) := by decide +kernel
theorem dX7_init_25 : decode cX7_init 25 = .ok (.putfield 18, 3) := by decide +kernel
theorem dX7_init_28 : decode cX7_init 28 = .ok (.return_, 1) := by decide +kernel
theorem hdI_X7_init : yX7_init.cls ≠ "java/lang/invoke/MethodHandle" ∧ yX7_init.cls ≠ "java/lang/invoke/VarHandle" ∧ (parseMethodDescriptor yX7_init.desc).map (fun d => d.parameters.length) = some 0 := by decide +kernel
set_option maxHeartbeats 4000000 in
set_option maxRecDepth 100000 in
theorem c_X7_init (l : Launch) (G : GG) (h_this : Nat) : CtrN l yX7_init (WS yX7_init cX7_init 1 none) { frames := 1, cells := 3, slots := 32, locals := 12 } G h_this (.inr (6, [.null, .null, .null, .int 0])) (fun ad => [(h_this, oX7 ad 0), ((ad 0), cI G 8 (fun _ => 0)), ((ad 1), cI G 8 (fun _ => 0)), ((ad 2), cI G 16 (fun _ => 0))]) 3 32 := by
  refine startN (cc := cX7_init) (maxL := 1) (by decide) rfl (Nat.le_of_ble_eq_true rfl) ?_
  intro p e s m args below meth c A Q hx hb hml hts hown hin hc hA hret ls H locs hl hW
  have hown : s.vm.findClass RX7 = some m.cls := hown
  have hg : ∀ w ∈ GOODS, w.before _ s = true := fun w h => hts w (List.mem_cons_of_mem _ h)
  have hl : lv_has ls 1 [(0, .ref h_this)] := hl
  refine lv_aload_n hx hb dX7_init_0 rfl (lv_at hl 0 rfl) ?_
  refine W.objInit hx hb hown (hg _ wd_1_158) (hg _ wd_1_24) (hg _ wd_1_25) rfl (by rw [hml]; exact hl.1) rfl dX7_init_1 (Nat.le_of_ble_eq_true rfl) (Nat.le_of_ble_eq_true rfl) ?_
  refine W.eq (g2 := F0 m 4 ls []) rfl ?_
  refine lv_aload_n hx hb dX7_init_4 rfl (lv_at hl 0 rfl) ?_
  refine lv_bipush (v := 8) hx hb dX7_init_5 (by decide) ?_
  refine wd_newI hx hb (hg _ wd_1_41) hc hA hW 8 (by decide) rfl (Nat.le_of_ble_eq_true rfl) (Nat.le_of_ble_eq_true rfl) (Nat.le_of_ble_eq_true rfl) dX7_init_7 (fun q7 H hW => ?_)
  have hW : Wd G A s.heap [(h_this, .inr (6, [.null, .null, .null, .int 0])), (q7, cI G 8 (fun _ => 0))] H locs := hW
  refine va_putF (D := G.1) (ci := 6) (v := .ref q7) (ty := (.array .int)) (C := RX7) (T := TX7) (N := 4) hx hb hg hu_X7 tyX7 tyX7_ok nmX7 hown hc.1 hW.1 hW.2.1 hW.2.2 0 rfl rfl 0 (by decide) (hg _ wd_1_159) (fun _ h9 => h9) rfl hin rfl (by decide +kernel) rfl rfl (Nat.le_of_ble_eq_true rfl) dX7_init_9 (fun H locs hP hD hS => ?_)
  have hW : Wd G A s.heap [(h_this, .inr (6, [.ref q7, .null, .null, .int 0])), (q7, cI G 8 (fun _ => 0))] H locs := ⟨hP, hD, hS⟩
  refine lv_aload_n hx hb dX7_init_12 rfl (lv_at hl 0 rfl) ?_
  refine lv_bipush (v := 8) hx hb dX7_init_13 (by decide) ?_
  refine wd_newI hx hb (hg _ wd_1_41) hc hA hW 8 (by decide) rfl (Nat.le_of_ble_eq_true rfl) (Nat.le_of_ble_eq_true rfl) (Nat.le_of_ble_eq_true rfl) dX7_init_15 (fun q15 H hW => ?_)
  have hW : Wd G A s.heap [(h_this, .inr (6, [.ref q7, .null, .null, .int 0])), (q7, cI G 8 (fun _ => 0)), (q15, cI G 8 (fun _ => 0))] H locs := hW
  refine va_putF (D := G.1) (ci := 6) (v := .ref q15) (ty := (.array .int)) (C := RX7) (T := TX7) (N := 4) hx hb hg hu_X7 tyX7 tyX7_ok nmX7 hown hc.1 hW.1 hW.2.1 hW.2.2 0 rfl rfl 1 (by decide) (hg _ wd_1_160) (fun _ h9 => h9) rfl hin rfl (by decide +kernel) rfl rfl (Nat.le_of_ble_eq_true rfl) dX7_init_17 (fun H locs hP hD hS => ?_)
  have hW : Wd G A s.heap [(h_this, .inr (6, [.ref q7, .ref q15, .null, .int 0])), (q7, cI G 8 (fun _ => 0)), (q15, cI G 8 (fun _ => 0))] H locs := ⟨hP, hD, hS⟩
  refine lv_aload_n hx hb dX7_init_20 rfl (lv_at hl 0 rfl) ?_
  refine lv_bipush (v := 16) hx hb dX7_init_21 (by decide) ?_
  refine wd_newI hx hb (hg _ wd_1_41) hc hA hW 16 (by decide) rfl (Nat.le_of_ble_eq_true rfl) (Nat.le_of_ble_eq_true rfl) (Nat.le_of_ble_eq_true rfl) dX7_init_23 (fun q23 H hW => ?_)
  have hW : Wd G A s.heap [(h_this, .inr (6, [.ref q7, .ref q15, .null, .int 0])), (q7, cI G 8 (fun _ => 0)), (q15, cI G 8 (fun _ => 0)), (q23, cI G 16 (fun _ => 0))] H locs := hW
  refine va_putF (D := G.1) (ci := 6) (v := .ref q23) (ty := (.array .int)) (C := RX7) (T := TX7) (N := 4) hx hb hg hu_X7 tyX7 tyX7_ok nmX7 hown hc.1 hW.1 hW.2.1 hW.2.2 0 rfl rfl 2 (by decide) (hg _ wd_1_161) (fun _ h9 => h9) rfl hin rfl (by decide +kernel) rfl rfl (Nat.le_of_ble_eq_true rfl) dX7_init_25 (fun H locs hP hD hS => ?_)
  have hW : Wd G A s.heap [(h_this, .inr (6, [.ref q7, .ref q15, .ref q23, .int 0])), (q7, cI G 8 (fun _ => 0)), (q15, cI G 8 (fun _ => 0)), (q23, cI G 16 (fun _ => 0))] H locs := ⟨hP, hD, hS⟩
  exact hret _ _ _ _ (fun k => [q7, q15, q23, 0].getD k 0) hW dX7_init_28
theorem dX0_init_0 : decode cX0_init 0 = .ok (.aload_n 0, 1) := by decide +kernel
theorem dX0_init_1 : decode cX0_init 1 = .ok (.invokespecial 1, 3) := by decide +kernel
theorem dX0_init_4 : decode cX0_init 4 = .ok (.aload_n 0, 1) := by decide +kernel
theorem dX0_init_5 : decode cX0_init 5 = .ok (.bipush 6, 2) := by decide +kernel
theorem dX0_init_7 : decode cX0_init 7 = .ok (.newarray .int, 2) := by decide +kernel
theorem dX0_init_9 : decode cX0_init 9 = .ok (.putfield 9, 3) := by decide +kernel
theorem dX0_init_12 : decode cX0_init 12 = .ok (.aload_n 0, 1) := by decide +kernel
theorem dX0_init_13 : decode cX0_init 13 = .ok (.iconst 4, 1) := by decide +kernel
theorem dX0_init_14 : decode cX0_init 14 = .ok (.newarray .int, 2) := by decide +kernel
theorem dX0_init_16 : decode cX0_init 16 = .ok (.putfield 15, 3) := by decide +kernel
theorem dX0_init_19 : decode cX0_init 19 = .ok (.return_, 1) := by decide +kernel
theorem hdI_X0_init : yX0_init.cls ≠ "java/lang/invoke/MethodHandle" ∧ yX0_init.cls ≠ "java/lang/invoke/VarHandle" ∧ (parseMethodDescriptor yX0_init.desc).map (fun d => d.parameters.length) = some 0 := by decide +kernel
set_option maxHeartbeats 4000000 in
set_option maxRecDepth 100000 in
theorem c_X0_init (l : Launch) (G : GG) (h_this : Nat) : CtrN l yX0_init (WS yX0_init cX0_init 1 none) { frames := 1, cells := 2, slots := 10, locals := 12 } G h_this (.inr (0, [.null, .null, .int 0])) (fun ad => [(h_this, oX0 ad 0), ((ad 0), cI G 6 (fun _ => 0)), ((ad 1), cI G 4 (fun _ => 0))]) 2 10 := by
  refine startN (cc := cX0_init) (maxL := 1) (by decide) rfl (Nat.le_of_ble_eq_true rfl) ?_
  intro p e s m args below meth c A Q hx hb hml hts hown hin hc hA hret ls H locs hl hW
  have hown : s.vm.findClass RX0 = some m.cls := hown
  have hg : ∀ w ∈ GOODS, w.before _ s = true := fun w h => hts w (List.mem_cons_of_mem _ h)
  have hl : lv_has ls 1 [(0, .ref h_this)] := hl
  refine lv_aload_n hx hb dX0_init_0 rfl (lv_at hl 0 rfl) ?_
  refine W.objInit hx hb hown (hg _ wd_1_178) (hg _ wd_1_24) (hg _ wd_1_25) rfl (by rw [hml]; exact hl.1) rfl dX0_init_1 (Nat.le_of_ble_eq_true rfl) (Nat.le_of_ble_eq_true rfl) ?_
  refine W.eq (g2 := F0 m 4 ls []) rfl ?_
  refine lv_aload_n hx hb dX0_init_4 rfl (lv_at hl 0 rfl) ?_
  refine lv_bipush (v := 6) hx hb dX0_init_5 (by decide) ?_
  refine wd_newI hx hb (hg _ wd_1_41) hc hA hW 6 (by decide) rfl (Nat.le_of_ble_eq_true rfl) (Nat.le_of_ble_eq_true rfl) (Nat.le_of_ble_eq_true rfl) dX0_init_7 (fun q7 H hW => ?_)
  have hW : Wd G A s.heap [(h_this, .inr (0, [.null, .null, .int 0])), (q7, cI G 6 (fun _ => 0))] H locs := hW
  refine va_putF (D := G.1) (ci := 0) (v := .ref q7) (ty := (.array .int)) (C := RX0) (T := TX0) (N := 3) hx hb hg hu_X0 tyX0 tyX0_ok nmX0 hown hc.1 hW.1 hW.2.1 hW.2.2 0 rfl rfl 0 (by decide) (hg _ wd_1_179) (fun _ h9 => h9) rfl hin rfl (by decide +kernel) rfl rfl (Nat.le_of_ble_eq_true rfl) dX0_init_9 (fun H locs hP hD hS => ?_)
  have hW : Wd G A s.heap [(h_this, .inr (0, [.ref q7, .null, .int 0])), (q7, cI G 6 (fun _ => 0))] H locs := ⟨hP, hD, hS⟩
  refine lv_aload_n hx hb dX0_init_12 rfl (lv_at hl 0 rfl) ?_
  refine lv_iconst (v := 4) hx hb dX0_init_13 (by decide) ?_
  refine wd_newI hx hb (hg _ wd_1_41) hc hA hW 4 (by decide) rfl (Nat.le_of_ble_eq_true rfl) (Nat.le_of_ble_eq_true rfl) (Nat.le_of_ble_eq_true rfl) dX0_init_14 (fun q14 H hW => ?_)
  have hW : Wd G A s.heap [(h_this, .inr (0, [.ref q7, .null, .int 0])), (q7, cI G 6 (fun _ => 0)), (q14, cI G 4 (fun _ => 0))] H locs := hW
  refine va_putF (D := G.1) (ci := 0) (v := .ref q14) (ty := (.array .int)) (C := RX0) (T := TX0) (N := 3) hx hb hg hu_X0 tyX0 tyX0_ok nmX0 hown hc.1 hW.1 hW.2.1 hW.2.2 0 rfl rfl 1 (by decide) (hg _ wd_1_180) (fun _ h9 => h9) rfl hin rfl (by decide +kernel) rfl rfl (Nat.le_of_ble_eq_true rfl) dX0_init_16 (fun H locs hP hD hS => ?_)
  have hW : Wd G A s.heap [(h_this, .inr (0, [.ref q7, .ref q14, .int 0])), (q7, cI G 6 (fun _ => 0)), (q14, cI G 4 (fun _ => 0))] H locs := ⟨hP, hD, hS⟩
  exact hret _ _ _ _ (fun k => [q7, q14, 0].getD k 0) hW dX0_init_19
theorem dX2_init_0 : decode cX2_init 0 = .ok (.aload_n 0, 1) := by decide +kernel
theorem dX2_init_1 : decode cX2_init 1 = .ok (.invokespecial 1, 3) := by decide +kernel
theorem dX2_init_4 : decode cX2_init 4 = .ok (.aload_n 0, 1) := by decide +kernel
theorem dX2_init_5 : decode cX2_init 5 = .ok (.bipush 13, 2) := by decide +kernel
theorem dX2_init_7 : decode cX2_init 7 = .ok (.newarray .int, 2) := by decide +kernel
theorem dX2_init_9 : decode cX2_init 9 = .ok (.putfield 9, 3) := by decide +kernel
theorem dX2_init_12 : decode cX2_init 12 = .ok (.aload_n 0, 1) := by decide +kernel
theorem dX2_init_13 : decode cX2_init 13 = .ok (.bipush 13, 2) := by decide +kernel
theorem dX2_init_15 : decode cX2_init 15 = .ok (.newarray .int, 2) := by decide +kernel
theorem dX2_init_17 : decode cX2_init 17 = .ok (.putfield 13, 3) := by decide +kernel
theorem dX2_init_20 : decode cX2_init 20 = .ok (.return_, 1) := by decide +kernel
theorem hdI_X2_init : yX2_init.cls ≠ "java/lang/invoke/MethodHandle" ∧ yX2_init.cls ≠ "java/lang/invoke/VarHandle" ∧ (parseMethodDescriptor yX2_init.desc).map (fun d => d.parameters.length) = some 0 := by decide +kernel
set_option maxHeartbeats 4000000 in
set_option maxRecDepth 100000 in
theorem c_X2_init (l : Launch) (G : GG) (h_this : Nat) : CtrN l yX2_init (WS yX2_init cX2_init 1 none) { frames := 1, cells := 2, slots := 26, locals := 12 } G h_this (.inr (2, [.null, .null])) (fun ad => [(h_this, oX2 ad), ((ad 0), cI G 13 (fun _ => 0)), ((ad 1), cI G 13 (fun _ => 0))]) 2 26 := by
  refine startN (cc := cX2_init) (maxL := 1) (by decide) rfl (Nat.le_of_ble_eq_true rfl) ?_
  intro p e s m args below meth c A Q hx hb hml hts hown hin hc hA hret ls H locs hl hW
  have hown : s.vm.findClass RX2 = some m.cls := hown
  have hg : ∀ w ∈ GOODS, w.before _ s = true := fun w h => hts w (List.mem_cons_of_mem _ h)
  have hl : lv_has ls 1 [(0, .ref h_this)] := hl
  refine lv_aload_n hx hb dX2_init_0 rfl (lv_at hl 0 rfl) ?_
  refine W.objInit hx hb hown (hg _ wd_1_195) (hg _ wd_1_24) (hg _ wd_1_25) rfl (by rw [hml]; exact hl.1) rfl dX2_init_1 (Nat.le_of_ble_eq_true rfl) (Nat.le_of_ble_eq_true rfl) ?_
  refine W.eq (g2 := F0 m 4 ls []) rfl ?_
  refine lv_aload_n hx hb dX2_init_4 rfl (lv_at hl 0 rfl) ?_
  refine lv_bipush (v := 13) hx hb dX2_init_5 (by decide) ?_
  refine wd_newI hx hb (hg _ wd_1_41) hc hA hW 13 (by decide) rfl (Nat.le_of_ble_eq_true rfl) (Nat.le_of_ble_eq_true rfl) (Nat.le_of_ble_eq_true rfl) dX2_init_7 (fun q7 H hW => ?_)
  have hW : Wd G A s.heap [(h_this, .inr (2, [.null, .null])), (q7, cI G 13 (fun _ => 0))] H locs := hW
  refine va_putF (D := G.1) (ci := 2) (v := .ref q7) (ty := (.array .int)) (C := RX2) (T := TX2) (N := 2) hx hb hg hu_X2 tyX2 tyX2_ok nmX2 hown hc.1 hW.1 hW.2.1 hW.2.2 0 rfl rfl 0 (by decide) (hg _ wd_1_196) (fun _ h9 => h9) rfl hin rfl (by decide +kernel) rfl rfl (Nat.le_of_ble_eq_true rfl) dX2_init_9 (fun H locs hP hD hS => ?_)
  have hW : Wd G A s.heap [(h_this, .inr (2, [.ref q7, .null])), (q7, cI G 13 (fun _ => 0))] H locs := ⟨hP, hD, hS⟩
  refine lv_aload_n hx hb dX2_init_12 rfl (lv_at hl 0 rfl) ?_
  refine lv_bipush (v := 13) hx hb dX2_init_13 (by decide) ?_
  refine wd_newI hx hb (hg _ wd_1_41) hc hA hW 13 (by decide) rfl (Nat.le_of_ble_eq_true rfl) (Nat.le_of_ble_eq_true rfl) (Nat.le_of_ble_eq_true rfl) dX2_init_15 (fun q15 H hW => ?_)
  have hW : Wd G A s.heap [(h_this, .inr (2, [.ref q7, .null])), (q7, cI G 13 (fun _ => 0)), (q15, cI G 13 (fun _ => 0))] H locs := hW
  refine va_putF (D := G.1) (ci := 2) (v := .ref q15) (ty := (.array .int)) (C := RX2) (T := TX2) (N := 2) hx hb hg hu_X2 tyX2 tyX2_ok nmX2 hown hc.1 hW.1 hW.2.1 hW.2.2 0 rfl rfl 1 (by decide) (hg _ wd_1_197) (fun _ h9 => h9) rfl hin rfl (by decide +kernel) rfl rfl (Nat.le_of_ble_eq_true rfl) dX2_init_17 (fun H locs hP hD hS => ?_)
  have hW : Wd G A s.heap [(h_this, .inr (2, [.ref q7, .ref q15])), (q7, cI G 13 (fun _ => 0)), (q15, cI G 13 (fun _ => 0))] H locs := ⟨hP, hD, hS⟩
  exact hret _ _ _ _ (fun k => [q7, q15].getD k 0) hW dX2_init_20
