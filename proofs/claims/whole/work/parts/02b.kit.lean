/-! own kit: the world of a method in one word, a contract in one word, a call and a start in one row -/
abbrev GG : Type := va_G × (ClassId × ClassId × ClassId)
def TY (G : GG) : List (ClassId × FieldType) := [(G.2.1, .int), (G.2.2.1, .long), (G.2.2.2, .byte)]
def nwL : List (String × Nat × MethodName) := [(RX0, 28, yX9_setsOf), (RX0, 63, yX9_holds), (RX3, 52, yX9_isWithin), (RX7, 39, yX9_setsOf), (RX7, 44, yX9_holds), (RX8, 112, yX9_holds), (RX9, 9, yX6_init), (RX9, 18, yX3_init), (RX9, 25, yX8_init), (RX9, 35, yX1_init), (RX9, 52, yX5_init), (RX9, 62, yX7_init), (RX9, 69, yX0_init), (RX9, 76, yX2_init)]
def nwAll (U : State) : Prop := ∀ q ∈ nwL, va_Nw (.methodLinkNest q.1 q.2.1 q.2.2 "WhaleTown") U
def ctx (G : GG) (U : State) : Prop := va_K G.1 vwCl (TY G) U ∧ nwAll U
theorem ctx.warm {G : GG} {s U : State} (h : ctx G s) (hW : s.WarmedH U.vm) : ctx G U := ⟨va_K.moved hW.alike h.1, fun q hq => va_Nw.warmM hW (h.2 q hq)⟩
theorem ctx.calling {G : GG} {U : State} {g : JFrame} {mk : MethodId} {a : Array Value} (h : ctx G U) : ctx G (U.calling g mk a) := ⟨va_K.moved (u := U) (U := U.calling g mk a) (Vm.Alike.refl U.vm) h.1, fun q hq => va_Nw.same rfl (rfl : U.vm = (U.calling g mk a).vm) (h.2 q hq)⟩
def Wd (G : GG) (A : Nat → Prop) (H0 : Heap) (ws : va_W) (H : Heap) (locs : List Loc) : Prop := va_P G.1 vwCl ws H ∧ va_D A ws ∧ va_S A H0 H locs
abbrev cI (G : GG) (n : Nat) (f : Nat → Int32) : va_E := .inl (G.2.1, n, .inl f)
abbrev cJ (G : GG) (n : Nat) (f : Nat → Int64) : va_E := .inl (G.2.2.1, n, .inr (.inl f))
abbrev cB (G : GG) (n : Nat) (f : Nat → Int32) : va_E := .inl (G.2.2.2, n, .inl f)
abbrev PcW (G : GG) (av : List Value) (ws : va_W) (sz : Nat) : Array Value → State → Prop := va_Pc av (fun U => U.heap.size = sz ∧ va_P G.1 vwCl ws U.heap ∧ ctx G U ∧ va_D (fun _ => True) ws)
abbrev QcI (G : GG) (wc w1 : va_W) (sz : Nat) (v : Int32) : Array Value → State → Outcome → State → Prop := va_Qi (fun (r : Int32) (_ : Unit) => r = v) (fun _ t => va_P G.1 vwCl w1 t.heap ∧ va_D (va_A wc sz) w1) (va_A wc sz)
abbrev QcZ (G : GG) (wc w1 : va_W) (sz : Nat) (v : Int32) : Array Value → State → Outcome → State → Prop := va_Qi (fun (r : Int32) (_ : Unit) => r = v ∧ (v = 0 ∨ v = 1)) (fun _ t => va_P G.1 vwCl w1 t.heap ∧ va_D (va_A wc sz) w1) (va_A wc sz)
abbrev QcJ (G : GG) (wc w1 : va_W) (sz : Nat) (v : Int64) : Array Value → State → Outcome → State → Prop := va_Ql (fun (r : Int64) (_ : Unit) => r = v) (fun _ t => va_P G.1 vwCl w1 t.heap ∧ va_D (va_A wc sz) w1) (va_A wc sz)
abbrev QcV (G : GG) (wc w1 : va_W) (sz : Nat) : Array Value → State → Outcome → State → Prop := va_Qv (fun (_ : Unit) => True) (fun _ t => va_P G.1 vwCl w1 t.heap ∧ va_D (va_A wc sz) w1) (va_A wc sz)
def CtrI (l : Launch) (y : MethodName) (ws : List Cond) (rm : Room) (G : GG) (av : List Value) (wc w1 : va_W) (v : Int32) : Prop := ∀ sz : Nat, Met l y ws rm (PcW G av wc sz) (QcI G wc w1 sz v) 0 0 (va_A wc sz)
def CtrZ (l : Launch) (y : MethodName) (ws : List Cond) (rm : Room) (G : GG) (av : List Value) (wc w1 : va_W) (v : Int32) : Prop := ∀ sz : Nat, Met l y ws rm (PcW G av wc sz) (QcZ G wc w1 sz v) 0 0 (va_A wc sz)
def CtrJ (l : Launch) (y : MethodName) (ws : List Cond) (rm : Room) (G : GG) (av : List Value) (wc w1 : va_W) (v : Int64) : Prop := ∀ sz : Nat, Met l y ws rm (PcW G av wc sz) (QcJ G wc w1 sz v) 0 0 (va_A wc sz)
def CtrV (l : Launch) (y : MethodName) (ws : List Cond) (rm : Room) (G : GG) (av : List Value) (wc w1 : va_W) : Prop := ∀ sz : Nat, Met l y ws rm (PcW G av wc sz) (QcV G wc w1 sz) 0 0 (va_A wc sz)
section KCALL
variable {p : Program} {l : Launch} {e : Env} {R : Room} {s : State} {m : MethodId} {args : Array Value} {below : List Frame} {meth : Method} {c : Code} {H : Heap} {locs : List Loc} {cells slots : Nat} {Q : State → Prop}
variable {cc : ByteArray} {pc : Nat} {ls : Array Slot} {rest : List Value} {A : Nat → Prop} {G : GG} {ws wc wr w1 ws' : va_W} {H0 : Heap} {st0 : List Value} {a : Array Value}
theorem Wd.back {H1 : Heap} {locs1 : List Loc} (hA : ∀ q, H0.size ≤ q → A q) (hW : Wd G A H0 ws H locs) (isC isR perm : List Nat) (hC : isC.map (fun i => ws[i]?) = wc.map some) (hR : isR.map (fun i => ws[i]?) = wr.map some) (hn : va_nd isR = true) (hdis : ∀ i ∈ isR, i ∉ isC) (hp : perm.map (fun i => (wr ++ w1)[i]?) = ws'.map some) (hpn : va_nd perm = true)
    (hk : ∀ q : Nat, q < H.size → ¬ va_A wc H.size q → H1[q]? = H[q]?) (hP1 : va_P G.1 vwCl w1 H1) (hD1 : va_D (va_A wc H.size) w1) (hS1 : va_S A H0 H1 locs1) : Wd G A H0 ws' H1 locs1 := by
  have hF := va_free (wc := wc) hW.2.1 hW.2.2 hA isC hC
  obtain ⟨hP, hD⟩ := va_join (wr := wr) (w1 := w1) hW.1 hW.2.1 isC isR hC hR hn hdis hk hF hP1 hD1
  have hp2 : perm.filterMap (fun i => (wr ++ w1)[i]?) = ws' := by
    have h3 : ∀ (l : List Nat) (w : va_W), l.map (fun i => (wr ++ w1)[i]?) = w.map some → l.filterMap (fun i => (wr ++ w1)[i]?) = w := by
      intro l
      induction l with
      | nil => intro w h; cases w with
        | nil => rfl
        | cons x xs => simp at h
      | cons i is ih => intro w h; cases w with
        | nil => simp at h
        | cons x xs =>
          simp only [List.map_cons, List.cons.injEq] at h
          simp only [List.filterMap_cons, h.1, ih xs h.2]
    exact h3 perm ws' hp
  exact ⟨hP.sub perm hp2, hD.sub perm hpn hp, hS1⟩
theorem wcI {v : Int32} (hr : va_Run p l e R s m args below meth c H locs cells slots 0 0 (F0 m pc ls st0) rest (QcI G wc w1 H.size v a) (va_A wc H.size)) (hA : ∀ q, H0.size ≤ q → A q) (hW : Wd G A H0 ws H locs) (isC isR perm : List Nat) (hC : isC.map (fun i => ws[i]?) = wc.map some) (hR : isR.map (fun i => ws[i]?) = wr.map some) (hn : va_nd isR = true) (hdis : ∀ i ∈ isR, i ∉ isC) (hp : perm.map (fun i => (wr ++ w1)[i]?) = ws'.map some) (hpn : va_nd perm = true)
    (kk : ∀ (H1 : Heap) (locs1 : List Loc), Wd G A H0 ws' H1 locs1 → W p l e R s m args below meth c H1 locs1 cells slots Q (F0 m (pc + 3) ls (.int v :: rest))) : W p l e R s m args below meth c H locs cells slots Q (F0 m pc ls st0) := by
  have hF := va_free (wc := wc) hW.2.1 hW.2.2 hA isC hC
  refine va_calli hr hW.2.2 (fun q _ h => hF q h) hF (fun r u t H1 locs1 ht hvm hw hB hz hk hS => ?_)
  subst hw
  exact kk H1 locs1 (Wd.back hA hW isC isR perm hC hR hn hdis hp hpn hk (by rw [← ht]; exact hB.1) hB.2 hS)
theorem wcZ {v : Int32} (hr : va_Run p l e R s m args below meth c H locs cells slots 0 0 (F0 m pc ls st0) rest (QcZ G wc w1 H.size v a) (va_A wc H.size)) (hA : ∀ q, H0.size ≤ q → A q) (hW : Wd G A H0 ws H locs) (isC isR perm : List Nat) (hC : isC.map (fun i => ws[i]?) = wc.map some) (hR : isR.map (fun i => ws[i]?) = wr.map some) (hn : va_nd isR = true) (hdis : ∀ i ∈ isR, i ∉ isC) (hp : perm.map (fun i => (wr ++ w1)[i]?) = ws'.map some) (hpn : va_nd perm = true)
    (kk : (v = 0 ∨ v = 1) → ∀ (H1 : Heap) (locs1 : List Loc), Wd G A H0 ws' H1 locs1 → W p l e R s m args below meth c H1 locs1 cells slots Q (F0 m (pc + 3) ls (.int v :: rest))) : W p l e R s m args below meth c H locs cells slots Q (F0 m pc ls st0) := by
  have hF := va_free (wc := wc) hW.2.1 hW.2.2 hA isC hC
  refine va_calli hr hW.2.2 (fun q _ h => hF q h) hF (fun r u t H1 locs1 ht hvm hw hB hz hk hS => ?_)
  obtain ⟨hw, hz01⟩ := hw
  subst hw
  exact kk hz01 H1 locs1 (Wd.back hA hW isC isR perm hC hR hn hdis hp hpn hk (by rw [← ht]; exact hB.1) hB.2 hS)
theorem wcJ {v : Int64} (hr : va_Run p l e R s m args below meth c H locs cells slots 0 0 (F0 m pc ls st0) rest (QcJ G wc w1 H.size v a) (va_A wc H.size)) (hA : ∀ q, H0.size ≤ q → A q) (hW : Wd G A H0 ws H locs) (isC isR perm : List Nat) (hC : isC.map (fun i => ws[i]?) = wc.map some) (hR : isR.map (fun i => ws[i]?) = wr.map some) (hn : va_nd isR = true) (hdis : ∀ i ∈ isR, i ∉ isC) (hp : perm.map (fun i => (wr ++ w1)[i]?) = ws'.map some) (hpn : va_nd perm = true)
    (kk : ∀ (H1 : Heap) (locs1 : List Loc), Wd G A H0 ws' H1 locs1 → W p l e R s m args below meth c H1 locs1 cells slots Q (F0 m (pc + 3) ls (.long v :: rest))) : W p l e R s m args below meth c H locs cells slots Q (F0 m pc ls st0) := by
  have hF := va_free (wc := wc) hW.2.1 hW.2.2 hA isC hC
  refine va_calll hr hW.2.2 (fun q _ h => hF q h) hF (fun r u t H1 locs1 ht hvm hw hB hz hk hS => ?_)
  subst hw
  exact kk H1 locs1 (Wd.back hA hW isC isR perm hC hR hn hdis hp hpn hk (by rw [← ht]; exact hB.1) hB.2 hS)
theorem wcV (hr : va_Run p l e R s m args below meth c H locs cells slots 0 0 (F0 m pc ls st0) rest (QcV G wc w1 H.size a) (va_A wc H.size)) (hA : ∀ q, H0.size ≤ q → A q) (hW : Wd G A H0 ws H locs) (isC isR perm : List Nat) (hC : isC.map (fun i => ws[i]?) = wc.map some) (hR : isR.map (fun i => ws[i]?) = wr.map some) (hn : va_nd isR = true) (hdis : ∀ i ∈ isR, i ∉ isC) (hp : perm.map (fun i => (wr ++ w1)[i]?) = ws'.map some) (hpn : va_nd perm = true)
    (kk : ∀ (H1 : Heap) (locs1 : List Loc), Wd G A H0 ws' H1 locs1 → W p l e R s m args below meth c H1 locs1 cells slots Q (F0 m (pc + 3) ls rest)) : W p l e R s m args below meth c H locs cells slots Q (F0 m pc ls st0) := by
  have hF := va_free (wc := wc) hW.2.1 hW.2.2 hA isC hC
  refine va_callv hr hW.2.2 (fun q _ h => hF q h) hF (fun u t H1 locs1 ht hvm hw hB hz hk hS => ?_)
  exact kk H1 locs1 (Wd.back hA hW isC isR perm hC hR hn hdis hp hpn hk (by rw [← ht]; exact hB.1) hB.2 hS)
theorem sub_fm {ws wc : va_W} {isC : List Nat} (hC : isC.map (fun i => ws[i]?) = wc.map some) : isC.filterMap (fun i => ws[i]?) = wc := by
  have h3 : ∀ (l : List Nat) (w : va_W), l.map (fun i => ws[i]?) = w.map some → l.filterMap (fun i => ws[i]?) = w := by
    intro l
    induction l with
    | nil => intro w h; cases w with
      | nil => rfl
      | cons x xs => simp at h
    | cons i is ih => intro w h; cases w with
      | nil => simp at h
      | cons x xs =>
        simp only [List.map_cons, List.cons.injEq] at h
        simp only [List.filterMap_cons, h.1, ih xs h.2]
  exact h3 isC wc hC
theorem fblind (av : List Value) (sz : Nat) : FrameBlind (PcW G av wc sz) := fun a U g mk q => by
  obtain ⟨q0, q1, qP, qK, qD⟩ := q
  exact ⟨q0, q1, qP, qK.calling, qD⟩
theorem preS {As : List Value} (hc : ctx G s) (hW : Wd G A H0 ws H locs) (isC : List Nat) (hC : isC.map (fun i => ws[i]?) = wc.map some) (hn : va_nd isC = true) : PreS s H (PcW G As wc H.size) As :=
  ⟨fblind As H.size, fun U hU hW' => ⟨rfl, by rw [hU], by rw [hU]; exact hW.1.sub isC (sub_fm hC), hc.warm hW', (hW.2.1.sub isC hn hC).weaken (fun _ _ _ _ => trivial)⟩⟩
theorem preV {C : String} {b : Addr} {As : List Value} {T : u_T} {N ci : Nat} {fs : List Value} (hc : ctx G s) (hW : Wd G A H0 ws H locs) (isC : List Nat) (hC : isC.map (fun i => ws[i]?) = wc.map some) (hn : va_nd isC = true) (hb : wc[0]? = some (b, .inr (ci, fs))) (hci : vwCl[ci]? = some (C, T, N)) : PreV s H C b (PcW G (.ref b :: As) wc H.size) As :=
  ⟨fblind (.ref b :: As) H.size, va_recv (q := (C, T, N)) hc.1 (hW.1.sub isC (sub_fm hC)) hci (q0 := 0) hb, fun U hU hW' => ⟨rfl, by rw [hU], by rw [hU]; exact hW.1.sub isC (sub_fm hC), hc.warm hW', (hW.2.1.sub isC hn hC).weaken (fun _ _ _ _ => trivial)⟩⟩
end KCALL
section KSTART
variable {l : Launch} {y : MethodName} {ws ws' : List Cond} {cc : ByteArray} {maxL : Nat} {G : GG} {av : List Value} {wc w1 : va_W} {rm : Room}
theorem startI {v : Int32} (hy : plainName y.cls = true) (hw : ws = Cond.code y cc maxL (some .int) :: ws') (hlen : (lg_sl av).length ≤ maxL)
    (body : ∀ (p : Program) (e : Env) (s : State) (m : MethodId) (args : Array Value) (below : List Frame) (meth : Method) (c : Code) (A : Nat → Prop) (Q : State → Prop), p.tables.exec = Jvm.exec → c.code = cc → c.maxLocals = maxL → (∀ w ∈ ws, w.before args s = true) → s.vm.findClass y.cls = some m.cls → ctx G s → (∀ q, s.heap.size ≤ q → A q) →
      (∀ (pc : Nat) (ls : Array Slot) (H : Heap) (locs : List Loc), Wd G A s.heap w1 H locs → decode cc pc = .ok (.ireturn, 1) → W p l e rm s m args below meth c H locs 0 0 Q (F0 m pc ls [.int v])) →
      ∀ (ls : Array Slot) (H : Heap) (locs : List Loc), lv_has ls maxL (lv_args 0 av) → Wd G A s.heap wc H locs → W p l e rm s m args below meth c H locs 0 0 Q (F0 m 0 ls [])) : CtrI l y ws rm G av wc w1 v := by
  intro sz
  refine Met.ofW (cc := cc) (maxL := maxL) (ret := some .int) hy hw ?_
  intro p e s m args below meth c s₁ B hml hv
  obtain ⟨rfl, hsz, hP, hK, hD0⟩ := hv
  subst hsz
  have hlocks := B.notSynchronized
  have hr := B.returns
  rw [lg_entry_eq]
  refine body p e s m av.toArray below meth c (va_A wc s.heap.size) _ B.exec B.bytes hml (atoms_spec (ws := ws) B.pre) (findClass_of_methodNamed B.named) hK (fun q h => Or.inr h) ?_ _ _ _ (lv_entry av hlen) ⟨hP, hD0.self, va_S.rf⟩
  intro pc ls H locs hW hdg
  exact W.iret B.exec B.bytes hr (fun t ht hWm => ⟨⟨v, (), rfl, rfl, by rw [ht]; exact hW.1, hW.2.1⟩, hW.2.2.F ht⟩) hW.2.2.2.2 hdg
theorem startZ {v : Int32} (hy : plainName y.cls = true) (hw : ws = Cond.code y cc maxL (some .boolean) :: ws') (hlen : (lg_sl av).length ≤ maxL)
    (body : ∀ (p : Program) (e : Env) (s : State) (m : MethodId) (args : Array Value) (below : List Frame) (meth : Method) (c : Code) (A : Nat → Prop) (Q : State → Prop), p.tables.exec = Jvm.exec → c.code = cc → c.maxLocals = maxL → (∀ w ∈ ws, w.before args s = true) → s.vm.findClass y.cls = some m.cls → ctx G s → (∀ q, s.heap.size ≤ q → A q) →
      (∀ (pc : Nat) (ls : Array Slot) (H : Heap) (locs : List Loc), Wd G A s.heap w1 H locs → (v = 0 ∨ v = 1) → decode cc pc = .ok (.ireturn, 1) → W p l e rm s m args below meth c H locs 0 0 Q (F0 m pc ls [.int v])) →
      ∀ (ls : Array Slot) (H : Heap) (locs : List Loc), lv_has ls maxL (lv_args 0 av) → Wd G A s.heap wc H locs → W p l e rm s m args below meth c H locs 0 0 Q (F0 m 0 ls [])) : CtrZ l y ws rm G av wc w1 v := by
  intro sz
  refine Met.ofW (cc := cc) (maxL := maxL) (ret := some .boolean) hy hw ?_
  intro p e s m args below meth c s₁ B hml hv
  obtain ⟨rfl, hsz, hP, hK, hD0⟩ := hv
  subst hsz
  have hlocks := B.notSynchronized
  have hr := B.returns
  rw [lg_entry_eq]
  refine body p e s m av.toArray below meth c (va_A wc s.heap.size) _ B.exec B.bytes hml (atoms_spec (ws := ws) B.pre) (findClass_of_methodNamed B.named) hK (fun q h => Or.inr h) ?_ _ _ _ (lv_entry av hlen) ⟨hP, hD0.self, va_S.rf⟩
  intro pc ls H locs hW h01 hdg
  exact W.zret (ty := .boolean) B.exec B.bytes hr (by rcases h01 with h | h <;> rw [h] <;> rfl) (fun t ht hWm => ⟨⟨v, (), rfl, ⟨rfl, h01⟩, by rw [ht]; exact hW.1, hW.2.1⟩, hW.2.2.F ht⟩) hW.2.2.2.2 hdg
theorem startJ {v : Int64} (hy : plainName y.cls = true) (hw : ws = Cond.code y cc maxL (some .long) :: ws') (hlen : (lg_sl av).length ≤ maxL)
    (body : ∀ (p : Program) (e : Env) (s : State) (m : MethodId) (args : Array Value) (below : List Frame) (meth : Method) (c : Code) (A : Nat → Prop) (Q : State → Prop), p.tables.exec = Jvm.exec → c.code = cc → c.maxLocals = maxL → (∀ w ∈ ws, w.before args s = true) → s.vm.findClass y.cls = some m.cls → ctx G s → (∀ q, s.heap.size ≤ q → A q) →
      (∀ (pc : Nat) (ls : Array Slot) (H : Heap) (locs : List Loc), Wd G A s.heap w1 H locs → decode cc pc = .ok (.lreturn, 1) → W p l e rm s m args below meth c H locs 0 0 Q (F0 m pc ls [.long v])) →
      ∀ (ls : Array Slot) (H : Heap) (locs : List Loc), lv_has ls maxL (lv_args 0 av) → Wd G A s.heap wc H locs → W p l e rm s m args below meth c H locs 0 0 Q (F0 m 0 ls [])) : CtrJ l y ws rm G av wc w1 v := by
  intro sz
  refine Met.ofW (cc := cc) (maxL := maxL) (ret := some .long) hy hw ?_
  intro p e s m args below meth c s₁ B hml hv
  obtain ⟨rfl, hsz, hP, hK, hD0⟩ := hv
  subst hsz
  have hlocks := B.notSynchronized
  have hr := B.returns
  rw [lg_entry_eq]
  refine body p e s m av.toArray below meth c (va_A wc s.heap.size) _ B.exec B.bytes hml (atoms_spec (ws := ws) B.pre) (findClass_of_methodNamed B.named) hK (fun q h => Or.inr h) ?_ _ _ _ (lv_entry av hlen) ⟨hP, hD0.self, va_S.rf⟩
  intro pc ls H locs hW hdg
  exact W.lret B.exec B.bytes hr (fun t ht hWm => ⟨⟨v, (), rfl, rfl, by rw [ht]; exact hW.1, hW.2.1⟩, hW.2.2.F ht⟩) hW.2.2.2.2 hdg
theorem startV (hy : plainName y.cls = true) (hw : ws = Cond.code y cc maxL none :: ws') (hlen : (lg_sl av).length ≤ maxL)
    (body : ∀ (p : Program) (e : Env) (s : State) (m : MethodId) (args : Array Value) (below : List Frame) (meth : Method) (c : Code) (A : Nat → Prop) (Q : State → Prop), p.tables.exec = Jvm.exec → c.code = cc → c.maxLocals = maxL → (∀ w ∈ ws, w.before args s = true) → s.vm.findClass y.cls = some m.cls → ctx G s → (∀ q, s.heap.size ≤ q → A q) →
      (∀ (pc : Nat) (ls : Array Slot) (H : Heap) (locs : List Loc), Wd G A s.heap w1 H locs → decode cc pc = .ok (.return_, 1) → W p l e rm s m args below meth c H locs 0 0 Q (F0 m pc ls [])) →
      ∀ (ls : Array Slot) (H : Heap) (locs : List Loc), lv_has ls maxL (lv_args 0 av) → Wd G A s.heap wc H locs → W p l e rm s m args below meth c H locs 0 0 Q (F0 m 0 ls [])) : CtrV l y ws rm G av wc w1 := by
  intro sz
  refine Met.ofW (cc := cc) (maxL := maxL) (ret := none) hy hw ?_
  intro p e s m args below meth c s₁ B hml hv
  obtain ⟨rfl, hsz, hP, hK, hD0⟩ := hv
  subst hsz
  have hlocks := B.notSynchronized
  have hr := B.returns
  rw [lg_entry_eq]
  refine body p e s m av.toArray below meth c (va_A wc s.heap.size) _ B.exec B.bytes hml (atoms_spec (ws := ws) B.pre) (findClass_of_methodNamed B.named) hK (fun q h => Or.inr h) ?_ _ _ _ (lv_entry av hlen) ⟨hP, hD0.self, va_S.rf⟩
  intro pc ls H locs hW hdg
  exact W.vret B.exec B.bytes hr (fun t ht hWm => ⟨⟨(), rfl, trivial, by rw [ht]; exact hW.1, hW.2.1⟩, hW.2.2.F ht⟩) hW.2.2.2.2 hdg
end KSTART
/-! the pure words of the walked programs: a check, a join -/
def inb (i : Int32) (n : Nat) : Bool := decide (¬ (i < 0 ∨ n ≤ i.toNatClampNeg))
theorem inb_el {O : Type} {i : Int32} {n : Nat} {e : Option O} {o : O} (h : (if inb i n = true then e else none) = some o) : vp_in i n ∧ e = some o := by
  by_cases hi : inb i n = true
  · rw [if_pos hi] at h; exact ⟨(of_decide_eq_true (p := ¬ (i < 0 ∨ n ≤ i.toNatClampNeg)) hi : _), h⟩
  · rw [if_neg hi] at h; cases h
theorem nz_el {O : Type} {y : Int32} {e : Option O} {o : O} (h : (if y = 0 then none else e) = some o) : ¬ y = 0 ∧ e = some o := by
  by_cases hi : y = 0
  · rw [if_pos hi] at h; cases h
  · rw [if_neg hi] at h; exact ⟨hi, h⟩
theorem nzl_el {O : Type} {y : Int64} {e : Option O} {o : O} (h : (if y = 0 then none else e) = some o) : ¬ y = 0 ∧ e = some o := by
  by_cases hi : y = 0
  · rw [if_pos hi] at h; cases h
  · rw [if_neg hi] at h; exact ⟨hi, h⟩
theorem bd_el {B O : Type} {x : Option B} {f : B → Option O} {o : O} (h : x.bind f = some o) : ∃ q, x = some q ∧ f q = some o := by
  cases x with
  | none => cases h
  | some q => exact ⟨q, rfl, h⟩
def jn {α O : Type} (k : α) (f : α → O) : O := f k
theorem jn_el {α O : Type} {k : α} {f : α → O} {o : O} (h : jn k f = o) : ∃ k', k' = k ∧ f k' = o := ⟨k, rfl, h⟩
theorem ite_t {O : Type} {c : Prop} [Decidable c] {a b : Option O} {o : O} (h : (if c then a else b) = some o) (hc : c) : a = some o := by rw [if_pos hc] at h; exact h
theorem ite_f {O : Type} {c : Prop} [Decidable c] {a b : Option O} {o : O} (h : (if c then a else b) = some o) (hc : ¬ c) : b = some o := by rw [if_neg hc] at h; exact h
theorem bool_nar {v : Int32} (h : v = 0 ∨ v = 1) : narrow .boolean (.int v) = .int v := by rcases h with h | h <;> rw [h] <;> rfl
theorem bool_fit {v : Int32} (h : v = 0 ∨ v = 1) : fits .boolean (.int v) = true := by rcases h with h | h <;> rw [h] <;> rfl
theorem i32_ne {x c : Int32} {k : Int} (hc : c.toInt = k) (h : ¬ x = c) : ¬ (k = x.toInt) := fun e => h (Int32.toInt_inj.mp (by rw [hc]; exact e.symm))
abbrev oX0 (ad : Nat → Nat) (v_boats : Int32) : va_E := .inr (0, [.ref (ad 0), .ref (ad 1), .int v_boats])
abbrev oX1 (ad : Nat → Nat) (v_days : Int32) : va_E := .inr (1, [.ref (ad 0), .ref (ad 1), .int v_days])
abbrev oX2 (ad : Nat → Nat)  : va_E := .inr (2, [.ref (ad 0), .ref (ad 1)])
abbrev oX3 (ad : Nat → Nat) (v_numberCount : Int32) (v_letter : Int32) (v_end : Int32) : va_E := .inr (3, [.ref (ad 0), .int v_numberCount, .int v_letter, .int v_end])
abbrev oX5 (ad : Nat → Nat) (v_turned : Int64) : va_E := .inr (4, [.ref (ad 0), .ref (ad 1), .long v_turned])
abbrev oX6 (ad : Nat → Nat) (v_length : Int32) : va_E := .inr (5, [.ref (ad 0), .int v_length])
abbrev oX7 (ad : Nat → Nat) (v_pairs : Int32) : va_E := .inr (6, [.ref (ad 0), .ref (ad 1), .ref (ad 2), .int v_pairs])
abbrev oX8 (ad : Nat → Nat) (v_signCount : Int32) (v_houseCount : Int32) (v_boatCount : Int32) (v_workCount : Int32) (v_turnCost : Int32) (v_boatDayCost : Int32) : va_E := .inr (7, [.ref (ad 0), .ref (ad 1), .ref (ad 2), .ref (ad 3), .ref (ad 4), .ref (ad 5), .ref (ad 6), .int v_signCount, .int v_houseCount, .int v_boatCount, .int v_workCount, .int v_turnCost, .int v_boatDayCost])
abbrev oX9 (ad : Nat → Nat) (v_keptCount : Int32) : va_E := .inr (8, [.ref (ad 0), .ref (ad 1), .ref (ad 2), .ref (ad 3), .ref (ad 4), .ref (ad 5), .ref (ad 6), .int v_keptCount, .ref (ad 8), .ref (ad 9), .ref (ad 10), .ref (ad 11), .ref (ad 12)])
abbrev oX9h (ad : Nat → Nat) (v_keptCount : Int32) : va_E := .inr (8, [.ref (ad 0), .ref (ad 1), .ref (ad 3), .ref (ad 3), .ref (ad 4), .ref (ad 5), .ref (ad 6), .int v_keptCount, .ref (ad 8), .ref (ad 9), .ref (ad 10), .ref (ad 11), .ref (ad 12)])
abbrev oX9w (ad : Nat → Nat) (sw : Bool) (v_keptCount : Int32) : va_E := .inr (8, [.ref (ad 0), .ref (ad 1), .ref (bif sw then ad 3 else ad 2), .ref (bif sw then ad 2 else ad 3), .ref (ad 4), .ref (ad 5), .ref (ad 6), .int v_keptCount, .ref (ad 8), .ref (ad 9), .ref (ad 10), .ref (ad 11), .ref (ad 12)])
abbrev oX10 (ad : Nat → Nat) (v_typed : Int32) (v_at : Int32) (v_isSo : Int32) (v_kept : Int32) (v_all : Int64) (v_sightAll : Int64) (v_aheadMany : Int32) : va_E := .inr (9, [.ref (ad 0), .int v_typed, .ref (ad 2), .ref (ad 3), .ref (ad 4), .ref (ad 5), .ref (ad 6), .ref (ad 7), .ref (ad 8), .ref (ad 9), .ref (ad 10), .ref (ad 11), .ref (ad 12), .ref (ad 13), .int v_at, .int v_isSo, .ref (ad 16), .ref (ad 17), .ref (ad 18), .int v_kept, .ref (ad 20), .ref (ad 21), .long v_all, .ref (ad 23), .long v_sightAll, .ref (ad 25), .ref (ad 26), .ref (ad 27), .ref (ad 28), .int v_aheadMany, .ref (ad 30)])
