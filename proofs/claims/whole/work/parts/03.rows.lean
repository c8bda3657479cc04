theorem dX4_at_0 : decode cX4_at 0 = .ok (.aload_n 0, 1) := by decide +kernel
theorem dX4_at_1 : decode cX4_at 1 = .ok (.ifnull 19, 3) := by decide +kernel
theorem dX4_at_4 : decode cX4_at 4 = .ok (.iload_n 1, 1) := by decide +kernel
theorem dX4_at_5 : decode cX4_at 5 = .ok (.ifCond .lt 15, 3) := by decide +kernel
theorem dX4_at_8 : decode cX4_at 8 = .ok (.iload_n 1, 1) := by decide +kernel
theorem dX4_at_9 : decode cX4_at 9 = .ok (.aload_n 0, 1) := by decide +kernel
theorem dX4_at_10 : decode cX4_at 10 = .ok (.arraylength, 1) := by decide +kernel
theorem dX4_at_11 : decode cX4_at 11 = .ok (.if_icmp .ge 9, 3) := by decide +kernel
theorem dX4_at_14 : decode cX4_at 14 = .ok (.aload_n 0, 1) := by decide +kernel
theorem dX4_at_15 : decode cX4_at 15 = .ok (.iload_n 1, 1) := by decide +kernel
theorem dX4_at_16 : decode cX4_at 16 = .ok (.iaload, 1) := by decide +kernel
theorem dX4_at_17 : decode cX4_at 17 = .ok (.goto 4, 3) := by decide +kernel
theorem dX4_at_20 : decode cX4_at 20 = .ok (.iconst 0, 1) := by decide +kernel
theorem dX4_at_21 : decode cX4_at 21 = .ok (.ireturn, 1) := by decide +kernel
def F_X4_at (x1 : Int32) (n_p0 : Nat) (a_p0 : Nat → Int32) : Option (Int32) := (if x1 < 0 then some (0) else (if (nI n_p0) ≤ x1 then some (0) else (if inb x1 n_p0 = true then some ((a_p0 (Int32.toNatClampNeg x1))) else none)))
theorem hdS_X4_at : yX4_at.cls ≠ "java/lang/invoke/MethodHandle" ∧ yX4_at.cls ≠ "java/lang/invoke/VarHandle" ∧ (parseMethodDescriptor yX4_at.desc).map (fun d => d.parameters.length) = some 2 := by decide +kernel
set_option maxHeartbeats 4000000 in
set_option maxRecDepth 100000 in
theorem c_X4_at (l : Launch) (G : GG) (x1 : Int32) (n_p0 : Nat) (h_p0 : Nat) (a_p0 : Nat → Int32) (out : Int32) (hF : F_X4_at x1 n_p0 a_p0 = some out) : CtrI l yX4_at (WS yX4_at cX4_at 2 (some .int)) { frames := 0, cells := 0, slots := 0, locals := 0 } G [.ref h_p0, .int x1] [(h_p0, cI G n_p0 a_p0)] [(h_p0, cI G n_p0 a_p0)] out := by
  refine startI (cc := cX4_at) (maxL := 2) (by decide) rfl (Nat.le_of_ble_eq_true rfl) ?_
  intro p e s m args below meth c A Q hx hb hml hts hown hc hA hret ls H locs hl hW
  have hown : s.vm.findClass RX4 = some m.cls := hown
  have hg : ∀ w ∈ GOODS, w.before _ s = true := fun w h => hts w (List.mem_cons_of_mem _ h)
  have hl : lv_has ls 2 [(0, .ref h_p0), (1, .int x1)] := hl
  rw [F_X4_at] at hF
  refine lv_aload_n hx hb dX4_at_0 rfl (lv_at hl 0 rfl) ?_
  refine lv_ifnull hx hb dX4_at_1 ?_
  refine lv_iload_n hx hb dX4_at_4 rfl (lv_at hl 1 rfl) ?_
  refine lv_if_lt (tgt := 20) hx hb dX4_at_5 (by decide) (fun c_5 => ?_) (fun c_5 => ?_)
  · have hF := ite_t hF c_5
    refine lv_iconst (v := 0) hx hb dX4_at_20 (by decide) ?_
    obtain rfl := Option.some.inj hF
    exact hret _ _ _ _ hW dX4_at_21
  · have hF := ite_f hF c_5
    refine lv_iload_n hx hb dX4_at_8 rfl (lv_at hl 1 rfl) ?_
    refine lv_aload_n hx hb dX4_at_9 rfl (lv_at hl 0 rfl) ?_
    refine va_alen (v := (nI n_p0)) hx hb hc.1 hW.1 0 0 rfl rfl rfl dX4_at_10 ?_
    refine lv_icmp_ge (tgt := 20) hx hb dX4_at_11 (by decide) (fun c_11 => ?_) (fun c_11 => ?_)
    · have hF := ite_t hF c_11
      refine lv_iconst (v := 0) hx hb dX4_at_20 (by decide) ?_
      obtain rfl := Option.some.inj hF
      exact hret _ _ _ _ hW dX4_at_21
    · have hF := ite_f hF c_11
      refine lv_aload_n hx hb dX4_at_14 rfl (lv_at hl 0 rfl) ?_
      refine lv_iload_n hx hb dX4_at_15 rfl (lv_at hl 1 rfl) ?_
      obtain ⟨b_16, hF⟩ := inb_el hF
      refine va_iald hx hb hc.1 hW.1 0 0 rfl rfl b_16 dX4_at_16 ?_
      refine lv_goto (tgt := 21) hx hb dX4_at_17 (by decide) ?_
      obtain rfl := Option.some.inj hF
      exact hret _ _ _ _ hW dX4_at_21
theorem dX4_put_0 : decode cX4_put 0 = .ok (.aload_n 0, 1) := by decide +kernel
theorem dX4_put_1 : decode cX4_put 1 = .ok (.ifnull 17, 3) := by decide +kernel
theorem dX4_put_4 : decode cX4_put 4 = .ok (.iload_n 1, 1) := by decide +kernel
theorem dX4_put_5 : decode cX4_put 5 = .ok (.ifCond .lt 13, 3) := by decide +kernel
theorem dX4_put_8 : decode cX4_put 8 = .ok (.iload_n 1, 1) := by decide +kernel
theorem dX4_put_9 : decode cX4_put 9 = .ok (.aload_n 0, 1) := by decide +kernel
theorem dX4_put_10 : decode cX4_put 10 = .ok (.arraylength, 1) := by decide +kernel
theorem dX4_put_11 : decode cX4_put 11 = .ok (.if_icmp .ge 7, 3) := by decide +kernel
theorem dX4_put_14 : decode cX4_put 14 = .ok (.aload_n 0, 1) := by decide +kernel
theorem dX4_put_15 : decode cX4_put 15 = .ok (.iload_n 1, 1) := by decide +kernel
theorem dX4_put_16 : decode cX4_put 16 = .ok (.iload_n 2, 1) := by decide +kernel
theorem dX4_put_17 : decode cX4_put 17 = .ok (.iastore, 1) := by decide +kernel
theorem dX4_put_18 : decode cX4_put 18 = .ok (.return_, 1) := by decide +kernel
def F_X4_put (x1 : Int32) (x2 : Int32) (n_p0 : Nat) (a_p0 : Nat → Int32) : Option ((Nat → Int32)) := (if x1 < 0 then some (a_p0) else (if (nI n_p0) ≤ x1 then some (a_p0) else (if inb x1 n_p0 = true then some ((upd a_p0 (Int32.toNatClampNeg x1) x2)) else none)))
theorem hdS_X4_put : yX4_put.cls ≠ "java/lang/invoke/MethodHandle" ∧ yX4_put.cls ≠ "java/lang/invoke/VarHandle" ∧ (parseMethodDescriptor yX4_put.desc).map (fun d => d.parameters.length) = some 3 := by decide +kernel
set_option maxHeartbeats 4000000 in
set_option maxRecDepth 100000 in
theorem c_X4_put (l : Launch) (G : GG) (x1 : Int32) (x2 : Int32) (n_p0 : Nat) (h_p0 : Nat) (a_p0 : Nat → Int32) (out : (Nat → Int32)) (hF : F_X4_put x1 x2 n_p0 a_p0 = some out) : CtrV l yX4_put (WS yX4_put cX4_put 3 none) { frames := 0, cells := 0, slots := 0, locals := 0 } G [.ref h_p0, .int x1, .int x2] [(h_p0, cI G n_p0 a_p0)] [(h_p0, cI G n_p0 out)] := by
  refine startV (cc := cX4_put) (maxL := 3) (by decide) rfl (Nat.le_of_ble_eq_true rfl) ?_
  intro p e s m args below meth c A Q hx hb hml hts hown hc hA hret ls H locs hl hW
  have hown : s.vm.findClass RX4 = some m.cls := hown
  have hg : ∀ w ∈ GOODS, w.before _ s = true := fun w h => hts w (List.mem_cons_of_mem _ h)
  have hl : lv_has ls 3 [(0, .ref h_p0), (1, .int x1), (2, .int x2)] := hl
  rw [F_X4_put] at hF
  refine lv_aload_n hx hb dX4_put_0 rfl (lv_at hl 0 rfl) ?_
  refine lv_ifnull hx hb dX4_put_1 ?_
  refine lv_iload_n hx hb dX4_put_4 rfl (lv_at hl 1 rfl) ?_
  refine lv_if_lt (tgt := 18) hx hb dX4_put_5 (by decide) (fun c_5 => ?_) (fun c_5 => ?_)
  · have hF := ite_t hF c_5
    obtain rfl := Option.some.inj hF
    exact hret _ _ _ _ hW dX4_put_18
  · have hF := ite_f hF c_5
    refine lv_iload_n hx hb dX4_put_8 rfl (lv_at hl 1 rfl) ?_
    refine lv_aload_n hx hb dX4_put_9 rfl (lv_at hl 0 rfl) ?_
    refine va_alen (v := (nI n_p0)) hx hb hc.1 hW.1 0 0 rfl rfl rfl dX4_put_10 ?_
    refine lv_icmp_ge (tgt := 18) hx hb dX4_put_11 (by decide) (fun c_11 => ?_) (fun c_11 => ?_)
    · have hF := ite_t hF c_11
      obtain rfl := Option.some.inj hF
      exact hret _ _ _ _ hW dX4_put_18
    · have hF := ite_f hF c_11
      refine lv_aload_n hx hb dX4_put_14 rfl (lv_at hl 0 rfl) ?_
      refine lv_iload_n hx hb dX4_put_15 rfl (lv_at hl 1 rfl) ?_
      refine lv_iload_n hx hb dX4_put_16 rfl (lv_at hl 2 rfl) ?_
      obtain ⟨b_17, hF⟩ := inb_el hF
      refine va_iast hx hb hc.1 hW.1 hW.2.1 hW.2.2 0 0 rfl rfl b_17 dX4_put_17 (fun H locs hP hD hS => ?_)
      have hW : Wd G A s.heap [(h_p0, cI G n_p0 ((upd a_p0 (Int32.toNatClampNeg x1) x2)))] H locs := ⟨hP, hD, hS⟩
      obtain rfl := Option.some.inj hF
      exact hret _ _ _ _ hW dX4_put_18
theorem dX4_longAt_0 : decode cX4_longAt 0 = .ok (.aload_n 0, 1) := by decide +kernel
theorem dX4_longAt_1 : decode cX4_longAt 1 = .ok (.ifnull 19, 3) := by decide +kernel
theorem dX4_longAt_4 : decode cX4_longAt 4 = .ok (.iload_n 1, 1) := by decide +kernel
theorem dX4_longAt_5 : decode cX4_longAt 5 = .ok (.ifCond .lt 15, 3) := by decide +kernel
theorem dX4_longAt_8 : decode cX4_longAt 8 = .ok (.iload_n 1, 1) := by decide +kernel
theorem dX4_longAt_9 : decode cX4_longAt 9 = .ok (.aload_n 0, 1) := by decide +kernel
theorem dX4_longAt_10 : decode cX4_longAt 10 = .ok (.arraylength, 1) := by decide +kernel
theorem dX4_longAt_11 : decode cX4_longAt 11 = .ok (.if_icmp .ge 9, 3) := by decide +kernel
theorem dX4_longAt_14 : decode cX4_longAt 14 = .ok (.aload_n 0, 1) := by decide +kernel
theorem dX4_longAt_15 : decode cX4_longAt 15 = .ok (.iload_n 1, 1) := by decide +kernel
theorem dX4_longAt_16 : decode cX4_longAt 16 = .ok (.laload, 1) := by decide +kernel
theorem dX4_longAt_17 : decode cX4_longAt 17 = .ok (.goto 4, 3) := by decide +kernel
theorem dX4_longAt_20 : decode cX4_longAt 20 = .ok (.lconst 0, 1) := by decide +kernel
theorem dX4_longAt_21 : decode cX4_longAt 21 = .ok (.lreturn, 1) := by decide +kernel
def F_X4_longAt (x1 : Int32) (n_p0 : Nat) (a_p0 : Nat → Int64) : Option (Int64) := (if x1 < 0 then some (0) else (if (nI n_p0) ≤ x1 then some (0) else (if inb x1 n_p0 = true then some ((a_p0 (Int32.toNatClampNeg x1))) else none)))
theorem hdS_X4_longAt : yX4_longAt.cls ≠ "java/lang/invoke/MethodHandle" ∧ yX4_longAt.cls ≠ "java/lang/invoke/VarHandle" ∧ (parseMethodDescriptor yX4_longAt.desc).map (fun d => d.parameters.length) = some 2 := by decide +kernel
set_option maxHeartbeats 4000000 in
set_option maxRecDepth 100000 in
theorem c_X4_longAt (l : Launch) (G : GG) (x1 : Int32) (n_p0 : Nat) (h_p0 : Nat) (a_p0 : Nat → Int64) (out : Int64) (hF : F_X4_longAt x1 n_p0 a_p0 = some out) : CtrJ l yX4_longAt (WS yX4_longAt cX4_longAt 2 (some .long)) { frames := 0, cells := 0, slots := 0, locals := 0 } G [.ref h_p0, .int x1] [(h_p0, cJ G n_p0 a_p0)] [(h_p0, cJ G n_p0 a_p0)] out := by
  refine startJ (cc := cX4_longAt) (maxL := 2) (by decide) rfl (Nat.le_of_ble_eq_true rfl) ?_
  intro p e s m args below meth c A Q hx hb hml hts hown hc hA hret ls H locs hl hW
  have hown : s.vm.findClass RX4 = some m.cls := hown
  have hg : ∀ w ∈ GOODS, w.before _ s = true := fun w h => hts w (List.mem_cons_of_mem _ h)
  have hl : lv_has ls 2 [(0, .ref h_p0), (1, .int x1)] := hl
  rw [F_X4_longAt] at hF
  refine lv_aload_n hx hb dX4_longAt_0 rfl (lv_at hl 0 rfl) ?_
  refine lv_ifnull hx hb dX4_longAt_1 ?_
  refine lv_iload_n hx hb dX4_longAt_4 rfl (lv_at hl 1 rfl) ?_
  refine lv_if_lt (tgt := 20) hx hb dX4_longAt_5 (by decide) (fun c_5 => ?_) (fun c_5 => ?_)
  · have hF := ite_t hF c_5
    refine lv_lconst (v := 0) hx hb dX4_longAt_20 (by decide) ?_
    obtain rfl := Option.some.inj hF
    exact hret _ _ _ _ hW dX4_longAt_21
  · have hF := ite_f hF c_5
    refine lv_iload_n hx hb dX4_longAt_8 rfl (lv_at hl 1 rfl) ?_
    refine lv_aload_n hx hb dX4_longAt_9 rfl (lv_at hl 0 rfl) ?_
    refine va_alen (v := (nI n_p0)) hx hb hc.1 hW.1 0 1 rfl rfl rfl dX4_longAt_10 ?_
    refine lv_icmp_ge (tgt := 20) hx hb dX4_longAt_11 (by decide) (fun c_11 => ?_) (fun c_11 => ?_)
    · have hF := ite_t hF c_11
      refine lv_lconst (v := 0) hx hb dX4_longAt_20 (by decide) ?_
      obtain rfl := Option.some.inj hF
      exact hret _ _ _ _ hW dX4_longAt_21
    · have hF := ite_f hF c_11
      refine lv_aload_n hx hb dX4_longAt_14 rfl (lv_at hl 0 rfl) ?_
      refine lv_iload_n hx hb dX4_longAt_15 rfl (lv_at hl 1 rfl) ?_
      obtain ⟨b_16, hF⟩ := inb_el hF
      refine va_lald hx hb hc.1 hW.1 0 1 rfl rfl b_16 dX4_longAt_16 ?_
      refine lv_goto (tgt := 21) hx hb dX4_longAt_17 (by decide) ?_
      obtain rfl := Option.some.inj hF
      exact hret _ _ _ _ hW dX4_longAt_21
theorem dX4_putLong_0 : decode cX4_putLong 0 = .ok (.aload_n 0, 1) := by decide +kernel
theorem dX4_putLong_1 : decode cX4_putLong 1 = .ok (.ifnull 17, 3) := by decide +kernel
theorem dX4_putLong_4 : decode cX4_putLong 4 = .ok (.iload_n 1, 1) := by decide +kernel
theorem dX4_putLong_5 : decode cX4_putLong 5 = .ok (.ifCond .lt 13, 3) := by decide +kernel
theorem dX4_putLong_8 : decode cX4_putLong 8 = .ok (.iload_n 1, 1) := by decide +kernel
theorem dX4_putLong_9 : decode cX4_putLong 9 = .ok (.aload_n 0, 1) := by decide +kernel
theorem dX4_putLong_10 : decode cX4_putLong 10 = .ok (.arraylength, 1) := by decide +kernel
theorem dX4_putLong_11 : decode cX4_putLong 11 = .ok (.if_icmp .ge 7, 3) := by decide +kernel
theorem dX4_putLong_14 : decode cX4_putLong 14 = .ok (.aload_n 0, 1) := by decide +kernel
theorem dX4_putLong_15 : decode cX4_putLong 15 = .ok (.iload_n 1, 1) := by decide +kernel
theorem dX4_putLong_16 : decode cX4_putLong 16 = .ok (.lload_n 2, 1) := by decide +kernel
theorem dX4_putLong_17 : decode cX4_putLong 17 = .ok (.lastore, 1) := by decide +kernel
theorem dX4_putLong_18 : decode cX4_putLong 18 = .ok (.return_, 1) := by decide +kernel
def F_X4_putLong (x1 : Int32) (x2 : Int64) (n_p0 : Nat) (a_p0 : Nat → Int64) : Option ((Nat → Int64)) := (if x1 < 0 then some (a_p0) else (if (nI n_p0) ≤ x1 then some (a_p0) else (if inb x1 n_p0 = true then some ((vp_updL a_p0 (Int32.toNatClampNeg x1) x2)) else none)))
theorem hdS_X4_putLong : yX4_putLong.cls ≠ "java/lang/invoke/MethodHandle" ∧ yX4_putLong.cls ≠ "java/lang/invoke/VarHandle" ∧ (parseMethodDescriptor yX4_putLong.desc).map (fun d => d.parameters.length) = some 3 := by decide +kernel
set_option maxHeartbeats 4000000 in
set_option maxRecDepth 100000 in
theorem c_X4_putLong (l : Launch) (G : GG) (x1 : Int32) (x2 : Int64) (n_p0 : Nat) (h_p0 : Nat) (a_p0 : Nat → Int64) (out : (Nat → Int64)) (hF : F_X4_putLong x1 x2 n_p0 a_p0 = some out) : CtrV l yX4_putLong (WS yX4_putLong cX4_putLong 4 none) { frames := 0, cells := 0, slots := 0, locals := 0 } G [.ref h_p0, .int x1, .long x2] [(h_p0, cJ G n_p0 a_p0)] [(h_p0, cJ G n_p0 out)] := by
  refine startV (cc := cX4_putLong) (maxL := 4) (by decide) rfl (Nat.le_of_ble_eq_true rfl) ?_
  intro p e s m args below meth c A Q hx hb hml hts hown hc hA hret ls H locs hl hW
  have hown : s.vm.findClass RX4 = some m.cls := hown
  have hg : ∀ w ∈ GOODS, w.before _ s = true := fun w h => hts w (List.mem_cons_of_mem _ h)
  have hl : lv_has ls 4 [(0, .ref h_p0), (1, .int x1), (2, .long x2)] := hl
  rw [F_X4_putLong] at hF
  refine lv_aload_n hx hb dX4_putLong_0 rfl (lv_at hl 0 rfl) ?_
  refine lv_ifnull hx hb dX4_putLong_1 ?_
  refine lv_iload_n hx hb dX4_putLong_4 rfl (lv_at hl 1 rfl) ?_
  refine lv_if_lt (tgt := 18) hx hb dX4_putLong_5 (by decide) (fun c_5 => ?_) (fun c_5 => ?_)
  · have hF := ite_t hF c_5
    obtain rfl := Option.some.inj hF
    exact hret _ _ _ _ hW dX4_putLong_18
  · have hF := ite_f hF c_5
    refine lv_iload_n hx hb dX4_putLong_8 rfl (lv_at hl 1 rfl) ?_
    refine lv_aload_n hx hb dX4_putLong_9 rfl (lv_at hl 0 rfl) ?_
    refine va_alen (v := (nI n_p0)) hx hb hc.1 hW.1 0 1 rfl rfl rfl dX4_putLong_10 ?_
    refine lv_icmp_ge (tgt := 18) hx hb dX4_putLong_11 (by decide) (fun c_11 => ?_) (fun c_11 => ?_)
    · have hF := ite_t hF c_11
      obtain rfl := Option.some.inj hF
      exact hret _ _ _ _ hW dX4_putLong_18
    · have hF := ite_f hF c_11
      refine lv_aload_n hx hb dX4_putLong_14 rfl (lv_at hl 0 rfl) ?_
      refine lv_iload_n hx hb dX4_putLong_15 rfl (lv_at hl 1 rfl) ?_
      refine lv_lload_n hx hb dX4_putLong_16 rfl (lv_at hl 2 rfl) ?_
      obtain ⟨b_17, hF⟩ := inb_el hF
      refine va_last hx hb hc.1 hW.1 hW.2.1 hW.2.2 0 1 rfl rfl b_17 dX4_putLong_17 (fun H locs hP hD hS => ?_)
      have hW : Wd G A s.heap [(h_p0, cJ G n_p0 ((vp_updL a_p0 (Int32.toNatClampNeg x1) x2)))] H locs := ⟨hP, hD, hS⟩
      obtain rfl := Option.some.inj hF
      exact hret _ _ _ _ hW dX4_putLong_18
theorem dX9_isWithin_0 : decode cX9_isWithin 0 = .ok (.iload_n 0, 1) := by decide +kernel
theorem dX9_isWithin_1 : decode cX9_isWithin 1 = .ok (.iload_n 1, 1) := by decide +kernel
theorem dX9_isWithin_2 : decode cX9_isWithin 2 = .ok (.if_icmp .lt 12, 3) := by decide +kernel
theorem dX9_isWithin_5 : decode cX9_isWithin 5 = .ok (.iload_n 0, 1) := by decide +kernel
theorem dX9_isWithin_6 : decode cX9_isWithin 6 = .ok (.iload_n 2, 1) := by decide +kernel
theorem dX9_isWithin_7 : decode cX9_isWithin 7 = .ok (.if_icmp .gt 7, 3) := by decide +kernel
theorem dX9_isWithin_10 : decode cX9_isWithin 10 = .ok (.iconst 1, 1) := by decide +kernel
theorem dX9_isWithin_11 : decode cX9_isWithin 11 = .ok (.goto 4, 3) := by decide +kernel
theorem dX9_isWithin_14 : decode cX9_isWithin 14 = .ok (.iconst 0, 1) := by decide +kernel
theorem dX9_isWithin_15 : decode cX9_isWithin 15 = .ok (.ireturn, 1) := by decide +kernel
def F_X9_isWithin (x0 : Int32) (x1 : Int32) (x2 : Int32) : Option (Int32) := (if x0 < x1 then some (0) else (if x2 < x0 then some (0) else some (1)))
theorem hdS_X9_isWithin : yX9_isWithin.cls ≠ "java/lang/invoke/MethodHandle" ∧ yX9_isWithin.cls ≠ "java/lang/invoke/VarHandle" ∧ (parseMethodDescriptor yX9_isWithin.desc).map (fun d => d.parameters.length) = some 3 := by decide +kernel
set_option maxHeartbeats 4000000 in
set_option maxRecDepth 100000 in
theorem c_X9_isWithin (l : Launch) (G : GG) (x0 : Int32) (x1 : Int32) (x2 : Int32) (out : Int32) (hF : F_X9_isWithin x0 x1 x2 = some out) : CtrZ l yX9_isWithin (WS yX9_isWithin cX9_isWithin 3 (some .boolean)) { frames := 0, cells := 0, slots := 0, locals := 0 } G [.int x0, .int x1, .int x2] [] [] out := by
  refine startZ (cc := cX9_isWithin) (maxL := 3) (by decide) rfl (Nat.le_of_ble_eq_true rfl) ?_
  intro p e s m args below meth c A Q hx hb hml hts hown hc hA hret ls H locs hl hW
  have hown : s.vm.findClass RX9 = some m.cls := hown
  have hg : ∀ w ∈ GOODS, w.before _ s = true := fun w h => hts w (List.mem_cons_of_mem _ h)
  have hl : lv_has ls 3 [(0, .int x0), (1, .int x1), (2, .int x2)] := hl
  rw [F_X9_isWithin] at hF
  refine lv_iload_n hx hb dX9_isWithin_0 rfl (lv_at hl 0 rfl) ?_
  refine lv_iload_n hx hb dX9_isWithin_1 rfl (lv_at hl 1 rfl) ?_
  refine lv_icmp_lt (tgt := 14) hx hb dX9_isWithin_2 (by decide) (fun c_2 => ?_) (fun c_2 => ?_)
  · have hF := ite_t hF c_2
    refine lv_iconst (v := 0) hx hb dX9_isWithin_14 (by decide) ?_
    obtain rfl := Option.some.inj hF
    exact hret _ _ _ _ hW (Or.inl rfl) dX9_isWithin_15
  · have hF := ite_f hF c_2
    refine lv_iload_n hx hb dX9_isWithin_5 rfl (lv_at hl 0 rfl) ?_
    refine lv_iload_n hx hb dX9_isWithin_6 rfl (lv_at hl 2 rfl) ?_
    refine lv_icmp_gt (tgt := 14) hx hb dX9_isWithin_7 (by decide) (fun c_7 => ?_) (fun c_7 => ?_)
    · have hF := ite_t hF c_7
      refine lv_iconst (v := 0) hx hb dX9_isWithin_14 (by decide) ?_
      obtain rfl := Option.some.inj hF
      exact hret _ _ _ _ hW (Or.inl rfl) dX9_isWithin_15
    · have hF := ite_f hF c_7
      refine lv_iconst (v := 1) hx hb dX9_isWithin_10 (by decide) ?_
      refine lv_goto (tgt := 15) hx hb dX9_isWithin_11 (by decide) ?_
      obtain rfl := Option.some.inj hF
      exact hret _ _ _ _ hW (Or.inr rfl) dX9_isWithin_15
theorem dX9_holds_0 : decode cX9_holds 0 = .ok (.iload_n 0, 1) := by decide +kernel
theorem dX9_holds_1 : decode cX9_holds 1 = .ok (.iload_n 1, 1) := by decide +kernel
theorem dX9_holds_2 : decode cX9_holds 2 = .ok (.ishr, 1) := by decide +kernel
theorem dX9_holds_3 : decode cX9_holds 3 = .ok (.iconst 1, 1) := by decide +kernel
theorem dX9_holds_4 : decode cX9_holds 4 = .ok (.iand, 1) := by decide +kernel
theorem dX9_holds_5 : decode cX9_holds 5 = .ok (.iconst 1, 1) := by decide +kernel
theorem dX9_holds_6 : decode cX9_holds 6 = .ok (.if_icmp .ne 7, 3) := by decide +kernel
theorem dX9_holds_9 : decode cX9_holds 9 = .ok (.iconst 1, 1) := by decide +kernel
theorem dX9_holds_10 : decode cX9_holds 10 = .ok (.goto 4, 3) := by decide +kernel
theorem dX9_holds_13 : decode cX9_holds 13 = .ok (.iconst 0, 1) := by decide +kernel
theorem dX9_holds_14 : decode cX9_holds 14 = .ok (.ireturn, 1) := by decide +kernel
def F_X9_holds (x0 : Int32) (x1 : Int32) : Option (Int32) := (if ((x0 >>> (x1 &&& 31)) &&& 1) = 1 then some (1) else some (0))
theorem hdS_X9_holds : yX9_holds.cls ≠ "java/lang/invoke/MethodHandle" ∧ yX9_holds.cls ≠ "java/lang/invoke/VarHandle" ∧ (parseMethodDescriptor yX9_holds.desc).map (fun d => d.parameters.length) = some 2 := by decide +kernel
set_option maxHeartbeats 4000000 in
set_option maxRecDepth 100000 in
theorem c_X9_holds (l : Launch) (G : GG) (x0 : Int32) (x1 : Int32) (out : Int32) (hF : F_X9_holds x0 x1 = some out) : CtrZ l yX9_holds (WS yX9_holds cX9_holds 2 (some .boolean)) { frames := 0, cells := 0, slots := 0, locals := 0 } G [.int x0, .int x1] [] [] out := by
  refine startZ (cc := cX9_holds) (maxL := 2) (by decide) rfl (Nat.le_of_ble_eq_true rfl) ?_
  intro p e s m args below meth c A Q hx hb hml hts hown hc hA hret ls H locs hl hW
  have hown : s.vm.findClass RX9 = some m.cls := hown
  have hg : ∀ w ∈ GOODS, w.before _ s = true := fun w h => hts w (List.mem_cons_of_mem _ h)
  have hl : lv_has ls 2 [(0, .int x0), (1, .int x1)] := hl
  rw [F_X9_holds] at hF
  refine lv_iload_n hx hb dX9_holds_0 rfl (lv_at hl 0 rfl) ?_
  refine lv_iload_n hx hb dX9_holds_1 rfl (lv_at hl 1 rfl) ?_
  refine lv_ishr hx hb dX9_holds_2 ?_
  refine lv_iconst (v := 1) hx hb dX9_holds_3 (by decide) ?_
  refine lv_iand hx hb dX9_holds_4 ?_
  refine lv_iconst (v := 1) hx hb dX9_holds_5 (by decide) ?_
  refine lv_icmp_ne (tgt := 13) hx hb dX9_holds_6 (by decide) (fun c_6 => ?_) (fun c_6 => ?_)
  · have hF := ite_f hF c_6
    refine lv_iconst (v := 0) hx hb dX9_holds_13 (by decide) ?_
    obtain rfl := Option.some.inj hF
    exact hret _ _ _ _ hW (Or.inl rfl) dX9_holds_14
  · have hF := ite_t hF c_6
    refine lv_iconst (v := 1) hx hb dX9_holds_9 (by decide) ?_
    refine lv_goto (tgt := 14) hx hb dX9_holds_10 (by decide) ?_
    obtain rfl := Option.some.inj hF
    exact hret _ _ _ _ hW (Or.inr rfl) dX9_holds_14
theorem dX9_setsOf_0 : decode cX9_setsOf 0 = .ok (.iconst 1, 1) := by decide +kernel
theorem dX9_setsOf_1 : decode cX9_setsOf 1 = .ok (.iload_n 0, 1) := by decide +kernel
theorem dX9_setsOf_2 : decode cX9_setsOf 2 = .ok (.ishl, 1) := by decide +kernel
theorem dX9_setsOf_3 : decode cX9_setsOf 3 = .ok (.ireturn, 1) := by decide +kernel
def F_X9_setsOf (x0 : Int32) : Option (Int32) := some (((1 : Int32) <<< (x0 &&& 31)))
theorem hdS_X9_setsOf : yX9_setsOf.cls ≠ "java/lang/invoke/MethodHandle" ∧ yX9_setsOf.cls ≠ "java/lang/invoke/VarHandle" ∧ (parseMethodDescriptor yX9_setsOf.desc).map (fun d => d.parameters.length) = some 1 := by decide +kernel
set_option maxHeartbeats 4000000 in
set_option maxRecDepth 100000 in
theorem c_X9_setsOf (l : Launch) (G : GG) (x0 : Int32) (out : Int32) (hF : F_X9_setsOf x0 = some out) : CtrI l yX9_setsOf (WS yX9_setsOf cX9_setsOf 1 (some .int)) { frames := 0, cells := 0, slots := 0, locals := 0 } G [.int x0] [] [] out := by
  refine startI (cc := cX9_setsOf) (maxL := 1) (by decide) rfl (Nat.le_of_ble_eq_true rfl) ?_
  intro p e s m args below meth c A Q hx hb hml hts hown hc hA hret ls H locs hl hW
  have hown : s.vm.findClass RX9 = some m.cls := hown
  have hg : ∀ w ∈ GOODS, w.before _ s = true := fun w h => hts w (List.mem_cons_of_mem _ h)
  have hl : lv_has ls 1 [(0, .int x0)] := hl
  rw [F_X9_setsOf] at hF
  refine lv_iconst (v := 1) hx hb dX9_setsOf_0 (by decide) ?_
  refine lv_iload_n hx hb dX9_setsOf_1 rfl (lv_at hl 0 rfl) ?_
  refine lv_ishl hx hb dX9_setsOf_2 ?_
  obtain rfl := Option.some.inj hF
  exact hret _ _ _ _ hW dX9_setsOf_3
theorem dX9_isSet_0 : decode cX9_isSet 0 = .ok (.iload_n 0, 1) := by decide +kernel
theorem dX9_isSet_1 : decode cX9_isSet 1 = .ok (.iconst 0, 1) := by decide +kernel
theorem dX9_isSet_2 : decode cX9_isSet 2 = .ok (.iload_n 1, 1) := by decide +kernel
theorem dX9_isSet_3 : decode cX9_isSet 3 = .ok (.invokestatic 196, 3) := by decide +kernel
theorem dX9_isSet_6 : decode cX9_isSet 6 = .ok (.iconst 1, 1) := by decide +kernel
theorem dX9_isSet_7 : decode cX9_isSet 7 = .ok (.isub, 1) := by decide +kernel
theorem dX9_isSet_8 : decode cX9_isSet 8 = .ok (.invokestatic 104, 3) := by decide +kernel
theorem dX9_isSet_11 : decode cX9_isSet 11 = .ok (.ireturn, 1) := by decide +kernel
def F_X9_isSet (x0 : Int32) (x1 : Int32) : Option (Int32) := (F_X9_setsOf x1).bind (fun q3 => (F_X9_isWithin x0 0 ((q3 - 1))).bind (fun q8 => some (q8)))
theorem hdS_X9_isSet : yX9_isSet.cls ≠ "java/lang/invoke/MethodHandle" ∧ yX9_isSet.cls ≠ "java/lang/invoke/VarHandle" ∧ (parseMethodDescriptor yX9_isSet.desc).map (fun d => d.parameters.length) = some 2 := by decide +kernel
set_option maxHeartbeats 4000000 in
set_option maxRecDepth 100000 in
theorem c_X9_isSet (l : Launch) (G : GG) (x0 : Int32) (x1 : Int32) (out : Int32) (hF : F_X9_isSet x0 x1 = some out) : CtrZ l yX9_isSet (WS yX9_isSet cX9_isSet 2 (some .boolean)) { frames := 1, cells := 0, slots := 0, locals := 22 } G [.int x0, .int x1] [] [] out := by
  refine startZ (cc := cX9_isSet) (maxL := 2) (by decide) rfl (Nat.le_of_ble_eq_true rfl) ?_
  intro p e s m args below meth c A Q hx hb hml hts hown hc hA hret ls H locs hl hW
  have hown : s.vm.findClass RX9 = some m.cls := hown
  have hg : ∀ w ∈ GOODS, w.before _ s = true := fun w h => hts w (List.mem_cons_of_mem _ h)
  have hl : lv_has ls 2 [(0, .int x0), (1, .int x1)] := hl
  rw [F_X9_isSet] at hF
  refine lv_iload_n hx hb dX9_isSet_0 rfl (lv_at hl 0 rfl) ?_
  refine lv_iconst (v := 0) hx hb dX9_isSet_1 (by decide) ?_
  refine lv_iload_n hx hb dX9_isSet_2 rfl (lv_at hl 1 rfl) ?_
  obtain ⟨q3, c_3, hF⟩ := bd_el hF
  refine wcI (ws' := []) (wc := []) (wr := []) (w1 := []) (va_runS (As := [.int x1]) (rest := [.int 0, .int x0]) ⟨hx, hb, hml, hown, hg⟩ (c_X9_setsOf l G x1 q3 c_3 H.size) (va_cwS 1 hg (gS wd_2_169 wd_2_170 wd_1_1 wd_2_171) rfl rfl rfl hdS_X9_setsOf ⟨(Nat.le_of_ble_eq_true rfl), (Nat.le_of_ble_eq_true rfl)⟩) (preS hc hW [] rfl (by decide)) rfl rfl hl.1 rfl (lv_room (Nat.le_of_ble_eq_true rfl)) dX9_isSet_3 ⟨Nat.zero_le _, Nat.zero_le _⟩) hA hW [] [] [] rfl rfl (by decide) (by decide) rfl (by decide) (fun H locs hW => ?_)
  refine lv_iconst (v := 1) hx hb dX9_isSet_6 (by decide) ?_
  refine lv_isub hx hb dX9_isSet_7 ?_
  obtain ⟨q8, c_8, hF⟩ := bd_el hF
  refine wcZ (ws' := []) (wc := []) (wr := []) (w1 := []) (va_runS (As := [.int x0, .int 0, .int ((q3 - 1))]) (rest := []) ⟨hx, hb, hml, hown, hg⟩ (c_X9_isWithin l G x0 0 ((q3 - 1)) q8 c_8 H.size) (va_cwS 3 hg (gS wd_2_140 wd_2_47 wd_1_1 wd_2_48) rfl rfl rfl hdS_X9_isWithin ⟨(Nat.le_of_ble_eq_true rfl), (Nat.le_of_ble_eq_true rfl)⟩) (preS hc hW [] rfl (by decide)) rfl rfl hl.1 rfl (lv_room (Nat.le_of_ble_eq_true rfl)) dX9_isSet_8 ⟨Nat.zero_le _, Nat.zero_le _⟩) hA hW [] [] [] rfl rfl (by decide) (by decide) rfl (by decide) (fun z_8 H locs hW => ?_)
  obtain rfl := Option.some.inj hF
  exact hret _ _ _ _ hW z_8 dX9_isSet_11
theorem dX9_fourTo_0 : decode cX9_fourTo 0 = .ok (.lconst 1, 1) := by decide +kernel
theorem dX9_fourTo_1 : decode cX9_fourTo 1 = .ok (.iconst 2, 1) := by decide +kernel
theorem dX9_fourTo_2 : decode cX9_fourTo 2 = .ok (.iload_n 0, 1) := by decide +kernel
theorem dX9_fourTo_3 : decode cX9_fourTo 3 = .ok (.imul, 1) := by decide +kernel
theorem dX9_fourTo_4 : decode cX9_fourTo 4 = .ok (.lshl, 1) := by decide +kernel
theorem dX9_fourTo_5 : decode cX9_fourTo 5 = .ok (.lreturn, 1) := by decide +kernel
def F_X9_fourTo (x0 : Int32) : Option (Int64) := some (((1 : Int64) <<< (Int32.toInt64 ((2 * x0)) &&& 63)))
theorem hdS_X9_fourTo : yX9_fourTo.cls ≠ "java/lang/invoke/MethodHandle" ∧ yX9_fourTo.cls ≠ "java/lang/invoke/VarHandle" ∧ (parseMethodDescriptor yX9_fourTo.desc).map (fun d => d.parameters.length) = some 1 := by decide +kernel
set_option maxHeartbeats 4000000 in
set_option maxRecDepth 100000 in
theorem c_X9_fourTo (l : Launch) (G : GG) (x0 : Int32) (out : Int64) (hF : F_X9_fourTo x0 = some out) : CtrJ l yX9_fourTo (WS yX9_fourTo cX9_fourTo 1 (some .long)) { frames := 0, cells := 0, slots := 0, locals := 0 } G [.int x0] [] [] out := by
  refine startJ (cc := cX9_fourTo) (maxL := 1) (by decide) rfl (Nat.le_of_ble_eq_true rfl) ?_
  intro p e s m args below meth c A Q hx hb hml hts hown hc hA hret ls H locs hl hW
  have hown : s.vm.findClass RX9 = some m.cls := hown
  have hg : ∀ w ∈ GOODS, w.before _ s = true := fun w h => hts w (List.mem_cons_of_mem _ h)
  have hl : lv_has ls 1 [(0, .int x0)] := hl
  rw [F_X9_fourTo] at hF
  refine lv_lconst (v := 1) hx hb dX9_fourTo_0 (by decide) ?_
  refine lv_iconst (v := 2) hx hb dX9_fourTo_1 (by decide) ?_
  refine lv_iload_n hx hb dX9_fourTo_2 rfl (lv_at hl 0 rfl) ?_
  refine lv_imul hx hb dX9_fourTo_3 ?_
  refine lv_lshl hx hb dX9_fourTo_4 rfl ?_
  obtain rfl := Option.some.inj hF
  exact hret _ _ _ _ hW dX9_fourTo_5
theorem dX9_commonDivisor_0 : decode cX9_commonDivisor 0 = .ok (.lload_n 0, 1) := by decide +kernel
theorem dX9_commonDivisor_1 : decode cX9_commonDivisor 1 = .ok (.lstore 4, 2) := by decide +kernel
theorem dX9_commonDivisor_3 : decode cX9_commonDivisor 3 = .ok (.lload_n 2, 1) := by decide +kernel
theorem dX9_commonDivisor_4 : decode cX9_commonDivisor 4 = .ok (.lstore 6, 2) := by decide +kernel
theorem dX9_commonDivisor_6 : decode cX9_commonDivisor 6 = .ok (.iconst 0, 1) := by decide +kernel
theorem dX9_commonDivisor_7 : decode cX9_commonDivisor 7 = .ok (.istore 8, 2) := by decide +kernel
theorem dX9_commonDivisor_9 : decode cX9_commonDivisor 9 = .ok (.iload 8, 2) := by decide +kernel
theorem dX9_commonDivisor_11 : decode cX9_commonDivisor 11 = .ok (.bipush 100, 2) := by decide +kernel
theorem dX9_commonDivisor_13 : decode cX9_commonDivisor 13 = .ok (.if_icmp .ge 31, 3) := by decide +kernel
theorem dX9_commonDivisor_16 : decode cX9_commonDivisor 16 = .ok (.lload 6, 2) := by decide +kernel
theorem dX9_commonDivisor_18 : decode cX9_commonDivisor 18 = .ok (.lconst 0, 1) := by decide +kernel
theorem dX9_commonDivisor_19 : decode cX9_commonDivisor 19 = .ok (.lcmp, 1) := by decide +kernel
theorem dX9_commonDivisor_20 : decode cX9_commonDivisor 20 = .ok (.ifCond .eq 24, 3) := by decide +kernel
theorem dX9_commonDivisor_23 : decode cX9_commonDivisor 23 = .ok (.lload 4, 2) := by decide +kernel
theorem dX9_commonDivisor_25 : decode cX9_commonDivisor 25 = .ok (.lload 6, 2) := by decide +kernel
theorem dX9_commonDivisor_27 : decode cX9_commonDivisor 27 = .ok (.lrem, 1) := by decide +kernel
theorem dX9_commonDivisor_28 : decode cX9_commonDivisor 28 = .ok (.lstore 9, 2) := by decide +kernel
theorem dX9_commonDivisor_30 : decode cX9_commonDivisor 30 = .ok (.lload 6, 2) := by decide +kernel
theorem dX9_commonDivisor_32 : decode cX9_commonDivisor 32 = .ok (.lstore 4, 2) := by decide +kernel
theorem dX9_commonDivisor_34 : decode cX9_commonDivisor 34 = .ok (.lload 9, 2) := by decide +kernel
theorem dX9_commonDivisor_36 : decode cX9_commonDivisor 36 = .ok (.lstore 6, 2) := by decide +kernel
theorem dX9_commonDivisor_38 : decode cX9_commonDivisor 38 = .ok (.iinc 8 1, 3) := by decide +kernel
theorem dX9_commonDivisor_41 : decode cX9_commonDivisor 41 = .ok (.goto (-32), 3) := by decide +kernel
theorem dX9_commonDivisor_44 : decode cX9_commonDivisor 44 = .ok (.lload 4, 2) := by decide +kernel
theorem dX9_commonDivisor_46 : decode cX9_commonDivisor 46 = .ok (.lreturn, 1) := by decide +kernel
def L_X9_commonDivisor_9  : Nat → Int64 → Int64 → Int32 → Option (Int64)
  | 0, _, _, _ => none
  | n + 1, x4_9, x6_9, x8_9 => (if 100 ≤ x8_9 then some (x4_9) else (if (lg_cmp x6_9 0) = 0 then some (x4_9) else (if x6_9 = 0 then none else L_X9_commonDivisor_9 n x6_9 ((x4_9 - x4_9 / x6_9 * x6_9)) ((x8_9 + 1)))))
def F_X9_commonDivisor (x0 : Int64) (x2 : Int64) : Option (Int64) := L_X9_commonDivisor_9 5000 x0 x2 0
theorem hdS_X9_commonDivisor : yX9_commonDivisor.cls ≠ "java/lang/invoke/MethodHandle" ∧ yX9_commonDivisor.cls ≠ "java/lang/invoke/VarHandle" ∧ (parseMethodDescriptor yX9_commonDivisor.desc).map (fun d => d.parameters.length) = some 2 := by decide +kernel
set_option maxHeartbeats 4000000 in
set_option maxRecDepth 100000 in
theorem c_X9_commonDivisor (l : Launch) (G : GG) (x0 : Int64) (x2 : Int64) (out : Int64) (hF : F_X9_commonDivisor x0 x2 = some out) : CtrJ l yX9_commonDivisor (WS yX9_commonDivisor cX9_commonDivisor 11 (some .long)) { frames := 0, cells := 0, slots := 0, locals := 0 } G [.long x0, .long x2] [] [] out := by
  refine startJ (cc := cX9_commonDivisor) (maxL := 11) (by decide) rfl (Nat.le_of_ble_eq_true rfl) ?_
  intro p e s m args below meth c A Q hx hb hml hts hown hc hA hret ls H locs hl hW
  have hown : s.vm.findClass RX9 = some m.cls := hown
  have hg : ∀ w ∈ GOODS, w.before _ s = true := fun w h => hts w (List.mem_cons_of_mem _ h)
  have hl : lv_has ls 11 [(0, .long x0), (2, .long x2)] := hl
  rw [F_X9_commonDivisor] at hF
  refine lv_lload_n hx hb dX9_commonDivisor_0 rfl (lv_at hl 0 rfl) ?_
  refine lv_lstore (lv' := [(4, .long x0), (0, .long x0), (2, .long x2)]) hx hb dX9_commonDivisor_1 hl (by decide) rfl (fun ls hl => ?_)
  refine lv_lload_n hx hb dX9_commonDivisor_3 rfl (lv_at hl 2 rfl) ?_
  refine lv_lstore (lv' := [(6, .long x2), (4, .long x0), (0, .long x0), (2, .long x2)]) hx hb dX9_commonDivisor_4 hl (by decide) rfl (fun ls hl => ?_)
  refine lv_iconst (v := 0) hx hb dX9_commonDivisor_6 (by decide) ?_
  refine lv_istore (lv' := [(8, .int 0), (6, .long x2), (4, .long x0), (0, .long x0), (2, .long x2)]) hx hb dX9_commonDivisor_7 hl (by decide) rfl (fun ls hl => ?_)
  have L_9 : ∀ (n : Nat) (x4_9 : Int64) (x6_9 : Int64) (x8_9 : Int32) (ls : Array Slot) (H : Heap) (locs : List Loc), L_X9_commonDivisor_9 n x4_9 x6_9 x8_9 = some out → lv_has ls 11 [(4, .long x4_9), (6, .long x6_9), (8, .int x8_9)] → Wd G A s.heap [] H locs → W p l e ({ frames := 0, cells := 0, slots := 0, locals := 0 } : Room) s m args below meth c H locs 0 0 Q (F0 m 9 ls []) := by
    intro n
    induction n with
    | zero => intro x4_9 x6_9 x8_9 ls H locs hF hl hW; have h0 : none = some out := hF; cases h0
    | succ n ih =>
      intro x4_9 x6_9 x8_9 ls H locs hF hl hW
      rw [L_X9_commonDivisor_9] at hF
      refine lv_iload hx hb dX9_commonDivisor_9 (lv_at hl 2 rfl) ?_
      refine lv_bipush (v := 100) hx hb dX9_commonDivisor_11 (by decide) ?_
      refine lv_icmp_ge (tgt := 44) hx hb dX9_commonDivisor_13 (by decide) (fun c_13 => ?_) (fun c_13 => ?_)
      · have hF := ite_t hF c_13
        refine lv_lload hx hb dX9_commonDivisor_44 (lv_at hl 0 rfl) ?_
        obtain rfl := Option.some.inj hF
        exact hret _ _ _ _ hW dX9_commonDivisor_46
      · have hF := ite_f hF c_13
        refine lv_lload hx hb dX9_commonDivisor_16 (lv_at hl 1 rfl) ?_
        refine lv_lconst (v := 0) hx hb dX9_commonDivisor_18 (by decide) ?_
        refine W.lcmp hx hb dX9_commonDivisor_19 ?_
        refine lv_if_eq (tgt := 44) hx hb dX9_commonDivisor_20 (by decide) (fun c_20 => ?_) (fun c_20 => ?_)
        · have hF := ite_t hF c_20
          refine lv_lload hx hb dX9_commonDivisor_44 (lv_at hl 0 rfl) ?_
          obtain rfl := Option.some.inj hF
          exact hret _ _ _ _ hW dX9_commonDivisor_46
        · have hF := ite_f hF c_20
          refine lv_lload hx hb dX9_commonDivisor_23 (lv_at hl 0 rfl) ?_
          refine lv_lload hx hb dX9_commonDivisor_25 (lv_at hl 1 rfl) ?_
          obtain ⟨z_27, hF⟩ := nzl_el hF
          refine lv_lrem hx hb dX9_commonDivisor_27 z_27 ?_
          refine lv_lstore (lv' := [(9, .long ((x4_9 - x4_9 / x6_9 * x6_9))), (4, .long x4_9), (6, .long x6_9), (8, .int x8_9)]) hx hb dX9_commonDivisor_28 hl (by decide) rfl (fun ls hl => ?_)
          refine lv_lload hx hb dX9_commonDivisor_30 (lv_at hl 2 rfl) ?_
          refine lv_lstore (lv' := [(4, .long x6_9), (9, .long ((x4_9 - x4_9 / x6_9 * x6_9))), (6, .long x6_9), (8, .int x8_9)]) hx hb dX9_commonDivisor_32 hl (by decide) rfl (fun ls hl => ?_)
          refine lv_lload hx hb dX9_commonDivisor_34 (lv_at hl 1 rfl) ?_
          refine lv_lstore (lv' := [(6, .long ((x4_9 - x4_9 / x6_9 * x6_9))), (4, .long x6_9), (9, .long ((x4_9 - x4_9 / x6_9 * x6_9))), (8, .int x8_9)]) hx hb dX9_commonDivisor_36 hl (by decide) rfl (fun ls hl => ?_)
          refine lv_iinc (v := (x8_9 + 1)) (lv' := [(8, .int ((x8_9 + 1))), (6, .long ((x4_9 - x4_9 / x6_9 * x6_9))), (4, .long x6_9), (9, .long ((x4_9 - x4_9 / x6_9 * x6_9)))]) hx hb dX9_commonDivisor_38 hl (k := 3) rfl rfl (by decide) rfl (fun ls hl => ?_)
          refine lv_goto (tgt := 9) hx hb dX9_commonDivisor_41 (by decide) ?_
          exact ih x6_9 ((x4_9 - x4_9 / x6_9 * x6_9)) ((x8_9 + 1)) _ _ _ hF (lv_sub hl [2, 1, 0] rfl) hW
  exact L_9 5000 x0 x2 0 _ _ _ hF (lv_sub hl [2, 1, 0] rfl) hW
theorem dX9_inLowestTerms_0 : decode cX9_inLowestTerms 0 = .ok (.lload_n 0, 1) := by decide +kernel
theorem dX9_inLowestTerms_1 : decode cX9_inLowestTerms 1 = .ok (.lload_n 2, 1) := by decide +kernel
theorem dX9_inLowestTerms_2 : decode cX9_inLowestTerms 2 = .ok (.invokestatic 259, 3) := by decide +kernel
theorem dX9_inLowestTerms_5 : decode cX9_inLowestTerms 5 = .ok (.lstore 5, 2) := by decide +kernel
theorem dX9_inLowestTerms_7 : decode cX9_inLowestTerms 7 = .ok (.lload 5, 2) := by decide +kernel
theorem dX9_inLowestTerms_9 : decode cX9_inLowestTerms 9 = .ok (.lconst 0, 1) := by decide +kernel
theorem dX9_inLowestTerms_10 : decode cX9_inLowestTerms 10 = .ok (.lcmp, 1) := by decide +kernel
theorem dX9_inLowestTerms_11 : decode cX9_inLowestTerms 11 = .ok (.ifCond .ne 5, 3) := by decide +kernel
theorem dX9_inLowestTerms_14 : decode cX9_inLowestTerms 14 = .ok (.lconst 0, 1) := by decide +kernel
theorem dX9_inLowestTerms_15 : decode cX9_inLowestTerms 15 = .ok (.lreturn, 1) := by decide +kernel
theorem dX9_inLowestTerms_16 : decode cX9_inLowestTerms 16 = .ok (.iload 4, 2) := by decide +kernel
theorem dX9_inLowestTerms_18 : decode cX9_inLowestTerms 18 = .ok (.ifCond .ne 7, 3) := by decide +kernel
theorem dX9_inLowestTerms_21 : decode cX9_inLowestTerms 21 = .ok (.lload_n 0, 1) := by decide +kernel
theorem dX9_inLowestTerms_22 : decode cX9_inLowestTerms 22 = .ok (.goto 4, 3) := by decide +kernel
theorem dX9_inLowestTerms_25 : decode cX9_inLowestTerms 25 = .ok (.lload_n 2, 1) := by decide +kernel
theorem dX9_inLowestTerms_26 : decode cX9_inLowestTerms 26 = .ok (.lload 5, 2) := by decide +kernel
theorem dX9_inLowestTerms_28 : decode cX9_inLowestTerms 28 = .ok (.ldiv, 1) := by decide +kernel
theorem dX9_inLowestTerms_29 : decode cX9_inLowestTerms 29 = .ok (.lreturn, 1) := by decide +kernel
def F_X9_inLowestTerms (x0 : Int64) (x2 : Int64) (x4 : Int32) : Option (Int64) := (F_X9_commonDivisor x0 x2).bind (fun q2 => (if (lg_cmp q2 0) = 0 then some (0) else jn (fun j0_26 => (if q2 = 0 then none else some ((j0_26 / q2)))) (fun k_26 => (if x4 = 0 then k_26 x0 else k_26 x2))))
theorem hdS_X9_inLowestTerms : yX9_inLowestTerms.cls ≠ "java/lang/invoke/MethodHandle" ∧ yX9_inLowestTerms.cls ≠ "java/lang/invoke/VarHandle" ∧ (parseMethodDescriptor yX9_inLowestTerms.desc).map (fun d => d.parameters.length) = some 3 := by decide +kernel
set_option maxHeartbeats 4000000 in
set_option maxRecDepth 100000 in
theorem c_X9_inLowestTerms (l : Launch) (G : GG) (x0 : Int64) (x2 : Int64) (x4 : Int32) (out : Int64) (hF : F_X9_inLowestTerms x0 x2 x4 = some out) : CtrJ l yX9_inLowestTerms (WS yX9_inLowestTerms cX9_inLowestTerms 7 (some .long)) { frames := 1, cells := 0, slots := 0, locals := 30 } G [.long x0, .long x2, .int x4] [] [] out := by
  refine startJ (cc := cX9_inLowestTerms) (maxL := 7) (by decide) rfl (Nat.le_of_ble_eq_true rfl) ?_
  intro p e s m args below meth c A Q hx hb hml hts hown hc hA hret ls H locs hl hW
  have hown : s.vm.findClass RX9 = some m.cls := hown
  have hg : ∀ w ∈ GOODS, w.before _ s = true := fun w h => hts w (List.mem_cons_of_mem _ h)
  have hl : lv_has ls 7 [(0, .long x0), (2, .long x2), (4, .int x4)] := hl
  rw [F_X9_inLowestTerms] at hF
  refine lv_lload_n hx hb dX9_inLowestTerms_0 rfl (lv_at hl 0 rfl) ?_
  refine lv_lload_n hx hb dX9_inLowestTerms_1 rfl (lv_at hl 1 rfl) ?_
  obtain ⟨q2, c_2, hF⟩ := bd_el hF
  refine wcJ (ws' := []) (wc := []) (wr := []) (w1 := []) (va_runS (As := [.long x0, .long x2]) (rest := []) ⟨hx, hb, hml, hown, hg⟩ (c_X9_commonDivisor l G x0 x2 q2 c_2 H.size) (va_cwS 2 hg (gS wd_3_39 wd_3_40 wd_1_1 wd_3_41) rfl rfl rfl hdS_X9_commonDivisor ⟨(Nat.le_of_ble_eq_true rfl), (Nat.le_of_ble_eq_true rfl)⟩) (preS hc hW [] rfl (by decide)) rfl rfl hl.1 rfl (lv_room (Nat.le_of_ble_eq_true rfl)) dX9_inLowestTerms_2 ⟨Nat.zero_le _, Nat.zero_le _⟩) hA hW [] [] [] rfl rfl (by decide) (by decide) rfl (by decide) (fun H locs hW => ?_)
  refine lv_lstore (lv' := [(5, .long q2), (0, .long x0), (2, .long x2), (4, .int x4)]) hx hb dX9_inLowestTerms_5 hl (by decide) rfl (fun ls hl => ?_)
  refine lv_lload hx hb dX9_inLowestTerms_7 (lv_at hl 0 rfl) ?_
  refine lv_lconst (v := 0) hx hb dX9_inLowestTerms_9 (by decide) ?_
  refine W.lcmp hx hb dX9_inLowestTerms_10 ?_
  refine lv_if_ne (tgt := 16) hx hb dX9_inLowestTerms_11 (by decide) (fun c_11 => ?_) (fun c_11 => ?_)
  · have hF := ite_f hF c_11
    refine lv_iload hx hb dX9_inLowestTerms_16 (lv_at hl 3 rfl) ?_
    obtain ⟨k_26, e_26, hF⟩ := jn_el hF
    have J_26 : ∀ (j0_26 : Int64) (ls : Array Slot) (H : Heap) (locs : List Loc), k_26 j0_26 = some out → lv_has ls 7 [(5, .long q2)] → Wd G A s.heap [] H locs → W p l e ({ frames := 1, cells := 0, slots := 0, locals := 30 } : Room) s m args below meth c H locs 0 0 Q (F0 m 26 ls [.long j0_26]) := by
      intro j0_26 ls H locs hF hl hW
      rw [e_26] at hF
      dsimp only at hF
      refine lv_lload hx hb dX9_inLowestTerms_26 (lv_at hl 0 rfl) ?_
      obtain ⟨z_28, hF⟩ := nzl_el hF
      refine lv_ldiv hx hb dX9_inLowestTerms_28 z_28 ?_
      obtain rfl := Option.some.inj hF
      exact hret _ _ _ _ hW dX9_inLowestTerms_29
    refine lv_if_ne (tgt := 25) hx hb dX9_inLowestTerms_18 (by decide) (fun c_18 => ?_) (fun c_18 => ?_)
    · have hF := ite_f hF c_18
      refine lv_lload_n hx hb dX9_inLowestTerms_25 rfl (lv_at hl 2 rfl) ?_
      exact J_26 x2 _ _ _ hF (lv_sub hl [0] rfl) hW
    · have hF := ite_t hF c_18
      refine lv_lload_n hx hb dX9_inLowestTerms_21 rfl (lv_at hl 1 rfl) ?_
      refine lv_goto (tgt := 26) hx hb dX9_inLowestTerms_22 (by decide) ?_
      exact J_26 x0 _ _ _ hF (lv_sub hl [0] rfl) hW
  · have hF := ite_t hF c_11
    refine lv_lconst (v := 0) hx hb dX9_inLowestTerms_14 (by decide) ?_
    obtain rfl := Option.some.inj hF
    exact hret _ _ _ _ hW dX9_inLowestTerms_15
theorem dX9_draw_0 : decode cX9_draw 0 = .ok (.ldc2_w 263, 3) := by decide +kernel
theorem dX9_draw_3 : decode cX9_draw 3 = .ok (.iload_n 0, 1) := by decide +kernel
theorem dX9_draw_4 : decode cX9_draw 4 = .ok (.i2l, 1) := by decide +kernel
theorem dX9_draw_5 : decode cX9_draw 5 = .ok (.lmul, 1) := by decide +kernel
theorem dX9_draw_6 : decode cX9_draw 6 = .ok (.ldc2_w 265, 3) := by decide +kernel
theorem dX9_draw_9 : decode cX9_draw 9 = .ok (.iload_n 1, 1) := by decide +kernel
theorem dX9_draw_10 : decode cX9_draw 10 = .ok (.i2l, 1) := by decide +kernel
theorem dX9_draw_11 : decode cX9_draw 11 = .ok (.lmul, 1) := by decide +kernel
theorem dX9_draw_12 : decode cX9_draw 12 = .ok (.ladd, 1) := by decide +kernel
theorem dX9_draw_13 : decode cX9_draw 13 = .ok (.lconst 1, 1) := by decide +kernel
theorem dX9_draw_14 : decode cX9_draw 14 = .ok (.ladd, 1) := by decide +kernel
theorem dX9_draw_15 : decode cX9_draw 15 = .ok (.lstore_n 2, 1) := by decide +kernel
theorem dX9_draw_16 : decode cX9_draw 16 = .ok (.lload_n 2, 1) := by decide +kernel
theorem dX9_draw_17 : decode cX9_draw 17 = .ok (.lload_n 2, 1) := by decide +kernel
theorem dX9_draw_18 : decode cX9_draw 18 = .ok (.lmul, 1) := by decide +kernel
theorem dX9_draw_19 : decode cX9_draw 19 = .ok (.ldc2_w 267, 3) := by decide +kernel
theorem dX9_draw_22 : decode cX9_draw 22 = .ok (.lrem, 1) := by decide +kernel
theorem dX9_draw_23 : decode cX9_draw 23 = .ok (.ldc2_w 269, 3) := by decide +kernel
theorem dX9_draw_26 : decode cX9_draw 26 = .ok (.ldiv, 1) := by decide +kernel
theorem dX9_draw_27 : decode cX9_draw 27 = .ok (.l2i, 1) := by decide +kernel
theorem dX9_draw_28 : decode cX9_draw 28 = .ok (.ireturn, 1) := by decide +kernel
def F_X9_draw (x0 : Int32) (x1 : Int32) : Option (Int32) := some ((Int64.toInt32 (((((((7919 * (Int32.toInt64 x0)) + (6151 * (Int32.toInt64 x1))) + 1) * (((7919 * (Int32.toInt64 x0)) + (6151 * (Int32.toInt64 x1))) + 1)) - ((((7919 * (Int32.toInt64 x0)) + (6151 * (Int32.toInt64 x1))) + 1) * (((7919 * (Int32.toInt64 x0)) + (6151 * (Int32.toInt64 x1))) + 1)) / 65521 * 65521) / 8))))
theorem hdS_X9_draw : yX9_draw.cls ≠ "java/lang/invoke/MethodHandle" ∧ yX9_draw.cls ≠ "java/lang/invoke/VarHandle" ∧ (parseMethodDescriptor yX9_draw.desc).map (fun d => d.parameters.length) = some 2 := by decide +kernel
set_option maxHeartbeats 4000000 in
set_option maxRecDepth 100000 in
theorem c_X9_draw (l : Launch) (G : GG) (x0 : Int32) (x1 : Int32) (out : Int32) (hF : F_X9_draw x0 x1 = some out) : CtrI l yX9_draw (WS yX9_draw cX9_draw 4 (some .int)) { frames := 0, cells := 0, slots := 0, locals := 0 } G [.int x0, .int x1] [] [] out := by
  refine startI (cc := cX9_draw) (maxL := 4) (by decide) rfl (Nat.le_of_ble_eq_true rfl) ?_
  intro p e s m args below meth c A Q hx hb hml hts hown hc hA hret ls H locs hl hW
  have hown : s.vm.findClass RX9 = some m.cls := hown
  have hg : ∀ w ∈ GOODS, w.before _ s = true := fun w h => hts w (List.mem_cons_of_mem _ h)
  have hl : lv_has ls 4 [(0, .int x0), (1, .int x1)] := hl
  rw [F_X9_draw] at hF
  refine lv_ldc2 (v := 7919) hx hb hown (hg _ wd_3_227) dX9_draw_0 ?_
  refine lv_iload_n hx hb dX9_draw_3 rfl (lv_at hl 0 rfl) ?_
  refine lv_i2l (v := (Int32.toInt64 x0)) hx hb dX9_draw_4 rfl ?_
  refine lv_lmul hx hb dX9_draw_5 ?_
  refine lv_ldc2 (v := 6151) hx hb hown (hg _ wd_3_228) dX9_draw_6 ?_
  refine lv_iload_n hx hb dX9_draw_9 rfl (lv_at hl 1 rfl) ?_
  refine lv_i2l (v := (Int32.toInt64 x1)) hx hb dX9_draw_10 rfl ?_
  refine lv_lmul hx hb dX9_draw_11 ?_
  refine lv_ladd hx hb dX9_draw_12 ?_
  refine lv_lconst (v := 1) hx hb dX9_draw_13 (by decide) ?_
  refine lv_ladd hx hb dX9_draw_14 ?_
  refine lv_lstore_n (lv' := [(2, .long ((((7919 * (Int32.toInt64 x0)) + (6151 * (Int32.toInt64 x1))) + 1))), (0, .int x0), (1, .int x1)]) hx hb dX9_draw_15 rfl hl (by decide) rfl (fun ls hl => ?_)
  refine lv_lload_n hx hb dX9_draw_16 rfl (lv_at hl 0 rfl) ?_
  refine lv_lload_n hx hb dX9_draw_17 rfl (lv_at hl 0 rfl) ?_
  refine lv_lmul hx hb dX9_draw_18 ?_
  refine lv_ldc2 (v := 65521) hx hb hown (hg _ wd_3_229) dX9_draw_19 ?_
  refine lv_lrem hx hb dX9_draw_22 (by decide) ?_
  refine lv_ldc2 (v := 8) hx hb hown (hg _ wd_3_230) dX9_draw_23 ?_
  refine lv_ldiv hx hb dX9_draw_26 (by decide) ?_
  refine lv_l2i (v := (Int64.toInt32 (((((((7919 * (Int32.toInt64 x0)) + (6151 * (Int32.toInt64 x1))) + 1) * (((7919 * (Int32.toInt64 x0)) + (6151 * (Int32.toInt64 x1))) + 1)) - ((((7919 * (Int32.toInt64 x0)) + (6151 * (Int32.toInt64 x1))) + 1) * (((7919 * (Int32.toInt64 x0)) + (6151 * (Int32.toInt64 x1))) + 1)) / 65521 * 65521) / 8)))) hx hb dX9_draw_27 rfl ?_
  obtain rfl := Option.some.inj hF
  exact hret _ _ _ _ hW dX9_draw_28
