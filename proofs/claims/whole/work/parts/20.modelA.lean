theorem inb_vp {i : Int32} {n : Nat} (h : inb i n = true) : vp_in i n := (of_decide_eq_true (p := ¬ (i < 0 ∨ n ≤ i.toNatClampNeg)) h : _)
theorem dX10_in_0 : decode cX10_in 0 = .ok (.iload_n 0, 1) := by decide +kernel
theorem dX10_in_1 : decode cX10_in 1 = .ok (.iload_n 1, 1) := by decide +kernel
theorem dX10_in_2 : decode cX10_in 2 = .ok (.if_icmp .lt 12, 3) := by decide +kernel
theorem dX10_in_5 : decode cX10_in 5 = .ok (.iload_n 0, 1) := by decide +kernel
theorem dX10_in_6 : decode cX10_in 6 = .ok (.iload_n 2, 1) := by decide +kernel
theorem dX10_in_7 : decode cX10_in 7 = .ok (.if_icmp .gt 7, 3) := by decide +kernel
theorem dX10_in_10 : decode cX10_in 10 = .ok (.iconst 1, 1) := by decide +kernel
theorem dX10_in_11 : decode cX10_in 11 = .ok (.goto 4, 3) := by decide +kernel
theorem dX10_in_14 : decode cX10_in 14 = .ok (.iconst 0, 1) := by decide +kernel
theorem dX10_in_15 : decode cX10_in 15 = .ok (.ireturn, 1) := by decide +kernel
def F_X10_in (x0 : Int32) (x1 : Int32) (x2 : Int32) : Option (Int32) := (if x0 < x1 then some (0) else (if x2 < x0 then some (0) else some (1)))
theorem hdS_X10_in : yX10_in.cls ≠ "java/lang/invoke/MethodHandle" ∧ yX10_in.cls ≠ "java/lang/invoke/VarHandle" ∧ (parseMethodDescriptor yX10_in.desc).map (fun d => d.parameters.length) = some 3 := by decide +kernel
set_option maxHeartbeats 4000000 in
set_option maxRecDepth 100000 in
theorem c_X10_in (l : Launch) (G : GG) (x0 : Int32) (x1 : Int32) (x2 : Int32) (out : Int32) (hF : F_X10_in x0 x1 x2 = some out) : CtrZ l yX10_in (WS yX10_in cX10_in 3 (some .boolean)) { frames := 0, cells := 0, slots := 0, locals := 0 } G [.int x0, .int x1, .int x2] [] [] out := by
  refine startZ (cc := cX10_in) (maxL := 3) (by decide) rfl (Nat.le_of_ble_eq_true rfl) ?_
  intro p e s m args below meth c A Q hx hb hml hts hown hc hA hret ls H locs hl hW
  have hown : s.vm.findClass RX10 = some m.cls := hown
  have hg : ∀ w ∈ GOODS, w.before _ s = true := fun w h => hts w (List.mem_cons_of_mem _ h)
  have hl : lv_has ls 3 [(0, .int x0), (1, .int x1), (2, .int x2)] := hl
  rw [F_X10_in] at hF
  refine lv_iload_n hx hb dX10_in_0 rfl (lv_at hl 0 rfl) ?_
  refine lv_iload_n hx hb dX10_in_1 rfl (lv_at hl 1 rfl) ?_
  refine lv_icmp_lt (tgt := 14) hx hb dX10_in_2 (by decide) (fun c_2 => ?_) (fun c_2 => ?_)
  · have hF := ite_t hF c_2
    refine lv_iconst (v := 0) hx hb dX10_in_14 (by decide) ?_
    obtain rfl := Option.some.inj hF
    exact hret _ _ _ _ hW (Or.inl rfl) dX10_in_15
  · have hF := ite_f hF c_2
    refine lv_iload_n hx hb dX10_in_5 rfl (lv_at hl 0 rfl) ?_
    refine lv_iload_n hx hb dX10_in_6 rfl (lv_at hl 2 rfl) ?_
    refine lv_icmp_gt (tgt := 14) hx hb dX10_in_7 (by decide) (fun c_7 => ?_) (fun c_7 => ?_)
    · have hF := ite_t hF c_7
      refine lv_iconst (v := 0) hx hb dX10_in_14 (by decide) ?_
      obtain rfl := Option.some.inj hF
      exact hret _ _ _ _ hW (Or.inl rfl) dX10_in_15
    · have hF := ite_f hF c_7
      refine lv_iconst (v := 1) hx hb dX10_in_10 (by decide) ?_
      refine lv_goto (tgt := 15) hx hb dX10_in_11 (by decide) ?_
      obtain rfl := Option.some.inj hF
      exact hret _ _ _ _ hW (Or.inr rfl) dX10_in_15
theorem dX10_law_0 : decode cX10_law 0 = .ok (.aload_n 0, 1) := by decide +kernel
theorem dX10_law_1 : decode cX10_law 1 = .ok (.getfield 13, 3) := by decide +kernel
theorem dX10_law_4 : decode cX10_law 4 = .ok (.iconst 3, 1) := by decide +kernel
theorem dX10_law_5 : decode cX10_law 5 = .ok (.iload_n 1, 1) := by decide +kernel
theorem dX10_law_6 : decode cX10_law 6 = .ok (.imul, 1) := by decide +kernel
theorem dX10_law_7 : decode cX10_law 7 = .ok (.iload_n 2, 1) := by decide +kernel
theorem dX10_law_8 : decode cX10_law 8 = .ok (.iastore, 1) := by decide +kernel
theorem dX10_law_9 : decode cX10_law 9 = .ok (.aload_n 0, 1) := by decide +kernel
theorem dX10_law_10 : decode cX10_law 10 = .ok (.getfield 13, 3) := by decide +kernel
theorem dX10_law_13 : decode cX10_law 13 = .ok (.iconst 3, 1) := by decide +kernel
theorem dX10_law_14 : decode cX10_law 14 = .ok (.iload_n 1, 1) := by decide +kernel
theorem dX10_law_15 : decode cX10_law 15 = .ok (.imul, 1) := by decide +kernel
theorem dX10_law_16 : decode cX10_law 16 = .ok (.iconst 1, 1) := by decide +kernel
theorem dX10_law_17 : decode cX10_law 17 = .ok (.iadd, 1) := by decide +kernel
theorem dX10_law_18 : decode cX10_law 18 = .ok (.iload_n 3, 1) := by decide +kernel
theorem dX10_law_19 : decode cX10_law 19 = .ok (.iastore, 1) := by decide +kernel
theorem dX10_law_20 : decode cX10_law 20 = .ok (.aload_n 0, 1) := by decide +kernel
theorem dX10_law_21 : decode cX10_law 21 = .ok (.getfield 13, 3) := by decide +kernel
theorem dX10_law_24 : decode cX10_law 24 = .ok (.iconst 3, 1) := by decide +kernel
theorem dX10_law_25 : decode cX10_law 25 = .ok (.iload_n 1, 1) := by decide +kernel
theorem dX10_law_26 : decode cX10_law 26 = .ok (.imul, 1) := by decide +kernel
theorem dX10_law_27 : decode cX10_law 27 = .ok (.iconst 2, 1) := by decide +kernel
theorem dX10_law_28 : decode cX10_law 28 = .ok (.iadd, 1) := by decide +kernel
theorem dX10_law_29 : decode cX10_law 29 = .ok (.iload 4, 2) := by decide +kernel
theorem dX10_law_31 : decode cX10_law 31 = .ok (.iastore, 1) := by decide +kernel
theorem dX10_law_32 : decode cX10_law 32 = .ok (.return_, 1) := by decide +kernel
def F_X10_law (x1 : Int32) (x2 : Int32) (x3 : Int32) (x4 : Int32) (a_goes : Nat → Int32) : Option ((Nat → Int32)) := (if inb ((3 * x1)) 6 = true then (if inb (((3 * x1) + 1)) 6 = true then (if inb (((3 * x1) + 2)) 6 = true then some ((upd ((upd ((upd a_goes (Int32.toNatClampNeg ((3 * x1))) x2)) (Int32.toNatClampNeg (((3 * x1) + 1))) x3)) (Int32.toNatClampNeg (((3 * x1) + 2))) x4)) else none) else none) else none)
theorem hdV_X10_law : yX10_law.cls = RX10 ∧ yX10_law.cls ≠ "java/lang/invoke/MethodHandle" ∧ yX10_law.cls ≠ "java/lang/invoke/VarHandle" ∧ (parseMethodDescriptor yX10_law.desc).map (fun d => d.parameters.length) = some 4 := by decide +kernel
set_option maxHeartbeats 4000000 in
set_option maxRecDepth 100000 in
theorem c_X10_law (l : Launch) (G : GG) (x1 : Int32) (x2 : Int32) (x3 : Int32) (x4 : Int32) (h_this : Nat) (ad_this : Nat → Nat) (v_typed : Int32) (v_at : Int32) (v_isSo : Int32) (v_kept : Int32) (v_all : Int64) (v_sightAll : Int64) (v_aheadMany : Int32) (a_goes : Nat → Int32) (out : (Nat → Int32)) (hF : F_X10_law x1 x2 x3 x4 a_goes = some out) : CtrV l yX10_law (WS yX10_law cX10_law 5 none) { frames := 0, cells := 0, slots := 0, locals := 0 } G [.ref h_this, .int x1, .int x2, .int x3, .int x4] [(h_this, oX10 ad_this v_typed v_at v_isSo v_kept v_all v_sightAll v_aheadMany), ((ad_this 2), cI G 6 a_goes)] [(h_this, oX10 ad_this v_typed v_at v_isSo v_kept v_all v_sightAll v_aheadMany), ((ad_this 2), cI G 6 out)] := by
  refine startV (cc := cX10_law) (maxL := 5) (by decide) rfl (Nat.le_of_ble_eq_true rfl) ?_
  intro p e s m args below meth c A Q hx hb hml hts hown hc hA hret ls H locs hl hW
  have hown : s.vm.findClass RX10 = some m.cls := hown
  have hg : ∀ w ∈ GOODS, w.before _ s = true := fun w h => hts w (List.mem_cons_of_mem _ h)
  have hl : lv_has ls 5 [(0, .ref h_this), (1, .int x1), (2, .int x2), (3, .int x3), (4, .int x4)] := hl
  rw [F_X10_law] at hF
  refine lv_aload_n hx hb dX10_law_0 rfl (lv_at hl 0 rfl) ?_
  refine va_get (D := G.1) (ci := 9) (v := .ref ((ad_this 2))) (C := RX10) (T := TX10) (N := 31) hx hb hg hu_X10 hown hc.1 hW.1 0 rfl rfl 2 (by decide) (hg _ wd_4_40) (fun _ h9 => h9) rfl dX10_law_1 ?_
  refine lv_iconst (v := 3) hx hb dX10_law_4 (by decide) ?_
  refine lv_iload_n hx hb dX10_law_5 rfl (lv_at hl 1 rfl) ?_
  refine lv_imul hx hb dX10_law_6 ?_
  refine lv_iload_n hx hb dX10_law_7 rfl (lv_at hl 2 rfl) ?_
  obtain ⟨b_8, hF⟩ := inb_el hF
  refine va_iast hx hb hc.1 hW.1 hW.2.1 hW.2.2 1 0 rfl rfl b_8 dX10_law_8 (fun H locs hP hD hS => ?_)
  have hW : Wd G A s.heap [(h_this, oX10 ad_this v_typed v_at v_isSo v_kept v_all v_sightAll v_aheadMany), ((ad_this 2), cI G 6 ((upd a_goes (Int32.toNatClampNeg ((3 * x1))) x2)))] H locs := ⟨hP, hD, hS⟩
  refine lv_aload_n hx hb dX10_law_9 rfl (lv_at hl 0 rfl) ?_
  refine va_get (D := G.1) (ci := 9) (v := .ref ((ad_this 2))) (C := RX10) (T := TX10) (N := 31) hx hb hg hu_X10 hown hc.1 hW.1 0 rfl rfl 2 (by decide) (hg _ wd_4_40) (fun _ h9 => h9) rfl dX10_law_10 ?_
  refine lv_iconst (v := 3) hx hb dX10_law_13 (by decide) ?_
  refine lv_iload_n hx hb dX10_law_14 rfl (lv_at hl 1 rfl) ?_
  refine lv_imul hx hb dX10_law_15 ?_
  refine lv_iconst (v := 1) hx hb dX10_law_16 (by decide) ?_
  refine lv_iadd hx hb dX10_law_17 ?_
  refine lv_iload_n hx hb dX10_law_18 rfl (lv_at hl 3 rfl) ?_
  obtain ⟨b_19, hF⟩ := inb_el hF
  refine va_iast hx hb hc.1 hW.1 hW.2.1 hW.2.2 1 0 rfl rfl b_19 dX10_law_19 (fun H locs hP hD hS => ?_)
  have hW : Wd G A s.heap [(h_this, oX10 ad_this v_typed v_at v_isSo v_kept v_all v_sightAll v_aheadMany), ((ad_this 2), cI G 6 ((upd ((upd a_goes (Int32.toNatClampNeg ((3 * x1))) x2)) (Int32.toNatClampNeg (((3 * x1) + 1))) x3)))] H locs := ⟨hP, hD, hS⟩
  refine lv_aload_n hx hb dX10_law_20 rfl (lv_at hl 0 rfl) ?_
  refine va_get (D := G.1) (ci := 9) (v := .ref ((ad_this 2))) (C := RX10) (T := TX10) (N := 31) hx hb hg hu_X10 hown hc.1 hW.1 0 rfl rfl 2 (by decide) (hg _ wd_4_40) (fun _ h9 => h9) rfl dX10_law_21 ?_
  refine lv_iconst (v := 3) hx hb dX10_law_24 (by decide) ?_
  refine lv_iload_n hx hb dX10_law_25 rfl (lv_at hl 1 rfl) ?_
  refine lv_imul hx hb dX10_law_26 ?_
  refine lv_iconst (v := 2) hx hb dX10_law_27 (by decide) ?_
  refine lv_iadd hx hb dX10_law_28 ?_
  refine lv_iload hx hb dX10_law_29 (lv_at hl 4 rfl) ?_
  obtain ⟨b_31, hF⟩ := inb_el hF
  refine va_iast hx hb hc.1 hW.1 hW.2.1 hW.2.2 1 0 rfl rfl b_31 dX10_law_31 (fun H locs hP hD hS => ?_)
  have hW : Wd G A s.heap [(h_this, oX10 ad_this v_typed v_at v_isSo v_kept v_all v_sightAll v_aheadMany), ((ad_this 2), cI G 6 ((upd ((upd ((upd a_goes (Int32.toNatClampNeg ((3 * x1))) x2)) (Int32.toNatClampNeg (((3 * x1) + 1))) x3)) (Int32.toNatClampNeg (((3 * x1) + 2))) x4)))] H locs := ⟨hP, hD, hS⟩
  obtain rfl := Option.some.inj hF
  exact hret _ _ _ _ hW dX10_law_32
theorem dX10_sign4_0 : decode cX10_sign4 0 = .ok (.aload_n 0, 1) := by decide +kernel
theorem dX10_sign4_1 : decode cX10_sign4 1 = .ok (.getfield 20, 3) := by decide +kernel
theorem dX10_sign4_4 : decode cX10_sign4 4 = .ok (.iconst 4, 1) := by decide +kernel
theorem dX10_sign4_5 : decode cX10_sign4 5 = .ok (.iload_n 1, 1) := by decide +kernel
theorem dX10_sign4_6 : decode cX10_sign4 6 = .ok (.imul, 1) := by decide +kernel
theorem dX10_sign4_7 : decode cX10_sign4 7 = .ok (.iload_n 2, 1) := by decide +kernel
theorem dX10_sign4_8 : decode cX10_sign4 8 = .ok (.iastore, 1) := by decide +kernel
theorem dX10_sign4_9 : decode cX10_sign4 9 = .ok (.aload_n 0, 1) := by decide +kernel
theorem dX10_sign4_10 : decode cX10_sign4 10 = .ok (.getfield 20, 3) := by decide +kernel
theorem dX10_sign4_13 : decode cX10_sign4 13 = .ok (.iconst 4, 1) := by decide +kernel
theorem dX10_sign4_14 : decode cX10_sign4 14 = .ok (.iload_n 1, 1) := by decide +kernel
theorem dX10_sign4_15 : decode cX10_sign4 15 = .ok (.imul, 1) := by decide +kernel
theorem dX10_sign4_16 : decode cX10_sign4 16 = .ok (.iconst 1, 1) := by decide +kernel
theorem dX10_sign4_17 : decode cX10_sign4 17 = .ok (.iadd, 1) := by decide +kernel
theorem dX10_sign4_18 : decode cX10_sign4 18 = .ok (.iload_n 3, 1) := by decide +kernel
theorem dX10_sign4_19 : decode cX10_sign4 19 = .ok (.iastore, 1) := by decide +kernel
theorem dX10_sign4_20 : decode cX10_sign4 20 = .ok (.aload_n 0, 1) := by decide +kernel
theorem dX10_sign4_21 : decode cX10_sign4 21 = .ok (.getfield 20, 3) := by decide +kernel
theorem dX10_sign4_24 : decode cX10_sign4 24 = .ok (.iconst 4, 1) := by decide +kernel
theorem dX10_sign4_25 : decode cX10_sign4 25 = .ok (.iload_n 1, 1) := by decide +kernel
theorem dX10_sign4_26 : decode cX10_sign4 26 = .ok (.imul, 1) := by decide +kernel
theorem dX10_sign4_27 : decode cX10_sign4 27 = .ok (.iconst 2, 1) := by decide +kernel
theorem dX10_sign4_28 : decode cX10_sign4 28 = .ok (.iadd, 1) := by decide +kernel
theorem dX10_sign4_29 : decode cX10_sign4 29 = .ok (.iload 4, 2) := by decide +kernel
theorem dX10_sign4_31 : decode cX10_sign4 31 = .ok (.iastore, 1) := by decide +kernel
theorem dX10_sign4_32 : decode cX10_sign4 32 = .ok (.aload_n 0, 1) := by decide +kernel
theorem dX10_sign4_33 : decode cX10_sign4 33 = .ok (.getfield 20, 3) := by decide +kernel
theorem dX10_sign4_36 : decode cX10_sign4 36 = .ok (.iconst 4, 1) := by decide +kernel
theorem dX10_sign4_37 : decode cX10_sign4 37 = .ok (.iload_n 1, 1) := by decide +kernel
theorem dX10_sign4_38 : decode cX10_sign4 38 = .ok (.imul, 1) := by decide +kernel
theorem dX10_sign4_39 : decode cX10_sign4 39 = .ok (.iconst 3, 1) := by decide +kernel
theorem dX10_sign4_40 : decode cX10_sign4 40 = .ok (.iadd, 1) := by decide +kernel
theorem dX10_sign4_41 : decode cX10_sign4 41 = .ok (.iload 5, 2) := by decide +kernel
theorem dX10_sign4_43 : decode cX10_sign4 43 = .ok (.iastore, 1) := by decide +kernel
theorem dX10_sign4_44 : decode cX10_sign4 44 = .ok (.return_, 1) := by decide +kernel
def F_X10_sign4 (x1 : Int32) (x2 : Int32) (x3 : Int32) (x4 : Int32) (x5 : Int32) (a_told : Nat → Int32) : Option ((Nat → Int32)) := (if inb ((4 * x1)) 32 = true then (if inb (((4 * x1) + 1)) 32 = true then (if inb (((4 * x1) + 2)) 32 = true then (if inb (((4 * x1) + 3)) 32 = true then some ((upd ((upd ((upd ((upd a_told (Int32.toNatClampNeg ((4 * x1))) x2)) (Int32.toNatClampNeg (((4 * x1) + 1))) x3)) (Int32.toNatClampNeg (((4 * x1) + 2))) x4)) (Int32.toNatClampNeg (((4 * x1) + 3))) x5)) else none) else none) else none) else none)
theorem hdV_X10_sign4 : yX10_sign4.cls = RX10 ∧ yX10_sign4.cls ≠ "java/lang/invoke/MethodHandle" ∧ yX10_sign4.cls ≠ "java/lang/invoke/VarHandle" ∧ (parseMethodDescriptor yX10_sign4.desc).map (fun d => d.parameters.length) = some 5 := by decide +kernel
set_option maxHeartbeats 4000000 in
set_option maxRecDepth 100000 in
theorem c_X10_sign4 (l : Launch) (G : GG) (x1 : Int32) (x2 : Int32) (x3 : Int32) (x4 : Int32) (x5 : Int32) (h_this : Nat) (ad_this : Nat → Nat) (v_typed : Int32) (v_at : Int32) (v_isSo : Int32) (v_kept : Int32) (v_all : Int64) (v_sightAll : Int64) (v_aheadMany : Int32) (a_told : Nat → Int32) (out : (Nat → Int32)) (hF : F_X10_sign4 x1 x2 x3 x4 x5 a_told = some out) : CtrV l yX10_sign4 (WS yX10_sign4 cX10_sign4 6 none) { frames := 0, cells := 0, slots := 0, locals := 0 } G [.ref h_this, .int x1, .int x2, .int x3, .int x4, .int x5] [(h_this, oX10 ad_this v_typed v_at v_isSo v_kept v_all v_sightAll v_aheadMany), ((ad_this 4), cI G 32 a_told)] [(h_this, oX10 ad_this v_typed v_at v_isSo v_kept v_all v_sightAll v_aheadMany), ((ad_this 4), cI G 32 out)] := by
  refine startV (cc := cX10_sign4) (maxL := 6) (by decide) rfl (Nat.le_of_ble_eq_true rfl) ?_
  intro p e s m args below meth c A Q hx hb hml hts hown hc hA hret ls H locs hl hW
  have hown : s.vm.findClass RX10 = some m.cls := hown
  have hg : ∀ w ∈ GOODS, w.before _ s = true := fun w h => hts w (List.mem_cons_of_mem _ h)
  have hl : lv_has ls 6 [(0, .ref h_this), (1, .int x1), (2, .int x2), (3, .int x3), (4, .int x4), (5, .int x5)] := hl
  rw [F_X10_sign4] at hF
  refine lv_aload_n hx hb dX10_sign4_0 rfl (lv_at hl 0 rfl) ?_
  refine va_get (D := G.1) (ci := 9) (v := .ref ((ad_this 4))) (C := RX10) (T := TX10) (N := 31) hx hb hg hu_X10 hown hc.1 hW.1 0 rfl rfl 4 (by decide) (hg _ wd_4_42) (fun _ h9 => h9) rfl dX10_sign4_1 ?_
  refine lv_iconst (v := 4) hx hb dX10_sign4_4 (by decide) ?_
  refine lv_iload_n hx hb dX10_sign4_5 rfl (lv_at hl 1 rfl) ?_
  refine lv_imul hx hb dX10_sign4_6 ?_
  refine lv_iload_n hx hb dX10_sign4_7 rfl (lv_at hl 2 rfl) ?_
  obtain ⟨b_8, hF⟩ := inb_el hF
  refine va_iast hx hb hc.1 hW.1 hW.2.1 hW.2.2 1 0 rfl rfl b_8 dX10_sign4_8 (fun H locs hP hD hS => ?_)
  have hW : Wd G A s.heap [(h_this, oX10 ad_this v_typed v_at v_isSo v_kept v_all v_sightAll v_aheadMany), ((ad_this 4), cI G 32 ((upd a_told (Int32.toNatClampNeg ((4 * x1))) x2)))] H locs := ⟨hP, hD, hS⟩
  refine lv_aload_n hx hb dX10_sign4_9 rfl (lv_at hl 0 rfl) ?_
  refine va_get (D := G.1) (ci := 9) (v := .ref ((ad_this 4))) (C := RX10) (T := TX10) (N := 31) hx hb hg hu_X10 hown hc.1 hW.1 0 rfl rfl 4 (by decide) (hg _ wd_4_42) (fun _ h9 => h9) rfl dX10_sign4_10 ?_
  refine lv_iconst (v := 4) hx hb dX10_sign4_13 (by decide) ?_
  refine lv_iload_n hx hb dX10_sign4_14 rfl (lv_at hl 1 rfl) ?_
  refine lv_imul hx hb dX10_sign4_15 ?_
  refine lv_iconst (v := 1) hx hb dX10_sign4_16 (by decide) ?_
  refine lv_iadd hx hb dX10_sign4_17 ?_
  refine lv_iload_n hx hb dX10_sign4_18 rfl (lv_at hl 3 rfl) ?_
  obtain ⟨b_19, hF⟩ := inb_el hF
  refine va_iast hx hb hc.1 hW.1 hW.2.1 hW.2.2 1 0 rfl rfl b_19 dX10_sign4_19 (fun H locs hP hD hS => ?_)
  have hW : Wd G A s.heap [(h_this, oX10 ad_this v_typed v_at v_isSo v_kept v_all v_sightAll v_aheadMany), ((ad_this 4), cI G 32 ((upd ((upd a_told (Int32.toNatClampNeg ((4 * x1))) x2)) (Int32.toNatClampNeg (((4 * x1) + 1))) x3)))] H locs := ⟨hP, hD, hS⟩
  refine lv_aload_n hx hb dX10_sign4_20 rfl (lv_at hl 0 rfl) ?_
  refine va_get (D := G.1) (ci := 9) (v := .ref ((ad_this 4))) (C := RX10) (T := TX10) (N := 31) hx hb hg hu_X10 hown hc.1 hW.1 0 rfl rfl 4 (by decide) (hg _ wd_4_42) (fun _ h9 => h9) rfl dX10_sign4_21 ?_
  refine lv_iconst (v := 4) hx hb dX10_sign4_24 (by decide) ?_
  refine lv_iload_n hx hb dX10_sign4_25 rfl (lv_at hl 1 rfl) ?_
  refine lv_imul hx hb dX10_sign4_26 ?_
  refine lv_iconst (v := 2) hx hb dX10_sign4_27 (by decide) ?_
  refine lv_iadd hx hb dX10_sign4_28 ?_
  refine lv_iload hx hb dX10_sign4_29 (lv_at hl 4 rfl) ?_
  obtain ⟨b_31, hF⟩ := inb_el hF
  refine va_iast hx hb hc.1 hW.1 hW.2.1 hW.2.2 1 0 rfl rfl b_31 dX10_sign4_31 (fun H locs hP hD hS => ?_)
  have hW : Wd G A s.heap [(h_this, oX10 ad_this v_typed v_at v_isSo v_kept v_all v_sightAll v_aheadMany), ((ad_this 4), cI G 32 ((upd ((upd ((upd a_told (Int32.toNatClampNeg ((4 * x1))) x2)) (Int32.toNatClampNeg (((4 * x1) + 1))) x3)) (Int32.toNatClampNeg (((4 * x1) + 2))) x4)))] H locs := ⟨hP, hD, hS⟩
  refine lv_aload_n hx hb dX10_sign4_32 rfl (lv_at hl 0 rfl) ?_
  refine va_get (D := G.1) (ci := 9) (v := .ref ((ad_this 4))) (C := RX10) (T := TX10) (N := 31) hx hb hg hu_X10 hown hc.1 hW.1 0 rfl rfl 4 (by decide) (hg _ wd_4_42) (fun _ h9 => h9) rfl dX10_sign4_33 ?_
  refine lv_iconst (v := 4) hx hb dX10_sign4_36 (by decide) ?_
  refine lv_iload_n hx hb dX10_sign4_37 rfl (lv_at hl 1 rfl) ?_
  refine lv_imul hx hb dX10_sign4_38 ?_
  refine lv_iconst (v := 3) hx hb dX10_sign4_39 (by decide) ?_
  refine lv_iadd hx hb dX10_sign4_40 ?_
  refine lv_iload hx hb dX10_sign4_41 (lv_at hl 5 rfl) ?_
  obtain ⟨b_43, hF⟩ := inb_el hF
  refine va_iast hx hb hc.1 hW.1 hW.2.1 hW.2.2 1 0 rfl rfl b_43 dX10_sign4_43 (fun H locs hP hD hS => ?_)
  have hW : Wd G A s.heap [(h_this, oX10 ad_this v_typed v_at v_isSo v_kept v_all v_sightAll v_aheadMany), ((ad_this 4), cI G 32 ((upd ((upd ((upd ((upd a_told (Int32.toNatClampNeg ((4 * x1))) x2)) (Int32.toNatClampNeg (((4 * x1) + 1))) x3)) (Int32.toNatClampNeg (((4 * x1) + 2))) x4)) (Int32.toNatClampNeg (((4 * x1) + 3))) x5)))] H locs := ⟨hP, hD, hS⟩
  obtain rfl := Option.some.inj hF
  exact hret _ _ _ _ hW dX10_sign4_44
theorem dX10_house2_0 : decode cX10_house2 0 = .ok (.aload_n 0, 1) := by decide +kernel
theorem dX10_house2_1 : decode cX10_house2 1 = .ok (.getfield 26, 3) := by decide +kernel
theorem dX10_house2_4 : decode cX10_house2 4 = .ok (.iload_n 1, 1) := by decide +kernel
theorem dX10_house2_5 : decode cX10_house2 5 = .ok (.iload_n 2, 1) := by decide +kernel
theorem dX10_house2_6 : decode cX10_house2 6 = .ok (.iastore, 1) := by decide +kernel
theorem dX10_house2_7 : decode cX10_house2 7 = .ok (.aload_n 0, 1) := by decide +kernel
theorem dX10_house2_8 : decode cX10_house2 8 = .ok (.getfield 29, 3) := by decide +kernel
theorem dX10_house2_11 : decode cX10_house2 11 = .ok (.iload_n 1, 1) := by decide +kernel
theorem dX10_house2_12 : decode cX10_house2 12 = .ok (.iload_n 3, 1) := by decide +kernel
theorem dX10_house2_13 : decode cX10_house2 13 = .ok (.iastore, 1) := by decide +kernel
theorem dX10_house2_14 : decode cX10_house2 14 = .ok (.return_, 1) := by decide +kernel
def F_X10_house2 (x1 : Int32) (x2 : Int32) (x3 : Int32) (a_minutes : Nat → Int32) (a_people : Nat → Int32) : Option ((Nat → Int32) × (Nat → Int32)) := (if inb x1 12 = true then (if inb x1 12 = true then some ((upd a_minutes (Int32.toNatClampNeg x1) x3), (upd a_people (Int32.toNatClampNeg x1) x2)) else none) else none)
theorem hdV_X10_house2 : yX10_house2.cls = RX10 ∧ yX10_house2.cls ≠ "java/lang/invoke/MethodHandle" ∧ yX10_house2.cls ≠ "java/lang/invoke/VarHandle" ∧ (parseMethodDescriptor yX10_house2.desc).map (fun d => d.parameters.length) = some 3 := by decide +kernel
set_option maxHeartbeats 4000000 in
set_option maxRecDepth 100000 in
theorem c_X10_house2 (l : Launch) (G : GG) (x1 : Int32) (x2 : Int32) (x3 : Int32) (h_this : Nat) (ad_this : Nat → Nat) (v_typed : Int32) (v_at : Int32) (v_isSo : Int32) (v_kept : Int32) (v_all : Int64) (v_sightAll : Int64) (v_aheadMany : Int32) (a_minutes : Nat → Int32) (a_people : Nat → Int32) (out : (Nat → Int32) × (Nat → Int32)) (hF : F_X10_house2 x1 x2 x3 a_minutes a_people = some out) : CtrV l yX10_house2 (WS yX10_house2 cX10_house2 4 none) { frames := 0, cells := 0, slots := 0, locals := 0 } G [.ref h_this, .int x1, .int x2, .int x3] [(h_this, oX10 ad_this v_typed v_at v_isSo v_kept v_all v_sightAll v_aheadMany), ((ad_this 7), cI G 12 a_minutes), ((ad_this 6), cI G 12 a_people)] [(h_this, oX10 ad_this v_typed v_at v_isSo v_kept v_all v_sightAll v_aheadMany), ((ad_this 7), cI G 12 out.1), ((ad_this 6), cI G 12 out.2)] := by
  refine startV (cc := cX10_house2) (maxL := 4) (by decide) rfl (Nat.le_of_ble_eq_true rfl) ?_
  intro p e s m args below meth c A Q hx hb hml hts hown hc hA hret ls H locs hl hW
  have hown : s.vm.findClass RX10 = some m.cls := hown
  have hg : ∀ w ∈ GOODS, w.before _ s = true := fun w h => hts w (List.mem_cons_of_mem _ h)
  have hl : lv_has ls 4 [(0, .ref h_this), (1, .int x1), (2, .int x2), (3, .int x3)] := hl
  rw [F_X10_house2] at hF
  refine lv_aload_n hx hb dX10_house2_0 rfl (lv_at hl 0 rfl) ?_
  refine va_get (D := G.1) (ci := 9) (v := .ref ((ad_this 6))) (C := RX10) (T := TX10) (N := 31) hx hb hg hu_X10 hown hc.1 hW.1 0 rfl rfl 6 (by decide) (hg _ wd_4_44) (fun _ h9 => h9) rfl dX10_house2_1 ?_
  refine lv_iload_n hx hb dX10_house2_4 rfl (lv_at hl 1 rfl) ?_
  refine lv_iload_n hx hb dX10_house2_5 rfl (lv_at hl 2 rfl) ?_
  obtain ⟨b_6, hF⟩ := inb_el hF
  refine va_iast hx hb hc.1 hW.1 hW.2.1 hW.2.2 2 0 rfl rfl b_6 dX10_house2_6 (fun H locs hP hD hS => ?_)
  have hW : Wd G A s.heap [(h_this, oX10 ad_this v_typed v_at v_isSo v_kept v_all v_sightAll v_aheadMany), ((ad_this 7), cI G 12 a_minutes), ((ad_this 6), cI G 12 ((upd a_people (Int32.toNatClampNeg x1) x2)))] H locs := ⟨hP, hD, hS⟩
  refine lv_aload_n hx hb dX10_house2_7 rfl (lv_at hl 0 rfl) ?_
  refine va_get (D := G.1) (ci := 9) (v := .ref ((ad_this 7))) (C := RX10) (T := TX10) (N := 31) hx hb hg hu_X10 hown hc.1 hW.1 0 rfl rfl 7 (by decide) (hg _ wd_4_45) (fun _ h9 => h9) rfl dX10_house2_8 ?_
  refine lv_iload_n hx hb dX10_house2_11 rfl (lv_at hl 1 rfl) ?_
  refine lv_iload_n hx hb dX10_house2_12 rfl (lv_at hl 3 rfl) ?_
  obtain ⟨b_13, hF⟩ := inb_el hF
  refine va_iast hx hb hc.1 hW.1 hW.2.1 hW.2.2 1 0 rfl rfl b_13 dX10_house2_13 (fun H locs hP hD hS => ?_)
  have hW : Wd G A s.heap [(h_this, oX10 ad_this v_typed v_at v_isSo v_kept v_all v_sightAll v_aheadMany), ((ad_this 7), cI G 12 ((upd a_minutes (Int32.toNatClampNeg x1) x3))), ((ad_this 6), cI G 12 ((upd a_people (Int32.toNatClampNeg x1) x2)))] H locs := ⟨hP, hD, hS⟩
  obtain rfl := Option.some.inj hF
  exact hret _ _ _ _ hW dX10_house2_14
theorem dX10_work2_0 : decode cX10_work2 0 = .ok (.aload_n 0, 1) := by decide +kernel
theorem dX10_work2_1 : decode cX10_work2 1 = .ok (.getfield 41, 3) := by decide +kernel
theorem dX10_work2_4 : decode cX10_work2 4 = .ok (.iload_n 1, 1) := by decide +kernel
theorem dX10_work2_5 : decode cX10_work2 5 = .ok (.iload_n 2, 1) := by decide +kernel
theorem dX10_work2_6 : decode cX10_work2 6 = .ok (.iastore, 1) := by decide +kernel
theorem dX10_work2_7 : decode cX10_work2 7 = .ok (.aload_n 0, 1) := by decide +kernel
theorem dX10_work2_8 : decode cX10_work2 8 = .ok (.getfield 44, 3) := by decide +kernel
theorem dX10_work2_11 : decode cX10_work2 11 = .ok (.iload_n 1, 1) := by decide +kernel
theorem dX10_work2_12 : decode cX10_work2 12 = .ok (.iload_n 3, 1) := by decide +kernel
theorem dX10_work2_13 : decode cX10_work2 13 = .ok (.iastore, 1) := by decide +kernel
theorem dX10_work2_14 : decode cX10_work2 14 = .ok (.return_, 1) := by decide +kernel
def F_X10_work2 (x1 : Int32) (x2 : Int32) (x3 : Int32) (a_brings : Nat → Int32) (a_noise : Nat → Int32) : Option ((Nat → Int32) × (Nat → Int32)) := (if inb x1 10 = true then (if inb x1 10 = true then some ((upd a_brings (Int32.toNatClampNeg x1) x3), (upd a_noise (Int32.toNatClampNeg x1) x2)) else none) else none)
theorem hdV_X10_work2 : yX10_work2.cls = RX10 ∧ yX10_work2.cls ≠ "java/lang/invoke/MethodHandle" ∧ yX10_work2.cls ≠ "java/lang/invoke/VarHandle" ∧ (parseMethodDescriptor yX10_work2.desc).map (fun d => d.parameters.length) = some 3 := by decide +kernel
set_option maxHeartbeats 4000000 in
set_option maxRecDepth 100000 in
theorem c_X10_work2 (l : Launch) (G : GG) (x1 : Int32) (x2 : Int32) (x3 : Int32) (h_this : Nat) (ad_this : Nat → Nat) (v_typed : Int32) (v_at : Int32) (v_isSo : Int32) (v_kept : Int32) (v_all : Int64) (v_sightAll : Int64) (v_aheadMany : Int32) (a_brings : Nat → Int32) (a_noise : Nat → Int32) (out : (Nat → Int32) × (Nat → Int32)) (hF : F_X10_work2 x1 x2 x3 a_brings a_noise = some out) : CtrV l yX10_work2 (WS yX10_work2 cX10_work2 4 none) { frames := 0, cells := 0, slots := 0, locals := 0 } G [.ref h_this, .int x1, .int x2, .int x3] [(h_this, oX10 ad_this v_typed v_at v_isSo v_kept v_all v_sightAll v_aheadMany), ((ad_this 12), cI G 10 a_brings), ((ad_this 11), cI G 10 a_noise)] [(h_this, oX10 ad_this v_typed v_at v_isSo v_kept v_all v_sightAll v_aheadMany), ((ad_this 12), cI G 10 out.1), ((ad_this 11), cI G 10 out.2)] := by
  refine startV (cc := cX10_work2) (maxL := 4) (by decide) rfl (Nat.le_of_ble_eq_true rfl) ?_
  intro p e s m args below meth c A Q hx hb hml hts hown hc hA hret ls H locs hl hW
  have hown : s.vm.findClass RX10 = some m.cls := hown
  have hg : ∀ w ∈ GOODS, w.before _ s = true := fun w h => hts w (List.mem_cons_of_mem _ h)
  have hl : lv_has ls 4 [(0, .ref h_this), (1, .int x1), (2, .int x2), (3, .int x3)] := hl
  rw [F_X10_work2] at hF
  refine lv_aload_n hx hb dX10_work2_0 rfl (lv_at hl 0 rfl) ?_
  refine va_get (D := G.1) (ci := 9) (v := .ref ((ad_this 11))) (C := RX10) (T := TX10) (N := 31) hx hb hg hu_X10 hown hc.1 hW.1 0 rfl rfl 11 (by decide) (hg _ wd_4_49) (fun _ h9 => h9) rfl dX10_work2_1 ?_
  refine lv_iload_n hx hb dX10_work2_4 rfl (lv_at hl 1 rfl) ?_
  refine lv_iload_n hx hb dX10_work2_5 rfl (lv_at hl 2 rfl) ?_
  obtain ⟨b_6, hF⟩ := inb_el hF
  refine va_iast hx hb hc.1 hW.1 hW.2.1 hW.2.2 2 0 rfl rfl b_6 dX10_work2_6 (fun H locs hP hD hS => ?_)
  have hW : Wd G A s.heap [(h_this, oX10 ad_this v_typed v_at v_isSo v_kept v_all v_sightAll v_aheadMany), ((ad_this 12), cI G 10 a_brings), ((ad_this 11), cI G 10 ((upd a_noise (Int32.toNatClampNeg x1) x2)))] H locs := ⟨hP, hD, hS⟩
  refine lv_aload_n hx hb dX10_work2_7 rfl (lv_at hl 0 rfl) ?_
  refine va_get (D := G.1) (ci := 9) (v := .ref ((ad_this 12))) (C := RX10) (T := TX10) (N := 31) hx hb hg hu_X10 hown hc.1 hW.1 0 rfl rfl 12 (by decide) (hg _ wd_4_50) (fun _ h9 => h9) rfl dX10_work2_8 ?_
  refine lv_iload_n hx hb dX10_work2_11 rfl (lv_at hl 1 rfl) ?_
  refine lv_iload_n hx hb dX10_work2_12 rfl (lv_at hl 3 rfl) ?_
  obtain ⟨b_13, hF⟩ := inb_el hF
  refine va_iast hx hb hc.1 hW.1 hW.2.1 hW.2.2 1 0 rfl rfl b_13 dX10_work2_13 (fun H locs hP hD hS => ?_)
  have hW : Wd G A s.heap [(h_this, oX10 ad_this v_typed v_at v_isSo v_kept v_all v_sightAll v_aheadMany), ((ad_this 12), cI G 10 ((upd a_brings (Int32.toNatClampNeg x1) x3))), ((ad_this 11), cI G 10 ((upd a_noise (Int32.toNatClampNeg x1) x2)))] H locs := ⟨hP, hD, hS⟩
  obtain rfl := Option.some.inj hF
  exact hret _ _ _ _ hW dX10_work2_14
theorem dX10_write_0 : decode cX10_write 0 = .ok (.iload_n 1, 1) := by decide +kernel
theorem dX10_write_1 : decode cX10_write 1 = .ok (.bipush 32, 2) := by decide +kernel
theorem dX10_write_3 : decode cX10_write 3 = .ok (.bipush 126, 2) := by decide +kernel
theorem dX10_write_5 : decode cX10_write 5 = .ok (.invokestatic 99, 3) := by decide +kernel
theorem dX10_write_8 : decode cX10_write 8 = .ok (.ifCond .ne 5, 3) := by decide +kernel
theorem dX10_write_11 : decode cX10_write 11 = .ok (.iconst (-1), 1) := by decide +kernel
theorem dX10_write_12 : decode cX10_write 12 = .ok (.ireturn, 1) := by decide +kernel
theorem dX10_write_13 : decode cX10_write 13 = .ok (.aload_n 0, 1) := by decide +kernel
theorem dX10_write_14 : decode cX10_write 14 = .ok (.getfield 103, 3) := by decide +kernel
theorem dX10_write_17 : decode cX10_write 17 = .ok (.sipush 200, 3) := by decide +kernel
theorem dX10_write_20 : decode cX10_write 20 = .ok (.if_icmp .ne 6, 3) := by decide +kernel
theorem dX10_write_23 : decode cX10_write 23 = .ok (.bipush (-3), 2) := by decide +kernel
theorem dX10_write_25 : decode cX10_write 25 = .ok (.ireturn, 1) := by decide +kernel
theorem dX10_write_26 : decode cX10_write 26 = .ok (.aload_n 0, 1) := by decide +kernel
theorem dX10_write_27 : decode cX10_write 27 = .ok (.getfield 7, 3) := by decide +kernel
theorem dX10_write_30 : decode cX10_write 30 = .ok (.aload_n 0, 1) := by decide +kernel
theorem dX10_write_31 : decode cX10_write 31 = .ok (.getfield 103, 3) := by decide +kernel
theorem dX10_write_34 : decode cX10_write 34 = .ok (.iload_n 1, 1) := by decide +kernel
theorem dX10_write_35 : decode cX10_write 35 = .ok (.i2b, 1) := by decide +kernel
theorem dX10_write_36 : decode cX10_write 36 = .ok (.bastore, 1) := by decide +kernel
theorem dX10_write_37 : decode cX10_write 37 = .ok (.aload_n 0, 1) := by decide +kernel
theorem dX10_write_38 : decode cX10_write 38 = .ok (.dup, 1) := by decide +kernel
theorem dX10_write_39 : decode cX10_write 39 = .ok (.getfield 103, 3) := by decide +kernel
theorem dX10_write_42 : decode cX10_write 42 = .ok (.iconst 1, 1) := by decide +kernel
theorem dX10_write_43 : decode cX10_write 43 = .ok (.iadd, 1) := by decide +kernel
theorem dX10_write_44 : decode cX10_write 44 = .ok (.putfield 103, 3) := by decide +kernel
theorem dX10_write_47 : decode cX10_write 47 = .ok (.aload_n 0, 1) := by decide +kernel
theorem dX10_write_48 : decode cX10_write 48 = .ok (.getfield 103, 3) := by decide +kernel
theorem dX10_write_51 : decode cX10_write 51 = .ok (.ireturn, 1) := by decide +kernel
def F_X10_write (x1 : Int32) (v_typed : Int32) (a_text : Nat → Int32) : Option (Int32 × Int32 × (Nat → Int32)) := (F_X10_in x1 32 126).bind (fun q5 => (if q5 = 0 then some ((-1), v_typed, a_text) else (if v_typed = 200 then some ((-3), v_typed, a_text) else (if inb v_typed 200 = true then some ((v_typed + 1), (v_typed + 1), (upd a_text (Int32.toNatClampNeg v_typed) ((vp_nar .byte ((Int8.toInt32 (Int32.toInt8 x1))))))) else none))))
theorem hdV_X10_write : yX10_write.cls = RX10 ∧ yX10_write.cls ≠ "java/lang/invoke/MethodHandle" ∧ yX10_write.cls ≠ "java/lang/invoke/VarHandle" ∧ (parseMethodDescriptor yX10_write.desc).map (fun d => d.parameters.length) = some 1 := by decide +kernel
set_option maxHeartbeats 4000000 in
set_option maxRecDepth 100000 in
theorem c_X10_write (l : Launch) (G : GG) (x1 : Int32) (h_this : Nat) (ad_this : Nat → Nat) (v_typed : Int32) (v_at : Int32) (v_isSo : Int32) (v_kept : Int32) (v_all : Int64) (v_sightAll : Int64) (v_aheadMany : Int32) (a_text : Nat → Int32) (out : Int32 × Int32 × (Nat → Int32)) (hF : F_X10_write x1 v_typed a_text = some out) : CtrI l yX10_write (WS yX10_write cX10_write 2 (some .int)) { frames := 1, cells := 0, slots := 0, locals := 22 } G [.ref h_this, .int x1] [(h_this, oX10 ad_this v_typed v_at v_isSo v_kept v_all v_sightAll v_aheadMany), ((ad_this 0), cB G 200 a_text)] [(h_this, oX10 ad_this out.2.1 v_at v_isSo v_kept v_all v_sightAll v_aheadMany), ((ad_this 0), cB G 200 out.2.2)] out.1 := by
  refine startI (cc := cX10_write) (maxL := 2) (by decide) rfl (Nat.le_of_ble_eq_true rfl) ?_
  intro p e s m args below meth c A Q hx hb hml hts hown hc hA hret ls H locs hl hW
  have hown : s.vm.findClass RX10 = some m.cls := hown
  have hg : ∀ w ∈ GOODS, w.before _ s = true := fun w h => hts w (List.mem_cons_of_mem _ h)
  have hl : lv_has ls 2 [(0, .ref h_this), (1, .int x1)] := hl
  rw [F_X10_write] at hF
  refine lv_iload_n hx hb dX10_write_0 rfl (lv_at hl 1 rfl) ?_
  refine lv_bipush (v := 32) hx hb dX10_write_1 (by decide) ?_
  refine lv_bipush (v := 126) hx hb dX10_write_3 (by decide) ?_
  obtain ⟨q5, c_5, hF⟩ := bd_el hF
  refine wcZ (ws' := [(h_this, oX10 ad_this v_typed v_at v_isSo v_kept v_all v_sightAll v_aheadMany), ((ad_this 0), cB G 200 a_text)]) (wc := []) (wr := [(h_this, oX10 ad_this v_typed v_at v_isSo v_kept v_all v_sightAll v_aheadMany), ((ad_this 0), cB G 200 a_text)]) (w1 := []) (va_runS (As := [.int x1, .int 32, .int 126]) (rest := []) ⟨hx, hb, hml, hown, hg⟩ (c_X10_in l G x1 32 126 q5 c_5 H.size) (va_cwS 3 hg (gS wd_4_136 wd_4_137 wd_1_15 wd_4_138) rfl rfl rfl hdS_X10_in ⟨(Nat.le_of_ble_eq_true rfl), (Nat.le_of_ble_eq_true rfl)⟩) (preS hc hW [] rfl (by decide)) rfl rfl hl.1 rfl (lv_room (Nat.le_of_ble_eq_true rfl)) dX10_write_5 ⟨Nat.zero_le _, Nat.zero_le _⟩) hA hW [] [0, 1] [0, 1] rfl rfl (by decide) (by decide) rfl (by decide) (fun z_5 H locs hW => ?_)
  refine lv_if_ne (tgt := 13) hx hb dX10_write_8 (by decide) (fun c_8 => ?_) (fun c_8 => ?_)
  · have hF := ite_f hF c_8
    refine lv_aload_n hx hb dX10_write_13 rfl (lv_at hl 0 rfl) ?_
    refine va_get (D := G.1) (ci := 9) (v := .int v_typed) (C := RX10) (T := TX10) (N := 31) hx hb hg hu_X10 hown hc.1 hW.1 0 rfl rfl 1 (by decide) (hg _ wd_4_39) (fun _ h9 => h9) rfl dX10_write_14 ?_
    refine lv_sipush (v := 200) hx hb dX10_write_17 (by decide) ?_
    refine lv_icmp_ne (tgt := 26) hx hb dX10_write_20 (by decide) (fun c_20 => ?_) (fun c_20 => ?_)
    · have hF := ite_f hF c_20
      refine lv_aload_n hx hb dX10_write_26 rfl (lv_at hl 0 rfl) ?_
      refine va_get (D := G.1) (ci := 9) (v := .ref ((ad_this 0))) (C := RX10) (T := TX10) (N := 31) hx hb hg hu_X10 hown hc.1 hW.1 0 rfl rfl 0 (by decide) (hg _ wd_4_38) (fun _ h9 => h9) rfl dX10_write_27 ?_
      refine lv_aload_n hx hb dX10_write_30 rfl (lv_at hl 0 rfl) ?_
      refine va_get (D := G.1) (ci := 9) (v := .int v_typed) (C := RX10) (T := TX10) (N := 31) hx hb hg hu_X10 hown hc.1 hW.1 0 rfl rfl 1 (by decide) (hg _ wd_4_39) (fun _ h9 => h9) rfl dX10_write_31 ?_
      refine lv_iload_n hx hb dX10_write_34 rfl (lv_at hl 1 rfl) ?_
      refine lv_i2b (v := (Int8.toInt32 (Int32.toInt8 x1))) hx hb dX10_write_35 rfl ?_
      obtain ⟨b_36, hF⟩ := inb_el hF
      refine va_bast hx hb hc.1 hW.1 hW.2.1 hW.2.2 1 2 rfl rfl b_36 dX10_write_36 (fun H locs hP hD hS => ?_)
      have hW : Wd G A s.heap [(h_this, oX10 ad_this v_typed v_at v_isSo v_kept v_all v_sightAll v_aheadMany), ((ad_this 0), cB G 200 ((upd a_text (Int32.toNatClampNeg v_typed) ((vp_nar .byte ((Int8.toInt32 (Int32.toInt8 x1))))))))] H locs := ⟨hP, hD, hS⟩
      refine lv_aload_n hx hb dX10_write_37 rfl (lv_at hl 0 rfl) ?_
      refine lv_dup hx hb dX10_write_38 rfl ?_
      refine va_get (D := G.1) (ci := 9) (v := .int v_typed) (C := RX10) (T := TX10) (N := 31) hx hb hg hu_X10 hown hc.1 hW.1 0 rfl rfl 1 (by decide) (hg _ wd_4_39) (fun _ h9 => h9) rfl dX10_write_39 ?_
      refine lv_iconst (v := 1) hx hb dX10_write_42 (by decide) ?_
      refine lv_iadd hx hb dX10_write_43 ?_
      refine va_put (D := G.1) (ci := 9) (v := .int ((v_typed + 1))) (ty := .int) (C := RX10) (T := TX10) (N := 31) hx hb hg hu_X10 tyX10 tyX10_ok nmX10 hown hc.1 hW.1 hW.2.1 hW.2.2 0 rfl rfl 1 (by decide) (hg _ wd_4_39) (fun _ h9 => h9) rfl (by decide +kernel) rfl rfl (Nat.le_of_ble_eq_true rfl) dX10_write_44 (fun H locs hP hD hS => ?_)
      have hW : Wd G A s.heap [(h_this, oX10 ad_this ((v_typed + 1)) v_at v_isSo v_kept v_all v_sightAll v_aheadMany), ((ad_this 0), cB G 200 ((upd a_text (Int32.toNatClampNeg v_typed) ((vp_nar .byte ((Int8.toInt32 (Int32.toInt8 x1))))))))] H locs := ⟨hP, hD, hS⟩
      refine lv_aload_n hx hb dX10_write_47 rfl (lv_at hl 0 rfl) ?_
      refine va_get (D := G.1) (ci := 9) (v := .int ((v_typed + 1))) (C := RX10) (T := TX10) (N := 31) hx hb hg hu_X10 hown hc.1 hW.1 0 rfl rfl 1 (by decide) (hg _ wd_4_39) (fun _ h9 => h9) rfl dX10_write_48 ?_
      obtain rfl := Option.some.inj hF
      exact hret _ _ _ _ hW dX10_write_51
    · have hF := ite_t hF c_20
      refine lv_bipush (v := (-3)) hx hb dX10_write_23 (by decide) ?_
      obtain rfl := Option.some.inj hF
      exact hret _ _ _ _ hW dX10_write_25
  · have hF := ite_t hF c_8
    refine lv_iconst (v := (-1)) hx hb dX10_write_11 (by decide) ?_
    obtain rfl := Option.some.inj hF
    exact hret _ _ _ _ hW dX10_write_12
theorem dX10_wipe_0 : decode cX10_wipe 0 = .ok (.aload_n 0, 1) := by decide +kernel
theorem dX10_wipe_1 : decode cX10_wipe 1 = .ok (.getfield 103, 3) := by decide +kernel
theorem dX10_wipe_4 : decode cX10_wipe 4 = .ok (.istore_n 1, 1) := by decide +kernel
theorem dX10_wipe_5 : decode cX10_wipe 5 = .ok (.aload_n 0, 1) := by decide +kernel
theorem dX10_wipe_6 : decode cX10_wipe 6 = .ok (.iconst 0, 1) := by decide +kernel
theorem dX10_wipe_7 : decode cX10_wipe 7 = .ok (.putfield 103, 3) := by decide +kernel
theorem dX10_wipe_10 : decode cX10_wipe 10 = .ok (.iload_n 1, 1) := by decide +kernel
theorem dX10_wipe_11 : decode cX10_wipe 11 = .ok (.ireturn, 1) := by decide +kernel
def F_X10_wipe (v_typed : Int32) : Option (Int32 × Int32) := some (v_typed, 0)
theorem hdV_X10_wipe : yX10_wipe.cls = RX10 ∧ yX10_wipe.cls ≠ "java/lang/invoke/MethodHandle" ∧ yX10_wipe.cls ≠ "java/lang/invoke/VarHandle" ∧ (parseMethodDescriptor yX10_wipe.desc).map (fun d => d.parameters.length) = some 0 := by decide +kernel
set_option maxHeartbeats 4000000 in
set_option maxRecDepth 100000 in
theorem c_X10_wipe (l : Launch) (G : GG) (h_this : Nat) (ad_this : Nat → Nat) (v_typed : Int32) (v_at : Int32) (v_isSo : Int32) (v_kept : Int32) (v_all : Int64) (v_sightAll : Int64) (v_aheadMany : Int32) (out : Int32 × Int32) (hF : F_X10_wipe v_typed = some out) : CtrI l yX10_wipe (WS yX10_wipe cX10_wipe 2 (some .int)) { frames := 0, cells := 0, slots := 0, locals := 0 } G [.ref h_this] [(h_this, oX10 ad_this v_typed v_at v_isSo v_kept v_all v_sightAll v_aheadMany)] [(h_this, oX10 ad_this out.2 v_at v_isSo v_kept v_all v_sightAll v_aheadMany)] out.1 := by
  refine startI (cc := cX10_wipe) (maxL := 2) (by decide) rfl (Nat.le_of_ble_eq_true rfl) ?_
  intro p e s m args below meth c A Q hx hb hml hts hown hc hA hret ls H locs hl hW
  have hown : s.vm.findClass RX10 = some m.cls := hown
  have hg : ∀ w ∈ GOODS, w.before _ s = true := fun w h => hts w (List.mem_cons_of_mem _ h)
  have hl : lv_has ls 2 [(0, .ref h_this)] := hl
  rw [F_X10_wipe] at hF
  refine lv_aload_n hx hb dX10_wipe_0 rfl (lv_at hl 0 rfl) ?_
  refine va_get (D := G.1) (ci := 9) (v := .int v_typed) (C := RX10) (T := TX10) (N := 31) hx hb hg hu_X10 hown hc.1 hW.1 0 rfl rfl 1 (by decide) (hg _ wd_4_39) (fun _ h9 => h9) rfl dX10_wipe_1 ?_
  refine lv_istore_n (lv' := [(1, .int v_typed), (0, .ref h_this)]) hx hb dX10_wipe_4 rfl hl (by decide) rfl (fun ls hl => ?_)
  refine lv_aload_n hx hb dX10_wipe_5 rfl (lv_at hl 1 rfl) ?_
  refine lv_iconst (v := 0) hx hb dX10_wipe_6 (by decide) ?_
  refine va_put (D := G.1) (ci := 9) (v := .int 0) (ty := .int) (C := RX10) (T := TX10) (N := 31) hx hb hg hu_X10 tyX10 tyX10_ok nmX10 hown hc.1 hW.1 hW.2.1 hW.2.2 0 rfl rfl 1 (by decide) (hg _ wd_4_39) (fun _ h9 => h9) rfl (by decide +kernel) rfl rfl (Nat.le_of_ble_eq_true rfl) dX10_wipe_7 (fun H locs hP hD hS => ?_)
  have hW : Wd G A s.heap [(h_this, oX10 ad_this 0 v_at v_isSo v_kept v_all v_sightAll v_aheadMany)] H locs := ⟨hP, hD, hS⟩
  refine lv_iload_n hx hb dX10_wipe_10 rfl (lv_at hl 0 rfl) ?_
  obtain rfl := Option.some.inj hF
  exact hret _ _ _ _ hW dX10_wipe_11
theorem dX10_here_0 : decode cX10_here 0 = .ok (.aload_n 0, 1) := by decide +kernel
theorem dX10_here_1 : decode cX10_here 1 = .ok (.getfield 107, 3) := by decide +kernel
theorem dX10_here_4 : decode cX10_here 4 = .ok (.aload_n 0, 1) := by decide +kernel
theorem dX10_here_5 : decode cX10_here 5 = .ok (.getfield 103, 3) := by decide +kernel
theorem dX10_here_8 : decode cX10_here 8 = .ok (.if_icmp .ge 15, 3) := by decide +kernel
theorem dX10_here_11 : decode cX10_here 11 = .ok (.aload_n 0, 1) := by decide +kernel
theorem dX10_here_12 : decode cX10_here 12 = .ok (.getfield 7, 3) := by decide +kernel
theorem dX10_here_15 : decode cX10_here 15 = .ok (.aload_n 0, 1) := by decide +kernel
theorem dX10_here_16 : decode cX10_here 16 = .ok (.getfield 107, 3) := by decide +kernel
theorem dX10_here_19 : decode cX10_here 19 = .ok (.baload, 1) := by decide +kernel
theorem dX10_here_20 : decode cX10_here 20 = .ok (.goto 4, 3) := by decide +kernel
theorem dX10_here_23 : decode cX10_here 23 = .ok (.iconst (-1), 1) := by decide +kernel
theorem dX10_here_24 : decode cX10_here 24 = .ok (.ireturn, 1) := by decide +kernel
def F_X10_here (v_at : Int32) (v_typed : Int32) (a_text : Nat → Int32) : Option (Int32) := (if v_typed ≤ v_at then some ((-1)) else (if inb v_at 200 = true then some ((a_text (Int32.toNatClampNeg v_at))) else none))
theorem hdV_X10_here : yX10_here.cls = RX10 ∧ yX10_here.cls ≠ "java/lang/invoke/MethodHandle" ∧ yX10_here.cls ≠ "java/lang/invoke/VarHandle" ∧ (parseMethodDescriptor yX10_here.desc).map (fun d => d.parameters.length) = some 0 := by decide +kernel
set_option maxHeartbeats 4000000 in
set_option maxRecDepth 100000 in
theorem c_X10_here (l : Launch) (G : GG) (h_this : Nat) (ad_this : Nat → Nat) (v_typed : Int32) (v_at : Int32) (v_isSo : Int32) (v_kept : Int32) (v_all : Int64) (v_sightAll : Int64) (v_aheadMany : Int32) (a_text : Nat → Int32) (out : Int32) (hF : F_X10_here v_at v_typed a_text = some out) : CtrI l yX10_here (WS yX10_here cX10_here 1 (some .int)) { frames := 0, cells := 0, slots := 0, locals := 0 } G [.ref h_this] [(h_this, oX10 ad_this v_typed v_at v_isSo v_kept v_all v_sightAll v_aheadMany), ((ad_this 0), cB G 200 a_text)] [(h_this, oX10 ad_this v_typed v_at v_isSo v_kept v_all v_sightAll v_aheadMany), ((ad_this 0), cB G 200 a_text)] out := by
  refine startI (cc := cX10_here) (maxL := 1) (by decide) rfl (Nat.le_of_ble_eq_true rfl) ?_
  intro p e s m args below meth c A Q hx hb hml hts hown hc hA hret ls H locs hl hW
  have hown : s.vm.findClass RX10 = some m.cls := hown
  have hg : ∀ w ∈ GOODS, w.before _ s = true := fun w h => hts w (List.mem_cons_of_mem _ h)
  have hl : lv_has ls 1 [(0, .ref h_this)] := hl
  rw [F_X10_here] at hF
  refine lv_aload_n hx hb dX10_here_0 rfl (lv_at hl 0 rfl) ?_
  refine va_get (D := G.1) (ci := 9) (v := .int v_at) (C := RX10) (T := TX10) (N := 31) hx hb hg hu_X10 hown hc.1 hW.1 0 rfl rfl 14 (by decide) (hg _ wd_4_52) (fun _ h9 => h9) rfl dX10_here_1 ?_
  refine lv_aload_n hx hb dX10_here_4 rfl (lv_at hl 0 rfl) ?_
  refine va_get (D := G.1) (ci := 9) (v := .int v_typed) (C := RX10) (T := TX10) (N := 31) hx hb hg hu_X10 hown hc.1 hW.1 0 rfl rfl 1 (by decide) (hg _ wd_4_39) (fun _ h9 => h9) rfl dX10_here_5 ?_
  refine lv_icmp_ge (tgt := 23) hx hb dX10_here_8 (by decide) (fun c_8 => ?_) (fun c_8 => ?_)
  · have hF := ite_t hF c_8
    refine lv_iconst (v := (-1)) hx hb dX10_here_23 (by decide) ?_
    obtain rfl := Option.some.inj hF
    exact hret _ _ _ _ hW dX10_here_24
  · have hF := ite_f hF c_8
    refine lv_aload_n hx hb dX10_here_11 rfl (lv_at hl 0 rfl) ?_
    refine va_get (D := G.1) (ci := 9) (v := .ref ((ad_this 0))) (C := RX10) (T := TX10) (N := 31) hx hb hg hu_X10 hown hc.1 hW.1 0 rfl rfl 0 (by decide) (hg _ wd_4_38) (fun _ h9 => h9) rfl dX10_here_12 ?_
    refine lv_aload_n hx hb dX10_here_15 rfl (lv_at hl 0 rfl) ?_
    refine va_get (D := G.1) (ci := 9) (v := .int v_at) (C := RX10) (T := TX10) (N := 31) hx hb hg hu_X10 hown hc.1 hW.1 0 rfl rfl 14 (by decide) (hg _ wd_4_52) (fun _ h9 => h9) rfl dX10_here_16 ?_
    obtain ⟨b_19, hF⟩ := inb_el hF
    refine va_bald hx hb hc.1 hW.1 1 2 rfl rfl b_19 dX10_here_19 ?_
    refine lv_goto (tgt := 24) hx hb dX10_here_20 (by decide) ?_
    obtain rfl := Option.some.inj hF
    exact hret _ _ _ _ hW dX10_here_24
theorem dX10_number_0 : decode cX10_number 0 = .ok (.iconst 0, 1) := by decide +kernel
theorem dX10_number_1 : decode cX10_number 1 = .ok (.istore 4, 2) := by decide +kernel
theorem dX10_number_3 : decode cX10_number 3 = .ok (.iconst 0, 1) := by decide +kernel
theorem dX10_number_4 : decode cX10_number 4 = .ok (.istore 5, 2) := by decide +kernel
theorem dX10_number_6 : decode cX10_number 6 = .ok (.iload 5, 2) := by decide +kernel
theorem dX10_number_8 : decode cX10_number 8 = .ok (.iconst 2, 1) := by decide +kernel
theorem dX10_number_9 : decode cX10_number 9 = .ok (.if_icmp .ge 48, 3) := by decide +kernel
theorem dX10_number_12 : decode cX10_number 12 = .ok (.aload_n 0, 1) := by decide +kernel
theorem dX10_number_13 : decode cX10_number 13 = .ok (.invokevirtual 110, 3) := by decide +kernel
theorem dX10_number_16 : decode cX10_number 16 = .ok (.bipush 48, 2) := by decide +kernel
theorem dX10_number_18 : decode cX10_number 18 = .ok (.bipush 57, 2) := by decide +kernel
theorem dX10_number_20 : decode cX10_number 20 = .ok (.invokestatic 99, 3) := by decide +kernel
theorem dX10_number_23 : decode cX10_number 23 = .ok (.ifCond .eq 34, 3) := by decide +kernel
theorem dX10_number_26 : decode cX10_number 26 = .ok (.bipush 10, 2) := by decide +kernel
theorem dX10_number_28 : decode cX10_number 28 = .ok (.iload 4, 2) := by decide +kernel
theorem dX10_number_30 : decode cX10_number 30 = .ok (.imul, 1) := by decide +kernel
theorem dX10_number_31 : decode cX10_number 31 = .ok (.aload_n 0, 1) := by decide +kernel
theorem dX10_number_32 : decode cX10_number 32 = .ok (.invokevirtual 110, 3) := by decide +kernel
theorem dX10_number_35 : decode cX10_number 35 = .ok (.iadd, 1) := by decide +kernel
theorem dX10_number_36 : decode cX10_number 36 = .ok (.bipush 48, 2) := by decide +kernel
theorem dX10_number_38 : decode cX10_number 38 = .ok (.isub, 1) := by decide +kernel
theorem dX10_number_39 : decode cX10_number 39 = .ok (.istore 4, 2) := by decide +kernel
theorem dX10_number_41 : decode cX10_number 41 = .ok (.aload_n 0, 1) := by decide +kernel
theorem dX10_number_42 : decode cX10_number 42 = .ok (.dup, 1) := by decide +kernel
theorem dX10_number_43 : decode cX10_number 43 = .ok (.getfield 107, 3) := by decide +kernel
theorem dX10_number_46 : decode cX10_number 46 = .ok (.iconst 1, 1) := by decide +kernel
theorem dX10_number_47 : decode cX10_number 47 = .ok (.iadd, 1) := by decide +kernel
theorem dX10_number_48 : decode cX10_number 48 = .ok (.putfield 107, 3) := by decide +kernel
theorem dX10_number_51 : decode cX10_number 51 = .ok (.iinc 5 1, 3) := by decide +kernel
theorem dX10_number_54 : decode cX10_number 54 = .ok (.goto (-48), 3) := by decide +kernel
theorem dX10_number_57 : decode cX10_number 57 = .ok (.aload_n 0, 1) := by decide +kernel
theorem dX10_number_58 : decode cX10_number 58 = .ok (.aload_n 0, 1) := by decide +kernel
theorem dX10_number_59 : decode cX10_number 59 = .ok (.getfield 114, 3) := by decide +kernel
theorem dX10_number_62 : decode cX10_number 62 = .ok (.ifCond .eq 30, 3) := by decide +kernel
theorem dX10_number_65 : decode cX10_number 65 = .ok (.iload 5, 2) := by decide +kernel
theorem dX10_number_67 : decode cX10_number 67 = .ok (.ifCond .le 25, 3) := by decide +kernel
theorem dX10_number_70 : decode cX10_number 70 = .ok (.iload 4, 2) := by decide +kernel
theorem dX10_number_72 : decode cX10_number 72 = .ok (.iload_n 1, 1) := by decide +kernel
theorem dX10_number_73 : decode cX10_number 73 = .ok (.iload_n 2, 1) := by decide +kernel
theorem dX10_number_74 : decode cX10_number 74 = .ok (.invokestatic 99, 3) := by decide +kernel
theorem dX10_number_77 : decode cX10_number 77 = .ok (.ifCond .eq 15, 3) := by decide +kernel
theorem dX10_number_80 : decode cX10_number 80 = .ok (.aload_n 0, 1) := by decide +kernel
theorem dX10_number_81 : decode cX10_number 81 = .ok (.invokevirtual 110, 3) := by decide +kernel
theorem dX10_number_84 : decode cX10_number 84 = .ok (.iload_n 3, 1) := by decide +kernel
theorem dX10_number_85 : decode cX10_number 85 = .ok (.if_icmp .ne 7, 3) := by decide +kernel
theorem dX10_number_88 : decode cX10_number 88 = .ok (.iconst 1, 1) := by decide +kernel
theorem dX10_number_89 : decode cX10_number 89 = .ok (.goto 4, 3) := by decide +kernel
theorem dX10_number_92 : decode cX10_number 92 = .ok (.iconst 0, 1) := by decide +kernel
theorem dX10_number_93 : decode cX10_number 93 = .ok (.putfield 114, 3) := by decide +kernel
theorem dX10_number_96 : decode cX10_number 96 = .ok (.aload_n 0, 1) := by decide +kernel
theorem dX10_number_97 : decode cX10_number 97 = .ok (.dup, 1) := by decide +kernel
theorem dX10_number_98 : decode cX10_number 98 = .ok (.getfield 107, 3) := by decide +kernel
theorem dX10_number_101 : decode cX10_number 101 = .ok (.iconst 1, 1) := by decide +kernel
theorem dX10_number_102 : decode cX10_number 102 = .ok (.iadd, 1) := by decide +kernel
theorem dX10_number_103 : decode cX10_number 103 = .ok (.putfield 107, 3) := by decide +kernel
theorem dX10_number_106 : decode cX10_number 106 = .ok (.iload 4, 2) := by decide +kernel
theorem dX10_number_108 : decode cX10_number 108 = .ok (.ireturn, 1) := by decide +kernel
def L_X10_number_6 (v_typed : Int32) (a_text : Nat → Int32) (k_57 : Int32 → Int32 → Int32 → Option (Int32 × Int32 × Int32)) : Nat → Int32 → Int32 → Int32 → Option (Int32 × Int32 × Int32)
  | 0, _, _, _ => none
  | n + 1, x4_6, x5_6, v_at_6 => (if 2 ≤ x5_6 then k_57 x4_6 x5_6 v_at_6 else (F_X10_here v_at_6 v_typed a_text).bind (fun q13 => (F_X10_in q13 48 57).bind (fun q20 => (if q20 = 0 then k_57 x4_6 x5_6 v_at_6 else (F_X10_here v_at_6 v_typed a_text).bind (fun q32 => L_X10_number_6 v_typed a_text k_57 n ((((10 * x4_6) + q32) - 48)) ((x5_6 + 1)) ((v_at_6 + 1)))))))
def F_X10_number (x1 : Int32) (x2 : Int32) (x3 : Int32) (v_at : Int32) (v_isSo : Int32) (v_typed : Int32) (a_text : Nat → Int32) : Option (Int32 × Int32 × Int32) := jn (fun (x4_57 : Int32) (x5_57 : Int32) (v_at_57 : Int32) => jn (fun (j0_93 : Int32) => some (x4_57, (v_at_57 + 1), j0_93)) (fun k_93 => jn (k_93 0) (fun k_92 => (if v_isSo = 0 then k_92 else (if x5_57 ≤ 0 then k_92 else (F_X10_in x4_57 x1 x2).bind (fun q74 => (if q74 = 0 then k_92 else (F_X10_here v_at_57 v_typed a_text).bind (fun q81 => (if q81 = x3 then k_93 1 else k_92))))))))) (fun k_57 => L_X10_number_6 v_typed a_text k_57 5000 0 0 v_at)
theorem hdV_X10_number : yX10_number.cls = RX10 ∧ yX10_number.cls ≠ "java/lang/invoke/MethodHandle" ∧ yX10_number.cls ≠ "java/lang/invoke/VarHandle" ∧ (parseMethodDescriptor yX10_number.desc).map (fun d => d.parameters.length) = some 3 := by decide +kernel
set_option maxHeartbeats 4000000 in
set_option maxRecDepth 100000 in
theorem c_X10_number (l : Launch) (G : GG) (x1 : Int32) (x2 : Int32) (x3 : Int32) (h_this : Nat) (ad_this : Nat → Nat) (v_typed : Int32) (v_at : Int32) (v_isSo : Int32) (v_kept : Int32) (v_all : Int64) (v_sightAll : Int64) (v_aheadMany : Int32) (a_text : Nat → Int32) (out : Int32 × Int32 × Int32) (hF : F_X10_number x1 x2 x3 v_at v_isSo v_typed a_text = some out) : CtrI l yX10_number (WS yX10_number cX10_number 6 (some .int)) { frames := 1, cells := 0, slots := 0, locals := 22 } G [.ref h_this, .int x1, .int x2, .int x3] [(h_this, oX10 ad_this v_typed v_at v_isSo v_kept v_all v_sightAll v_aheadMany), ((ad_this 0), cB G 200 a_text)] [(h_this, oX10 ad_this v_typed out.2.1 out.2.2 v_kept v_all v_sightAll v_aheadMany), ((ad_this 0), cB G 200 a_text)] out.1 := by
  refine startI (cc := cX10_number) (maxL := 6) (by decide) rfl (Nat.le_of_ble_eq_true rfl) ?_
  intro p e s m args below meth c A Q hx hb hml hts hown hc hA hret ls H locs hl hW
  have hown : s.vm.findClass RX10 = some m.cls := hown
  have hg : ∀ w ∈ GOODS, w.before _ s = true := fun w h => hts w (List.mem_cons_of_mem _ h)
  have hl : lv_has ls 6 [(0, .ref h_this), (1, .int x1), (2, .int x2), (3, .int x3)] := hl
  rw [F_X10_number] at hF
  refine lv_iconst (v := 0) hx hb dX10_number_0 (by decide) ?_
  refine lv_istore (lv' := [(4, .int 0), (0, .ref h_this), (1, .int x1), (2, .int x2), (3, .int x3)]) hx hb dX10_number_1 hl (by decide) rfl (fun ls hl => ?_)
  refine lv_iconst (v := 0) hx hb dX10_number_3 (by decide) ?_
  refine lv_istore (lv' := [(5, .int 0), (4, .int 0), (0, .ref h_this), (1, .int x1), (2, .int x2), (3, .int x3)]) hx hb dX10_number_4 hl (by decide) rfl (fun ls hl => ?_)
  obtain ⟨k_57, e_57, hF⟩ := jn_el hF
  have J_57 : ∀ (x4_57 : Int32) (x5_57 : Int32) (v_at_57 : Int32) (ls : Array Slot) (H : Heap) (locs : List Loc), k_57 x4_57 x5_57 v_at_57 = some out → lv_has ls 6 [(0, .ref h_this), (1, .int x1), (2, .int x2), (3, .int x3), (4, .int x4_57), (5, .int x5_57)] → Wd G A s.heap [(h_this, oX10 ad_this v_typed v_at_57 v_isSo v_kept v_all v_sightAll v_aheadMany), ((ad_this 0), cB G 200 a_text)] H locs → W p l e ({ frames := 1, cells := 0, slots := 0, locals := 22 } : Room) s m args below meth c H locs 0 0 Q (F0 m 57 ls []) := by
    intro x4_57 x5_57 v_at_57 ls H locs hF hl hW
    rw [e_57] at hF
    dsimp only at hF
    refine lv_aload_n hx hb dX10_number_57 rfl (lv_at hl 0 rfl) ?_
    refine lv_aload_n hx hb dX10_number_58 rfl (lv_at hl 0 rfl) ?_
    refine va_get (D := G.1) (ci := 9) (v := .int v_isSo) (C := RX10) (T := TX10) (N := 31) hx hb hg hu_X10 hown hc.1 hW.1 0 rfl rfl 15 (by decide) (hg _ wd_4_53) (fun _ h9 => h9) rfl dX10_number_59 ?_
    obtain ⟨k_93, e_93, hF⟩ := jn_el hF
    have J_93 : ∀ (j0_93 : Int32) (hj_93 : j0_93 = 0 ∨ j0_93 = 1) (ls : Array Slot) (H : Heap) (locs : List Loc), k_93 j0_93 = some out → lv_has ls 6 [(0, .ref h_this), (4, .int x4_57)] → Wd G A s.heap [(h_this, oX10 ad_this v_typed v_at_57 v_isSo v_kept v_all v_sightAll v_aheadMany), ((ad_this 0), cB G 200 a_text)] H locs → W p l e ({ frames := 1, cells := 0, slots := 0, locals := 22 } : Room) s m args below meth c H locs 0 0 Q (F0 m 93 ls [.int j0_93, .ref h_this]) := by
      intro j0_93 hj_93 ls H locs hF hl hW
      rw [e_93] at hF
      dsimp only at hF
      refine va_put (D := G.1) (ci := 9) (v := .int j0_93) (ty := .boolean) (C := RX10) (T := TX10) (N := 31) hx hb hg hu_X10 tyX10 tyX10_ok nmX10 hown hc.1 hW.1 hW.2.1 hW.2.2 0 rfl rfl 15 (by decide) (hg _ wd_4_53) (fun _ h9 => h9) rfl (by decide +kernel) (bool_nar hj_93) (bool_fit hj_93) (Nat.le_of_ble_eq_true rfl) dX10_number_93 (fun H locs hP hD hS => ?_)
      have hW : Wd G A s.heap [(h_this, oX10 ad_this v_typed v_at_57 j0_93 v_kept v_all v_sightAll v_aheadMany), ((ad_this 0), cB G 200 a_text)] H locs := ⟨hP, hD, hS⟩
      refine lv_aload_n hx hb dX10_number_96 rfl (lv_at hl 0 rfl) ?_
      refine lv_dup hx hb dX10_number_97 rfl ?_
      refine va_get (D := G.1) (ci := 9) (v := .int v_at_57) (C := RX10) (T := TX10) (N := 31) hx hb hg hu_X10 hown hc.1 hW.1 0 rfl rfl 14 (by decide) (hg _ wd_4_52) (fun _ h9 => h9) rfl dX10_number_98 ?_
      refine lv_iconst (v := 1) hx hb dX10_number_101 (by decide) ?_
      refine lv_iadd hx hb dX10_number_102 ?_
      refine va_put (D := G.1) (ci := 9) (v := .int ((v_at_57 + 1))) (ty := .int) (C := RX10) (T := TX10) (N := 31) hx hb hg hu_X10 tyX10 tyX10_ok nmX10 hown hc.1 hW.1 hW.2.1 hW.2.2 0 rfl rfl 14 (by decide) (hg _ wd_4_52) (fun _ h9 => h9) rfl (by decide +kernel) rfl rfl (Nat.le_of_ble_eq_true rfl) dX10_number_103 (fun H locs hP hD hS => ?_)
      have hW : Wd G A s.heap [(h_this, oX10 ad_this v_typed ((v_at_57 + 1)) j0_93 v_kept v_all v_sightAll v_aheadMany), ((ad_this 0), cB G 200 a_text)] H locs := ⟨hP, hD, hS⟩
      refine lv_iload hx hb dX10_number_106 (lv_at hl 1 rfl) ?_
      obtain rfl := Option.some.inj hF
      exact hret _ _ _ _ hW dX10_number_108
    obtain ⟨k_92, e_92, hF⟩ := jn_el hF
    have J_92 : ∀ (ls : Array Slot) (H : Heap) (locs : List Loc), k_92 = some out → lv_has ls 6 [(0, .ref h_this), (4, .int x4_57)] → Wd G A s.heap [(h_this, oX10 ad_this v_typed v_at_57 v_isSo v_kept v_all v_sightAll v_aheadMany), ((ad_this 0), cB G 200 a_text)] H locs → W p l e ({ frames := 1, cells := 0, slots := 0, locals := 22 } : Room) s m args below meth c H locs 0 0 Q (F0 m 92 ls [.ref h_this]) := by
      intro ls H locs hF hl hW
      rw [e_92] at hF
      refine lv_iconst (v := 0) hx hb dX10_number_92 (by decide) ?_
      exact J_93 0 (Or.inl rfl) _ _ _ hF (lv_sub hl [0, 1] rfl) hW
    refine lv_if_eq (tgt := 92) hx hb dX10_number_62 (by decide) (fun c_62 => ?_) (fun c_62 => ?_)
    · have hF := ite_t hF c_62
      exact J_92 _ _ _ hF (lv_sub hl [0, 4] rfl) hW
    · have hF := ite_f hF c_62
      refine lv_iload hx hb dX10_number_65 (lv_at hl 5 rfl) ?_
      refine lv_if_le (tgt := 92) hx hb dX10_number_67 (by decide) (fun c_67 => ?_) (fun c_67 => ?_)
      · have hF := ite_t hF c_67
        exact J_92 _ _ _ hF (lv_sub hl [0, 4] rfl) hW
      · have hF := ite_f hF c_67
        refine lv_iload hx hb dX10_number_70 (lv_at hl 4 rfl) ?_
        refine lv_iload_n hx hb dX10_number_72 rfl (lv_at hl 1 rfl) ?_
        refine lv_iload_n hx hb dX10_number_73 rfl (lv_at hl 2 rfl) ?_
        obtain ⟨q74, c_74, hF⟩ := bd_el hF
        refine wcZ (ws' := [(h_this, oX10 ad_this v_typed v_at_57 v_isSo v_kept v_all v_sightAll v_aheadMany), ((ad_this 0), cB G 200 a_text)]) (wc := []) (wr := [(h_this, oX10 ad_this v_typed v_at_57 v_isSo v_kept v_all v_sightAll v_aheadMany), ((ad_this 0), cB G 200 a_text)]) (w1 := []) (va_runS (As := [.int x4_57, .int x1, .int x2]) (rest := [.ref h_this]) ⟨hx, hb, hml, hown, hg⟩ (c_X10_in l G x4_57 x1 x2 q74 c_74 H.size) (va_cwS 3 hg (gS wd_4_136 wd_4_137 wd_1_15 wd_4_138) rfl rfl rfl hdS_X10_in ⟨(Nat.le_of_ble_eq_true rfl), (Nat.le_of_ble_eq_true rfl)⟩) (preS hc hW [] rfl (by decide)) rfl rfl hl.1 rfl (lv_room (Nat.le_of_ble_eq_true rfl)) dX10_number_74 ⟨Nat.zero_le _, Nat.zero_le _⟩) hA hW [] [0, 1] [0, 1] rfl rfl (by decide) (by decide) rfl (by decide) (fun z_74 H locs hW => ?_)
        refine lv_if_eq (tgt := 92) hx hb dX10_number_77 (by decide) (fun c_77 => ?_) (fun c_77 => ?_)
        · have hF := ite_t hF c_77
          exact J_92 _ _ _ hF (lv_sub hl [0, 4] rfl) hW
        · have hF := ite_f hF c_77
          refine lv_aload_n hx hb dX10_number_80 rfl (lv_at hl 0 rfl) ?_
          obtain ⟨q81, c_81, hF⟩ := bd_el hF
          refine wcI (ws' := [(h_this, oX10 ad_this v_typed v_at_57 v_isSo v_kept v_all v_sightAll v_aheadMany), ((ad_this 0), cB G 200 a_text)]) (wc := [(h_this, oX10 ad_this v_typed v_at_57 v_isSo v_kept v_all v_sightAll v_aheadMany), ((ad_this 0), cB G 200 a_text)]) (wr := []) (w1 := [(h_this, oX10 ad_this v_typed v_at_57 v_isSo v_kept v_all v_sightAll v_aheadMany), ((ad_this 0), cB G 200 a_text)]) (va_runV (As := []) (rest := [.ref h_this]) ⟨hx, hb, hml, hown, hg⟩ (c_X10_here l G h_this ad_this v_typed v_at_57 v_isSo v_kept v_all v_sightAll v_aheadMany a_text q81 c_81 H.size) (cwV 0 hg (gV wd_4_151 wd_4_153 wd_0_28 wd_1_15 wd_4_154) rfl rfl rfl hdV_X10_here ⟨(Nat.le_of_ble_eq_true rfl), (Nat.le_of_ble_eq_true rfl)⟩) (preV hc hW [0, 1] rfl (by decide) rfl rfl) rfl rfl hl.1 rfl (lv_room (Nat.le_of_ble_eq_true rfl)) dX10_number_81 ⟨Nat.zero_le _, Nat.zero_le _⟩) hA hW [0, 1] [] [0, 1] rfl rfl (by decide) (by decide) rfl (by decide) (fun H locs hW => ?_)
          refine lv_iload_n hx hb dX10_number_84 rfl (lv_at hl 3 rfl) ?_
          refine lv_icmp_ne (tgt := 92) hx hb dX10_number_85 (by decide) (fun c_85 => ?_) (fun c_85 => ?_)
          · have hF := ite_f hF c_85
            exact J_92 _ _ _ hF (lv_sub hl [0, 4] rfl) hW
          · have hF := ite_t hF c_85
            refine lv_iconst (v := 1) hx hb dX10_number_88 (by decide) ?_
            refine lv_goto (tgt := 93) hx hb dX10_number_89 (by decide) ?_
            exact J_93 1 (Or.inr rfl) _ _ _ hF (lv_sub hl [0, 4] rfl) hW
  have L_6 : ∀ (n : Nat) (x4_6 : Int32) (x5_6 : Int32) (v_at_6 : Int32) (ls : Array Slot) (H : Heap) (locs : List Loc), L_X10_number_6 v_typed a_text k_57 n x4_6 x5_6 v_at_6 = some out → lv_has ls 6 [(0, .ref h_this), (1, .int x1), (2, .int x2), (3, .int x3), (4, .int x4_6), (5, .int x5_6)] → Wd G A s.heap [(h_this, oX10 ad_this v_typed v_at_6 v_isSo v_kept v_all v_sightAll v_aheadMany), ((ad_this 0), cB G 200 a_text)] H locs → W p l e ({ frames := 1, cells := 0, slots := 0, locals := 22 } : Room) s m args below meth c H locs 0 0 Q (F0 m 6 ls []) := by
    intro n
    induction n with
    | zero => intro x4_6 x5_6 v_at_6 ls H locs hF hl hW; have h0 : none = some out := hF; cases h0
    | succ n ih =>
      intro x4_6 x5_6 v_at_6 ls H locs hF hl hW
      rw [L_X10_number_6] at hF
      refine lv_iload hx hb dX10_number_6 (lv_at hl 5 rfl) ?_
      refine lv_iconst (v := 2) hx hb dX10_number_8 (by decide) ?_
      refine lv_icmp_ge (tgt := 57) hx hb dX10_number_9 (by decide) (fun c_9 => ?_) (fun c_9 => ?_)
      · have hF := ite_t hF c_9
        exact J_57 x4_6 x5_6 v_at_6 _ _ _ hF (lv_sub hl [0, 1, 2, 3, 4, 5] rfl) hW
      · have hF := ite_f hF c_9
        refine lv_aload_n hx hb dX10_number_12 rfl (lv_at hl 0 rfl) ?_
        obtain ⟨q13, c_13, hF⟩ := bd_el hF
        refine wcI (ws' := [(h_this, oX10 ad_this v_typed v_at_6 v_isSo v_kept v_all v_sightAll v_aheadMany), ((ad_this 0), cB G 200 a_text)]) (wc := [(h_this, oX10 ad_this v_typed v_at_6 v_isSo v_kept v_all v_sightAll v_aheadMany), ((ad_this 0), cB G 200 a_text)]) (wr := []) (w1 := [(h_this, oX10 ad_this v_typed v_at_6 v_isSo v_kept v_all v_sightAll v_aheadMany), ((ad_this 0), cB G 200 a_text)]) (va_runV (As := []) (rest := []) ⟨hx, hb, hml, hown, hg⟩ (c_X10_here l G h_this ad_this v_typed v_at_6 v_isSo v_kept v_all v_sightAll v_aheadMany a_text q13 c_13 H.size) (cwV 0 hg (gV wd_4_151 wd_4_153 wd_0_28 wd_1_15 wd_4_154) rfl rfl rfl hdV_X10_here ⟨(Nat.le_of_ble_eq_true rfl), (Nat.le_of_ble_eq_true rfl)⟩) (preV hc hW [0, 1] rfl (by decide) rfl rfl) rfl rfl hl.1 rfl (lv_room (Nat.le_of_ble_eq_true rfl)) dX10_number_13 ⟨Nat.zero_le _, Nat.zero_le _⟩) hA hW [0, 1] [] [0, 1] rfl rfl (by decide) (by decide) rfl (by decide) (fun H locs hW => ?_)
        refine lv_bipush (v := 48) hx hb dX10_number_16 (by decide) ?_
        refine lv_bipush (v := 57) hx hb dX10_number_18 (by decide) ?_
        obtain ⟨q20, c_20, hF⟩ := bd_el hF
        refine wcZ (ws' := [(h_this, oX10 ad_this v_typed v_at_6 v_isSo v_kept v_all v_sightAll v_aheadMany), ((ad_this 0), cB G 200 a_text)]) (wc := []) (wr := [(h_this, oX10 ad_this v_typed v_at_6 v_isSo v_kept v_all v_sightAll v_aheadMany), ((ad_this 0), cB G 200 a_text)]) (w1 := []) (va_runS (As := [.int q13, .int 48, .int 57]) (rest := []) ⟨hx, hb, hml, hown, hg⟩ (c_X10_in l G q13 48 57 q20 c_20 H.size) (va_cwS 3 hg (gS wd_4_136 wd_4_137 wd_1_15 wd_4_138) rfl rfl rfl hdS_X10_in ⟨(Nat.le_of_ble_eq_true rfl), (Nat.le_of_ble_eq_true rfl)⟩) (preS hc hW [] rfl (by decide)) rfl rfl hl.1 rfl (lv_room (Nat.le_of_ble_eq_true rfl)) dX10_number_20 ⟨Nat.zero_le _, Nat.zero_le _⟩) hA hW [] [0, 1] [0, 1] rfl rfl (by decide) (by decide) rfl (by decide) (fun z_20 H locs hW => ?_)
        refine lv_if_eq (tgt := 57) hx hb dX10_number_23 (by decide) (fun c_23 => ?_) (fun c_23 => ?_)
        · have hF := ite_t hF c_23
          exact J_57 x4_6 x5_6 v_at_6 _ _ _ hF (lv_sub hl [0, 1, 2, 3, 4, 5] rfl) hW
        · have hF := ite_f hF c_23
          refine lv_bipush (v := 10) hx hb dX10_number_26 (by decide) ?_
          refine lv_iload hx hb dX10_number_28 (lv_at hl 4 rfl) ?_
          refine lv_imul hx hb dX10_number_30 ?_
          refine lv_aload_n hx hb dX10_number_31 rfl (lv_at hl 0 rfl) ?_
          obtain ⟨q32, c_32, hF⟩ := bd_el hF
          refine wcI (ws' := [(h_this, oX10 ad_this v_typed v_at_6 v_isSo v_kept v_all v_sightAll v_aheadMany), ((ad_this 0), cB G 200 a_text)]) (wc := [(h_this, oX10 ad_this v_typed v_at_6 v_isSo v_kept v_all v_sightAll v_aheadMany), ((ad_this 0), cB G 200 a_text)]) (wr := []) (w1 := [(h_this, oX10 ad_this v_typed v_at_6 v_isSo v_kept v_all v_sightAll v_aheadMany), ((ad_this 0), cB G 200 a_text)]) (va_runV (As := []) (rest := [.int ((10 * x4_6))]) ⟨hx, hb, hml, hown, hg⟩ (c_X10_here l G h_this ad_this v_typed v_at_6 v_isSo v_kept v_all v_sightAll v_aheadMany a_text q32 c_32 H.size) (cwV 0 hg (gV wd_4_151 wd_4_153 wd_0_28 wd_1_15 wd_4_154) rfl rfl rfl hdV_X10_here ⟨(Nat.le_of_ble_eq_true rfl), (Nat.le_of_ble_eq_true rfl)⟩) (preV hc hW [0, 1] rfl (by decide) rfl rfl) rfl rfl hl.1 rfl (lv_room (Nat.le_of_ble_eq_true rfl)) dX10_number_32 ⟨Nat.zero_le _, Nat.zero_le _⟩) hA hW [0, 1] [] [0, 1] rfl rfl (by decide) (by decide) rfl (by decide) (fun H locs hW => ?_)
          refine lv_iadd hx hb dX10_number_35 ?_
          refine lv_bipush (v := 48) hx hb dX10_number_36 (by decide) ?_
          refine lv_isub hx hb dX10_number_38 ?_
          refine lv_istore (lv' := [(4, .int ((((10 * x4_6) + q32) - 48))), (0, .ref h_this), (1, .int x1), (2, .int x2), (3, .int x3), (5, .int x5_6)]) hx hb dX10_number_39 hl (by decide) rfl (fun ls hl => ?_)
          refine lv_aload_n hx hb dX10_number_41 rfl (lv_at hl 1 rfl) ?_
          refine lv_dup hx hb dX10_number_42 rfl ?_
          refine va_get (D := G.1) (ci := 9) (v := .int v_at_6) (C := RX10) (T := TX10) (N := 31) hx hb hg hu_X10 hown hc.1 hW.1 0 rfl rfl 14 (by decide) (hg _ wd_4_52) (fun _ h9 => h9) rfl dX10_number_43 ?_
          refine lv_iconst (v := 1) hx hb dX10_number_46 (by decide) ?_
          refine lv_iadd hx hb dX10_number_47 ?_
          refine va_put (D := G.1) (ci := 9) (v := .int ((v_at_6 + 1))) (ty := .int) (C := RX10) (T := TX10) (N := 31) hx hb hg hu_X10 tyX10 tyX10_ok nmX10 hown hc.1 hW.1 hW.2.1 hW.2.2 0 rfl rfl 14 (by decide) (hg _ wd_4_52) (fun _ h9 => h9) rfl (by decide +kernel) rfl rfl (Nat.le_of_ble_eq_true rfl) dX10_number_48 (fun H locs hP hD hS => ?_)
          have hW : Wd G A s.heap [(h_this, oX10 ad_this v_typed ((v_at_6 + 1)) v_isSo v_kept v_all v_sightAll v_aheadMany), ((ad_this 0), cB G 200 a_text)] H locs := ⟨hP, hD, hS⟩
          refine lv_iinc (v := (x5_6 + 1)) (lv' := [(5, .int ((x5_6 + 1))), (4, .int ((((10 * x4_6) + q32) - 48))), (0, .ref h_this), (1, .int x1), (2, .int x2), (3, .int x3)]) hx hb dX10_number_51 hl (k := 5) rfl rfl (by decide) rfl (fun ls hl => ?_)
          refine lv_goto (tgt := 6) hx hb dX10_number_54 (by decide) ?_
          exact ih ((((10 * x4_6) + q32) - 48)) ((x5_6 + 1)) ((v_at_6 + 1)) _ _ _ hF (lv_sub hl [2, 3, 4, 5, 1, 0] rfl) hW
  exact L_6 5000 0 0 v_at _ _ _ hF (lv_sub hl [2, 3, 4, 5, 1, 0] rfl) hW
theorem dX10_readItem_0 : decode cX10_readItem 0 = .ok (.aload_n 0, 1) := by decide +kernel
theorem dX10_readItem_1 : decode cX10_readItem 1 = .ok (.invokevirtual 110, 3) := by decide +kernel
theorem dX10_readItem_4 : decode cX10_readItem 4 = .ok (.istore_n 1, 1) := by decide +kernel
theorem dX10_readItem_5 : decode cX10_readItem 5 = .ok (.aload_n 0, 1) := by decide +kernel
theorem dX10_readItem_6 : decode cX10_readItem 6 = .ok (.dup, 1) := by decide +kernel
theorem dX10_readItem_7 : decode cX10_readItem 7 = .ok (.getfield 107, 3) := by decide +kernel
theorem dX10_readItem_10 : decode cX10_readItem 10 = .ok (.iconst 1, 1) := by decide +kernel
theorem dX10_readItem_11 : decode cX10_readItem 11 = .ok (.iadd, 1) := by decide +kernel
theorem dX10_readItem_12 : decode cX10_readItem 12 = .ok (.putfield 107, 3) := by decide +kernel
theorem dX10_readItem_15 : decode cX10_readItem 15 = .ok (.aload_n 0, 1) := by decide +kernel
theorem dX10_readItem_16 : decode cX10_readItem 16 = .ok (.iconst 1, 1) := by decide +kernel
theorem dX10_readItem_17 : decode cX10_readItem 17 = .ok (.putfield 114, 3) := by decide +kernel
theorem dX10_readItem_20 : decode cX10_readItem 20 = .ok (.iload_n 1, 1) := by decide +kernel
theorem dX10_readItem_21 : decode cX10_readItem 21 = .ok (.lookupswitch 437 #[(97, 59), (98, 269), (104, 194), (108, 404), (115, 99), (119, 332)], 59) := by decide +kernel
theorem dX10_readItem_80 : decode cX10_readItem 80 = .ok (.aload_n 0, 1) := by decide +kernel
theorem dX10_readItem_81 : decode cX10_readItem 81 = .ok (.iconst 0, 1) := by decide +kernel
theorem dX10_readItem_82 : decode cX10_readItem 82 = .ok (.iconst 4, 1) := by decide +kernel
theorem dX10_readItem_83 : decode cX10_readItem 83 = .ok (.bipush 44, 2) := by decide +kernel
theorem dX10_readItem_85 : decode cX10_readItem 85 = .ok (.invokevirtual 118, 3) := by decide +kernel
theorem dX10_readItem_88 : decode cX10_readItem 88 = .ok (.istore_n 2, 1) := by decide +kernel
theorem dX10_readItem_89 : decode cX10_readItem 89 = .ok (.aload_n 0, 1) := by decide +kernel
theorem dX10_readItem_90 : decode cX10_readItem 90 = .ok (.iconst 0, 1) := by decide +kernel
theorem dX10_readItem_91 : decode cX10_readItem 91 = .ok (.iconst 4, 1) := by decide +kernel
theorem dX10_readItem_92 : decode cX10_readItem 92 = .ok (.bipush 44, 2) := by decide +kernel
theorem dX10_readItem_94 : decode cX10_readItem 94 = .ok (.invokevirtual 118, 3) := by decide +kernel
theorem dX10_readItem_97 : decode cX10_readItem 97 = .ok (.istore_n 3, 1) := by decide +kernel
theorem dX10_readItem_98 : decode cX10_readItem 98 = .ok (.aload_n 0, 1) := by decide +kernel
theorem dX10_readItem_99 : decode cX10_readItem 99 = .ok (.iconst 0, 1) := by decide +kernel
theorem dX10_readItem_100 : decode cX10_readItem 100 = .ok (.iconst 4, 1) := by decide +kernel
theorem dX10_readItem_101 : decode cX10_readItem 101 = .ok (.bipush 59, 2) := by decide +kernel
theorem dX10_readItem_103 : decode cX10_readItem 103 = .ok (.invokevirtual 118, 3) := by decide +kernel
theorem dX10_readItem_106 : decode cX10_readItem 106 = .ok (.istore 4, 2) := by decide +kernel
theorem dX10_readItem_108 : decode cX10_readItem 108 = .ok (.aload_n 0, 1) := by decide +kernel
theorem dX10_readItem_109 : decode cX10_readItem 109 = .ok (.iconst 1, 1) := by decide +kernel
theorem dX10_readItem_110 : decode cX10_readItem 110 = .ok (.iload_n 2, 1) := by decide +kernel
theorem dX10_readItem_111 : decode cX10_readItem 111 = .ok (.iload_n 3, 1) := by decide +kernel
theorem dX10_readItem_112 : decode cX10_readItem 112 = .ok (.iload 4, 2) := by decide +kernel
theorem dX10_readItem_114 : decode cX10_readItem 114 = .ok (.invokevirtual 84, 3) := by decide +kernel
theorem dX10_readItem_117 : decode cX10_readItem 117 = .ok (.goto 346, 3) := by decide +kernel
theorem dX10_readItem_120 : decode cX10_readItem 120 = .ok (.aload_n 0, 1) := by decide +kernel
theorem dX10_readItem_121 : decode cX10_readItem 121 = .ok (.aload_n 0, 1) := by decide +kernel
theorem dX10_readItem_122 : decode cX10_readItem 122 = .ok (.getfield 17, 3) := by decide +kernel
theorem dX10_readItem_125 : decode cX10_readItem 125 = .ok (.iconst 1, 1) := by decide +kernel
theorem dX10_readItem_126 : decode cX10_readItem 126 = .ok (.iaload, 1) := by decide +kernel
theorem dX10_readItem_127 : decode cX10_readItem 127 = .ok (.iconst 4, 1) := by decide +kernel
theorem dX10_readItem_128 : decode cX10_readItem 128 = .ok (.if_icmp .ge 7, 3) := by decide +kernel
theorem dX10_readItem_131 : decode cX10_readItem 131 = .ok (.iconst 1, 1) := by decide +kernel
theorem dX10_readItem_132 : decode cX10_readItem 132 = .ok (.goto 4, 3) := by decide +kernel
theorem dX10_readItem_135 : decode cX10_readItem 135 = .ok (.iconst 0, 1) := by decide +kernel
theorem dX10_readItem_136 : decode cX10_readItem 136 = .ok (.putfield 114, 3) := by decide +kernel
theorem dX10_readItem_139 : decode cX10_readItem 139 = .ok (.aload_n 0, 1) := by decide +kernel
theorem dX10_readItem_140 : decode cX10_readItem 140 = .ok (.iconst 0, 1) := by decide +kernel
theorem dX10_readItem_141 : decode cX10_readItem 141 = .ok (.iconst 3, 1) := by decide +kernel
theorem dX10_readItem_142 : decode cX10_readItem 142 = .ok (.bipush 44, 2) := by decide +kernel
theorem dX10_readItem_144 : decode cX10_readItem 144 = .ok (.invokevirtual 118, 3) := by decide +kernel
theorem dX10_readItem_147 : decode cX10_readItem 147 = .ok (.istore_n 2, 1) := by decide +kernel
theorem dX10_readItem_148 : decode cX10_readItem 148 = .ok (.aload_n 0, 1) := by decide +kernel
theorem dX10_readItem_149 : decode cX10_readItem 149 = .ok (.iconst 0, 1) := by decide +kernel
theorem dX10_readItem_150 : decode cX10_readItem 150 = .ok (.iconst 4, 1) := by decide +kernel
theorem dX10_readItem_151 : decode cX10_readItem 151 = .ok (.bipush 44, 2) := by decide +kernel
theorem dX10_readItem_153 : decode cX10_readItem 153 = .ok (.invokevirtual 118, 3) := by decide +kernel
theorem dX10_readItem_156 : decode cX10_readItem 156 = .ok (.istore_n 3, 1) := by decide +kernel
theorem dX10_readItem_157 : decode cX10_readItem 157 = .ok (.aload_n 0, 1) := by decide +kernel
theorem dX10_readItem_158 : decode cX10_readItem 158 = .ok (.iconst 0, 1) := by decide +kernel
theorem dX10_readItem_159 : decode cX10_readItem 159 = .ok (.iconst 4, 1) := by decide +kernel
theorem dX10_readItem_160 : decode cX10_readItem 160 = .ok (.bipush 44, 2) := by decide +kernel
theorem dX10_readItem_162 : decode cX10_readItem 162 = .ok (.invokevirtual 118, 3) := by decide +kernel
theorem dX10_readItem_165 : decode cX10_readItem 165 = .ok (.istore 4, 2) := by decide +kernel
theorem dX10_readItem_167 : decode cX10_readItem 167 = .ok (.aload_n 0, 1) := by decide +kernel
theorem dX10_readItem_168 : decode cX10_readItem 168 = .ok (.iconst 0, 1) := by decide +kernel
theorem dX10_readItem_169 : decode cX10_readItem 169 = .ok (.iconst 4, 1) := by decide +kernel
theorem dX10_readItem_170 : decode cX10_readItem 170 = .ok (.bipush 59, 2) := by decide +kernel
theorem dX10_readItem_172 : decode cX10_readItem 172 = .ok (.invokevirtual 118, 3) := by decide +kernel
theorem dX10_readItem_175 : decode cX10_readItem 175 = .ok (.istore 5, 2) := by decide +kernel
theorem dX10_readItem_177 : decode cX10_readItem 177 = .ok (.aload_n 0, 1) := by decide +kernel
theorem dX10_readItem_178 : decode cX10_readItem 178 = .ok (.getfield 114, 3) := by decide +kernel
theorem dX10_readItem_181 : decode cX10_readItem 181 = .ok (.ifCond .eq 282, 3) := by decide +kernel
theorem dX10_readItem_184 : decode cX10_readItem 184 = .ok (.aload_n 0, 1) := by decide +kernel
theorem dX10_readItem_185 : decode cX10_readItem 185 = .ok (.iconst 4, 1) := by decide +kernel
theorem dX10_readItem_186 : decode cX10_readItem 186 = .ok (.aload_n 0, 1) := by decide +kernel
theorem dX10_readItem_187 : decode cX10_readItem 187 = .ok (.getfield 17, 3) := by decide +kernel
theorem dX10_readItem_190 : decode cX10_readItem 190 = .ok (.iconst 1, 1) := by decide +kernel
theorem dX10_readItem_191 : decode cX10_readItem 191 = .ok (.iaload, 1) := by decide +kernel
theorem dX10_readItem_192 : decode cX10_readItem 192 = .ok (.iadd, 1) := by decide +kernel
theorem dX10_readItem_193 : decode cX10_readItem 193 = .ok (.iload_n 2, 1) := by decide +kernel
theorem dX10_readItem_194 : decode cX10_readItem 194 = .ok (.iload_n 3, 1) := by decide +kernel
theorem dX10_readItem_195 : decode cX10_readItem 195 = .ok (.iload 4, 2) := by decide +kernel
theorem dX10_readItem_197 : decode cX10_readItem 197 = .ok (.iload 5, 2) := by decide +kernel
theorem dX10_readItem_199 : decode cX10_readItem 199 = .ok (.invokevirtual 88, 3) := by decide +kernel
theorem dX10_readItem_202 : decode cX10_readItem 202 = .ok (.aload_n 0, 1) := by decide +kernel
theorem dX10_readItem_203 : decode cX10_readItem 203 = .ok (.getfield 17, 3) := by decide +kernel
theorem dX10_readItem_206 : decode cX10_readItem 206 = .ok (.iconst 1, 1) := by decide +kernel
theorem dX10_readItem_207 : decode cX10_readItem 207 = .ok (.dup2, 1) := by decide +kernel
theorem dX10_readItem_208 : decode cX10_readItem 208 = .ok (.iaload, 1) := by decide +kernel
theorem dX10_readItem_209 : decode cX10_readItem 209 = .ok (.iconst 1, 1) := by decide +kernel
theorem dX10_readItem_210 : decode cX10_readItem 210 = .ok (.iadd, 1) := by decide +kernel
theorem dX10_readItem_211 : decode cX10_readItem 211 = .ok (.iastore, 1) := by decide +kernel
theorem dX10_readItem_212 : decode cX10_readItem 212 = .ok (.goto 251, 3) := by decide +kernel
theorem dX10_readItem_215 : decode cX10_readItem 215 = .ok (.aload_n 0, 1) := by decide +kernel
theorem dX10_readItem_216 : decode cX10_readItem 216 = .ok (.aload_n 0, 1) := by decide +kernel
theorem dX10_readItem_217 : decode cX10_readItem 217 = .ok (.getfield 23, 3) := by decide +kernel
theorem dX10_readItem_220 : decode cX10_readItem 220 = .ok (.iconst 1, 1) := by decide +kernel
theorem dX10_readItem_221 : decode cX10_readItem 221 = .ok (.iaload, 1) := by decide +kernel
theorem dX10_readItem_222 : decode cX10_readItem 222 = .ok (.bipush 6, 2) := by decide +kernel
theorem dX10_readItem_224 : decode cX10_readItem 224 = .ok (.if_icmp .ge 7, 3) := by decide +kernel
theorem dX10_readItem_227 : decode cX10_readItem 227 = .ok (.iconst 1, 1) := by decide +kernel
theorem dX10_readItem_228 : decode cX10_readItem 228 = .ok (.goto 4, 3) := by decide +kernel
theorem dX10_readItem_231 : decode cX10_readItem 231 = .ok (.iconst 0, 1) := by decide +kernel
theorem dX10_readItem_232 : decode cX10_readItem 232 = .ok (.putfield 114, 3) := by decide +kernel
theorem dX10_readItem_235 : decode cX10_readItem 235 = .ok (.aload_n 0, 1) := by decide +kernel
theorem dX10_readItem_236 : decode cX10_readItem 236 = .ok (.iconst 1, 1) := by decide +kernel
theorem dX10_readItem_237 : decode cX10_readItem 237 = .ok (.bipush 9, 2) := by decide +kernel
theorem dX10_readItem_239 : decode cX10_readItem 239 = .ok (.bipush 44, 2) := by decide +kernel
theorem dX10_readItem_241 : decode cX10_readItem 241 = .ok (.invokevirtual 118, 3) := by decide +kernel
theorem dX10_readItem_244 : decode cX10_readItem 244 = .ok (.istore_n 2, 1) := by decide +kernel
theorem dX10_readItem_245 : decode cX10_readItem 245 = .ok (.aload_n 0, 1) := by decide +kernel
theorem dX10_readItem_246 : decode cX10_readItem 246 = .ok (.iconst 0, 1) := by decide +kernel
theorem dX10_readItem_247 : decode cX10_readItem 247 = .ok (.bipush 60, 2) := by decide +kernel
theorem dX10_readItem_249 : decode cX10_readItem 249 = .ok (.bipush 59, 2) := by decide +kernel
theorem dX10_readItem_251 : decode cX10_readItem 251 = .ok (.invokevirtual 118, 3) := by decide +kernel
theorem dX10_readItem_254 : decode cX10_readItem 254 = .ok (.istore_n 3, 1) := by decide +kernel
theorem dX10_readItem_255 : decode cX10_readItem 255 = .ok (.aload_n 0, 1) := by decide +kernel
theorem dX10_readItem_256 : decode cX10_readItem 256 = .ok (.getfield 114, 3) := by decide +kernel
theorem dX10_readItem_259 : decode cX10_readItem 259 = .ok (.ifCond .eq 204, 3) := by decide +kernel
theorem dX10_readItem_262 : decode cX10_readItem 262 = .ok (.aload_n 0, 1) := by decide +kernel
theorem dX10_readItem_263 : decode cX10_readItem 263 = .ok (.bipush 6, 2) := by decide +kernel
theorem dX10_readItem_265 : decode cX10_readItem 265 = .ok (.aload_n 0, 1) := by decide +kernel
theorem dX10_readItem_266 : decode cX10_readItem 266 = .ok (.getfield 23, 3) := by decide +kernel
theorem dX10_readItem_269 : decode cX10_readItem 269 = .ok (.iconst 1, 1) := by decide +kernel
theorem dX10_readItem_270 : decode cX10_readItem 270 = .ok (.iaload, 1) := by decide +kernel
theorem dX10_readItem_271 : decode cX10_readItem 271 = .ok (.iadd, 1) := by decide +kernel
theorem dX10_readItem_272 : decode cX10_readItem 272 = .ok (.iload_n 2, 1) := by decide +kernel
theorem dX10_readItem_273 : decode cX10_readItem 273 = .ok (.iload_n 3, 1) := by decide +kernel
theorem dX10_readItem_274 : decode cX10_readItem 274 = .ok (.invokevirtual 92, 3) := by decide +kernel
theorem dX10_readItem_277 : decode cX10_readItem 277 = .ok (.aload_n 0, 1) := by decide +kernel
theorem dX10_readItem_278 : decode cX10_readItem 278 = .ok (.getfield 23, 3) := by decide +kernel
theorem dX10_readItem_281 : decode cX10_readItem 281 = .ok (.iconst 1, 1) := by decide +kernel
theorem dX10_readItem_282 : decode cX10_readItem 282 = .ok (.dup2, 1) := by decide +kernel
theorem dX10_readItem_283 : decode cX10_readItem 283 = .ok (.iaload, 1) := by decide +kernel
theorem dX10_readItem_284 : decode cX10_readItem 284 = .ok (.iconst 1, 1) := by decide +kernel
theorem dX10_readItem_285 : decode cX10_readItem 285 = .ok (.iadd, 1) := by decide +kernel
theorem dX10_readItem_286 : decode cX10_readItem 286 = .ok (.iastore, 1) := by decide +kernel
theorem dX10_readItem_287 : decode cX10_readItem 287 = .ok (.goto 176, 3) := by decide +kernel
theorem dX10_readItem_290 : decode cX10_readItem 290 = .ok (.aload_n 0, 1) := by decide +kernel
theorem dX10_readItem_291 : decode cX10_readItem 291 = .ok (.aload_n 0, 1) := by decide +kernel
theorem dX10_readItem_292 : decode cX10_readItem 292 = .ok (.getfield 32, 3) := by decide +kernel
theorem dX10_readItem_295 : decode cX10_readItem 295 = .ok (.iconst 1, 1) := by decide +kernel
theorem dX10_readItem_296 : decode cX10_readItem 296 = .ok (.iaload, 1) := by decide +kernel
theorem dX10_readItem_297 : decode cX10_readItem 297 = .ok (.iconst 4, 1) := by decide +kernel
theorem dX10_readItem_298 : decode cX10_readItem 298 = .ok (.if_icmp .ge 7, 3) := by decide +kernel
theorem dX10_readItem_301 : decode cX10_readItem 301 = .ok (.iconst 1, 1) := by decide +kernel
theorem dX10_readItem_302 : decode cX10_readItem 302 = .ok (.goto 4, 3) := by decide +kernel
theorem dX10_readItem_305 : decode cX10_readItem 305 = .ok (.iconst 0, 1) := by decide +kernel
theorem dX10_readItem_306 : decode cX10_readItem 306 = .ok (.putfield 114, 3) := by decide +kernel
theorem dX10_readItem_309 : decode cX10_readItem 309 = .ok (.aload_n 0, 1) := by decide +kernel
theorem dX10_readItem_310 : decode cX10_readItem 310 = .ok (.iconst 1, 1) := by decide +kernel
theorem dX10_readItem_311 : decode cX10_readItem 311 = .ok (.bipush 30, 2) := by decide +kernel
theorem dX10_readItem_313 : decode cX10_readItem 313 = .ok (.bipush 59, 2) := by decide +kernel
theorem dX10_readItem_315 : decode cX10_readItem 315 = .ok (.invokevirtual 118, 3) := by decide +kernel
theorem dX10_readItem_318 : decode cX10_readItem 318 = .ok (.istore_n 2, 1) := by decide +kernel
theorem dX10_readItem_319 : decode cX10_readItem 319 = .ok (.aload_n 0, 1) := by decide +kernel
theorem dX10_readItem_320 : decode cX10_readItem 320 = .ok (.getfield 114, 3) := by decide +kernel
theorem dX10_readItem_323 : decode cX10_readItem 323 = .ok (.ifCond .eq 140, 3) := by decide +kernel
theorem dX10_readItem_326 : decode cX10_readItem 326 = .ok (.aload_n 0, 1) := by decide +kernel
theorem dX10_readItem_327 : decode cX10_readItem 327 = .ok (.getfield 35, 3) := by decide +kernel
theorem dX10_readItem_330 : decode cX10_readItem 330 = .ok (.iconst 4, 1) := by decide +kernel
theorem dX10_readItem_331 : decode cX10_readItem 331 = .ok (.aload_n 0, 1) := by decide +kernel
theorem dX10_readItem_332 : decode cX10_readItem 332 = .ok (.getfield 32, 3) := by decide +kernel
theorem dX10_readItem_335 : decode cX10_readItem 335 = .ok (.iconst 1, 1) := by decide +kernel
theorem dX10_readItem_336 : decode cX10_readItem 336 = .ok (.iaload, 1) := by decide +kernel
theorem dX10_readItem_337 : decode cX10_readItem 337 = .ok (.iadd, 1) := by decide +kernel
theorem dX10_readItem_338 : decode cX10_readItem 338 = .ok (.iload_n 2, 1) := by decide +kernel
theorem dX10_readItem_339 : decode cX10_readItem 339 = .ok (.iastore, 1) := by decide +kernel
theorem dX10_readItem_340 : decode cX10_readItem 340 = .ok (.aload_n 0, 1) := by decide +kernel
theorem dX10_readItem_341 : decode cX10_readItem 341 = .ok (.getfield 32, 3) := by decide +kernel
theorem dX10_readItem_344 : decode cX10_readItem 344 = .ok (.iconst 1, 1) := by decide +kernel
theorem dX10_readItem_345 : decode cX10_readItem 345 = .ok (.dup2, 1) := by decide +kernel
theorem dX10_readItem_346 : decode cX10_readItem 346 = .ok (.iaload, 1) := by decide +kernel
theorem dX10_readItem_347 : decode cX10_readItem 347 = .ok (.iconst 1, 1) := by decide +kernel
theorem dX10_readItem_348 : decode cX10_readItem 348 = .ok (.iadd, 1) := by decide +kernel
theorem dX10_readItem_349 : decode cX10_readItem 349 = .ok (.iastore, 1) := by decide +kernel
theorem dX10_readItem_350 : decode cX10_readItem 350 = .ok (.goto 113, 3) := by decide +kernel
theorem dX10_readItem_353 : decode cX10_readItem 353 = .ok (.aload_n 0, 1) := by decide +kernel
theorem dX10_readItem_354 : decode cX10_readItem 354 = .ok (.aload_n 0, 1) := by decide +kernel
theorem dX10_readItem_355 : decode cX10_readItem 355 = .ok (.getfield 38, 3) := by decide +kernel
theorem dX10_readItem_358 : decode cX10_readItem 358 = .ok (.iconst 1, 1) := by decide +kernel
theorem dX10_readItem_359 : decode cX10_readItem 359 = .ok (.iaload, 1) := by decide +kernel
theorem dX10_readItem_360 : decode cX10_readItem 360 = .ok (.iconst 5, 1) := by decide +kernel
theorem dX10_readItem_361 : decode cX10_readItem 361 = .ok (.if_icmp .ge 7, 3) := by decide +kernel
theorem dX10_readItem_364 : decode cX10_readItem 364 = .ok (.iconst 1, 1) := by decide +kernel
theorem dX10_readItem_365 : decode cX10_readItem 365 = .ok (.goto 4, 3) := by decide +kernel
theorem dX10_readItem_368 : decode cX10_readItem 368 = .ok (.iconst 0, 1) := by decide +kernel
theorem dX10_readItem_369 : decode cX10_readItem 369 = .ok (.putfield 114, 3) := by decide +kernel
theorem dX10_readItem_372 : decode cX10_readItem 372 = .ok (.aload_n 0, 1) := by decide +kernel
theorem dX10_readItem_373 : decode cX10_readItem 373 = .ok (.iconst 0, 1) := by decide +kernel
theorem dX10_readItem_374 : decode cX10_readItem 374 = .ok (.iconst 4, 1) := by decide +kernel
theorem dX10_readItem_375 : decode cX10_readItem 375 = .ok (.bipush 44, 2) := by decide +kernel
theorem dX10_readItem_377 : decode cX10_readItem 377 = .ok (.invokevirtual 118, 3) := by decide +kernel
theorem dX10_readItem_380 : decode cX10_readItem 380 = .ok (.istore_n 2, 1) := by decide +kernel
theorem dX10_readItem_381 : decode cX10_readItem 381 = .ok (.aload_n 0, 1) := by decide +kernel
theorem dX10_readItem_382 : decode cX10_readItem 382 = .ok (.iconst 0, 1) := by decide +kernel
theorem dX10_readItem_383 : decode cX10_readItem 383 = .ok (.bipush 20, 2) := by decide +kernel
theorem dX10_readItem_385 : decode cX10_readItem 385 = .ok (.bipush 59, 2) := by decide +kernel
theorem dX10_readItem_387 : decode cX10_readItem 387 = .ok (.invokevirtual 118, 3) := by decide +kernel
theorem dX10_readItem_390 : decode cX10_readItem 390 = .ok (.istore_n 3, 1) := by decide +kernel
theorem dX10_readItem_391 : decode cX10_readItem 391 = .ok (.aload_n 0, 1) := by decide +kernel
theorem dX10_readItem_392 : decode cX10_readItem 392 = .ok (.getfield 114, 3) := by decide +kernel
theorem dX10_readItem_395 : decode cX10_readItem 395 = .ok (.ifCond .eq 68, 3) := by decide +kernel
theorem dX10_readItem_398 : decode cX10_readItem 398 = .ok (.aload_n 0, 1) := by decide +kernel
theorem dX10_readItem_399 : decode cX10_readItem 399 = .ok (.iconst 5, 1) := by decide +kernel
theorem dX10_readItem_400 : decode cX10_readItem 400 = .ok (.aload_n 0, 1) := by decide +kernel
theorem dX10_readItem_401 : decode cX10_readItem 401 = .ok (.getfield 38, 3) := by decide +kernel
theorem dX10_readItem_404 : decode cX10_readItem 404 = .ok (.iconst 1, 1) := by decide +kernel
theorem dX10_readItem_405 : decode cX10_readItem 405 = .ok (.iaload, 1) := by decide +kernel
theorem dX10_readItem_406 : decode cX10_readItem 406 = .ok (.iadd, 1) := by decide +kernel
theorem dX10_readItem_407 : decode cX10_readItem 407 = .ok (.iload_n 2, 1) := by decide +kernel
theorem dX10_readItem_408 : decode cX10_readItem 408 = .ok (.iload_n 3, 1) := by decide +kernel
theorem dX10_readItem_409 : decode cX10_readItem 409 = .ok (.invokevirtual 96, 3) := by decide +kernel
theorem dX10_readItem_412 : decode cX10_readItem 412 = .ok (.aload_n 0, 1) := by decide +kernel
theorem dX10_readItem_413 : decode cX10_readItem 413 = .ok (.getfield 38, 3) := by decide +kernel
theorem dX10_readItem_416 : decode cX10_readItem 416 = .ok (.iconst 1, 1) := by decide +kernel
theorem dX10_readItem_417 : decode cX10_readItem 417 = .ok (.dup2, 1) := by decide +kernel
theorem dX10_readItem_418 : decode cX10_readItem 418 = .ok (.iaload, 1) := by decide +kernel
theorem dX10_readItem_419 : decode cX10_readItem 419 = .ok (.iconst 1, 1) := by decide +kernel
theorem dX10_readItem_420 : decode cX10_readItem 420 = .ok (.iadd, 1) := by decide +kernel
theorem dX10_readItem_421 : decode cX10_readItem 421 = .ok (.iastore, 1) := by decide +kernel
theorem dX10_readItem_422 : decode cX10_readItem 422 = .ok (.goto 41, 3) := by decide +kernel
theorem dX10_readItem_425 : decode cX10_readItem 425 = .ok (.aload_n 0, 1) := by decide +kernel
theorem dX10_readItem_426 : decode cX10_readItem 426 = .ok (.getfield 47, 3) := by decide +kernel
theorem dX10_readItem_429 : decode cX10_readItem 429 = .ok (.iconst 2, 1) := by decide +kernel
theorem dX10_readItem_430 : decode cX10_readItem 430 = .ok (.aload_n 0, 1) := by decide +kernel
theorem dX10_readItem_431 : decode cX10_readItem 431 = .ok (.iconst 0, 1) := by decide +kernel
theorem dX10_readItem_432 : decode cX10_readItem 432 = .ok (.bipush 99, 2) := by decide +kernel
theorem dX10_readItem_434 : decode cX10_readItem 434 = .ok (.bipush 44, 2) := by decide +kernel
theorem dX10_readItem_436 : decode cX10_readItem 436 = .ok (.invokevirtual 118, 3) := by decide +kernel
theorem dX10_readItem_439 : decode cX10_readItem 439 = .ok (.iastore, 1) := by decide +kernel
theorem dX10_readItem_440 : decode cX10_readItem 440 = .ok (.aload_n 0, 1) := by decide +kernel
theorem dX10_readItem_441 : decode cX10_readItem 441 = .ok (.getfield 47, 3) := by decide +kernel
theorem dX10_readItem_444 : decode cX10_readItem 444 = .ok (.iconst 3, 1) := by decide +kernel
theorem dX10_readItem_445 : decode cX10_readItem 445 = .ok (.aload_n 0, 1) := by decide +kernel
theorem dX10_readItem_446 : decode cX10_readItem 446 = .ok (.iconst 0, 1) := by decide +kernel
theorem dX10_readItem_447 : decode cX10_readItem 447 = .ok (.bipush 9, 2) := by decide +kernel
theorem dX10_readItem_449 : decode cX10_readItem 449 = .ok (.bipush 59, 2) := by decide +kernel
theorem dX10_readItem_451 : decode cX10_readItem 451 = .ok (.invokevirtual 118, 3) := by decide +kernel
theorem dX10_readItem_454 : decode cX10_readItem 454 = .ok (.iastore, 1) := by decide +kernel
theorem dX10_readItem_455 : decode cX10_readItem 455 = .ok (.goto 8, 3) := by decide +kernel
theorem dX10_readItem_458 : decode cX10_readItem 458 = .ok (.aload_n 0, 1) := by decide +kernel
theorem dX10_readItem_459 : decode cX10_readItem 459 = .ok (.iconst 0, 1) := by decide +kernel
theorem dX10_readItem_460 : decode cX10_readItem 460 = .ok (.putfield 114, 3) := by decide +kernel
theorem dX10_readItem_463 : decode cX10_readItem 463 = .ok (.return_, 1) := by decide +kernel
def F_X10_readItem (v_at : Int32) (v_isSo : Int32) (v_typed : Int32) (a_boat : Nat → Int32) (a_boats : Nat → Int32) (a_brings : Nat → Int32) (a_costs : Nat → Int32) (a_goes : Nat → Int32) (a_houses : Nat → Int32) (a_minutes : Nat → Int32) (a_noise : Nat → Int32) (a_people : Nat → Int32) (a_signs : Nat → Int32) (a_text : Nat → Int32) (a_told : Nat → Int32) (a_works : Nat → Int32) : Option (Int32 × Int32 × (Nat → Int32) × (Nat → Int32) × (Nat → Int32) × (Nat → Int32) × (Nat → Int32) × (Nat → Int32) × (Nat → Int32) × (Nat → Int32) × (Nat → Int32) × (Nat → Int32) × (Nat → Int32) × (Nat → Int32)) := (F_X10_here v_at v_typed a_text).bind (fun q1 => (if q1 = 97 then (F_X10_number 0 4 44 ((v_at + 1)) 1 v_typed a_text).bind (fun q85 => (F_X10_number 0 4 44 q85.2.1 q85.2.2 v_typed a_text).bind (fun q94 => (F_X10_number 0 4 59 q94.2.1 q94.2.2 v_typed a_text).bind (fun q103 => (F_X10_law 1 q85.1 q94.1 q103.1 a_goes).bind (fun q114 => some (q103.2.1, q103.2.2, a_boat, a_boats, a_brings, a_costs, q114, a_houses, a_minutes, a_noise, a_people, a_signs, a_told, a_works))))) else (if q1 = 98 then jn (fun (j0_306 : Int32) => (F_X10_number 1 30 59 ((v_at + 1)) j0_306 v_typed a_text).bind (fun q315 => (if q315.2.2 = 0 then some (q315.2.1, q315.2.2, a_boat, a_boats, a_brings, a_costs, a_goes, a_houses, a_minutes, a_noise, a_people, a_signs, a_told, a_works) else (if inb ((4 + (a_boats (Int32.toNatClampNeg 1)))) 8 = true then some (q315.2.1, q315.2.2, (upd a_boat (Int32.toNatClampNeg ((4 + (a_boats (Int32.toNatClampNeg 1))))) q315.1), (upd a_boats (Int32.toNatClampNeg 1) (((a_boats (Int32.toNatClampNeg 1)) + 1))), a_brings, a_costs, a_goes, a_houses, a_minutes, a_noise, a_people, a_signs, a_told, a_works) else none)))) (fun k_306 => (if 4 ≤ (a_boats (Int32.toNatClampNeg 1)) then k_306 0 else k_306 1)) else (if q1 = 104 then jn (fun (j0_232 : Int32) => (F_X10_number 1 9 44 ((v_at + 1)) j0_232 v_typed a_text).bind (fun q241 => (F_X10_number 0 60 59 q241.2.1 q241.2.2 v_typed a_text).bind (fun q251 => (if q251.2.2 = 0 then some (q251.2.1, q251.2.2, a_boat, a_boats, a_brings, a_costs, a_goes, a_houses, a_minutes, a_noise, a_people, a_signs, a_told, a_works) else (F_X10_house2 ((6 + (a_houses (Int32.toNatClampNeg 1)))) q241.1 q251.1 a_minutes a_people).bind (fun q274 => some (q251.2.1, q251.2.2, a_boat, a_boats, a_brings, a_costs, a_goes, (upd a_houses (Int32.toNatClampNeg 1) (((a_houses (Int32.toNatClampNeg 1)) + 1))), q274.1, a_noise, q274.2, a_signs, a_told, a_works)))))) (fun k_232 => (if 6 ≤ (a_houses (Int32.toNatClampNeg 1)) then k_232 0 else k_232 1)) else (if q1 = 108 then (F_X10_number 0 99 44 ((v_at + 1)) 1 v_typed a_text).bind (fun q436 => (F_X10_number 0 9 59 q436.2.1 q436.2.2 v_typed a_text).bind (fun q451 => some (q451.2.1, q451.2.2, a_boat, a_boats, a_brings, (upd ((upd a_costs (Int32.toNatClampNeg 2) q436.1)) (Int32.toNatClampNeg 3) q451.1), a_goes, a_houses, a_minutes, a_noise, a_people, a_signs, a_told, a_works))) else (if q1 = 115 then jn (fun (j0_136 : Int32) => (F_X10_number 0 3 44 ((v_at + 1)) j0_136 v_typed a_text).bind (fun q144 => (F_X10_number 0 4 44 q144.2.1 q144.2.2 v_typed a_text).bind (fun q153 => (F_X10_number 0 4 44 q153.2.1 q153.2.2 v_typed a_text).bind (fun q162 => (F_X10_number 0 4 59 q162.2.1 q162.2.2 v_typed a_text).bind (fun q172 => (if q172.2.2 = 0 then some (q172.2.1, q172.2.2, a_boat, a_boats, a_brings, a_costs, a_goes, a_houses, a_minutes, a_noise, a_people, a_signs, a_told, a_works) else (F_X10_sign4 ((4 + (a_signs (Int32.toNatClampNeg 1)))) q144.1 q153.1 q162.1 q172.1 a_told).bind (fun q199 => some (q172.2.1, q172.2.2, a_boat, a_boats, a_brings, a_costs, a_goes, a_houses, a_minutes, a_noise, a_people, (upd a_signs (Int32.toNatClampNeg 1) (((a_signs (Int32.toNatClampNeg 1)) + 1))), q199, a_works)))))))) (fun k_136 => (if 4 ≤ (a_signs (Int32.toNatClampNeg 1)) then k_136 0 else k_136 1)) else (if q1 = 119 then jn (fun (j0_369 : Int32) => (F_X10_number 0 4 44 ((v_at + 1)) j0_369 v_typed a_text).bind (fun q377 => (F_X10_number 0 20 59 q377.2.1 q377.2.2 v_typed a_text).bind (fun q387 => (if q387.2.2 = 0 then some (q387.2.1, q387.2.2, a_boat, a_boats, a_brings, a_costs, a_goes, a_houses, a_minutes, a_noise, a_people, a_signs, a_told, a_works) else (F_X10_work2 ((5 + (a_works (Int32.toNatClampNeg 1)))) q377.1 q387.1 a_brings a_noise).bind (fun q409 => some (q387.2.1, q387.2.2, a_boat, a_boats, q409.1, a_costs, a_goes, a_houses, a_minutes, q409.2, a_people, a_signs, a_told, (upd a_works (Int32.toNatClampNeg 1) (((a_works (Int32.toNatClampNeg 1)) + 1))))))))) (fun k_369 => (if 5 ≤ (a_works (Int32.toNatClampNeg 1)) then k_369 0 else k_369 1)) else some ((v_at + 1), 0, a_boat, a_boats, a_brings, a_costs, a_goes, a_houses, a_minutes, a_noise, a_people, a_signs, a_told, a_works))))))))
theorem hdV_X10_readItem : yX10_readItem.cls = RX10 ∧ yX10_readItem.cls ≠ "java/lang/invoke/MethodHandle" ∧ yX10_readItem.cls ≠ "java/lang/invoke/VarHandle" ∧ (parseMethodDescriptor yX10_readItem.desc).map (fun d => d.parameters.length) = some 0 := by decide +kernel
set_option maxHeartbeats 4000000 in
set_option maxRecDepth 100000 in
theorem c_X10_readItem (l : Launch) (G : GG) (h_this : Nat) (ad_this : Nat → Nat) (v_typed : Int32) (v_at : Int32) (v_isSo : Int32) (v_kept : Int32) (v_all : Int64) (v_sightAll : Int64) (v_aheadMany : Int32) (a_boat : Nat → Int32) (a_boats : Nat → Int32) (a_brings : Nat → Int32) (a_costs : Nat → Int32) (a_goes : Nat → Int32) (a_houses : Nat → Int32) (a_minutes : Nat → Int32) (a_noise : Nat → Int32) (a_people : Nat → Int32) (a_signs : Nat → Int32) (a_text : Nat → Int32) (a_told : Nat → Int32) (a_works : Nat → Int32) (out : Int32 × Int32 × (Nat → Int32) × (Nat → Int32) × (Nat → Int32) × (Nat → Int32) × (Nat → Int32) × (Nat → Int32) × (Nat → Int32) × (Nat → Int32) × (Nat → Int32) × (Nat → Int32) × (Nat → Int32) × (Nat → Int32)) (hF : F_X10_readItem v_at v_isSo v_typed a_boat a_boats a_brings a_costs a_goes a_houses a_minutes a_noise a_people a_signs a_text a_told a_works = some out) : CtrV l yX10_readItem (WS yX10_readItem cX10_readItem 6 none) { frames := 2, cells := 0, slots := 0, locals := 47 } G [.ref h_this] [(h_this, oX10 ad_this v_typed v_at v_isSo v_kept v_all v_sightAll v_aheadMany), ((ad_this 9), cI G 8 a_boat), ((ad_this 8), cI G 2 a_boats), ((ad_this 12), cI G 10 a_brings), ((ad_this 13), cI G 4 a_costs), ((ad_this 2), cI G 6 a_goes), ((ad_this 5), cI G 2 a_houses), ((ad_this 7), cI G 12 a_minutes), ((ad_this 11), cI G 10 a_noise), ((ad_this 6), cI G 12 a_people), ((ad_this 3), cI G 2 a_signs), ((ad_this 0), cB G 200 a_text), ((ad_this 4), cI G 32 a_told), ((ad_this 10), cI G 2 a_works)] [(h_this, oX10 ad_this v_typed out.1 out.2.1 v_kept v_all v_sightAll v_aheadMany), ((ad_this 9), cI G 8 out.2.2.1), ((ad_this 8), cI G 2 out.2.2.2.1), ((ad_this 12), cI G 10 out.2.2.2.2.1), ((ad_this 13), cI G 4 out.2.2.2.2.2.1), ((ad_this 2), cI G 6 out.2.2.2.2.2.2.1), ((ad_this 5), cI G 2 out.2.2.2.2.2.2.2.1), ((ad_this 7), cI G 12 out.2.2.2.2.2.2.2.2.1), ((ad_this 11), cI G 10 out.2.2.2.2.2.2.2.2.2.1), ((ad_this 6), cI G 12 out.2.2.2.2.2.2.2.2.2.2.1), ((ad_this 3), cI G 2 out.2.2.2.2.2.2.2.2.2.2.2.1), ((ad_this 0), cB G 200 a_text), ((ad_this 4), cI G 32 out.2.2.2.2.2.2.2.2.2.2.2.2.1), ((ad_this 10), cI G 2 out.2.2.2.2.2.2.2.2.2.2.2.2.2)] := by
  refine startV (cc := cX10_readItem) (maxL := 6) (by decide) rfl (Nat.le_of_ble_eq_true rfl) ?_
  intro p e s m args below meth c A Q hx hb hml hts hown hc hA hret ls H locs hl hW
  have hown : s.vm.findClass RX10 = some m.cls := hown
  have hg : ∀ w ∈ GOODS, w.before _ s = true := fun w h => hts w (List.mem_cons_of_mem _ h)
  have hl : lv_has ls 6 [(0, .ref h_this)] := hl
  rw [F_X10_readItem] at hF
  refine lv_aload_n hx hb dX10_readItem_0 rfl (lv_at hl 0 rfl) ?_
  obtain ⟨q1, c_1, hF⟩ := bd_el hF
  refine wcI (ws' := [(h_this, oX10 ad_this v_typed v_at v_isSo v_kept v_all v_sightAll v_aheadMany), ((ad_this 9), cI G 8 a_boat), ((ad_this 8), cI G 2 a_boats), ((ad_this 12), cI G 10 a_brings), ((ad_this 13), cI G 4 a_costs), ((ad_this 2), cI G 6 a_goes), ((ad_this 5), cI G 2 a_houses), ((ad_this 7), cI G 12 a_minutes), ((ad_this 11), cI G 10 a_noise), ((ad_this 6), cI G 12 a_people), ((ad_this 3), cI G 2 a_signs), ((ad_this 0), cB G 200 a_text), ((ad_this 4), cI G 32 a_told), ((ad_this 10), cI G 2 a_works)]) (wc := [(h_this, oX10 ad_this v_typed v_at v_isSo v_kept v_all v_sightAll v_aheadMany), ((ad_this 0), cB G 200 a_text)]) (wr := [((ad_this 9), cI G 8 a_boat), ((ad_this 8), cI G 2 a_boats), ((ad_this 12), cI G 10 a_brings), ((ad_this 13), cI G 4 a_costs), ((ad_this 2), cI G 6 a_goes), ((ad_this 5), cI G 2 a_houses), ((ad_this 7), cI G 12 a_minutes), ((ad_this 11), cI G 10 a_noise), ((ad_this 6), cI G 12 a_people), ((ad_this 3), cI G 2 a_signs), ((ad_this 4), cI G 32 a_told), ((ad_this 10), cI G 2 a_works)]) (w1 := [(h_this, oX10 ad_this v_typed v_at v_isSo v_kept v_all v_sightAll v_aheadMany), ((ad_this 0), cB G 200 a_text)]) (va_runV (As := []) (rest := []) ⟨hx, hb, hml, hown, hg⟩ (c_X10_here l G h_this ad_this v_typed v_at v_isSo v_kept v_all v_sightAll v_aheadMany a_text q1 c_1 H.size) (cwV 0 hg (gV wd_4_151 wd_4_153 wd_0_28 wd_1_15 wd_4_154) rfl rfl rfl hdV_X10_here ⟨(Nat.le_of_ble_eq_true rfl), (Nat.le_of_ble_eq_true rfl)⟩) (preV hc hW [0, 11] rfl (by decide) rfl rfl) rfl rfl hl.1 rfl (lv_room (Nat.le_of_ble_eq_true rfl)) dX10_readItem_1 ⟨Nat.zero_le _, Nat.zero_le _⟩) hA hW [0, 11] [1, 2, 3, 4, 5, 6, 7, 8, 9, 10, 12, 13] [12, 0, 1, 2, 3, 4, 5, 6, 7, 8, 9, 13, 10, 11] rfl rfl (by decide) (by decide) rfl (by decide) (fun H locs hW => ?_)
  refine lv_istore_n (lv' := [(1, .int q1), (0, .ref h_this)]) hx hb dX10_readItem_4 rfl hl (by decide) rfl (fun ls hl => ?_)
  refine lv_aload_n hx hb dX10_readItem_5 rfl (lv_at hl 1 rfl) ?_
  refine lv_dup hx hb dX10_readItem_6 rfl ?_
  refine va_get (D := G.1) (ci := 9) (v := .int v_at) (C := RX10) (T := TX10) (N := 31) hx hb hg hu_X10 hown hc.1 hW.1 0 rfl rfl 14 (by decide) (hg _ wd_4_52) (fun _ h9 => h9) rfl dX10_readItem_7 ?_
  refine lv_iconst (v := 1) hx hb dX10_readItem_10 (by decide) ?_
  refine lv_iadd hx hb dX10_readItem_11 ?_
  refine va_put (D := G.1) (ci := 9) (v := .int ((v_at + 1))) (ty := .int) (C := RX10) (T := TX10) (N := 31) hx hb hg hu_X10 tyX10 tyX10_ok nmX10 hown hc.1 hW.1 hW.2.1 hW.2.2 0 rfl rfl 14 (by decide) (hg _ wd_4_52) (fun _ h9 => h9) rfl (by decide +kernel) rfl rfl (Nat.le_of_ble_eq_true rfl) dX10_readItem_12 (fun H locs hP hD hS => ?_)
  have hW : Wd G A s.heap [(h_this, oX10 ad_this v_typed ((v_at + 1)) v_isSo v_kept v_all v_sightAll v_aheadMany), ((ad_this 9), cI G 8 a_boat), ((ad_this 8), cI G 2 a_boats), ((ad_this 12), cI G 10 a_brings), ((ad_this 13), cI G 4 a_costs), ((ad_this 2), cI G 6 a_goes), ((ad_this 5), cI G 2 a_houses), ((ad_this 7), cI G 12 a_minutes), ((ad_this 11), cI G 10 a_noise), ((ad_this 6), cI G 12 a_people), ((ad_this 3), cI G 2 a_signs), ((ad_this 0), cB G 200 a_text), ((ad_this 4), cI G 32 a_told), ((ad_this 10), cI G 2 a_works)] H locs := ⟨hP, hD, hS⟩
  refine lv_aload_n hx hb dX10_readItem_15 rfl (lv_at hl 1 rfl) ?_
  refine lv_iconst (v := 1) hx hb dX10_readItem_16 (by decide) ?_
  refine va_put (D := G.1) (ci := 9) (v := .int 1) (ty := .boolean) (C := RX10) (T := TX10) (N := 31) hx hb hg hu_X10 tyX10 tyX10_ok nmX10 hown hc.1 hW.1 hW.2.1 hW.2.2 0 rfl rfl 15 (by decide) (hg _ wd_4_53) (fun _ h9 => h9) rfl (by decide +kernel) rfl rfl (Nat.le_of_ble_eq_true rfl) dX10_readItem_17 (fun H locs hP hD hS => ?_)
  have hW : Wd G A s.heap [(h_this, oX10 ad_this v_typed ((v_at + 1)) 1 v_kept v_all v_sightAll v_aheadMany), ((ad_this 9), cI G 8 a_boat), ((ad_this 8), cI G 2 a_boats), ((ad_this 12), cI G 10 a_brings), ((ad_this 13), cI G 4 a_costs), ((ad_this 2), cI G 6 a_goes), ((ad_this 5), cI G 2 a_houses), ((ad_this 7), cI G 12 a_minutes), ((ad_this 11), cI G 10 a_noise), ((ad_this 6), cI G 12 a_people), ((ad_this 3), cI G 2 a_signs), ((ad_this 0), cB G 200 a_text), ((ad_this 4), cI G 32 a_told), ((ad_this 10), cI G 2 a_works)] H locs := ⟨hP, hD, hS⟩
  refine lv_iload_n hx hb dX10_readItem_20 rfl (lv_at hl 0 rfl) ?_
  by_cases w_21_97 : q1 = 97
  · have hF := ite_t hF w_21_97
    refine lv_lookup (off := 59) (tgt := 80) hx hb dX10_readItem_21 (by decide +kernel) (by rw [w_21_97]; decide +kernel) (by decide) ?_
    refine lv_aload_n hx hb dX10_readItem_80 rfl (lv_at hl 1 rfl) ?_
    refine lv_iconst (v := 0) hx hb dX10_readItem_81 (by decide) ?_
    refine lv_iconst (v := 4) hx hb dX10_readItem_82 (by decide) ?_
    refine lv_bipush (v := 44) hx hb dX10_readItem_83 (by decide) ?_
    obtain ⟨q85, c_85, hF⟩ := bd_el hF
    refine wcI (ws' := [(h_this, oX10 ad_this v_typed q85.2.1 q85.2.2 v_kept v_all v_sightAll v_aheadMany), ((ad_this 9), cI G 8 a_boat), ((ad_this 8), cI G 2 a_boats), ((ad_this 12), cI G 10 a_brings), ((ad_this 13), cI G 4 a_costs), ((ad_this 2), cI G 6 a_goes), ((ad_this 5), cI G 2 a_houses), ((ad_this 7), cI G 12 a_minutes), ((ad_this 11), cI G 10 a_noise), ((ad_this 6), cI G 12 a_people), ((ad_this 3), cI G 2 a_signs), ((ad_this 0), cB G 200 a_text), ((ad_this 4), cI G 32 a_told), ((ad_this 10), cI G 2 a_works)]) (wc := [(h_this, oX10 ad_this v_typed ((v_at + 1)) 1 v_kept v_all v_sightAll v_aheadMany), ((ad_this 0), cB G 200 a_text)]) (wr := [((ad_this 9), cI G 8 a_boat), ((ad_this 8), cI G 2 a_boats), ((ad_this 12), cI G 10 a_brings), ((ad_this 13), cI G 4 a_costs), ((ad_this 2), cI G 6 a_goes), ((ad_this 5), cI G 2 a_houses), ((ad_this 7), cI G 12 a_minutes), ((ad_this 11), cI G 10 a_noise), ((ad_this 6), cI G 12 a_people), ((ad_this 3), cI G 2 a_signs), ((ad_this 4), cI G 32 a_told), ((ad_this 10), cI G 2 a_works)]) (w1 := [(h_this, oX10 ad_this v_typed q85.2.1 q85.2.2 v_kept v_all v_sightAll v_aheadMany), ((ad_this 0), cB G 200 a_text)]) (va_runV (As := [.int 0, .int 4, .int 44]) (rest := []) ⟨hx, hb, hml, hown, hg⟩ (c_X10_number l G 0 4 44 h_this ad_this v_typed ((v_at + 1)) 1 v_kept v_all v_sightAll v_aheadMany a_text q85 c_85 H.size) (cwV 3 hg (gV wd_4_155 wd_4_157 wd_0_29 wd_1_15 wd_4_158) rfl rfl rfl hdV_X10_number ⟨(Nat.le_of_ble_eq_true rfl), (Nat.le_of_ble_eq_true rfl)⟩) (preV hc hW [0, 11] rfl (by decide) rfl rfl) rfl rfl hl.1 rfl (lv_room (Nat.le_of_ble_eq_true rfl)) dX10_readItem_85 ⟨Nat.zero_le _, Nat.zero_le _⟩) hA hW [0, 11] [1, 2, 3, 4, 5, 6, 7, 8, 9, 10, 12, 13] [12, 0, 1, 2, 3, 4, 5, 6, 7, 8, 9, 13, 10, 11] rfl rfl (by decide) (by decide) rfl (by decide) (fun H locs hW => ?_)
    refine lv_istore_n (lv' := [(2, .int q85.1), (1, .int q1), (0, .ref h_this)]) hx hb dX10_readItem_88 rfl hl (by decide) rfl (fun ls hl => ?_)
    refine lv_aload_n hx hb dX10_readItem_89 rfl (lv_at hl 2 rfl) ?_
    refine lv_iconst (v := 0) hx hb dX10_readItem_90 (by decide) ?_
    refine lv_iconst (v := 4) hx hb dX10_readItem_91 (by decide) ?_
    refine lv_bipush (v := 44) hx hb dX10_readItem_92 (by decide) ?_
    obtain ⟨q94, c_94, hF⟩ := bd_el hF
    refine wcI (ws' := [(h_this, oX10 ad_this v_typed q94.2.1 q94.2.2 v_kept v_all v_sightAll v_aheadMany), ((ad_this 9), cI G 8 a_boat), ((ad_this 8), cI G 2 a_boats), ((ad_this 12), cI G 10 a_brings), ((ad_this 13), cI G 4 a_costs), ((ad_this 2), cI G 6 a_goes), ((ad_this 5), cI G 2 a_houses), ((ad_this 7), cI G 12 a_minutes), ((ad_this 11), cI G 10 a_noise), ((ad_this 6), cI G 12 a_people), ((ad_this 3), cI G 2 a_signs), ((ad_this 0), cB G 200 a_text), ((ad_this 4), cI G 32 a_told), ((ad_this 10), cI G 2 a_works)]) (wc := [(h_this, oX10 ad_this v_typed q85.2.1 q85.2.2 v_kept v_all v_sightAll v_aheadMany), ((ad_this 0), cB G 200 a_text)]) (wr := [((ad_this 9), cI G 8 a_boat), ((ad_this 8), cI G 2 a_boats), ((ad_this 12), cI G 10 a_brings), ((ad_this 13), cI G 4 a_costs), ((ad_this 2), cI G 6 a_goes), ((ad_this 5), cI G 2 a_houses), ((ad_this 7), cI G 12 a_minutes), ((ad_this 11), cI G 10 a_noise), ((ad_this 6), cI G 12 a_people), ((ad_this 3), cI G 2 a_signs), ((ad_this 4), cI G 32 a_told), ((ad_this 10), cI G 2 a_works)]) (w1 := [(h_this, oX10 ad_this v_typed q94.2.1 q94.2.2 v_kept v_all v_sightAll v_aheadMany), ((ad_this 0), cB G 200 a_text)]) (va_runV (As := [.int 0, .int 4, .int 44]) (rest := []) ⟨hx, hb, hml, hown, hg⟩ (c_X10_number l G 0 4 44 h_this ad_this v_typed q85.2.1 q85.2.2 v_kept v_all v_sightAll v_aheadMany a_text q94 c_94 H.size) (cwV 3 hg (gV wd_4_155 wd_4_157 wd_0_29 wd_1_15 wd_4_158) rfl rfl rfl hdV_X10_number ⟨(Nat.le_of_ble_eq_true rfl), (Nat.le_of_ble_eq_true rfl)⟩) (preV hc hW [0, 11] rfl (by decide) rfl rfl) rfl rfl hl.1 rfl (lv_room (Nat.le_of_ble_eq_true rfl)) dX10_readItem_94 ⟨Nat.zero_le _, Nat.zero_le _⟩) hA hW [0, 11] [1, 2, 3, 4, 5, 6, 7, 8, 9, 10, 12, 13] [12, 0, 1, 2, 3, 4, 5, 6, 7, 8, 9, 13, 10, 11] rfl rfl (by decide) (by decide) rfl (by decide) (fun H locs hW => ?_)
    refine lv_istore_n (lv' := [(3, .int q94.1), (2, .int q85.1), (1, .int q1), (0, .ref h_this)]) hx hb dX10_readItem_97 rfl hl (by decide) rfl (fun ls hl => ?_)
    refine lv_aload_n hx hb dX10_readItem_98 rfl (lv_at hl 3 rfl) ?_
    refine lv_iconst (v := 0) hx hb dX10_readItem_99 (by decide) ?_
    refine lv_iconst (v := 4) hx hb dX10_readItem_100 (by decide) ?_
    refine lv_bipush (v := 59) hx hb dX10_readItem_101 (by decide) ?_
    obtain ⟨q103, c_103, hF⟩ := bd_el hF
    refine wcI (ws' := [(h_this, oX10 ad_this v_typed q103.2.1 q103.2.2 v_kept v_all v_sightAll v_aheadMany), ((ad_this 9), cI G 8 a_boat), ((ad_this 8), cI G 2 a_boats), ((ad_this 12), cI G 10 a_brings), ((ad_this 13), cI G 4 a_costs), ((ad_this 2), cI G 6 a_goes), ((ad_this 5), cI G 2 a_houses), ((ad_this 7), cI G 12 a_minutes), ((ad_this 11), cI G 10 a_noise), ((ad_this 6), cI G 12 a_people), ((ad_this 3), cI G 2 a_signs), ((ad_this 0), cB G 200 a_text), ((ad_this 4), cI G 32 a_told), ((ad_this 10), cI G 2 a_works)]) (wc := [(h_this, oX10 ad_this v_typed q94.2.1 q94.2.2 v_kept v_all v_sightAll v_aheadMany), ((ad_this 0), cB G 200 a_text)]) (wr := [((ad_this 9), cI G 8 a_boat), ((ad_this 8), cI G 2 a_boats), ((ad_this 12), cI G 10 a_brings), ((ad_this 13), cI G 4 a_costs), ((ad_this 2), cI G 6 a_goes), ((ad_this 5), cI G 2 a_houses), ((ad_this 7), cI G 12 a_minutes), ((ad_this 11), cI G 10 a_noise), ((ad_this 6), cI G 12 a_people), ((ad_this 3), cI G 2 a_signs), ((ad_this 4), cI G 32 a_told), ((ad_this 10), cI G 2 a_works)]) (w1 := [(h_this, oX10 ad_this v_typed q103.2.1 q103.2.2 v_kept v_all v_sightAll v_aheadMany), ((ad_this 0), cB G 200 a_text)]) (va_runV (As := [.int 0, .int 4, .int 59]) (rest := []) ⟨hx, hb, hml, hown, hg⟩ (c_X10_number l G 0 4 59 h_this ad_this v_typed q94.2.1 q94.2.2 v_kept v_all v_sightAll v_aheadMany a_text q103 c_103 H.size) (cwV 3 hg (gV wd_4_155 wd_4_157 wd_0_29 wd_1_15 wd_4_158) rfl rfl rfl hdV_X10_number ⟨(Nat.le_of_ble_eq_true rfl), (Nat.le_of_ble_eq_true rfl)⟩) (preV hc hW [0, 11] rfl (by decide) rfl rfl) rfl rfl hl.1 rfl (lv_room (Nat.le_of_ble_eq_true rfl)) dX10_readItem_103 ⟨Nat.zero_le _, Nat.zero_le _⟩) hA hW [0, 11] [1, 2, 3, 4, 5, 6, 7, 8, 9, 10, 12, 13] [12, 0, 1, 2, 3, 4, 5, 6, 7, 8, 9, 13, 10, 11] rfl rfl (by decide) (by decide) rfl (by decide) (fun H locs hW => ?_)
    refine lv_istore (lv' := [(4, .int q103.1), (3, .int q94.1), (2, .int q85.1), (1, .int q1), (0, .ref h_this)]) hx hb dX10_readItem_106 hl (by decide) rfl (fun ls hl => ?_)
    refine lv_aload_n hx hb dX10_readItem_108 rfl (lv_at hl 4 rfl) ?_
    refine lv_iconst (v := 1) hx hb dX10_readItem_109 (by decide) ?_
    refine lv_iload_n hx hb dX10_readItem_110 rfl (lv_at hl 2 rfl) ?_
    refine lv_iload_n hx hb dX10_readItem_111 rfl (lv_at hl 1 rfl) ?_
    refine lv_iload hx hb dX10_readItem_112 (lv_at hl 0 rfl) ?_
    obtain ⟨q114, c_114, hF⟩ := bd_el hF
    refine wcV (ws' := [(h_this, oX10 ad_this v_typed q103.2.1 q103.2.2 v_kept v_all v_sightAll v_aheadMany), ((ad_this 9), cI G 8 a_boat), ((ad_this 8), cI G 2 a_boats), ((ad_this 12), cI G 10 a_brings), ((ad_this 13), cI G 4 a_costs), ((ad_this 2), cI G 6 q114), ((ad_this 5), cI G 2 a_houses), ((ad_this 7), cI G 12 a_minutes), ((ad_this 11), cI G 10 a_noise), ((ad_this 6), cI G 12 a_people), ((ad_this 3), cI G 2 a_signs), ((ad_this 0), cB G 200 a_text), ((ad_this 4), cI G 32 a_told), ((ad_this 10), cI G 2 a_works)]) (wc := [(h_this, oX10 ad_this v_typed q103.2.1 q103.2.2 v_kept v_all v_sightAll v_aheadMany), ((ad_this 2), cI G 6 a_goes)]) (wr := [((ad_this 9), cI G 8 a_boat), ((ad_this 8), cI G 2 a_boats), ((ad_this 12), cI G 10 a_brings), ((ad_this 13), cI G 4 a_costs), ((ad_this 5), cI G 2 a_houses), ((ad_this 7), cI G 12 a_minutes), ((ad_this 11), cI G 10 a_noise), ((ad_this 6), cI G 12 a_people), ((ad_this 3), cI G 2 a_signs), ((ad_this 0), cB G 200 a_text), ((ad_this 4), cI G 32 a_told), ((ad_this 10), cI G 2 a_works)]) (w1 := [(h_this, oX10 ad_this v_typed q103.2.1 q103.2.2 v_kept v_all v_sightAll v_aheadMany), ((ad_this 2), cI G 6 q114)]) (va_runV (As := [.int 1, .int q85.1, .int q94.1, .int q103.1]) (rest := []) ⟨hx, hb, hml, hown, hg⟩ (c_X10_law l G 1 q85.1 q94.1 q103.1 h_this ad_this v_typed q103.2.1 q103.2.2 v_kept v_all v_sightAll v_aheadMany a_goes q114 c_114 H.size) (cwV 4 hg (gV wd_4_22 wd_4_24 wd_0_23 wd_1_15 wd_4_25) rfl rfl rfl hdV_X10_law ⟨(Nat.le_of_ble_eq_true rfl), (Nat.le_of_ble_eq_true rfl)⟩) (preV hc hW [0, 5] rfl (by decide) rfl rfl) rfl rfl hl.1 rfl (lv_room (Nat.le_of_ble_eq_true rfl)) dX10_readItem_114 ⟨Nat.zero_le _, Nat.zero_le _⟩) hA hW [0, 5] [1, 2, 3, 4, 6, 7, 8, 9, 10, 11, 12, 13] [12, 0, 1, 2, 3, 13, 4, 5, 6, 7, 8, 9, 10, 11] rfl rfl (by decide) (by decide) rfl (by decide) (fun H locs hW => ?_)
    refine lv_goto (tgt := 463) hx hb dX10_readItem_117 (by decide) ?_
    obtain rfl := Option.some.inj hF
    exact hret _ _ _ _ hW dX10_readItem_463
  have hF := ite_f hF w_21_97
  by_cases w_21_98 : q1 = 98
  · have hF := ite_t hF w_21_98
    refine lv_lookup (off := 269) (tgt := 290) hx hb dX10_readItem_21 (by decide +kernel) (by rw [w_21_98]; decide +kernel) (by decide) ?_
    refine lv_aload_n hx hb dX10_readItem_290 rfl (lv_at hl 1 rfl) ?_
    refine lv_aload_n hx hb dX10_readItem_291 rfl (lv_at hl 1 rfl) ?_
    refine va_get (D := G.1) (ci := 9) (v := .ref ((ad_this 8))) (C := RX10) (T := TX10) (N := 31) hx hb hg hu_X10 hown hc.1 hW.1 0 rfl rfl 8 (by decide) (hg _ wd_4_46) (fun _ h9 => h9) rfl dX10_readItem_292 ?_
    refine lv_iconst (v := 1) hx hb dX10_readItem_295 (by decide) ?_
    have b_296 : vp_in 1 2 := inb_vp (by decide)
    refine va_iald hx hb hc.1 hW.1 2 0 rfl rfl b_296 dX10_readItem_296 ?_
    refine lv_iconst (v := 4) hx hb dX10_readItem_297 (by decide) ?_
    obtain ⟨k_306, e_306, hF⟩ := jn_el hF
    have J_306 : ∀ (j0_306 : Int32) (hj_306 : j0_306 = 0 ∨ j0_306 = 1) (ls : Array Slot) (H : Heap) (locs : List Loc), k_306 j0_306 = some out → lv_has ls 6 [(0, .ref h_this)] → Wd G A s.heap [(h_this, oX10 ad_this v_typed ((v_at + 1)) 1 v_kept v_all v_sightAll v_aheadMany), ((ad_this 9), cI G 8 a_boat), ((ad_this 8), cI G 2 a_boats), ((ad_this 12), cI G 10 a_brings), ((ad_this 13), cI G 4 a_costs), ((ad_this 2), cI G 6 a_goes), ((ad_this 5), cI G 2 a_houses), ((ad_this 7), cI G 12 a_minutes), ((ad_this 11), cI G 10 a_noise), ((ad_this 6), cI G 12 a_people), ((ad_this 3), cI G 2 a_signs), ((ad_this 0), cB G 200 a_text), ((ad_this 4), cI G 32 a_told), ((ad_this 10), cI G 2 a_works)] H locs → W p l e ({ frames := 2, cells := 0, slots := 0, locals := 47 } : Room) s m args below meth c H locs 0 0 Q (F0 m 306 ls [.int j0_306, .ref h_this]) := by
      intro j0_306 hj_306 ls H locs hF hl hW
      rw [e_306] at hF
      dsimp only at hF
      refine va_put (D := G.1) (ci := 9) (v := .int j0_306) (ty := .boolean) (C := RX10) (T := TX10) (N := 31) hx hb hg hu_X10 tyX10 tyX10_ok nmX10 hown hc.1 hW.1 hW.2.1 hW.2.2 0 rfl rfl 15 (by decide) (hg _ wd_4_53) (fun _ h9 => h9) rfl (by decide +kernel) (bool_nar hj_306) (bool_fit hj_306) (Nat.le_of_ble_eq_true rfl) dX10_readItem_306 (fun H locs hP hD hS => ?_)
      have hW : Wd G A s.heap [(h_this, oX10 ad_this v_typed ((v_at + 1)) j0_306 v_kept v_all v_sightAll v_aheadMany), ((ad_this 9), cI G 8 a_boat), ((ad_this 8), cI G 2 a_boats), ((ad_this 12), cI G 10 a_brings), ((ad_this 13), cI G 4 a_costs), ((ad_this 2), cI G 6 a_goes), ((ad_this 5), cI G 2 a_houses), ((ad_this 7), cI G 12 a_minutes), ((ad_this 11), cI G 10 a_noise), ((ad_this 6), cI G 12 a_people), ((ad_this 3), cI G 2 a_signs), ((ad_this 0), cB G 200 a_text), ((ad_this 4), cI G 32 a_told), ((ad_this 10), cI G 2 a_works)] H locs := ⟨hP, hD, hS⟩
      refine lv_aload_n hx hb dX10_readItem_309 rfl (lv_at hl 0 rfl) ?_
      refine lv_iconst (v := 1) hx hb dX10_readItem_310 (by decide) ?_
      refine lv_bipush (v := 30) hx hb dX10_readItem_311 (by decide) ?_
      refine lv_bipush (v := 59) hx hb dX10_readItem_313 (by decide) ?_
      obtain ⟨q315, c_315, hF⟩ := bd_el hF
      refine wcI (ws' := [(h_this, oX10 ad_this v_typed q315.2.1 q315.2.2 v_kept v_all v_sightAll v_aheadMany), ((ad_this 9), cI G 8 a_boat), ((ad_this 8), cI G 2 a_boats), ((ad_this 12), cI G 10 a_brings), ((ad_this 13), cI G 4 a_costs), ((ad_this 2), cI G 6 a_goes), ((ad_this 5), cI G 2 a_houses), ((ad_this 7), cI G 12 a_minutes), ((ad_this 11), cI G 10 a_noise), ((ad_this 6), cI G 12 a_people), ((ad_this 3), cI G 2 a_signs), ((ad_this 0), cB G 200 a_text), ((ad_this 4), cI G 32 a_told), ((ad_this 10), cI G 2 a_works)]) (wc := [(h_this, oX10 ad_this v_typed ((v_at + 1)) j0_306 v_kept v_all v_sightAll v_aheadMany), ((ad_this 0), cB G 200 a_text)]) (wr := [((ad_this 9), cI G 8 a_boat), ((ad_this 8), cI G 2 a_boats), ((ad_this 12), cI G 10 a_brings), ((ad_this 13), cI G 4 a_costs), ((ad_this 2), cI G 6 a_goes), ((ad_this 5), cI G 2 a_houses), ((ad_this 7), cI G 12 a_minutes), ((ad_this 11), cI G 10 a_noise), ((ad_this 6), cI G 12 a_people), ((ad_this 3), cI G 2 a_signs), ((ad_this 4), cI G 32 a_told), ((ad_this 10), cI G 2 a_works)]) (w1 := [(h_this, oX10 ad_this v_typed q315.2.1 q315.2.2 v_kept v_all v_sightAll v_aheadMany), ((ad_this 0), cB G 200 a_text)]) (va_runV (As := [.int 1, .int 30, .int 59]) (rest := []) ⟨hx, hb, hml, hown, hg⟩ (c_X10_number l G 1 30 59 h_this ad_this v_typed ((v_at + 1)) j0_306 v_kept v_all v_sightAll v_aheadMany a_text q315 c_315 H.size) (cwV 3 hg (gV wd_4_155 wd_4_157 wd_0_29 wd_1_15 wd_4_158) rfl rfl rfl hdV_X10_number ⟨(Nat.le_of_ble_eq_true rfl), (Nat.le_of_ble_eq_true rfl)⟩) (preV hc hW [0, 11] rfl (by decide) rfl rfl) rfl rfl hl.1 rfl (lv_room (Nat.le_of_ble_eq_true rfl)) dX10_readItem_315 ⟨Nat.zero_le _, Nat.zero_le _⟩) hA hW [0, 11] [1, 2, 3, 4, 5, 6, 7, 8, 9, 10, 12, 13] [12, 0, 1, 2, 3, 4, 5, 6, 7, 8, 9, 13, 10, 11] rfl rfl (by decide) (by decide) rfl (by decide) (fun H locs hW => ?_)
      refine lv_istore_n (lv' := [(2, .int q315.1), (0, .ref h_this)]) hx hb dX10_readItem_318 rfl hl (by decide) rfl (fun ls hl => ?_)
      refine lv_aload_n hx hb dX10_readItem_319 rfl (lv_at hl 1 rfl) ?_
      refine va_get (D := G.1) (ci := 9) (v := .int q315.2.2) (C := RX10) (T := TX10) (N := 31) hx hb hg hu_X10 hown hc.1 hW.1 0 rfl rfl 15 (by decide) (hg _ wd_4_53) (fun _ h9 => h9) rfl dX10_readItem_320 ?_
      refine lv_if_eq (tgt := 463) hx hb dX10_readItem_323 (by decide) (fun c_323 => ?_) (fun c_323 => ?_)
      · have hF := ite_t hF c_323
        obtain rfl := Option.some.inj hF
        exact hret _ _ _ _ hW dX10_readItem_463
      · have hF := ite_f hF c_323
        refine lv_aload_n hx hb dX10_readItem_326 rfl (lv_at hl 1 rfl) ?_
        refine va_get (D := G.1) (ci := 9) (v := .ref ((ad_this 9))) (C := RX10) (T := TX10) (N := 31) hx hb hg hu_X10 hown hc.1 hW.1 0 rfl rfl 9 (by decide) (hg _ wd_4_47) (fun _ h9 => h9) rfl dX10_readItem_327 ?_
        refine lv_iconst (v := 4) hx hb dX10_readItem_330 (by decide) ?_
        refine lv_aload_n hx hb dX10_readItem_331 rfl (lv_at hl 1 rfl) ?_
        refine va_get (D := G.1) (ci := 9) (v := .ref ((ad_this 8))) (C := RX10) (T := TX10) (N := 31) hx hb hg hu_X10 hown hc.1 hW.1 0 rfl rfl 8 (by decide) (hg _ wd_4_46) (fun _ h9 => h9) rfl dX10_readItem_332 ?_
        refine lv_iconst (v := 1) hx hb dX10_readItem_335 (by decide) ?_
        have b_336 : vp_in 1 2 := inb_vp (by decide)
        refine va_iald hx hb hc.1 hW.1 2 0 rfl rfl b_336 dX10_readItem_336 ?_
        refine lv_iadd hx hb dX10_readItem_337 ?_
        refine lv_iload_n hx hb dX10_readItem_338 rfl (lv_at hl 0 rfl) ?_
        obtain ⟨b_339, hF⟩ := inb_el hF
        refine va_iast hx hb hc.1 hW.1 hW.2.1 hW.2.2 1 0 rfl rfl b_339 dX10_readItem_339 (fun H locs hP hD hS => ?_)
        have hW : Wd G A s.heap [(h_this, oX10 ad_this v_typed q315.2.1 q315.2.2 v_kept v_all v_sightAll v_aheadMany), ((ad_this 9), cI G 8 ((upd a_boat (Int32.toNatClampNeg ((4 + (a_boats (Int32.toNatClampNeg 1))))) q315.1))), ((ad_this 8), cI G 2 a_boats), ((ad_this 12), cI G 10 a_brings), ((ad_this 13), cI G 4 a_costs), ((ad_this 2), cI G 6 a_goes), ((ad_this 5), cI G 2 a_houses), ((ad_this 7), cI G 12 a_minutes), ((ad_this 11), cI G 10 a_noise), ((ad_this 6), cI G 12 a_people), ((ad_this 3), cI G 2 a_signs), ((ad_this 0), cB G 200 a_text), ((ad_this 4), cI G 32 a_told), ((ad_this 10), cI G 2 a_works)] H locs := ⟨hP, hD, hS⟩
        refine lv_aload_n hx hb dX10_readItem_340 rfl (lv_at hl 1 rfl) ?_
        refine va_get (D := G.1) (ci := 9) (v := .ref ((ad_this 8))) (C := RX10) (T := TX10) (N := 31) hx hb hg hu_X10 hown hc.1 hW.1 0 rfl rfl 8 (by decide) (hg _ wd_4_46) (fun _ h9 => h9) rfl dX10_readItem_341 ?_
        refine lv_iconst (v := 1) hx hb dX10_readItem_344 (by decide) ?_
        refine lv_dup2_11 hx hb dX10_readItem_345 rfl rfl ?_
        have b_346 : vp_in 1 2 := inb_vp (by decide)
        refine va_iald hx hb hc.1 hW.1 2 0 rfl rfl b_346 dX10_readItem_346 ?_
        refine lv_iconst (v := 1) hx hb dX10_readItem_347 (by decide) ?_
        refine lv_iadd hx hb dX10_readItem_348 ?_
        have b_349 : vp_in 1 2 := inb_vp (by decide)
        refine va_iast hx hb hc.1 hW.1 hW.2.1 hW.2.2 2 0 rfl rfl b_349 dX10_readItem_349 (fun H locs hP hD hS => ?_)
        have hW : Wd G A s.heap [(h_this, oX10 ad_this v_typed q315.2.1 q315.2.2 v_kept v_all v_sightAll v_aheadMany), ((ad_this 9), cI G 8 ((upd a_boat (Int32.toNatClampNeg ((4 + (a_boats (Int32.toNatClampNeg 1))))) q315.1))), ((ad_this 8), cI G 2 ((upd a_boats (Int32.toNatClampNeg 1) (((a_boats (Int32.toNatClampNeg 1)) + 1))))), ((ad_this 12), cI G 10 a_brings), ((ad_this 13), cI G 4 a_costs), ((ad_this 2), cI G 6 a_goes), ((ad_this 5), cI G 2 a_houses), ((ad_this 7), cI G 12 a_minutes), ((ad_this 11), cI G 10 a_noise), ((ad_this 6), cI G 12 a_people), ((ad_this 3), cI G 2 a_signs), ((ad_this 0), cB G 200 a_text), ((ad_this 4), cI G 32 a_told), ((ad_this 10), cI G 2 a_works)] H locs := ⟨hP, hD, hS⟩
        refine lv_goto (tgt := 463) hx hb dX10_readItem_350 (by decide) ?_
        obtain rfl := Option.some.inj hF
        exact hret _ _ _ _ hW dX10_readItem_463
    refine lv_icmp_ge (tgt := 305) hx hb dX10_readItem_298 (by decide) (fun c_298 => ?_) (fun c_298 => ?_)
    · have hF := ite_t hF c_298
      refine lv_iconst (v := 0) hx hb dX10_readItem_305 (by decide) ?_
      exact J_306 0 (Or.inl rfl) _ _ _ hF (lv_sub hl [1] rfl) hW
    · have hF := ite_f hF c_298
      refine lv_iconst (v := 1) hx hb dX10_readItem_301 (by decide) ?_
      refine lv_goto (tgt := 306) hx hb dX10_readItem_302 (by decide) ?_
      exact J_306 1 (Or.inr rfl) _ _ _ hF (lv_sub hl [1] rfl) hW
  have hF := ite_f hF w_21_98
  by_cases w_21_104 : q1 = 104
  · have hF := ite_t hF w_21_104
    refine lv_lookup (off := 194) (tgt := 215) hx hb dX10_readItem_21 (by decide +kernel) (by rw [w_21_104]; decide +kernel) (by decide) ?_
    refine lv_aload_n hx hb dX10_readItem_215 rfl (lv_at hl 1 rfl) ?_
    refine lv_aload_n hx hb dX10_readItem_216 rfl (lv_at hl 1 rfl) ?_
    refine va_get (D := G.1) (ci := 9) (v := .ref ((ad_this 5))) (C := RX10) (T := TX10) (N := 31) hx hb hg hu_X10 hown hc.1 hW.1 0 rfl rfl 5 (by decide) (hg _ wd_4_43) (fun _ h9 => h9) rfl dX10_readItem_217 ?_
    refine lv_iconst (v := 1) hx hb dX10_readItem_220 (by decide) ?_
    have b_221 : vp_in 1 2 := inb_vp (by decide)
    refine va_iald hx hb hc.1 hW.1 6 0 rfl rfl b_221 dX10_readItem_221 ?_
    refine lv_bipush (v := 6) hx hb dX10_readItem_222 (by decide) ?_
    obtain ⟨k_232, e_232, hF⟩ := jn_el hF
    have J_232 : ∀ (j0_232 : Int32) (hj_232 : j0_232 = 0 ∨ j0_232 = 1) (ls : Array Slot) (H : Heap) (locs : List Loc), k_232 j0_232 = some out → lv_has ls 6 [(0, .ref h_this)] → Wd G A s.heap [(h_this, oX10 ad_this v_typed ((v_at + 1)) 1 v_kept v_all v_sightAll v_aheadMany), ((ad_this 9), cI G 8 a_boat), ((ad_this 8), cI G 2 a_boats), ((ad_this 12), cI G 10 a_brings), ((ad_this 13), cI G 4 a_costs), ((ad_this 2), cI G 6 a_goes), ((ad_this 5), cI G 2 a_houses), ((ad_this 7), cI G 12 a_minutes), ((ad_this 11), cI G 10 a_noise), ((ad_this 6), cI G 12 a_people), ((ad_this 3), cI G 2 a_signs), ((ad_this 0), cB G 200 a_text), ((ad_this 4), cI G 32 a_told), ((ad_this 10), cI G 2 a_works)] H locs → W p l e ({ frames := 2, cells := 0, slots := 0, locals := 47 } : Room) s m args below meth c H locs 0 0 Q (F0 m 232 ls [.int j0_232, .ref h_this]) := by
      intro j0_232 hj_232 ls H locs hF hl hW
      rw [e_232] at hF
      dsimp only at hF
      refine va_put (D := G.1) (ci := 9) (v := .int j0_232) (ty := .boolean) (C := RX10) (T := TX10) (N := 31) hx hb hg hu_X10 tyX10 tyX10_ok nmX10 hown hc.1 hW.1 hW.2.1 hW.2.2 0 rfl rfl 15 (by decide) (hg _ wd_4_53) (fun _ h9 => h9) rfl (by decide +kernel) (bool_nar hj_232) (bool_fit hj_232) (Nat.le_of_ble_eq_true rfl) dX10_readItem_232 (fun H locs hP hD hS => ?_)
      have hW : Wd G A s.heap [(h_this, oX10 ad_this v_typed ((v_at + 1)) j0_232 v_kept v_all v_sightAll v_aheadMany), ((ad_this 9), cI G 8 a_boat), ((ad_this 8), cI G 2 a_boats), ((ad_this 12), cI G 10 a_brings), ((ad_this 13), cI G 4 a_costs), ((ad_this 2), cI G 6 a_goes), ((ad_this 5), cI G 2 a_houses), ((ad_this 7), cI G 12 a_minutes), ((ad_this 11), cI G 10 a_noise), ((ad_this 6), cI G 12 a_people), ((ad_this 3), cI G 2 a_signs), ((ad_this 0), cB G 200 a_text), ((ad_this 4), cI G 32 a_told), ((ad_this 10), cI G 2 a_works)] H locs := ⟨hP, hD, hS⟩
      refine lv_aload_n hx hb dX10_readItem_235 rfl (lv_at hl 0 rfl) ?_
      refine lv_iconst (v := 1) hx hb dX10_readItem_236 (by decide) ?_
      refine lv_bipush (v := 9) hx hb dX10_readItem_237 (by decide) ?_
      refine lv_bipush (v := 44) hx hb dX10_readItem_239 (by decide) ?_
      obtain ⟨q241, c_241, hF⟩ := bd_el hF
      refine wcI (ws' := [(h_this, oX10 ad_this v_typed q241.2.1 q241.2.2 v_kept v_all v_sightAll v_aheadMany), ((ad_this 9), cI G 8 a_boat), ((ad_this 8), cI G 2 a_boats), ((ad_this 12), cI G 10 a_brings), ((ad_this 13), cI G 4 a_costs), ((ad_this 2), cI G 6 a_goes), ((ad_this 5), cI G 2 a_houses), ((ad_this 7), cI G 12 a_minutes), ((ad_this 11), cI G 10 a_noise), ((ad_this 6), cI G 12 a_people), ((ad_this 3), cI G 2 a_signs), ((ad_this 0), cB G 200 a_text), ((ad_this 4), cI G 32 a_told), ((ad_this 10), cI G 2 a_works)]) (wc := [(h_this, oX10 ad_this v_typed ((v_at + 1)) j0_232 v_kept v_all v_sightAll v_aheadMany), ((ad_this 0), cB G 200 a_text)]) (wr := [((ad_this 9), cI G 8 a_boat), ((ad_this 8), cI G 2 a_boats), ((ad_this 12), cI G 10 a_brings), ((ad_this 13), cI G 4 a_costs), ((ad_this 2), cI G 6 a_goes), ((ad_this 5), cI G 2 a_houses), ((ad_this 7), cI G 12 a_minutes), ((ad_this 11), cI G 10 a_noise), ((ad_this 6), cI G 12 a_people), ((ad_this 3), cI G 2 a_signs), ((ad_this 4), cI G 32 a_told), ((ad_this 10), cI G 2 a_works)]) (w1 := [(h_this, oX10 ad_this v_typed q241.2.1 q241.2.2 v_kept v_all v_sightAll v_aheadMany), ((ad_this 0), cB G 200 a_text)]) (va_runV (As := [.int 1, .int 9, .int 44]) (rest := []) ⟨hx, hb, hml, hown, hg⟩ (c_X10_number l G 1 9 44 h_this ad_this v_typed ((v_at + 1)) j0_232 v_kept v_all v_sightAll v_aheadMany a_text q241 c_241 H.size) (cwV 3 hg (gV wd_4_155 wd_4_157 wd_0_29 wd_1_15 wd_4_158) rfl rfl rfl hdV_X10_number ⟨(Nat.le_of_ble_eq_true rfl), (Nat.le_of_ble_eq_true rfl)⟩) (preV hc hW [0, 11] rfl (by decide) rfl rfl) rfl rfl hl.1 rfl (lv_room (Nat.le_of_ble_eq_true rfl)) dX10_readItem_241 ⟨Nat.zero_le _, Nat.zero_le _⟩) hA hW [0, 11] [1, 2, 3, 4, 5, 6, 7, 8, 9, 10, 12, 13] [12, 0, 1, 2, 3, 4, 5, 6, 7, 8, 9, 13, 10, 11] rfl rfl (by decide) (by decide) rfl (by decide) (fun H locs hW => ?_)
      refine lv_istore_n (lv' := [(2, .int q241.1), (0, .ref h_this)]) hx hb dX10_readItem_244 rfl hl (by decide) rfl (fun ls hl => ?_)
      refine lv_aload_n hx hb dX10_readItem_245 rfl (lv_at hl 1 rfl) ?_
      refine lv_iconst (v := 0) hx hb dX10_readItem_246 (by decide) ?_
      refine lv_bipush (v := 60) hx hb dX10_readItem_247 (by decide) ?_
      refine lv_bipush (v := 59) hx hb dX10_readItem_249 (by decide) ?_
      obtain ⟨q251, c_251, hF⟩ := bd_el hF
      refine wcI (ws' := [(h_this, oX10 ad_this v_typed q251.2.1 q251.2.2 v_kept v_all v_sightAll v_aheadMany), ((ad_this 9), cI G 8 a_boat), ((ad_this 8), cI G 2 a_boats), ((ad_this 12), cI G 10 a_brings), ((ad_this 13), cI G 4 a_costs), ((ad_this 2), cI G 6 a_goes), ((ad_this 5), cI G 2 a_houses), ((ad_this 7), cI G 12 a_minutes), ((ad_this 11), cI G 10 a_noise), ((ad_this 6), cI G 12 a_people), ((ad_this 3), cI G 2 a_signs), ((ad_this 0), cB G 200 a_text), ((ad_this 4), cI G 32 a_told), ((ad_this 10), cI G 2 a_works)]) (wc := [(h_this, oX10 ad_this v_typed q241.2.1 q241.2.2 v_kept v_all v_sightAll v_aheadMany), ((ad_this 0), cB G 200 a_text)]) (wr := [((ad_this 9), cI G 8 a_boat), ((ad_this 8), cI G 2 a_boats), ((ad_this 12), cI G 10 a_brings), ((ad_this 13), cI G 4 a_costs), ((ad_this 2), cI G 6 a_goes), ((ad_this 5), cI G 2 a_houses), ((ad_this 7), cI G 12 a_minutes), ((ad_this 11), cI G 10 a_noise), ((ad_this 6), cI G 12 a_people), ((ad_this 3), cI G 2 a_signs), ((ad_this 4), cI G 32 a_told), ((ad_this 10), cI G 2 a_works)]) (w1 := [(h_this, oX10 ad_this v_typed q251.2.1 q251.2.2 v_kept v_all v_sightAll v_aheadMany), ((ad_this 0), cB G 200 a_text)]) (va_runV (As := [.int 0, .int 60, .int 59]) (rest := []) ⟨hx, hb, hml, hown, hg⟩ (c_X10_number l G 0 60 59 h_this ad_this v_typed q241.2.1 q241.2.2 v_kept v_all v_sightAll v_aheadMany a_text q251 c_251 H.size) (cwV 3 hg (gV wd_4_155 wd_4_157 wd_0_29 wd_1_15 wd_4_158) rfl rfl rfl hdV_X10_number ⟨(Nat.le_of_ble_eq_true rfl), (Nat.le_of_ble_eq_true rfl)⟩) (preV hc hW [0, 11] rfl (by decide) rfl rfl) rfl rfl hl.1 rfl (lv_room (Nat.le_of_ble_eq_true rfl)) dX10_readItem_251 ⟨Nat.zero_le _, Nat.zero_le _⟩) hA hW [0, 11] [1, 2, 3, 4, 5, 6, 7, 8, 9, 10, 12, 13] [12, 0, 1, 2, 3, 4, 5, 6, 7, 8, 9, 13, 10, 11] rfl rfl (by decide) (by decide) rfl (by decide) (fun H locs hW => ?_)
      refine lv_istore_n (lv' := [(3, .int q251.1), (2, .int q241.1), (0, .ref h_this)]) hx hb dX10_readItem_254 rfl hl (by decide) rfl (fun ls hl => ?_)
      refine lv_aload_n hx hb dX10_readItem_255 rfl (lv_at hl 2 rfl) ?_
      refine va_get (D := G.1) (ci := 9) (v := .int q251.2.2) (C := RX10) (T := TX10) (N := 31) hx hb hg hu_X10 hown hc.1 hW.1 0 rfl rfl 15 (by decide) (hg _ wd_4_53) (fun _ h9 => h9) rfl dX10_readItem_256 ?_
      refine lv_if_eq (tgt := 463) hx hb dX10_readItem_259 (by decide) (fun c_259 => ?_) (fun c_259 => ?_)
      · have hF := ite_t hF c_259
        obtain rfl := Option.some.inj hF
        exact hret _ _ _ _ hW dX10_readItem_463
      · have hF := ite_f hF c_259
        refine lv_aload_n hx hb dX10_readItem_262 rfl (lv_at hl 2 rfl) ?_
        refine lv_bipush (v := 6) hx hb dX10_readItem_263 (by decide) ?_
        refine lv_aload_n hx hb dX10_readItem_265 rfl (lv_at hl 2 rfl) ?_
        refine va_get (D := G.1) (ci := 9) (v := .ref ((ad_this 5))) (C := RX10) (T := TX10) (N := 31) hx hb hg hu_X10 hown hc.1 hW.1 0 rfl rfl 5 (by decide) (hg _ wd_4_43) (fun _ h9 => h9) rfl dX10_readItem_266 ?_
        refine lv_iconst (v := 1) hx hb dX10_readItem_269 (by decide) ?_
        have b_270 : vp_in 1 2 := inb_vp (by decide)
        refine va_iald hx hb hc.1 hW.1 6 0 rfl rfl b_270 dX10_readItem_270 ?_
        refine lv_iadd hx hb dX10_readItem_271 ?_
        refine lv_iload_n hx hb dX10_readItem_272 rfl (lv_at hl 1 rfl) ?_
        refine lv_iload_n hx hb dX10_readItem_273 rfl (lv_at hl 0 rfl) ?_
        obtain ⟨q274, c_274, hF⟩ := bd_el hF
        refine wcV (ws' := [(h_this, oX10 ad_this v_typed q251.2.1 q251.2.2 v_kept v_all v_sightAll v_aheadMany), ((ad_this 9), cI G 8 a_boat), ((ad_this 8), cI G 2 a_boats), ((ad_this 12), cI G 10 a_brings), ((ad_this 13), cI G 4 a_costs), ((ad_this 2), cI G 6 a_goes), ((ad_this 5), cI G 2 a_houses), ((ad_this 7), cI G 12 q274.1), ((ad_this 11), cI G 10 a_noise), ((ad_this 6), cI G 12 q274.2), ((ad_this 3), cI G 2 a_signs), ((ad_this 0), cB G 200 a_text), ((ad_this 4), cI G 32 a_told), ((ad_this 10), cI G 2 a_works)]) (wc := [(h_this, oX10 ad_this v_typed q251.2.1 q251.2.2 v_kept v_all v_sightAll v_aheadMany), ((ad_this 7), cI G 12 a_minutes), ((ad_this 6), cI G 12 a_people)]) (wr := [((ad_this 9), cI G 8 a_boat), ((ad_this 8), cI G 2 a_boats), ((ad_this 12), cI G 10 a_brings), ((ad_this 13), cI G 4 a_costs), ((ad_this 2), cI G 6 a_goes), ((ad_this 5), cI G 2 a_houses), ((ad_this 11), cI G 10 a_noise), ((ad_this 3), cI G 2 a_signs), ((ad_this 0), cB G 200 a_text), ((ad_this 4), cI G 32 a_told), ((ad_this 10), cI G 2 a_works)]) (w1 := [(h_this, oX10 ad_this v_typed q251.2.1 q251.2.2 v_kept v_all v_sightAll v_aheadMany), ((ad_this 7), cI G 12 q274.1), ((ad_this 6), cI G 12 q274.2)]) (va_runV (As := [.int ((6 + (a_houses (Int32.toNatClampNeg 1)))), .int q241.1, .int q251.1]) (rest := []) ⟨hx, hb, hml, hown, hg⟩ (c_X10_house2 l G ((6 + (a_houses (Int32.toNatClampNeg 1)))) q241.1 q251.1 h_this ad_this v_typed q251.2.1 q251.2.2 v_kept v_all v_sightAll v_aheadMany a_minutes a_people q274 c_274 H.size) (cwV 3 hg (gV wd_4_30 wd_4_32 wd_0_25 wd_1_15 wd_4_33) rfl rfl rfl hdV_X10_house2 ⟨(Nat.le_of_ble_eq_true rfl), (Nat.le_of_ble_eq_true rfl)⟩) (preV hc hW [0, 7, 9] rfl (by decide) rfl rfl) rfl rfl hl.1 rfl (lv_room (Nat.le_of_ble_eq_true rfl)) dX10_readItem_274 ⟨Nat.zero_le _, Nat.zero_le _⟩) hA hW [0, 7, 9] [1, 2, 3, 4, 5, 6, 8, 10, 11, 12, 13] [11, 0, 1, 2, 3, 4, 5, 12, 6, 13, 7, 8, 9, 10] rfl rfl (by decide) (by decide) rfl (by decide) (fun H locs hW => ?_)
        refine lv_aload_n hx hb dX10_readItem_277 rfl (lv_at hl 2 rfl) ?_
        refine va_get (D := G.1) (ci := 9) (v := .ref ((ad_this 5))) (C := RX10) (T := TX10) (N := 31) hx hb hg hu_X10 hown hc.1 hW.1 0 rfl rfl 5 (by decide) (hg _ wd_4_43) (fun _ h9 => h9) rfl dX10_readItem_278 ?_
        refine lv_iconst (v := 1) hx hb dX10_readItem_281 (by decide) ?_
        refine lv_dup2_11 hx hb dX10_readItem_282 rfl rfl ?_
        have b_283 : vp_in 1 2 := inb_vp (by decide)
        refine va_iald hx hb hc.1 hW.1 6 0 rfl rfl b_283 dX10_readItem_283 ?_
        refine lv_iconst (v := 1) hx hb dX10_readItem_284 (by decide) ?_
        refine lv_iadd hx hb dX10_readItem_285 ?_
        have b_286 : vp_in 1 2 := inb_vp (by decide)
        refine va_iast hx hb hc.1 hW.1 hW.2.1 hW.2.2 6 0 rfl rfl b_286 dX10_readItem_286 (fun H locs hP hD hS => ?_)
        have hW : Wd G A s.heap [(h_this, oX10 ad_this v_typed q251.2.1 q251.2.2 v_kept v_all v_sightAll v_aheadMany), ((ad_this 9), cI G 8 a_boat), ((ad_this 8), cI G 2 a_boats), ((ad_this 12), cI G 10 a_brings), ((ad_this 13), cI G 4 a_costs), ((ad_this 2), cI G 6 a_goes), ((ad_this 5), cI G 2 ((upd a_houses (Int32.toNatClampNeg 1) (((a_houses (Int32.toNatClampNeg 1)) + 1))))), ((ad_this 7), cI G 12 q274.1), ((ad_this 11), cI G 10 a_noise), ((ad_this 6), cI G 12 q274.2), ((ad_this 3), cI G 2 a_signs), ((ad_this 0), cB G 200 a_text), ((ad_this 4), cI G 32 a_told), ((ad_this 10), cI G 2 a_works)] H locs := ⟨hP, hD, hS⟩
        refine lv_goto (tgt := 463) hx hb dX10_readItem_287 (by decide) ?_
        obtain rfl := Option.some.inj hF
        exact hret _ _ _ _ hW dX10_readItem_463
    refine lv_icmp_ge (tgt := 231) hx hb dX10_readItem_224 (by decide) (fun c_224 => ?_) (fun c_224 => ?_)
    · have hF := ite_t hF c_224
      refine lv_iconst (v := 0) hx hb dX10_readItem_231 (by decide) ?_
      exact J_232 0 (Or.inl rfl) _ _ _ hF (lv_sub hl [1] rfl) hW
    · have hF := ite_f hF c_224
      refine lv_iconst (v := 1) hx hb dX10_readItem_227 (by decide) ?_
      refine lv_goto (tgt := 232) hx hb dX10_readItem_228 (by decide) ?_
      exact J_232 1 (Or.inr rfl) _ _ _ hF (lv_sub hl [1] rfl) hW
  have hF := ite_f hF w_21_104
  by_cases w_21_108 : q1 = 108
  · have hF := ite_t hF w_21_108
    refine lv_lookup (off := 404) (tgt := 425) hx hb dX10_readItem_21 (by decide +kernel) (by rw [w_21_108]; decide +kernel) (by decide) ?_
    refine lv_aload_n hx hb dX10_readItem_425 rfl (lv_at hl 1 rfl) ?_
    refine va_get (D := G.1) (ci := 9) (v := .ref ((ad_this 13))) (C := RX10) (T := TX10) (N := 31) hx hb hg hu_X10 hown hc.1 hW.1 0 rfl rfl 13 (by decide) (hg _ wd_4_51) (fun _ h9 => h9) rfl dX10_readItem_426 ?_
    refine lv_iconst (v := 2) hx hb dX10_readItem_429 (by decide) ?_
    refine lv_aload_n hx hb dX10_readItem_430 rfl (lv_at hl 1 rfl) ?_
    refine lv_iconst (v := 0) hx hb dX10_readItem_431 (by decide) ?_
    refine lv_bipush (v := 99) hx hb dX10_readItem_432 (by decide) ?_
    refine lv_bipush (v := 44) hx hb dX10_readItem_434 (by decide) ?_
    obtain ⟨q436, c_436, hF⟩ := bd_el hF
    refine wcI (ws' := [(h_this, oX10 ad_this v_typed q436.2.1 q436.2.2 v_kept v_all v_sightAll v_aheadMany), ((ad_this 9), cI G 8 a_boat), ((ad_this 8), cI G 2 a_boats), ((ad_this 12), cI G 10 a_brings), ((ad_this 13), cI G 4 a_costs), ((ad_this 2), cI G 6 a_goes), ((ad_this 5), cI G 2 a_houses), ((ad_this 7), cI G 12 a_minutes), ((ad_this 11), cI G 10 a_noise), ((ad_this 6), cI G 12 a_people), ((ad_this 3), cI G 2 a_signs), ((ad_this 0), cB G 200 a_text), ((ad_this 4), cI G 32 a_told), ((ad_this 10), cI G 2 a_works)]) (wc := [(h_this, oX10 ad_this v_typed ((v_at + 1)) 1 v_kept v_all v_sightAll v_aheadMany), ((ad_this 0), cB G 200 a_text)]) (wr := [((ad_this 9), cI G 8 a_boat), ((ad_this 8), cI G 2 a_boats), ((ad_this 12), cI G 10 a_brings), ((ad_this 13), cI G 4 a_costs), ((ad_this 2), cI G 6 a_goes), ((ad_this 5), cI G 2 a_houses), ((ad_this 7), cI G 12 a_minutes), ((ad_this 11), cI G 10 a_noise), ((ad_this 6), cI G 12 a_people), ((ad_this 3), cI G 2 a_signs), ((ad_this 4), cI G 32 a_told), ((ad_this 10), cI G 2 a_works)]) (w1 := [(h_this, oX10 ad_this v_typed q436.2.1 q436.2.2 v_kept v_all v_sightAll v_aheadMany), ((ad_this 0), cB G 200 a_text)]) (va_runV (As := [.int 0, .int 99, .int 44]) (rest := [.int 2, .ref ((ad_this 13))]) ⟨hx, hb, hml, hown, hg⟩ (c_X10_number l G 0 99 44 h_this ad_this v_typed ((v_at + 1)) 1 v_kept v_all v_sightAll v_aheadMany a_text q436 c_436 H.size) (cwV 3 hg (gV wd_4_155 wd_4_157 wd_0_29 wd_1_15 wd_4_158) rfl rfl rfl hdV_X10_number ⟨(Nat.le_of_ble_eq_true rfl), (Nat.le_of_ble_eq_true rfl)⟩) (preV hc hW [0, 11] rfl (by decide) rfl rfl) rfl rfl hl.1 rfl (lv_room (Nat.le_of_ble_eq_true rfl)) dX10_readItem_436 ⟨Nat.zero_le _, Nat.zero_le _⟩) hA hW [0, 11] [1, 2, 3, 4, 5, 6, 7, 8, 9, 10, 12, 13] [12, 0, 1, 2, 3, 4, 5, 6, 7, 8, 9, 13, 10, 11] rfl rfl (by decide) (by decide) rfl (by decide) (fun H locs hW => ?_)
    have b_439 : vp_in 2 4 := inb_vp (by decide)
    refine va_iast hx hb hc.1 hW.1 hW.2.1 hW.2.2 4 0 rfl rfl b_439 dX10_readItem_439 (fun H locs hP hD hS => ?_)
    have hW : Wd G A s.heap [(h_this, oX10 ad_this v_typed q436.2.1 q436.2.2 v_kept v_all v_sightAll v_aheadMany), ((ad_this 9), cI G 8 a_boat), ((ad_this 8), cI G 2 a_boats), ((ad_this 12), cI G 10 a_brings), ((ad_this 13), cI G 4 ((upd a_costs (Int32.toNatClampNeg 2) q436.1))), ((ad_this 2), cI G 6 a_goes), ((ad_this 5), cI G 2 a_houses), ((ad_this 7), cI G 12 a_minutes), ((ad_this 11), cI G 10 a_noise), ((ad_this 6), cI G 12 a_people), ((ad_this 3), cI G 2 a_signs), ((ad_this 0), cB G 200 a_text), ((ad_this 4), cI G 32 a_told), ((ad_this 10), cI G 2 a_works)] H locs := ⟨hP, hD, hS⟩
    refine lv_aload_n hx hb dX10_readItem_440 rfl (lv_at hl 1 rfl) ?_
    refine va_get (D := G.1) (ci := 9) (v := .ref ((ad_this 13))) (C := RX10) (T := TX10) (N := 31) hx hb hg hu_X10 hown hc.1 hW.1 0 rfl rfl 13 (by decide) (hg _ wd_4_51) (fun _ h9 => h9) rfl dX10_readItem_441 ?_
    refine lv_iconst (v := 3) hx hb dX10_readItem_444 (by decide) ?_
    refine lv_aload_n hx hb dX10_readItem_445 rfl (lv_at hl 1 rfl) ?_
    refine lv_iconst (v := 0) hx hb dX10_readItem_446 (by decide) ?_
    refine lv_bipush (v := 9) hx hb dX10_readItem_447 (by decide) ?_
    refine lv_bipush (v := 59) hx hb dX10_readItem_449 (by decide) ?_
    obtain ⟨q451, c_451, hF⟩ := bd_el hF
    refine wcI (ws' := [(h_this, oX10 ad_this v_typed q451.2.1 q451.2.2 v_kept v_all v_sightAll v_aheadMany), ((ad_this 9), cI G 8 a_boat), ((ad_this 8), cI G 2 a_boats), ((ad_this 12), cI G 10 a_brings), ((ad_this 13), cI G 4 ((upd a_costs (Int32.toNatClampNeg 2) q436.1))), ((ad_this 2), cI G 6 a_goes), ((ad_this 5), cI G 2 a_houses), ((ad_this 7), cI G 12 a_minutes), ((ad_this 11), cI G 10 a_noise), ((ad_this 6), cI G 12 a_people), ((ad_this 3), cI G 2 a_signs), ((ad_this 0), cB G 200 a_text), ((ad_this 4), cI G 32 a_told), ((ad_this 10), cI G 2 a_works)]) (wc := [(h_this, oX10 ad_this v_typed q436.2.1 q436.2.2 v_kept v_all v_sightAll v_aheadMany), ((ad_this 0), cB G 200 a_text)]) (wr := [((ad_this 9), cI G 8 a_boat), ((ad_this 8), cI G 2 a_boats), ((ad_this 12), cI G 10 a_brings), ((ad_this 13), cI G 4 ((upd a_costs (Int32.toNatClampNeg 2) q436.1))), ((ad_this 2), cI G 6 a_goes), ((ad_this 5), cI G 2 a_houses), ((ad_this 7), cI G 12 a_minutes), ((ad_this 11), cI G 10 a_noise), ((ad_this 6), cI G 12 a_people), ((ad_this 3), cI G 2 a_signs), ((ad_this 4), cI G 32 a_told), ((ad_this 10), cI G 2 a_works)]) (w1 := [(h_this, oX10 ad_this v_typed q451.2.1 q451.2.2 v_kept v_all v_sightAll v_aheadMany), ((ad_this 0), cB G 200 a_text)]) (va_runV (As := [.int 0, .int 9, .int 59]) (rest := [.int 3, .ref ((ad_this 13))]) ⟨hx, hb, hml, hown, hg⟩ (c_X10_number l G 0 9 59 h_this ad_this v_typed q436.2.1 q436.2.2 v_kept v_all v_sightAll v_aheadMany a_text q451 c_451 H.size) (cwV 3 hg (gV wd_4_155 wd_4_157 wd_0_29 wd_1_15 wd_4_158) rfl rfl rfl hdV_X10_number ⟨(Nat.le_of_ble_eq_true rfl), (Nat.le_of_ble_eq_true rfl)⟩) (preV hc hW [0, 11] rfl (by decide) rfl rfl) rfl rfl hl.1 rfl (lv_room (Nat.le_of_ble_eq_true rfl)) dX10_readItem_451 ⟨Nat.zero_le _, Nat.zero_le _⟩) hA hW [0, 11] [1, 2, 3, 4, 5, 6, 7, 8, 9, 10, 12, 13] [12, 0, 1, 2, 3, 4, 5, 6, 7, 8, 9, 13, 10, 11] rfl rfl (by decide) (by decide) rfl (by decide) (fun H locs hW => ?_)
    have b_454 : vp_in 3 4 := inb_vp (by decide)
    refine va_iast hx hb hc.1 hW.1 hW.2.1 hW.2.2 4 0 rfl rfl b_454 dX10_readItem_454 (fun H locs hP hD hS => ?_)
    have hW : Wd G A s.heap [(h_this, oX10 ad_this v_typed q451.2.1 q451.2.2 v_kept v_all v_sightAll v_aheadMany), ((ad_this 9), cI G 8 a_boat), ((ad_this 8), cI G 2 a_boats), ((ad_this 12), cI G 10 a_brings), ((ad_this 13), cI G 4 ((upd ((upd a_costs (Int32.toNatClampNeg 2) q436.1)) (Int32.toNatClampNeg 3) q451.1))), ((ad_this 2), cI G 6 a_goes), ((ad_this 5), cI G 2 a_houses), ((ad_this 7), cI G 12 a_minutes), ((ad_this 11), cI G 10 a_noise), ((ad_this 6), cI G 12 a_people), ((ad_this 3), cI G 2 a_signs), ((ad_this 0), cB G 200 a_text), ((ad_this 4), cI G 32 a_told), ((ad_this 10), cI G 2 a_works)] H locs := ⟨hP, hD, hS⟩
    refine lv_goto (tgt := 463) hx hb dX10_readItem_455 (by decide) ?_
    obtain rfl := Option.some.inj hF
    exact hret _ _ _ _ hW dX10_readItem_463
  have hF := ite_f hF w_21_108
  by_cases w_21_115 : q1 = 115
  · have hF := ite_t hF w_21_115
    refine lv_lookup (off := 99) (tgt := 120) hx hb dX10_readItem_21 (by decide +kernel) (by rw [w_21_115]; decide +kernel) (by decide) ?_
    refine lv_aload_n hx hb dX10_readItem_120 rfl (lv_at hl 1 rfl) ?_
    refine lv_aload_n hx hb dX10_readItem_121 rfl (lv_at hl 1 rfl) ?_
    refine va_get (D := G.1) (ci := 9) (v := .ref ((ad_this 3))) (C := RX10) (T := TX10) (N := 31) hx hb hg hu_X10 hown hc.1 hW.1 0 rfl rfl 3 (by decide) (hg _ wd_4_41) (fun _ h9 => h9) rfl dX10_readItem_122 ?_
    refine lv_iconst (v := 1) hx hb dX10_readItem_125 (by decide) ?_
    have b_126 : vp_in 1 2 := inb_vp (by decide)
    refine va_iald hx hb hc.1 hW.1 10 0 rfl rfl b_126 dX10_readItem_126 ?_
    refine lv_iconst (v := 4) hx hb dX10_readItem_127 (by decide) ?_
    obtain ⟨k_136, e_136, hF⟩ := jn_el hF
    have J_136 : ∀ (j0_136 : Int32) (hj_136 : j0_136 = 0 ∨ j0_136 = 1) (ls : Array Slot) (H : Heap) (locs : List Loc), k_136 j0_136 = some out → lv_has ls 6 [(0, .ref h_this)] → Wd G A s.heap [(h_this, oX10 ad_this v_typed ((v_at + 1)) 1 v_kept v_all v_sightAll v_aheadMany), ((ad_this 9), cI G 8 a_boat), ((ad_this 8), cI G 2 a_boats), ((ad_this 12), cI G 10 a_brings), ((ad_this 13), cI G 4 a_costs), ((ad_this 2), cI G 6 a_goes), ((ad_this 5), cI G 2 a_houses), ((ad_this 7), cI G 12 a_minutes), ((ad_this 11), cI G 10 a_noise), ((ad_this 6), cI G 12 a_people), ((ad_this 3), cI G 2 a_signs), ((ad_this 0), cB G 200 a_text), ((ad_this 4), cI G 32 a_told), ((ad_this 10), cI G 2 a_works)] H locs → W p l e ({ frames := 2, cells := 0, slots := 0, locals := 47 } : Room) s m args below meth c H locs 0 0 Q (F0 m 136 ls [.int j0_136, .ref h_this]) := by
      intro j0_136 hj_136 ls H locs hF hl hW
      rw [e_136] at hF
      dsimp only at hF
      refine va_put (D := G.1) (ci := 9) (v := .int j0_136) (ty := .boolean) (C := RX10) (T := TX10) (N := 31) hx hb hg hu_X10 tyX10 tyX10_ok nmX10 hown hc.1 hW.1 hW.2.1 hW.2.2 0 rfl rfl 15 (by decide) (hg _ wd_4_53) (fun _ h9 => h9) rfl (by decide +kernel) (bool_nar hj_136) (bool_fit hj_136) (Nat.le_of_ble_eq_true rfl) dX10_readItem_136 (fun H locs hP hD hS => ?_)
      have hW : Wd G A s.heap [(h_this, oX10 ad_this v_typed ((v_at + 1)) j0_136 v_kept v_all v_sightAll v_aheadMany), ((ad_this 9), cI G 8 a_boat), ((ad_this 8), cI G 2 a_boats), ((ad_this 12), cI G 10 a_brings), ((ad_this 13), cI G 4 a_costs), ((ad_this 2), cI G 6 a_goes), ((ad_this 5), cI G 2 a_houses), ((ad_this 7), cI G 12 a_minutes), ((ad_this 11), cI G 10 a_noise), ((ad_this 6), cI G 12 a_people), ((ad_this 3), cI G 2 a_signs), ((ad_this 0), cB G 200 a_text), ((ad_this 4), cI G 32 a_told), ((ad_this 10), cI G 2 a_works)] H locs := ⟨hP, hD, hS⟩
      refine lv_aload_n hx hb dX10_readItem_139 rfl (lv_at hl 0 rfl) ?_
      refine lv_iconst (v := 0) hx hb dX10_readItem_140 (by decide) ?_
      refine lv_iconst (v := 3) hx hb dX10_readItem_141 (by decide) ?_
      refine lv_bipush (v := 44) hx hb dX10_readItem_142 (by decide) ?_
      obtain ⟨q144, c_144, hF⟩ := bd_el hF
      refine wcI (ws' := [(h_this, oX10 ad_this v_typed q144.2.1 q144.2.2 v_kept v_all v_sightAll v_aheadMany), ((ad_this 9), cI G 8 a_boat), ((ad_this 8), cI G 2 a_boats), ((ad_this 12), cI G 10 a_brings), ((ad_this 13), cI G 4 a_costs), ((ad_this 2), cI G 6 a_goes), ((ad_this 5), cI G 2 a_houses), ((ad_this 7), cI G 12 a_minutes), ((ad_this 11), cI G 10 a_noise), ((ad_this 6), cI G 12 a_people), ((ad_this 3), cI G 2 a_signs), ((ad_this 0), cB G 200 a_text), ((ad_this 4), cI G 32 a_told), ((ad_this 10), cI G 2 a_works)]) (wc := [(h_this, oX10 ad_this v_typed ((v_at + 1)) j0_136 v_kept v_all v_sightAll v_aheadMany), ((ad_this 0), cB G 200 a_text)]) (wr := [((ad_this 9), cI G 8 a_boat), ((ad_this 8), cI G 2 a_boats), ((ad_this 12), cI G 10 a_brings), ((ad_this 13), cI G 4 a_costs), ((ad_this 2), cI G 6 a_goes), ((ad_this 5), cI G 2 a_houses), ((ad_this 7), cI G 12 a_minutes), ((ad_this 11), cI G 10 a_noise), ((ad_this 6), cI G 12 a_people), ((ad_this 3), cI G 2 a_signs), ((ad_this 4), cI G 32 a_told), ((ad_this 10), cI G 2 a_works)]) (w1 := [(h_this, oX10 ad_this v_typed q144.2.1 q144.2.2 v_kept v_all v_sightAll v_aheadMany), ((ad_this 0), cB G 200 a_text)]) (va_runV (As := [.int 0, .int 3, .int 44]) (rest := []) ⟨hx, hb, hml, hown, hg⟩ (c_X10_number l G 0 3 44 h_this ad_this v_typed ((v_at + 1)) j0_136 v_kept v_all v_sightAll v_aheadMany a_text q144 c_144 H.size) (cwV 3 hg (gV wd_4_155 wd_4_157 wd_0_29 wd_1_15 wd_4_158) rfl rfl rfl hdV_X10_number ⟨(Nat.le_of_ble_eq_true rfl), (Nat.le_of_ble_eq_true rfl)⟩) (preV hc hW [0, 11] rfl (by decide) rfl rfl) rfl rfl hl.1 rfl (lv_room (Nat.le_of_ble_eq_true rfl)) dX10_readItem_144 ⟨Nat.zero_le _, Nat.zero_le _⟩) hA hW [0, 11] [1, 2, 3, 4, 5, 6, 7, 8, 9, 10, 12, 13] [12, 0, 1, 2, 3, 4, 5, 6, 7, 8, 9, 13, 10, 11] rfl rfl (by decide) (by decide) rfl (by decide) (fun H locs hW => ?_)
      refine lv_istore_n (lv' := [(2, .int q144.1), (0, .ref h_this)]) hx hb dX10_readItem_147 rfl hl (by decide) rfl (fun ls hl => ?_)
      refine lv_aload_n hx hb dX10_readItem_148 rfl (lv_at hl 1 rfl) ?_
      refine lv_iconst (v := 0) hx hb dX10_readItem_149 (by decide) ?_
      refine lv_iconst (v := 4) hx hb dX10_readItem_150 (by decide) ?_
      refine lv_bipush (v := 44) hx hb dX10_readItem_151 (by decide) ?_
      obtain ⟨q153, c_153, hF⟩ := bd_el hF
      refine wcI (ws' := [(h_this, oX10 ad_this v_typed q153.2.1 q153.2.2 v_kept v_all v_sightAll v_aheadMany), ((ad_this 9), cI G 8 a_boat), ((ad_this 8), cI G 2 a_boats), ((ad_this 12), cI G 10 a_brings), ((ad_this 13), cI G 4 a_costs), ((ad_this 2), cI G 6 a_goes), ((ad_this 5), cI G 2 a_houses), ((ad_this 7), cI G 12 a_minutes), ((ad_this 11), cI G 10 a_noise), ((ad_this 6), cI G 12 a_people), ((ad_this 3), cI G 2 a_signs), ((ad_this 0), cB G 200 a_text), ((ad_this 4), cI G 32 a_told), ((ad_this 10), cI G 2 a_works)]) (wc := [(h_this, oX10 ad_this v_typed q144.2.1 q144.2.2 v_kept v_all v_sightAll v_aheadMany), ((ad_this 0), cB G 200 a_text)]) (wr := [((ad_this 9), cI G 8 a_boat), ((ad_this 8), cI G 2 a_boats), ((ad_this 12), cI G 10 a_brings), ((ad_this 13), cI G 4 a_costs), ((ad_this 2), cI G 6 a_goes), ((ad_this 5), cI G 2 a_houses), ((ad_this 7), cI G 12 a_minutes), ((ad_this 11), cI G 10 a_noise), ((ad_this 6), cI G 12 a_people), ((ad_this 3), cI G 2 a_signs), ((ad_this 4), cI G 32 a_told), ((ad_this 10), cI G 2 a_works)]) (w1 := [(h_this, oX10 ad_this v_typed q153.2.1 q153.2.2 v_kept v_all v_sightAll v_aheadMany), ((ad_this 0), cB G 200 a_text)]) (va_runV (As := [.int 0, .int 4, .int 44]) (rest := []) ⟨hx, hb, hml, hown, hg⟩ (c_X10_number l G 0 4 44 h_this ad_this v_typed q144.2.1 q144.2.2 v_kept v_all v_sightAll v_aheadMany a_text q153 c_153 H.size) (cwV 3 hg (gV wd_4_155 wd_4_157 wd_0_29 wd_1_15 wd_4_158) rfl rfl rfl hdV_X10_number ⟨(Nat.le_of_ble_eq_true rfl), (Nat.le_of_ble_eq_true rfl)⟩) (preV hc hW [0, 11] rfl (by decide) rfl rfl) rfl rfl hl.1 rfl (lv_room (Nat.le_of_ble_eq_true rfl)) dX10_readItem_153 ⟨Nat.zero_le _, Nat.zero_le _⟩) hA hW [0, 11] [1, 2, 3, 4, 5, 6, 7, 8, 9, 10, 12, 13] [12, 0, 1, 2, 3, 4, 5, 6, 7, 8, 9, 13, 10, 11] rfl rfl (by decide) (by decide) rfl (by decide) (fun H locs hW => ?_)
      refine lv_istore_n (lv' := [(3, .int q153.1), (2, .int q144.1), (0, .ref h_this)]) hx hb dX10_readItem_156 rfl hl (by decide) rfl (fun ls hl => ?_)
      refine lv_aload_n hx hb dX10_readItem_157 rfl (lv_at hl 2 rfl) ?_
      refine lv_iconst (v := 0) hx hb dX10_readItem_158 (by decide) ?_
      refine lv_iconst (v := 4) hx hb dX10_readItem_159 (by decide) ?_
      refine lv_bipush (v := 44) hx hb dX10_readItem_160 (by decide) ?_
      obtain ⟨q162, c_162, hF⟩ := bd_el hF
      refine wcI (ws' := [(h_this, oX10 ad_this v_typed q162.2.1 q162.2.2 v_kept v_all v_sightAll v_aheadMany), ((ad_this 9), cI G 8 a_boat), ((ad_this 8), cI G 2 a_boats), ((ad_this 12), cI G 10 a_brings), ((ad_this 13), cI G 4 a_costs), ((ad_this 2), cI G 6 a_goes), ((ad_this 5), cI G 2 a_houses), ((ad_this 7), cI G 12 a_minutes), ((ad_this 11), cI G 10 a_noise), ((ad_this 6), cI G 12 a_people), ((ad_this 3), cI G 2 a_signs), ((ad_this 0), cB G 200 a_text), ((ad_this 4), cI G 32 a_told), ((ad_this 10), cI G 2 a_works)]) (wc := [(h_this, oX10 ad_this v_typed q153.2.1 q153.2.2 v_kept v_all v_sightAll v_aheadMany), ((ad_this 0), cB G 200 a_text)]) (wr := [((ad_this 9), cI G 8 a_boat), ((ad_this 8), cI G 2 a_boats), ((ad_this 12), cI G 10 a_brings), ((ad_this 13), cI G 4 a_costs), ((ad_this 2), cI G 6 a_goes), ((ad_this 5), cI G 2 a_houses), ((ad_this 7), cI G 12 a_minutes), ((ad_this 11), cI G 10 a_noise), ((ad_this 6), cI G 12 a_people), ((ad_this 3), cI G 2 a_signs), ((ad_this 4), cI G 32 a_told), ((ad_this 10), cI G 2 a_works)]) (w1 := [(h_this, oX10 ad_this v_typed q162.2.1 q162.2.2 v_kept v_all v_sightAll v_aheadMany), ((ad_this 0), cB G 200 a_text)]) (va_runV (As := [.int 0, .int 4, .int 44]) (rest := []) ⟨hx, hb, hml, hown, hg⟩ (c_X10_number l G 0 4 44 h_this ad_this v_typed q153.2.1 q153.2.2 v_kept v_all v_sightAll v_aheadMany a_text q162 c_162 H.size) (cwV 3 hg (gV wd_4_155 wd_4_157 wd_0_29 wd_1_15 wd_4_158) rfl rfl rfl hdV_X10_number ⟨(Nat.le_of_ble_eq_true rfl), (Nat.le_of_ble_eq_true rfl)⟩) (preV hc hW [0, 11] rfl (by decide) rfl rfl) rfl rfl hl.1 rfl (lv_room (Nat.le_of_ble_eq_true rfl)) dX10_readItem_162 ⟨Nat.zero_le _, Nat.zero_le _⟩) hA hW [0, 11] [1, 2, 3, 4, 5, 6, 7, 8, 9, 10, 12, 13] [12, 0, 1, 2, 3, 4, 5, 6, 7, 8, 9, 13, 10, 11] rfl rfl (by decide) (by decide) rfl (by decide) (fun H locs hW => ?_)
      refine lv_istore (lv' := [(4, .int q162.1), (3, .int q153.1), (2, .int q144.1), (0, .ref h_this)]) hx hb dX10_readItem_165 hl (by decide) rfl (fun ls hl => ?_)
      refine lv_aload_n hx hb dX10_readItem_167 rfl (lv_at hl 3 rfl) ?_
      refine lv_iconst (v := 0) hx hb dX10_readItem_168 (by decide) ?_
      refine lv_iconst (v := 4) hx hb dX10_readItem_169 (by decide) ?_
      refine lv_bipush (v := 59) hx hb dX10_readItem_170 (by decide) ?_
      obtain ⟨q172, c_172, hF⟩ := bd_el hF
      refine wcI (ws' := [(h_this, oX10 ad_this v_typed q172.2.1 q172.2.2 v_kept v_all v_sightAll v_aheadMany), ((ad_this 9), cI G 8 a_boat), ((ad_this 8), cI G 2 a_boats), ((ad_this 12), cI G 10 a_brings), ((ad_this 13), cI G 4 a_costs), ((ad_this 2), cI G 6 a_goes), ((ad_this 5), cI G 2 a_houses), ((ad_this 7), cI G 12 a_minutes), ((ad_this 11), cI G 10 a_noise), ((ad_this 6), cI G 12 a_people), ((ad_this 3), cI G 2 a_signs), ((ad_this 0), cB G 200 a_text), ((ad_this 4), cI G 32 a_told), ((ad_this 10), cI G 2 a_works)]) (wc := [(h_this, oX10 ad_this v_typed q162.2.1 q162.2.2 v_kept v_all v_sightAll v_aheadMany), ((ad_this 0), cB G 200 a_text)]) (wr := [((ad_this 9), cI G 8 a_boat), ((ad_this 8), cI G 2 a_boats), ((ad_this 12), cI G 10 a_brings), ((ad_this 13), cI G 4 a_costs), ((ad_this 2), cI G 6 a_goes), ((ad_this 5), cI G 2 a_houses), ((ad_this 7), cI G 12 a_minutes), ((ad_this 11), cI G 10 a_noise), ((ad_this 6), cI G 12 a_people), ((ad_this 3), cI G 2 a_signs), ((ad_this 4), cI G 32 a_told), ((ad_this 10), cI G 2 a_works)]) (w1 := [(h_this, oX10 ad_this v_typed q172.2.1 q172.2.2 v_kept v_all v_sightAll v_aheadMany), ((ad_this 0), cB G 200 a_text)]) (va_runV (As := [.int 0, .int 4, .int 59]) (rest := []) ⟨hx, hb, hml, hown, hg⟩ (c_X10_number l G 0 4 59 h_this ad_this v_typed q162.2.1 q162.2.2 v_kept v_all v_sightAll v_aheadMany a_text q172 c_172 H.size) (cwV 3 hg (gV wd_4_155 wd_4_157 wd_0_29 wd_1_15 wd_4_158) rfl rfl rfl hdV_X10_number ⟨(Nat.le_of_ble_eq_true rfl), (Nat.le_of_ble_eq_true rfl)⟩) (preV hc hW [0, 11] rfl (by decide) rfl rfl) rfl rfl hl.1 rfl (lv_room (Nat.le_of_ble_eq_true rfl)) dX10_readItem_172 ⟨Nat.zero_le _, Nat.zero_le _⟩) hA hW [0, 11] [1, 2, 3, 4, 5, 6, 7, 8, 9, 10, 12, 13] [12, 0, 1, 2, 3, 4, 5, 6, 7, 8, 9, 13, 10, 11] rfl rfl (by decide) (by decide) rfl (by decide) (fun H locs hW => ?_)
      refine lv_istore (lv' := [(5, .int q172.1), (4, .int q162.1), (3, .int q153.1), (2, .int q144.1), (0, .ref h_this)]) hx hb dX10_readItem_175 hl (by decide) rfl (fun ls hl => ?_)
      refine lv_aload_n hx hb dX10_readItem_177 rfl (lv_at hl 4 rfl) ?_
      refine va_get (D := G.1) (ci := 9) (v := .int q172.2.2) (C := RX10) (T := TX10) (N := 31) hx hb hg hu_X10 hown hc.1 hW.1 0 rfl rfl 15 (by decide) (hg _ wd_4_53) (fun _ h9 => h9) rfl dX10_readItem_178 ?_
      refine lv_if_eq (tgt := 463) hx hb dX10_readItem_181 (by decide) (fun c_181 => ?_) (fun c_181 => ?_)
      · have hF := ite_t hF c_181
        obtain rfl := Option.some.inj hF
        exact hret _ _ _ _ hW dX10_readItem_463
      · have hF := ite_f hF c_181
        refine lv_aload_n hx hb dX10_readItem_184 rfl (lv_at hl 4 rfl) ?_
        refine lv_iconst (v := 4) hx hb dX10_readItem_185 (by decide) ?_
        refine lv_aload_n hx hb dX10_readItem_186 rfl (lv_at hl 4 rfl) ?_
        refine va_get (D := G.1) (ci := 9) (v := .ref ((ad_this 3))) (C := RX10) (T := TX10) (N := 31) hx hb hg hu_X10 hown hc.1 hW.1 0 rfl rfl 3 (by decide) (hg _ wd_4_41) (fun _ h9 => h9) rfl dX10_readItem_187 ?_
        refine lv_iconst (v := 1) hx hb dX10_readItem_190 (by decide) ?_
        have b_191 : vp_in 1 2 := inb_vp (by decide)
        refine va_iald hx hb hc.1 hW.1 10 0 rfl rfl b_191 dX10_readItem_191 ?_
        refine lv_iadd hx hb dX10_readItem_192 ?_
        refine lv_iload_n hx hb dX10_readItem_193 rfl (lv_at hl 3 rfl) ?_
        refine lv_iload_n hx hb dX10_readItem_194 rfl (lv_at hl 2 rfl) ?_
        refine lv_iload hx hb dX10_readItem_195 (lv_at hl 1 rfl) ?_
        refine lv_iload hx hb dX10_readItem_197 (lv_at hl 0 rfl) ?_
        obtain ⟨q199, c_199, hF⟩ := bd_el hF
        refine wcV (ws' := [(h_this, oX10 ad_this v_typed q172.2.1 q172.2.2 v_kept v_all v_sightAll v_aheadMany), ((ad_this 9), cI G 8 a_boat), ((ad_this 8), cI G 2 a_boats), ((ad_this 12), cI G 10 a_brings), ((ad_this 13), cI G 4 a_costs), ((ad_this 2), cI G 6 a_goes), ((ad_this 5), cI G 2 a_houses), ((ad_this 7), cI G 12 a_minutes), ((ad_this 11), cI G 10 a_noise), ((ad_this 6), cI G 12 a_people), ((ad_this 3), cI G 2 a_signs), ((ad_this 0), cB G 200 a_text), ((ad_this 4), cI G 32 q199), ((ad_this 10), cI G 2 a_works)]) (wc := [(h_this, oX10 ad_this v_typed q172.2.1 q172.2.2 v_kept v_all v_sightAll v_aheadMany), ((ad_this 4), cI G 32 a_told)]) (wr := [((ad_this 9), cI G 8 a_boat), ((ad_this 8), cI G 2 a_boats), ((ad_this 12), cI G 10 a_brings), ((ad_this 13), cI G 4 a_costs), ((ad_this 2), cI G 6 a_goes), ((ad_this 5), cI G 2 a_houses), ((ad_this 7), cI G 12 a_minutes), ((ad_this 11), cI G 10 a_noise), ((ad_this 6), cI G 12 a_people), ((ad_this 3), cI G 2 a_signs), ((ad_this 0), cB G 200 a_text), ((ad_this 10), cI G 2 a_works)]) (w1 := [(h_this, oX10 ad_this v_typed q172.2.1 q172.2.2 v_kept v_all v_sightAll v_aheadMany), ((ad_this 4), cI G 32 q199)]) (va_runV (As := [.int ((4 + (a_signs (Int32.toNatClampNeg 1)))), .int q144.1, .int q153.1, .int q162.1, .int q172.1]) (rest := []) ⟨hx, hb, hml, hown, hg⟩ (c_X10_sign4 l G ((4 + (a_signs (Int32.toNatClampNeg 1)))) q144.1 q153.1 q162.1 q172.1 h_this ad_this v_typed q172.2.1 q172.2.2 v_kept v_all v_sightAll v_aheadMany a_told q199 c_199 H.size) (cwV 5 hg (gV wd_4_26 wd_4_28 wd_0_24 wd_1_15 wd_4_29) rfl rfl rfl hdV_X10_sign4 ⟨(Nat.le_of_ble_eq_true rfl), (Nat.le_of_ble_eq_true rfl)⟩) (preV hc hW [0, 12] rfl (by decide) rfl rfl) rfl rfl hl.1 rfl (lv_room (Nat.le_of_ble_eq_true rfl)) dX10_readItem_199 ⟨Nat.zero_le _, Nat.zero_le _⟩) hA hW [0, 12] [1, 2, 3, 4, 5, 6, 7, 8, 9, 10, 11, 13] [12, 0, 1, 2, 3, 4, 5, 6, 7, 8, 9, 10, 13, 11] rfl rfl (by decide) (by decide) rfl (by decide) (fun H locs hW => ?_)
        refine lv_aload_n hx hb dX10_readItem_202 rfl (lv_at hl 4 rfl) ?_
        refine va_get (D := G.1) (ci := 9) (v := .ref ((ad_this 3))) (C := RX10) (T := TX10) (N := 31) hx hb hg hu_X10 hown hc.1 hW.1 0 rfl rfl 3 (by decide) (hg _ wd_4_41) (fun _ h9 => h9) rfl dX10_readItem_203 ?_
        refine lv_iconst (v := 1) hx hb dX10_readItem_206 (by decide) ?_
        refine lv_dup2_11 hx hb dX10_readItem_207 rfl rfl ?_
        have b_208 : vp_in 1 2 := inb_vp (by decide)
        refine va_iald hx hb hc.1 hW.1 10 0 rfl rfl b_208 dX10_readItem_208 ?_
        refine lv_iconst (v := 1) hx hb dX10_readItem_209 (by decide) ?_
        refine lv_iadd hx hb dX10_readItem_210 ?_
        have b_211 : vp_in 1 2 := inb_vp (by decide)
        refine va_iast hx hb hc.1 hW.1 hW.2.1 hW.2.2 10 0 rfl rfl b_211 dX10_readItem_211 (fun H locs hP hD hS => ?_)
        have hW : Wd G A s.heap [(h_this, oX10 ad_this v_typed q172.2.1 q172.2.2 v_kept v_all v_sightAll v_aheadMany), ((ad_this 9), cI G 8 a_boat), ((ad_this 8), cI G 2 a_boats), ((ad_this 12), cI G 10 a_brings), ((ad_this 13), cI G 4 a_costs), ((ad_this 2), cI G 6 a_goes), ((ad_this 5), cI G 2 a_houses), ((ad_this 7), cI G 12 a_minutes), ((ad_this 11), cI G 10 a_noise), ((ad_this 6), cI G 12 a_people), ((ad_this 3), cI G 2 ((upd a_signs (Int32.toNatClampNeg 1) (((a_signs (Int32.toNatClampNeg 1)) + 1))))), ((ad_this 0), cB G 200 a_text), ((ad_this 4), cI G 32 q199), ((ad_this 10), cI G 2 a_works)] H locs := ⟨hP, hD, hS⟩
        refine lv_goto (tgt := 463) hx hb dX10_readItem_212 (by decide) ?_
        obtain rfl := Option.some.inj hF
        exact hret _ _ _ _ hW dX10_readItem_463
    refine lv_icmp_ge (tgt := 135) hx hb dX10_readItem_128 (by decide) (fun c_128 => ?_) (fun c_128 => ?_)
    · have hF := ite_t hF c_128
      refine lv_iconst (v := 0) hx hb dX10_readItem_135 (by decide) ?_
      exact J_136 0 (Or.inl rfl) _ _ _ hF (lv_sub hl [1] rfl) hW
    · have hF := ite_f hF c_128
      refine lv_iconst (v := 1) hx hb dX10_readItem_131 (by decide) ?_
      refine lv_goto (tgt := 136) hx hb dX10_readItem_132 (by decide) ?_
      exact J_136 1 (Or.inr rfl) _ _ _ hF (lv_sub hl [1] rfl) hW
  have hF := ite_f hF w_21_115
  by_cases w_21_119 : q1 = 119
  · have hF := ite_t hF w_21_119
    refine lv_lookup (off := 332) (tgt := 353) hx hb dX10_readItem_21 (by decide +kernel) (by rw [w_21_119]; decide +kernel) (by decide) ?_
    refine lv_aload_n hx hb dX10_readItem_353 rfl (lv_at hl 1 rfl) ?_
    refine lv_aload_n hx hb dX10_readItem_354 rfl (lv_at hl 1 rfl) ?_
    refine va_get (D := G.1) (ci := 9) (v := .ref ((ad_this 10))) (C := RX10) (T := TX10) (N := 31) hx hb hg hu_X10 hown hc.1 hW.1 0 rfl rfl 10 (by decide) (hg _ wd_4_48) (fun _ h9 => h9) rfl dX10_readItem_355 ?_
    refine lv_iconst (v := 1) hx hb dX10_readItem_358 (by decide) ?_
    have b_359 : vp_in 1 2 := inb_vp (by decide)
    refine va_iald hx hb hc.1 hW.1 13 0 rfl rfl b_359 dX10_readItem_359 ?_
    refine lv_iconst (v := 5) hx hb dX10_readItem_360 (by decide) ?_
    obtain ⟨k_369, e_369, hF⟩ := jn_el hF
    have J_369 : ∀ (j0_369 : Int32) (hj_369 : j0_369 = 0 ∨ j0_369 = 1) (ls : Array Slot) (H : Heap) (locs : List Loc), k_369 j0_369 = some out → lv_has ls 6 [(0, .ref h_this)] → Wd G A s.heap [(h_this, oX10 ad_this v_typed ((v_at + 1)) 1 v_kept v_all v_sightAll v_aheadMany), ((ad_this 9), cI G 8 a_boat), ((ad_this 8), cI G 2 a_boats), ((ad_this 12), cI G 10 a_brings), ((ad_this 13), cI G 4 a_costs), ((ad_this 2), cI G 6 a_goes), ((ad_this 5), cI G 2 a_houses), ((ad_this 7), cI G 12 a_minutes), ((ad_this 11), cI G 10 a_noise), ((ad_this 6), cI G 12 a_people), ((ad_this 3), cI G 2 a_signs), ((ad_this 0), cB G 200 a_text), ((ad_this 4), cI G 32 a_told), ((ad_this 10), cI G 2 a_works)] H locs → W p l e ({ frames := 2, cells := 0, slots := 0, locals := 47 } : Room) s m args below meth c H locs 0 0 Q (F0 m 369 ls [.int j0_369, .ref h_this]) := by
      intro j0_369 hj_369 ls H locs hF hl hW
      rw [e_369] at hF
      dsimp only at hF
      refine va_put (D := G.1) (ci := 9) (v := .int j0_369) (ty := .boolean) (C := RX10) (T := TX10) (N := 31) hx hb hg hu_X10 tyX10 tyX10_ok nmX10 hown hc.1 hW.1 hW.2.1 hW.2.2 0 rfl rfl 15 (by decide) (hg _ wd_4_53) (fun _ h9 => h9) rfl (by decide +kernel) (bool_nar hj_369) (bool_fit hj_369) (Nat.le_of_ble_eq_true rfl) dX10_readItem_369 (fun H locs hP hD hS => ?_)
      have hW : Wd G A s.heap [(h_this, oX10 ad_this v_typed ((v_at + 1)) j0_369 v_kept v_all v_sightAll v_aheadMany), ((ad_this 9), cI G 8 a_boat), ((ad_this 8), cI G 2 a_boats), ((ad_this 12), cI G 10 a_brings), ((ad_this 13), cI G 4 a_costs), ((ad_this 2), cI G 6 a_goes), ((ad_this 5), cI G 2 a_houses), ((ad_this 7), cI G 12 a_minutes), ((ad_this 11), cI G 10 a_noise), ((ad_this 6), cI G 12 a_people), ((ad_this 3), cI G 2 a_signs), ((ad_this 0), cB G 200 a_text), ((ad_this 4), cI G 32 a_told), ((ad_this 10), cI G 2 a_works)] H locs := ⟨hP, hD, hS⟩
      refine lv_aload_n hx hb dX10_readItem_372 rfl (lv_at hl 0 rfl) ?_
      refine lv_iconst (v := 0) hx hb dX10_readItem_373 (by decide) ?_
      refine lv_iconst (v := 4) hx hb dX10_readItem_374 (by decide) ?_
      refine lv_bipush (v := 44) hx hb dX10_readItem_375 (by decide) ?_
      obtain ⟨q377, c_377, hF⟩ := bd_el hF
      refine wcI (ws' := [(h_this, oX10 ad_this v_typed q377.2.1 q377.2.2 v_kept v_all v_sightAll v_aheadMany), ((ad_this 9), cI G 8 a_boat), ((ad_this 8), cI G 2 a_boats), ((ad_this 12), cI G 10 a_brings), ((ad_this 13), cI G 4 a_costs), ((ad_this 2), cI G 6 a_goes), ((ad_this 5), cI G 2 a_houses), ((ad_this 7), cI G 12 a_minutes), ((ad_this 11), cI G 10 a_noise), ((ad_this 6), cI G 12 a_people), ((ad_this 3), cI G 2 a_signs), ((ad_this 0), cB G 200 a_text), ((ad_this 4), cI G 32 a_told), ((ad_this 10), cI G 2 a_works)]) (wc := [(h_this, oX10 ad_this v_typed ((v_at + 1)) j0_369 v_kept v_all v_sightAll v_aheadMany), ((ad_this 0), cB G 200 a_text)]) (wr := [((ad_this 9), cI G 8 a_boat), ((ad_this 8), cI G 2 a_boats), ((ad_this 12), cI G 10 a_brings), ((ad_this 13), cI G 4 a_costs), ((ad_this 2), cI G 6 a_goes), ((ad_this 5), cI G 2 a_houses), ((ad_this 7), cI G 12 a_minutes), ((ad_this 11), cI G 10 a_noise), ((ad_this 6), cI G 12 a_people), ((ad_this 3), cI G 2 a_signs), ((ad_this 4), cI G 32 a_told), ((ad_this 10), cI G 2 a_works)]) (w1 := [(h_this, oX10 ad_this v_typed q377.2.1 q377.2.2 v_kept v_all v_sightAll v_aheadMany), ((ad_this 0), cB G 200 a_text)]) (va_runV (As := [.int 0, .int 4, .int 44]) (rest := []) ⟨hx, hb, hml, hown, hg⟩ (c_X10_number l G 0 4 44 h_this ad_this v_typed ((v_at + 1)) j0_369 v_kept v_all v_sightAll v_aheadMany a_text q377 c_377 H.size) (cwV 3 hg (gV wd_4_155 wd_4_157 wd_0_29 wd_1_15 wd_4_158) rfl rfl rfl hdV_X10_number ⟨(Nat.le_of_ble_eq_true rfl), (Nat.le_of_ble_eq_true rfl)⟩) (preV hc hW [0, 11] rfl (by decide) rfl rfl) rfl rfl hl.1 rfl (lv_room (Nat.le_of_ble_eq_true rfl)) dX10_readItem_377 ⟨Nat.zero_le _, Nat.zero_le _⟩) hA hW [0, 11] [1, 2, 3, 4, 5, 6, 7, 8, 9, 10, 12, 13] [12, 0, 1, 2, 3, 4, 5, 6, 7, 8, 9, 13, 10, 11] rfl rfl (by decide) (by decide) rfl (by decide) (fun H locs hW => ?_)
      refine lv_istore_n (lv' := [(2, .int q377.1), (0, .ref h_this)]) hx hb dX10_readItem_380 rfl hl (by decide) rfl (fun ls hl => ?_)
      refine lv_aload_n hx hb dX10_readItem_381 rfl (lv_at hl 1 rfl) ?_
      refine lv_iconst (v := 0) hx hb dX10_readItem_382 (by decide) ?_
      refine lv_bipush (v := 20) hx hb dX10_readItem_383 (by decide) ?_
      refine lv_bipush (v := 59) hx hb dX10_readItem_385 (by decide) ?_
      obtain ⟨q387, c_387, hF⟩ := bd_el hF
      refine wcI (ws' := [(h_this, oX10 ad_this v_typed q387.2.1 q387.2.2 v_kept v_all v_sightAll v_aheadMany), ((ad_this 9), cI G 8 a_boat), ((ad_this 8), cI G 2 a_boats), ((ad_this 12), cI G 10 a_brings), ((ad_this 13), cI G 4 a_costs), ((ad_this 2), cI G 6 a_goes), ((ad_this 5), cI G 2 a_houses), ((ad_this 7), cI G 12 a_minutes), ((ad_this 11), cI G 10 a_noise), ((ad_this 6), cI G 12 a_people), ((ad_this 3), cI G 2 a_signs), ((ad_this 0), cB G 200 a_text), ((ad_this 4), cI G 32 a_told), ((ad_this 10), cI G 2 a_works)]) (wc := [(h_this, oX10 ad_this v_typed q377.2.1 q377.2.2 v_kept v_all v_sightAll v_aheadMany), ((ad_this 0), cB G 200 a_text)]) (wr := [((ad_this 9), cI G 8 a_boat), ((ad_this 8), cI G 2 a_boats), ((ad_this 12), cI G 10 a_brings), ((ad_this 13), cI G 4 a_costs), ((ad_this 2), cI G 6 a_goes), ((ad_this 5), cI G 2 a_houses), ((ad_this 7), cI G 12 a_minutes), ((ad_this 11), cI G 10 a_noise), ((ad_this 6), cI G 12 a_people), ((ad_this 3), cI G 2 a_signs), ((ad_this 4), cI G 32 a_told), ((ad_this 10), cI G 2 a_works)]) (w1 := [(h_this, oX10 ad_this v_typed q387.2.1 q387.2.2 v_kept v_all v_sightAll v_aheadMany), ((ad_this 0), cB G 200 a_text)]) (va_runV (As := [.int 0, .int 20, .int 59]) (rest := []) ⟨hx, hb, hml, hown, hg⟩ (c_X10_number l G 0 20 59 h_this ad_this v_typed q377.2.1 q377.2.2 v_kept v_all v_sightAll v_aheadMany a_text q387 c_387 H.size) (cwV 3 hg (gV wd_4_155 wd_4_157 wd_0_29 wd_1_15 wd_4_158) rfl rfl rfl hdV_X10_number ⟨(Nat.le_of_ble_eq_true rfl), (Nat.le_of_ble_eq_true rfl)⟩) (preV hc hW [0, 11] rfl (by decide) rfl rfl) rfl rfl hl.1 rfl (lv_room (Nat.le_of_ble_eq_true rfl)) dX10_readItem_387 ⟨Nat.zero_le _, Nat.zero_le _⟩) hA hW [0, 11] [1, 2, 3, 4, 5, 6, 7, 8, 9, 10, 12, 13] [12, 0, 1, 2, 3, 4, 5, 6, 7, 8, 9, 13, 10, 11] rfl rfl (by decide) (by decide) rfl (by decide) (fun H locs hW => ?_)
      refine lv_istore_n (lv' := [(3, .int q387.1), (2, .int q377.1), (0, .ref h_this)]) hx hb dX10_readItem_390 rfl hl (by decide) rfl (fun ls hl => ?_)
      refine lv_aload_n hx hb dX10_readItem_391 rfl (lv_at hl 2 rfl) ?_
      refine va_get (D := G.1) (ci := 9) (v := .int q387.2.2) (C := RX10) (T := TX10) (N := 31) hx hb hg hu_X10 hown hc.1 hW.1 0 rfl rfl 15 (by decide) (hg _ wd_4_53) (fun _ h9 => h9) rfl dX10_readItem_392 ?_
      refine lv_if_eq (tgt := 463) hx hb dX10_readItem_395 (by decide) (fun c_395 => ?_) (fun c_395 => ?_)
      · have hF := ite_t hF c_395
        obtain rfl := Option.some.inj hF
        exact hret _ _ _ _ hW dX10_readItem_463
      · have hF := ite_f hF c_395
        refine lv_aload_n hx hb dX10_readItem_398 rfl (lv_at hl 2 rfl) ?_
        refine lv_iconst (v := 5) hx hb dX10_readItem_399 (by decide) ?_
        refine lv_aload_n hx hb dX10_readItem_400 rfl (lv_at hl 2 rfl) ?_
        refine va_get (D := G.1) (ci := 9) (v := .ref ((ad_this 10))) (C := RX10) (T := TX10) (N := 31) hx hb hg hu_X10 hown hc.1 hW.1 0 rfl rfl 10 (by decide) (hg _ wd_4_48) (fun _ h9 => h9) rfl dX10_readItem_401 ?_
        refine lv_iconst (v := 1) hx hb dX10_readItem_404 (by decide) ?_
        have b_405 : vp_in 1 2 := inb_vp (by decide)
        refine va_iald hx hb hc.1 hW.1 13 0 rfl rfl b_405 dX10_readItem_405 ?_
        refine lv_iadd hx hb dX10_readItem_406 ?_
        refine lv_iload_n hx hb dX10_readItem_407 rfl (lv_at hl 1 rfl) ?_
        refine lv_iload_n hx hb dX10_readItem_408 rfl (lv_at hl 0 rfl) ?_
        obtain ⟨q409, c_409, hF⟩ := bd_el hF
        refine wcV (ws' := [(h_this, oX10 ad_this v_typed q387.2.1 q387.2.2 v_kept v_all v_sightAll v_aheadMany), ((ad_this 9), cI G 8 a_boat), ((ad_this 8), cI G 2 a_boats), ((ad_this 12), cI G 10 q409.1), ((ad_this 13), cI G 4 a_costs), ((ad_this 2), cI G 6 a_goes), ((ad_this 5), cI G 2 a_houses), ((ad_this 7), cI G 12 a_minutes), ((ad_this 11), cI G 10 q409.2), ((ad_this 6), cI G 12 a_people), ((ad_this 3), cI G 2 a_signs), ((ad_this 0), cB G 200 a_text), ((ad_this 4), cI G 32 a_told), ((ad_this 10), cI G 2 a_works)]) (wc := [(h_this, oX10 ad_this v_typed q387.2.1 q387.2.2 v_kept v_all v_sightAll v_aheadMany), ((ad_this 12), cI G 10 a_brings), ((ad_this 11), cI G 10 a_noise)]) (wr := [((ad_this 9), cI G 8 a_boat), ((ad_this 8), cI G 2 a_boats), ((ad_this 13), cI G 4 a_costs), ((ad_this 2), cI G 6 a_goes), ((ad_this 5), cI G 2 a_houses), ((ad_this 7), cI G 12 a_minutes), ((ad_this 6), cI G 12 a_people), ((ad_this 3), cI G 2 a_signs), ((ad_this 0), cB G 200 a_text), ((ad_this 4), cI G 32 a_told), ((ad_this 10), cI G 2 a_works)]) (w1 := [(h_this, oX10 ad_this v_typed q387.2.1 q387.2.2 v_kept v_all v_sightAll v_aheadMany), ((ad_this 12), cI G 10 q409.1), ((ad_this 11), cI G 10 q409.2)]) (va_runV (As := [.int ((5 + (a_works (Int32.toNatClampNeg 1)))), .int q377.1, .int q387.1]) (rest := []) ⟨hx, hb, hml, hown, hg⟩ (c_X10_work2 l G ((5 + (a_works (Int32.toNatClampNeg 1)))) q377.1 q387.1 h_this ad_this v_typed q387.2.1 q387.2.2 v_kept v_all v_sightAll v_aheadMany a_brings a_noise q409 c_409 H.size) (cwV 3 hg (gV wd_4_34 wd_4_36 wd_0_26 wd_1_15 wd_4_37) rfl rfl rfl hdV_X10_work2 ⟨(Nat.le_of_ble_eq_true rfl), (Nat.le_of_ble_eq_true rfl)⟩) (preV hc hW [0, 3, 8] rfl (by decide) rfl rfl) rfl rfl hl.1 rfl (lv_room (Nat.le_of_ble_eq_true rfl)) dX10_readItem_409 ⟨Nat.zero_le _, Nat.zero_le _⟩) hA hW [0, 3, 8] [1, 2, 4, 5, 6, 7, 9, 10, 11, 12, 13] [11, 0, 1, 12, 2, 3, 4, 5, 13, 6, 7, 8, 9, 10] rfl rfl (by decide) (by decide) rfl (by decide) (fun H locs hW => ?_)
        refine lv_aload_n hx hb dX10_readItem_412 rfl (lv_at hl 2 rfl) ?_
        refine va_get (D := G.1) (ci := 9) (v := .ref ((ad_this 10))) (C := RX10) (T := TX10) (N := 31) hx hb hg hu_X10 hown hc.1 hW.1 0 rfl rfl 10 (by decide) (hg _ wd_4_48) (fun _ h9 => h9) rfl dX10_readItem_413 ?_
        refine lv_iconst (v := 1) hx hb dX10_readItem_416 (by decide) ?_
        refine lv_dup2_11 hx hb dX10_readItem_417 rfl rfl ?_
        have b_418 : vp_in 1 2 := inb_vp (by decide)
        refine va_iald hx hb hc.1 hW.1 13 0 rfl rfl b_418 dX10_readItem_418 ?_
        refine lv_iconst (v := 1) hx hb dX10_readItem_419 (by decide) ?_
        refine lv_iadd hx hb dX10_readItem_420 ?_
        have b_421 : vp_in 1 2 := inb_vp (by decide)
        refine va_iast hx hb hc.1 hW.1 hW.2.1 hW.2.2 13 0 rfl rfl b_421 dX10_readItem_421 (fun H locs hP hD hS => ?_)
        have hW : Wd G A s.heap [(h_this, oX10 ad_this v_typed q387.2.1 q387.2.2 v_kept v_all v_sightAll v_aheadMany), ((ad_this 9), cI G 8 a_boat), ((ad_this 8), cI G 2 a_boats), ((ad_this 12), cI G 10 q409.1), ((ad_this 13), cI G 4 a_costs), ((ad_this 2), cI G 6 a_goes), ((ad_this 5), cI G 2 a_houses), ((ad_this 7), cI G 12 a_minutes), ((ad_this 11), cI G 10 q409.2), ((ad_this 6), cI G 12 a_people), ((ad_this 3), cI G 2 a_signs), ((ad_this 0), cB G 200 a_text), ((ad_this 4), cI G 32 a_told), ((ad_this 10), cI G 2 ((upd a_works (Int32.toNatClampNeg 1) (((a_works (Int32.toNatClampNeg 1)) + 1)))))] H locs := ⟨hP, hD, hS⟩
        refine lv_goto (tgt := 463) hx hb dX10_readItem_422 (by decide) ?_
        obtain rfl := Option.some.inj hF
        exact hret _ _ _ _ hW dX10_readItem_463
    refine lv_icmp_ge (tgt := 368) hx hb dX10_readItem_361 (by decide) (fun c_361 => ?_) (fun c_361 => ?_)
    · have hF := ite_t hF c_361
      refine lv_iconst (v := 0) hx hb dX10_readItem_368 (by decide) ?_
      exact J_369 0 (Or.inl rfl) _ _ _ hF (lv_sub hl [1] rfl) hW
    · have hF := ite_f hF c_361
      refine lv_iconst (v := 1) hx hb dX10_readItem_364 (by decide) ?_
      refine lv_goto (tgt := 369) hx hb dX10_readItem_365 (by decide) ?_
      exact J_369 1 (Or.inr rfl) _ _ _ hF (lv_sub hl [1] rfl) hW
  have hF := ite_f hF w_21_119
  refine lv_lookup (off := 437) (tgt := 458) hx hb dX10_readItem_21 (by decide +kernel) (by simp only [Op.lookupswitch.offset, if_neg (i32_ne (k := 97) rfl w_21_97), if_neg (i32_ne (k := 98) rfl w_21_98), if_neg (i32_ne (k := 104) rfl w_21_104), if_neg (i32_ne (k := 108) rfl w_21_108), if_neg (i32_ne (k := 115) rfl w_21_115), if_neg (i32_ne (k := 119) rfl w_21_119)]) (by decide) ?_
  refine lv_aload_n hx hb dX10_readItem_458 rfl (lv_at hl 1 rfl) ?_
  refine lv_iconst (v := 0) hx hb dX10_readItem_459 (by decide) ?_
  refine va_put (D := G.1) (ci := 9) (v := .int 0) (ty := .boolean) (C := RX10) (T := TX10) (N := 31) hx hb hg hu_X10 tyX10 tyX10_ok nmX10 hown hc.1 hW.1 hW.2.1 hW.2.2 0 rfl rfl 15 (by decide) (hg _ wd_4_53) (fun _ h9 => h9) rfl (by decide +kernel) rfl rfl (Nat.le_of_ble_eq_true rfl) dX10_readItem_460 (fun H locs hP hD hS => ?_)
  have hW : Wd G A s.heap [(h_this, oX10 ad_this v_typed ((v_at + 1)) 0 v_kept v_all v_sightAll v_aheadMany), ((ad_this 9), cI G 8 a_boat), ((ad_this 8), cI G 2 a_boats), ((ad_this 12), cI G 10 a_brings), ((ad_this 13), cI G 4 a_costs), ((ad_this 2), cI G 6 a_goes), ((ad_this 5), cI G 2 a_houses), ((ad_this 7), cI G 12 a_minutes), ((ad_this 11), cI G 10 a_noise), ((ad_this 6), cI G 12 a_people), ((ad_this 3), cI G 2 a_signs), ((ad_this 0), cB G 200 a_text), ((ad_this 4), cI G 32 a_told), ((ad_this 10), cI G 2 a_works)] H locs := ⟨hP, hD, hS⟩
  obtain rfl := Option.some.inj hF
  exact hret _ _ _ _ hW dX10_readItem_463
theorem dX10_fault_0 : decode cX10_fault 0 = .ok (.aload_n 0, 1) := by decide +kernel
theorem dX10_fault_1 : decode cX10_fault 1 = .ok (.iconst 0, 1) := by decide +kernel
theorem dX10_fault_2 : decode cX10_fault 2 = .ok (.putfield 107, 3) := by decide +kernel
theorem dX10_fault_5 : decode cX10_fault 5 = .ok (.aload_n 0, 1) := by decide +kernel
theorem dX10_fault_6 : decode cX10_fault 6 = .ok (.iconst 1, 1) := by decide +kernel
theorem dX10_fault_7 : decode cX10_fault 7 = .ok (.iconst 1, 1) := by decide +kernel
theorem dX10_fault_8 : decode cX10_fault 8 = .ok (.iconst 1, 1) := by decide +kernel
theorem dX10_fault_9 : decode cX10_fault 9 = .ok (.iconst 1, 1) := by decide +kernel
theorem dX10_fault_10 : decode cX10_fault 10 = .ok (.invokevirtual 84, 3) := by decide +kernel
theorem dX10_fault_13 : decode cX10_fault 13 = .ok (.aload_n 0, 1) := by decide +kernel
theorem dX10_fault_14 : decode cX10_fault 14 = .ok (.getfield 17, 3) := by decide +kernel
theorem dX10_fault_17 : decode cX10_fault 17 = .ok (.iconst 1, 1) := by decide +kernel
theorem dX10_fault_18 : decode cX10_fault 18 = .ok (.iconst 0, 1) := by decide +kernel
theorem dX10_fault_19 : decode cX10_fault 19 = .ok (.iastore, 1) := by decide +kernel
theorem dX10_fault_20 : decode cX10_fault 20 = .ok (.aload_n 0, 1) := by decide +kernel
theorem dX10_fault_21 : decode cX10_fault 21 = .ok (.getfield 23, 3) := by decide +kernel
theorem dX10_fault_24 : decode cX10_fault 24 = .ok (.iconst 1, 1) := by decide +kernel
theorem dX10_fault_25 : decode cX10_fault 25 = .ok (.iconst 0, 1) := by decide +kernel
theorem dX10_fault_26 : decode cX10_fault 26 = .ok (.iastore, 1) := by decide +kernel
theorem dX10_fault_27 : decode cX10_fault 27 = .ok (.aload_n 0, 1) := by decide +kernel
theorem dX10_fault_28 : decode cX10_fault 28 = .ok (.getfield 32, 3) := by decide +kernel
theorem dX10_fault_31 : decode cX10_fault 31 = .ok (.iconst 1, 1) := by decide +kernel
theorem dX10_fault_32 : decode cX10_fault 32 = .ok (.iconst 0, 1) := by decide +kernel
theorem dX10_fault_33 : decode cX10_fault 33 = .ok (.iastore, 1) := by decide +kernel
theorem dX10_fault_34 : decode cX10_fault 34 = .ok (.aload_n 0, 1) := by decide +kernel
theorem dX10_fault_35 : decode cX10_fault 35 = .ok (.getfield 38, 3) := by decide +kernel
theorem dX10_fault_38 : decode cX10_fault 38 = .ok (.iconst 1, 1) := by decide +kernel
theorem dX10_fault_39 : decode cX10_fault 39 = .ok (.iconst 0, 1) := by decide +kernel
theorem dX10_fault_40 : decode cX10_fault 40 = .ok (.iastore, 1) := by decide +kernel
theorem dX10_fault_41 : decode cX10_fault 41 = .ok (.aload_n 0, 1) := by decide +kernel
theorem dX10_fault_42 : decode cX10_fault 42 = .ok (.getfield 47, 3) := by decide +kernel
theorem dX10_fault_45 : decode cX10_fault 45 = .ok (.iconst 2, 1) := by decide +kernel
theorem dX10_fault_46 : decode cX10_fault 46 = .ok (.bipush 60, 2) := by decide +kernel
theorem dX10_fault_48 : decode cX10_fault 48 = .ok (.iastore, 1) := by decide +kernel
theorem dX10_fault_49 : decode cX10_fault 49 = .ok (.aload_n 0, 1) := by decide +kernel
theorem dX10_fault_50 : decode cX10_fault 50 = .ok (.getfield 47, 3) := by decide +kernel
theorem dX10_fault_53 : decode cX10_fault 53 = .ok (.iconst 3, 1) := by decide +kernel
theorem dX10_fault_54 : decode cX10_fault 54 = .ok (.iconst 5, 1) := by decide +kernel
theorem dX10_fault_55 : decode cX10_fault 55 = .ok (.iastore, 1) := by decide +kernel
theorem dX10_fault_56 : decode cX10_fault 56 = .ok (.aload_n 0, 1) := by decide +kernel
theorem dX10_fault_57 : decode cX10_fault 57 = .ok (.getfield 107, 3) := by decide +kernel
theorem dX10_fault_60 : decode cX10_fault 60 = .ok (.aload_n 0, 1) := by decide +kernel
theorem dX10_fault_61 : decode cX10_fault 61 = .ok (.getfield 103, 3) := by decide +kernel
theorem dX10_fault_64 : decode cX10_fault 64 = .ok (.if_icmp .ge 24, 3) := by decide +kernel
theorem dX10_fault_67 : decode cX10_fault 67 = .ok (.aload_n 0, 1) := by decide +kernel
theorem dX10_fault_68 : decode cX10_fault 68 = .ok (.getfield 107, 3) := by decide +kernel
theorem dX10_fault_71 : decode cX10_fault 71 = .ok (.istore_n 1, 1) := by decide +kernel
theorem dX10_fault_72 : decode cX10_fault 72 = .ok (.aload_n 0, 1) := by decide +kernel
theorem dX10_fault_73 : decode cX10_fault 73 = .ok (.invokevirtual 122, 3) := by decide +kernel
theorem dX10_fault_76 : decode cX10_fault 76 = .ok (.aload_n 0, 1) := by decide +kernel
theorem dX10_fault_77 : decode cX10_fault 77 = .ok (.getfield 114, 3) := by decide +kernel
theorem dX10_fault_80 : decode cX10_fault 80 = .ok (.ifCond .ne 5, 3) := by decide +kernel
theorem dX10_fault_83 : decode cX10_fault 83 = .ok (.iload_n 1, 1) := by decide +kernel
theorem dX10_fault_84 : decode cX10_fault 84 = .ok (.ireturn, 1) := by decide +kernel
theorem dX10_fault_85 : decode cX10_fault 85 = .ok (.goto (-29), 3) := by decide +kernel
theorem dX10_fault_88 : decode cX10_fault 88 = .ok (.bipush (-4), 2) := by decide +kernel
theorem dX10_fault_90 : decode cX10_fault 90 = .ok (.ireturn, 1) := by decide +kernel
def L_X10_fault_56 (v_typed : Int32) (a_text : Nat → Int32)  : Nat → Int32 → Int32 → (Nat → Int32) → (Nat → Int32) → (Nat → Int32) → (Nat → Int32) → (Nat → Int32) → (Nat → Int32) → (Nat → Int32) → (Nat → Int32) → (Nat → Int32) → (Nat → Int32) → (Nat → Int32) → (Nat → Int32) → Option (Int32 × Int32 × Int32 × (Nat → Int32) × (Nat → Int32) × (Nat → Int32) × (Nat → Int32) × (Nat → Int32) × (Nat → Int32) × (Nat → Int32) × (Nat → Int32) × (Nat → Int32) × (Nat → Int32) × (Nat → Int32) × (Nat → Int32))
  | 0, _, _, _, _, _, _, _, _, _, _, _, _, _, _ => none
  | n + 1, v_at_56, v_isSo_56, a_boat_56, a_boats_56, a_brings_56, a_costs_56, a_goes_56, a_houses_56, a_minutes_56, a_noise_56, a_people_56, a_signs_56, a_told_56, a_works_56 => (if v_typed ≤ v_at_56 then some ((-4), v_at_56, v_isSo_56, a_boat_56, a_boats_56, a_brings_56, a_costs_56, a_goes_56, a_houses_56, a_minutes_56, a_noise_56, a_people_56, a_signs_56, a_told_56, a_works_56) else (F_X10_readItem v_at_56 v_isSo_56 v_typed a_boat_56 a_boats_56 a_brings_56 a_costs_56 a_goes_56 a_houses_56 a_minutes_56 a_noise_56 a_people_56 a_signs_56 a_text a_told_56 a_works_56).bind (fun q73 => (if q73.2.1 = 0 then some (v_at_56, q73.1, q73.2.1, q73.2.2.1, q73.2.2.2.1, q73.2.2.2.2.1, q73.2.2.2.2.2.1, q73.2.2.2.2.2.2.1, q73.2.2.2.2.2.2.2.1, q73.2.2.2.2.2.2.2.2.1, q73.2.2.2.2.2.2.2.2.2.1, q73.2.2.2.2.2.2.2.2.2.2.1, q73.2.2.2.2.2.2.2.2.2.2.2.1, q73.2.2.2.2.2.2.2.2.2.2.2.2.1, q73.2.2.2.2.2.2.2.2.2.2.2.2.2) else L_X10_fault_56 v_typed a_text n q73.1 q73.2.1 q73.2.2.1 q73.2.2.2.1 q73.2.2.2.2.1 q73.2.2.2.2.2.1 q73.2.2.2.2.2.2.1 q73.2.2.2.2.2.2.2.1 q73.2.2.2.2.2.2.2.2.1 q73.2.2.2.2.2.2.2.2.2.1 q73.2.2.2.2.2.2.2.2.2.2.1 q73.2.2.2.2.2.2.2.2.2.2.2.1 q73.2.2.2.2.2.2.2.2.2.2.2.2.1 q73.2.2.2.2.2.2.2.2.2.2.2.2.2)))
def F_X10_fault (v_at : Int32) (v_isSo : Int32) (v_typed : Int32) (a_boat : Nat → Int32) (a_boats : Nat → Int32) (a_brings : Nat → Int32) (a_costs : Nat → Int32) (a_goes : Nat → Int32) (a_houses : Nat → Int32) (a_minutes : Nat → Int32) (a_noise : Nat → Int32) (a_people : Nat → Int32) (a_signs : Nat → Int32) (a_text : Nat → Int32) (a_told : Nat → Int32) (a_works : Nat → Int32) : Option (Int32 × Int32 × Int32 × (Nat → Int32) × (Nat → Int32) × (Nat → Int32) × (Nat → Int32) × (Nat → Int32) × (Nat → Int32) × (Nat → Int32) × (Nat → Int32) × (Nat → Int32) × (Nat → Int32) × (Nat → Int32) × (Nat → Int32)) := (F_X10_law 1 1 1 1 a_goes).bind (fun q10 => L_X10_fault_56 v_typed a_text 5000 0 v_isSo a_boat ((upd a_boats (Int32.toNatClampNeg 1) 0)) a_brings ((upd ((upd a_costs (Int32.toNatClampNeg 2) 60)) (Int32.toNatClampNeg 3) 5)) q10 ((upd a_houses (Int32.toNatClampNeg 1) 0)) a_minutes a_noise a_people ((upd a_signs (Int32.toNatClampNeg 1) 0)) a_told ((upd a_works (Int32.toNatClampNeg 1) 0)))
theorem hdV_X10_fault : yX10_fault.cls = RX10 ∧ yX10_fault.cls ≠ "java/lang/invoke/MethodHandle" ∧ yX10_fault.cls ≠ "java/lang/invoke/VarHandle" ∧ (parseMethodDescriptor yX10_fault.desc).map (fun d => d.parameters.length) = some 0 := by decide +kernel
set_option maxHeartbeats 4000000 in
set_option maxRecDepth 100000 in
theorem c_X10_fault (l : Launch) (G : GG) (h_this : Nat) (ad_this : Nat → Nat) (v_typed : Int32) (v_at : Int32) (v_isSo : Int32) (v_kept : Int32) (v_all : Int64) (v_sightAll : Int64) (v_aheadMany : Int32) (a_boat : Nat → Int32) (a_boats : Nat → Int32) (a_brings : Nat → Int32) (a_costs : Nat → Int32) (a_goes : Nat → Int32) (a_houses : Nat → Int32) (a_minutes : Nat → Int32) (a_noise : Nat → Int32) (a_people : Nat → Int32) (a_signs : Nat → Int32) (a_text : Nat → Int32) (a_told : Nat → Int32) (a_works : Nat → Int32) (out : Int32 × Int32 × Int32 × (Nat → Int32) × (Nat → Int32) × (Nat → Int32) × (Nat → Int32) × (Nat → Int32) × (Nat → Int32) × (Nat → Int32) × (Nat → Int32) × (Nat → Int32) × (Nat → Int32) × (Nat → Int32) × (Nat → Int32)) (hF : F_X10_fault v_at v_isSo v_typed a_boat a_boats a_brings a_costs a_goes a_houses a_minutes a_noise a_people a_signs a_text a_told a_works = some out) : CtrI l yX10_fault (WS yX10_fault cX10_fault 2 (some .int)) { frames := 3, cells := 0, slots := 0, locals := 72 } G [.ref h_this] [(h_this, oX10 ad_this v_typed v_at v_isSo v_kept v_all v_sightAll v_aheadMany), ((ad_this 9), cI G 8 a_boat), ((ad_this 8), cI G 2 a_boats), ((ad_this 12), cI G 10 a_brings), ((ad_this 13), cI G 4 a_costs), ((ad_this 2), cI G 6 a_goes), ((ad_this 5), cI G 2 a_houses), ((ad_this 7), cI G 12 a_minutes), ((ad_this 11), cI G 10 a_noise), ((ad_this 6), cI G 12 a_people), ((ad_this 3), cI G 2 a_signs), ((ad_this 0), cB G 200 a_text), ((ad_this 4), cI G 32 a_told), ((ad_this 10), cI G 2 a_works)] [(h_this, oX10 ad_this v_typed out.2.1 out.2.2.1 v_kept v_all v_sightAll v_aheadMany), ((ad_this 9), cI G 8 out.2.2.2.1), ((ad_this 8), cI G 2 out.2.2.2.2.1), ((ad_this 12), cI G 10 out.2.2.2.2.2.1), ((ad_this 13), cI G 4 out.2.2.2.2.2.2.1), ((ad_this 2), cI G 6 out.2.2.2.2.2.2.2.1), ((ad_this 5), cI G 2 out.2.2.2.2.2.2.2.2.1), ((ad_this 7), cI G 12 out.2.2.2.2.2.2.2.2.2.1), ((ad_this 11), cI G 10 out.2.2.2.2.2.2.2.2.2.2.1), ((ad_this 6), cI G 12 out.2.2.2.2.2.2.2.2.2.2.2.1), ((ad_this 3), cI G 2 out.2.2.2.2.2.2.2.2.2.2.2.2.1), ((ad_this 0), cB G 200 a_text), ((ad_this 4), cI G 32 out.2.2.2.2.2.2.2.2.2.2.2.2.2.1), ((ad_this 10), cI G 2 out.2.2.2.2.2.2.2.2.2.2.2.2.2.2)] out.1 := by
  refine startI (cc := cX10_fault) (maxL := 2) (by decide) rfl (Nat.le_of_ble_eq_true rfl) ?_
  intro p e s m args below meth c A Q hx hb hml hts hown hc hA hret ls H locs hl hW
  have hown : s.vm.findClass RX10 = some m.cls := hown
  have hg : ∀ w ∈ GOODS, w.before _ s = true := fun w h => hts w (List.mem_cons_of_mem _ h)
  have hl : lv_has ls 2 [(0, .ref h_this)] := hl
  rw [F_X10_fault] at hF
  refine lv_aload_n hx hb dX10_fault_0 rfl (lv_at hl 0 rfl) ?_
  refine lv_iconst (v := 0) hx hb dX10_fault_1 (by decide) ?_
  refine va_put (D := G.1) (ci := 9) (v := .int 0) (ty := .int) (C := RX10) (T := TX10) (N := 31) hx hb hg hu_X10 tyX10 tyX10_ok nmX10 hown hc.1 hW.1 hW.2.1 hW.2.2 0 rfl rfl 14 (by decide) (hg _ wd_4_52) (fun _ h9 => h9) rfl (by decide +kernel) rfl rfl (Nat.le_of_ble_eq_true rfl) dX10_fault_2 (fun H locs hP hD hS => ?_)
  have hW : Wd G A s.heap [(h_this, oX10 ad_this v_typed 0 v_isSo v_kept v_all v_sightAll v_aheadMany), ((ad_this 9), cI G 8 a_boat), ((ad_this 8), cI G 2 a_boats), ((ad_this 12), cI G 10 a_brings), ((ad_this 13), cI G 4 a_costs), ((ad_this 2), cI G 6 a_goes), ((ad_this 5), cI G 2 a_houses), ((ad_this 7), cI G 12 a_minutes), ((ad_this 11), cI G 10 a_noise), ((ad_this 6), cI G 12 a_people), ((ad_this 3), cI G 2 a_signs), ((ad_this 0), cB G 200 a_text), ((ad_this 4), cI G 32 a_told), ((ad_this 10), cI G 2 a_works)] H locs := ⟨hP, hD, hS⟩
  refine lv_aload_n hx hb dX10_fault_5 rfl (lv_at hl 0 rfl) ?_
  refine lv_iconst (v := 1) hx hb dX10_fault_6 (by decide) ?_
  refine lv_iconst (v := 1) hx hb dX10_fault_7 (by decide) ?_
  refine lv_iconst (v := 1) hx hb dX10_fault_8 (by decide) ?_
  refine lv_iconst (v := 1) hx hb dX10_fault_9 (by decide) ?_
  obtain ⟨q10, c_10, hF⟩ := bd_el hF
  refine wcV (ws' := [(h_this, oX10 ad_this v_typed 0 v_isSo v_kept v_all v_sightAll v_aheadMany), ((ad_this 9), cI G 8 a_boat), ((ad_this 8), cI G 2 a_boats), ((ad_this 12), cI G 10 a_brings), ((ad_this 13), cI G 4 a_costs), ((ad_this 2), cI G 6 q10), ((ad_this 5), cI G 2 a_houses), ((ad_this 7), cI G 12 a_minutes), ((ad_this 11), cI G 10 a_noise), ((ad_this 6), cI G 12 a_people), ((ad_this 3), cI G 2 a_signs), ((ad_this 0), cB G 200 a_text), ((ad_this 4), cI G 32 a_told), ((ad_this 10), cI G 2 a_works)]) (wc := [(h_this, oX10 ad_this v_typed 0 v_isSo v_kept v_all v_sightAll v_aheadMany), ((ad_this 2), cI G 6 a_goes)]) (wr := [((ad_this 9), cI G 8 a_boat), ((ad_this 8), cI G 2 a_boats), ((ad_this 12), cI G 10 a_brings), ((ad_this 13), cI G 4 a_costs), ((ad_this 5), cI G 2 a_houses), ((ad_this 7), cI G 12 a_minutes), ((ad_this 11), cI G 10 a_noise), ((ad_this 6), cI G 12 a_people), ((ad_this 3), cI G 2 a_signs), ((ad_this 0), cB G 200 a_text), ((ad_this 4), cI G 32 a_told), ((ad_this 10), cI G 2 a_works)]) (w1 := [(h_this, oX10 ad_this v_typed 0 v_isSo v_kept v_all v_sightAll v_aheadMany), ((ad_this 2), cI G 6 q10)]) (va_runV (As := [.int 1, .int 1, .int 1, .int 1]) (rest := []) ⟨hx, hb, hml, hown, hg⟩ (c_X10_law l G 1 1 1 1 h_this ad_this v_typed 0 v_isSo v_kept v_all v_sightAll v_aheadMany a_goes q10 c_10 H.size) (cwV 4 hg (gV wd_4_22 wd_4_24 wd_0_23 wd_1_15 wd_4_25) rfl rfl rfl hdV_X10_law ⟨(Nat.le_of_ble_eq_true rfl), (Nat.le_of_ble_eq_true rfl)⟩) (preV hc hW [0, 5] rfl (by decide) rfl rfl) rfl rfl hl.1 rfl (lv_room (Nat.le_of_ble_eq_true rfl)) dX10_fault_10 ⟨Nat.zero_le _, Nat.zero_le _⟩) hA hW [0, 5] [1, 2, 3, 4, 6, 7, 8, 9, 10, 11, 12, 13] [12, 0, 1, 2, 3, 13, 4, 5, 6, 7, 8, 9, 10, 11] rfl rfl (by decide) (by decide) rfl (by decide) (fun H locs hW => ?_)
  refine lv_aload_n hx hb dX10_fault_13 rfl (lv_at hl 0 rfl) ?_
  refine va_get (D := G.1) (ci := 9) (v := .ref ((ad_this 3))) (C := RX10) (T := TX10) (N := 31) hx hb hg hu_X10 hown hc.1 hW.1 0 rfl rfl 3 (by decide) (hg _ wd_4_41) (fun _ h9 => h9) rfl dX10_fault_14 ?_
  refine lv_iconst (v := 1) hx hb dX10_fault_17 (by decide) ?_
  refine lv_iconst (v := 0) hx hb dX10_fault_18 (by decide) ?_
  have b_19 : vp_in 1 2 := inb_vp (by decide)
  refine va_iast hx hb hc.1 hW.1 hW.2.1 hW.2.2 10 0 rfl rfl b_19 dX10_fault_19 (fun H locs hP hD hS => ?_)
  have hW : Wd G A s.heap [(h_this, oX10 ad_this v_typed 0 v_isSo v_kept v_all v_sightAll v_aheadMany), ((ad_this 9), cI G 8 a_boat), ((ad_this 8), cI G 2 a_boats), ((ad_this 12), cI G 10 a_brings), ((ad_this 13), cI G 4 a_costs), ((ad_this 2), cI G 6 q10), ((ad_this 5), cI G 2 a_houses), ((ad_this 7), cI G 12 a_minutes), ((ad_this 11), cI G 10 a_noise), ((ad_this 6), cI G 12 a_people), ((ad_this 3), cI G 2 ((upd a_signs (Int32.toNatClampNeg 1) 0))), ((ad_this 0), cB G 200 a_text), ((ad_this 4), cI G 32 a_told), ((ad_this 10), cI G 2 a_works)] H locs := ⟨hP, hD, hS⟩
  refine lv_aload_n hx hb dX10_fault_20 rfl (lv_at hl 0 rfl) ?_
  refine va_get (D := G.1) (ci := 9) (v := .ref ((ad_this 5))) (C := RX10) (T := TX10) (N := 31) hx hb hg hu_X10 hown hc.1 hW.1 0 rfl rfl 5 (by decide) (hg _ wd_4_43) (fun _ h9 => h9) rfl dX10_fault_21 ?_
  refine lv_iconst (v := 1) hx hb dX10_fault_24 (by decide) ?_
  refine lv_iconst (v := 0) hx hb dX10_fault_25 (by decide) ?_
  have b_26 : vp_in 1 2 := inb_vp (by decide)
  refine va_iast hx hb hc.1 hW.1 hW.2.1 hW.2.2 6 0 rfl rfl b_26 dX10_fault_26 (fun H locs hP hD hS => ?_)
  have hW : Wd G A s.heap [(h_this, oX10 ad_this v_typed 0 v_isSo v_kept v_all v_sightAll v_aheadMany), ((ad_this 9), cI G 8 a_boat), ((ad_this 8), cI G 2 a_boats), ((ad_this 12), cI G 10 a_brings), ((ad_this 13), cI G 4 a_costs), ((ad_this 2), cI G 6 q10), ((ad_this 5), cI G 2 ((upd a_houses (Int32.toNatClampNeg 1) 0))), ((ad_this 7), cI G 12 a_minutes), ((ad_this 11), cI G 10 a_noise), ((ad_this 6), cI G 12 a_people), ((ad_this 3), cI G 2 ((upd a_signs (Int32.toNatClampNeg 1) 0))), ((ad_this 0), cB G 200 a_text), ((ad_this 4), cI G 32 a_told), ((ad_this 10), cI G 2 a_works)] H locs := ⟨hP, hD, hS⟩
  refine lv_aload_n hx hb dX10_fault_27 rfl (lv_at hl 0 rfl) ?_
  refine va_get (D := G.1) (ci := 9) (v := .ref ((ad_this 8))) (C := RX10) (T := TX10) (N := 31) hx hb hg hu_X10 hown hc.1 hW.1 0 rfl rfl 8 (by decide) (hg _ wd_4_46) (fun _ h9 => h9) rfl dX10_fault_28 ?_
  refine lv_iconst (v := 1) hx hb dX10_fault_31 (by decide) ?_
  refine lv_iconst (v := 0) hx hb dX10_fault_32 (by decide) ?_
  have b_33 : vp_in 1 2 := inb_vp (by decide)
  refine va_iast hx hb hc.1 hW.1 hW.2.1 hW.2.2 2 0 rfl rfl b_33 dX10_fault_33 (fun H locs hP hD hS => ?_)
  have hW : Wd G A s.heap [(h_this, oX10 ad_this v_typed 0 v_isSo v_kept v_all v_sightAll v_aheadMany), ((ad_this 9), cI G 8 a_boat), ((ad_this 8), cI G 2 ((upd a_boats (Int32.toNatClampNeg 1) 0))), ((ad_this 12), cI G 10 a_brings), ((ad_this 13), cI G 4 a_costs), ((ad_this 2), cI G 6 q10), ((ad_this 5), cI G 2 ((upd a_houses (Int32.toNatClampNeg 1) 0))), ((ad_this 7), cI G 12 a_minutes), ((ad_this 11), cI G 10 a_noise), ((ad_this 6), cI G 12 a_people), ((ad_this 3), cI G 2 ((upd a_signs (Int32.toNatClampNeg 1) 0))), ((ad_this 0), cB G 200 a_text), ((ad_this 4), cI G 32 a_told), ((ad_this 10), cI G 2 a_works)] H locs := ⟨hP, hD, hS⟩
  refine lv_aload_n hx hb dX10_fault_34 rfl (lv_at hl 0 rfl) ?_
  refine va_get (D := G.1) (ci := 9) (v := .ref ((ad_this 10))) (C := RX10) (T := TX10) (N := 31) hx hb hg hu_X10 hown hc.1 hW.1 0 rfl rfl 10 (by decide) (hg _ wd_4_48) (fun _ h9 => h9) rfl dX10_fault_35 ?_
  refine lv_iconst (v := 1) hx hb dX10_fault_38 (by decide) ?_
  refine lv_iconst (v := 0) hx hb dX10_fault_39 (by decide) ?_
  have b_40 : vp_in 1 2 := inb_vp (by decide)
  refine va_iast hx hb hc.1 hW.1 hW.2.1 hW.2.2 13 0 rfl rfl b_40 dX10_fault_40 (fun H locs hP hD hS => ?_)
  have hW : Wd G A s.heap [(h_this, oX10 ad_this v_typed 0 v_isSo v_kept v_all v_sightAll v_aheadMany), ((ad_this 9), cI G 8 a_boat), ((ad_this 8), cI G 2 ((upd a_boats (Int32.toNatClampNeg 1) 0))), ((ad_this 12), cI G 10 a_brings), ((ad_this 13), cI G 4 a_costs), ((ad_this 2), cI G 6 q10), ((ad_this 5), cI G 2 ((upd a_houses (Int32.toNatClampNeg 1) 0))), ((ad_this 7), cI G 12 a_minutes), ((ad_this 11), cI G 10 a_noise), ((ad_this 6), cI G 12 a_people), ((ad_this 3), cI G 2 ((upd a_signs (Int32.toNatClampNeg 1) 0))), ((ad_this 0), cB G 200 a_text), ((ad_this 4), cI G 32 a_told), ((ad_this 10), cI G 2 ((upd a_works (Int32.toNatClampNeg 1) 0)))] H locs := ⟨hP, hD, hS⟩
  refine lv_aload_n hx hb dX10_fault_41 rfl (lv_at hl 0 rfl) ?_
  refine va_get (D := G.1) (ci := 9) (v := .ref ((ad_this 13))) (C := RX10) (T := TX10) (N := 31) hx hb hg hu_X10 hown hc.1 hW.1 0 rfl rfl 13 (by decide) (hg _ wd_4_51) (fun _ h9 => h9) rfl dX10_fault_42 ?_
  refine lv_iconst (v := 2) hx hb dX10_fault_45 (by decide) ?_
  refine lv_bipush (v := 60) hx hb dX10_fault_46 (by decide) ?_
  have b_48 : vp_in 2 4 := inb_vp (by decide)
  refine va_iast hx hb hc.1 hW.1 hW.2.1 hW.2.2 4 0 rfl rfl b_48 dX10_fault_48 (fun H locs hP hD hS => ?_)
  have hW : Wd G A s.heap [(h_this, oX10 ad_this v_typed 0 v_isSo v_kept v_all v_sightAll v_aheadMany), ((ad_this 9), cI G 8 a_boat), ((ad_this 8), cI G 2 ((upd a_boats (Int32.toNatClampNeg 1) 0))), ((ad_this 12), cI G 10 a_brings), ((ad_this 13), cI G 4 ((upd a_costs (Int32.toNatClampNeg 2) 60))), ((ad_this 2), cI G 6 q10), ((ad_this 5), cI G 2 ((upd a_houses (Int32.toNatClampNeg 1) 0))), ((ad_this 7), cI G 12 a_minutes), ((ad_this 11), cI G 10 a_noise), ((ad_this 6), cI G 12 a_people), ((ad_this 3), cI G 2 ((upd a_signs (Int32.toNatClampNeg 1) 0))), ((ad_this 0), cB G 200 a_text), ((ad_this 4), cI G 32 a_told), ((ad_this 10), cI G 2 ((upd a_works (Int32.toNatClampNeg 1) 0)))] H locs := ⟨hP, hD, hS⟩
  refine lv_aload_n hx hb dX10_fault_49 rfl (lv_at hl 0 rfl) ?_
  refine va_get (D := G.1) (ci := 9) (v := .ref ((ad_this 13))) (C := RX10) (T := TX10) (N := 31) hx hb hg hu_X10 hown hc.1 hW.1 0 rfl rfl 13 (by decide) (hg _ wd_4_51) (fun _ h9 => h9) rfl dX10_fault_50 ?_
  refine lv_iconst (v := 3) hx hb dX10_fault_53 (by decide) ?_
  refine lv_iconst (v := 5) hx hb dX10_fault_54 (by decide) ?_
  have b_55 : vp_in 3 4 := inb_vp (by decide)
  refine va_iast hx hb hc.1 hW.1 hW.2.1 hW.2.2 4 0 rfl rfl b_55 dX10_fault_55 (fun H locs hP hD hS => ?_)
  have hW : Wd G A s.heap [(h_this, oX10 ad_this v_typed 0 v_isSo v_kept v_all v_sightAll v_aheadMany), ((ad_this 9), cI G 8 a_boat), ((ad_this 8), cI G 2 ((upd a_boats (Int32.toNatClampNeg 1) 0))), ((ad_this 12), cI G 10 a_brings), ((ad_this 13), cI G 4 ((upd ((upd a_costs (Int32.toNatClampNeg 2) 60)) (Int32.toNatClampNeg 3) 5))), ((ad_this 2), cI G 6 q10), ((ad_this 5), cI G 2 ((upd a_houses (Int32.toNatClampNeg 1) 0))), ((ad_this 7), cI G 12 a_minutes), ((ad_this 11), cI G 10 a_noise), ((ad_this 6), cI G 12 a_people), ((ad_this 3), cI G 2 ((upd a_signs (Int32.toNatClampNeg 1) 0))), ((ad_this 0), cB G 200 a_text), ((ad_this 4), cI G 32 a_told), ((ad_this 10), cI G 2 ((upd a_works (Int32.toNatClampNeg 1) 0)))] H locs := ⟨hP, hD, hS⟩
  have L_56 : ∀ (n : Nat) (v_at_56 : Int32) (v_isSo_56 : Int32) (a_boat_56 : Nat → Int32) (a_boats_56 : Nat → Int32) (a_brings_56 : Nat → Int32) (a_costs_56 : Nat → Int32) (a_goes_56 : Nat → Int32) (a_houses_56 : Nat → Int32) (a_minutes_56 : Nat → Int32) (a_noise_56 : Nat → Int32) (a_people_56 : Nat → Int32) (a_signs_56 : Nat → Int32) (a_told_56 : Nat → Int32) (a_works_56 : Nat → Int32) (ls : Array Slot) (H : Heap) (locs : List Loc), L_X10_fault_56 v_typed a_text n v_at_56 v_isSo_56 a_boat_56 a_boats_56 a_brings_56 a_costs_56 a_goes_56 a_houses_56 a_minutes_56 a_noise_56 a_people_56 a_signs_56 a_told_56 a_works_56 = some out → lv_has ls 2 [(0, .ref h_this)] → Wd G A s.heap [(h_this, oX10 ad_this v_typed v_at_56 v_isSo_56 v_kept v_all v_sightAll v_aheadMany), ((ad_this 9), cI G 8 a_boat_56), ((ad_this 8), cI G 2 a_boats_56), ((ad_this 12), cI G 10 a_brings_56), ((ad_this 13), cI G 4 a_costs_56), ((ad_this 2), cI G 6 a_goes_56), ((ad_this 5), cI G 2 a_houses_56), ((ad_this 7), cI G 12 a_minutes_56), ((ad_this 11), cI G 10 a_noise_56), ((ad_this 6), cI G 12 a_people_56), ((ad_this 3), cI G 2 a_signs_56), ((ad_this 0), cB G 200 a_text), ((ad_this 4), cI G 32 a_told_56), ((ad_this 10), cI G 2 a_works_56)] H locs → W p l e ({ frames := 3, cells := 0, slots := 0, locals := 72 } : Room) s m args below meth c H locs 0 0 Q (F0 m 56 ls []) := by
    intro n
    induction n with
    | zero => intro v_at_56 v_isSo_56 a_boat_56 a_boats_56 a_brings_56 a_costs_56 a_goes_56 a_houses_56 a_minutes_56 a_noise_56 a_people_56 a_signs_56 a_told_56 a_works_56 ls H locs hF hl hW; have h0 : none = some out := hF; cases h0
    | succ n ih =>
      intro v_at_56 v_isSo_56 a_boat_56 a_boats_56 a_brings_56 a_costs_56 a_goes_56 a_houses_56 a_minutes_56 a_noise_56 a_people_56 a_signs_56 a_told_56 a_works_56 ls H locs hF hl hW
      rw [L_X10_fault_56] at hF
      refine lv_aload_n hx hb dX10_fault_56 rfl (lv_at hl 0 rfl) ?_
      refine va_get (D := G.1) (ci := 9) (v := .int v_at_56) (C := RX10) (T := TX10) (N := 31) hx hb hg hu_X10 hown hc.1 hW.1 0 rfl rfl 14 (by decide) (hg _ wd_4_52) (fun _ h9 => h9) rfl dX10_fault_57 ?_
      refine lv_aload_n hx hb dX10_fault_60 rfl (lv_at hl 0 rfl) ?_
      refine va_get (D := G.1) (ci := 9) (v := .int v_typed) (C := RX10) (T := TX10) (N := 31) hx hb hg hu_X10 hown hc.1 hW.1 0 rfl rfl 1 (by decide) (hg _ wd_4_39) (fun _ h9 => h9) rfl dX10_fault_61 ?_
      refine lv_icmp_ge (tgt := 88) hx hb dX10_fault_64 (by decide) (fun c_64 => ?_) (fun c_64 => ?_)
      · have hF := ite_t hF c_64
        refine lv_bipush (v := (-4)) hx hb dX10_fault_88 (by decide) ?_
        obtain rfl := Option.some.inj hF
        exact hret _ _ _ _ hW dX10_fault_90
      · have hF := ite_f hF c_64
        refine lv_aload_n hx hb dX10_fault_67 rfl (lv_at hl 0 rfl) ?_
        refine va_get (D := G.1) (ci := 9) (v := .int v_at_56) (C := RX10) (T := TX10) (N := 31) hx hb hg hu_X10 hown hc.1 hW.1 0 rfl rfl 14 (by decide) (hg _ wd_4_52) (fun _ h9 => h9) rfl dX10_fault_68 ?_
        refine lv_istore_n (lv' := [(1, .int v_at_56), (0, .ref h_this)]) hx hb dX10_fault_71 rfl hl (by decide) rfl (fun ls hl => ?_)
        refine lv_aload_n hx hb dX10_fault_72 rfl (lv_at hl 1 rfl) ?_
        obtain ⟨q73, c_73, hF⟩ := bd_el hF
        refine wcV (ws' := [(h_this, oX10 ad_this v_typed q73.1 q73.2.1 v_kept v_all v_sightAll v_aheadMany), ((ad_this 9), cI G 8 q73.2.2.1), ((ad_this 8), cI G 2 q73.2.2.2.1), ((ad_this 12), cI G 10 q73.2.2.2.2.1), ((ad_this 13), cI G 4 q73.2.2.2.2.2.1), ((ad_this 2), cI G 6 q73.2.2.2.2.2.2.1), ((ad_this 5), cI G 2 q73.2.2.2.2.2.2.2.1), ((ad_this 7), cI G 12 q73.2.2.2.2.2.2.2.2.1), ((ad_this 11), cI G 10 q73.2.2.2.2.2.2.2.2.2.1), ((ad_this 6), cI G 12 q73.2.2.2.2.2.2.2.2.2.2.1), ((ad_this 3), cI G 2 q73.2.2.2.2.2.2.2.2.2.2.2.1), ((ad_this 0), cB G 200 a_text), ((ad_this 4), cI G 32 q73.2.2.2.2.2.2.2.2.2.2.2.2.1), ((ad_this 10), cI G 2 q73.2.2.2.2.2.2.2.2.2.2.2.2.2)]) (wc := [(h_this, oX10 ad_this v_typed v_at_56 v_isSo_56 v_kept v_all v_sightAll v_aheadMany), ((ad_this 9), cI G 8 a_boat_56), ((ad_this 8), cI G 2 a_boats_56), ((ad_this 12), cI G 10 a_brings_56), ((ad_this 13), cI G 4 a_costs_56), ((ad_this 2), cI G 6 a_goes_56), ((ad_this 5), cI G 2 a_houses_56), ((ad_this 7), cI G 12 a_minutes_56), ((ad_this 11), cI G 10 a_noise_56), ((ad_this 6), cI G 12 a_people_56), ((ad_this 3), cI G 2 a_signs_56), ((ad_this 0), cB G 200 a_text), ((ad_this 4), cI G 32 a_told_56), ((ad_this 10), cI G 2 a_works_56)]) (wr := []) (w1 := [(h_this, oX10 ad_this v_typed q73.1 q73.2.1 v_kept v_all v_sightAll v_aheadMany), ((ad_this 9), cI G 8 q73.2.2.1), ((ad_this 8), cI G 2 q73.2.2.2.1), ((ad_this 12), cI G 10 q73.2.2.2.2.1), ((ad_this 13), cI G 4 q73.2.2.2.2.2.1), ((ad_this 2), cI G 6 q73.2.2.2.2.2.2.1), ((ad_this 5), cI G 2 q73.2.2.2.2.2.2.2.1), ((ad_this 7), cI G 12 q73.2.2.2.2.2.2.2.2.1), ((ad_this 11), cI G 10 q73.2.2.2.2.2.2.2.2.2.1), ((ad_this 6), cI G 12 q73.2.2.2.2.2.2.2.2.2.2.1), ((ad_this 3), cI G 2 q73.2.2.2.2.2.2.2.2.2.2.2.1), ((ad_this 0), cB G 200 a_text), ((ad_this 4), cI G 32 q73.2.2.2.2.2.2.2.2.2.2.2.2.1), ((ad_this 10), cI G 2 q73.2.2.2.2.2.2.2.2.2.2.2.2.2)]) (va_runV (As := []) (rest := []) ⟨hx, hb, hml, hown, hg⟩ (c_X10_readItem l G h_this ad_this v_typed v_at_56 v_isSo_56 v_kept v_all v_sightAll v_aheadMany a_boat_56 a_boats_56 a_brings_56 a_costs_56 a_goes_56 a_houses_56 a_minutes_56 a_noise_56 a_people_56 a_signs_56 a_text a_told_56 a_works_56 q73 c_73 H.size) (cwV 0 hg (gV wd_4_147 wd_4_149 wd_0_27 wd_1_15 wd_4_150) rfl rfl rfl hdV_X10_readItem ⟨(Nat.le_of_ble_eq_true rfl), (Nat.le_of_ble_eq_true rfl)⟩) (preV hc hW [0, 1, 2, 3, 4, 5, 6, 7, 8, 9, 10, 11, 12, 13] rfl (by decide) rfl rfl) rfl rfl hl.1 rfl (lv_room (Nat.le_of_ble_eq_true rfl)) dX10_fault_73 ⟨Nat.zero_le _, Nat.zero_le _⟩) hA hW [0, 1, 2, 3, 4, 5, 6, 7, 8, 9, 10, 11, 12, 13] [] [0, 1, 2, 3, 4, 5, 6, 7, 8, 9, 10, 11, 12, 13] rfl rfl (by decide) (by decide) rfl (by decide) (fun H locs hW => ?_)
        refine lv_aload_n hx hb dX10_fault_76 rfl (lv_at hl 1 rfl) ?_
        refine va_get (D := G.1) (ci := 9) (v := .int q73.2.1) (C := RX10) (T := TX10) (N := 31) hx hb hg hu_X10 hown hc.1 hW.1 0 rfl rfl 15 (by decide) (hg _ wd_4_53) (fun _ h9 => h9) rfl dX10_fault_77 ?_
        refine lv_if_ne (tgt := 85) hx hb dX10_fault_80 (by decide) (fun c_80 => ?_) (fun c_80 => ?_)
        · have hF := ite_f hF c_80
          refine lv_goto (tgt := 56) hx hb dX10_fault_85 (by decide) ?_
          exact ih q73.1 q73.2.1 q73.2.2.1 q73.2.2.2.1 q73.2.2.2.2.1 q73.2.2.2.2.2.1 q73.2.2.2.2.2.2.1 q73.2.2.2.2.2.2.2.1 q73.2.2.2.2.2.2.2.2.1 q73.2.2.2.2.2.2.2.2.2.1 q73.2.2.2.2.2.2.2.2.2.2.1 q73.2.2.2.2.2.2.2.2.2.2.2.1 q73.2.2.2.2.2.2.2.2.2.2.2.2.1 q73.2.2.2.2.2.2.2.2.2.2.2.2.2 _ _ _ hF (lv_sub hl [1] rfl) hW
        · have hF := ite_t hF c_80
          refine lv_iload_n hx hb dX10_fault_83 rfl (lv_at hl 0 rfl) ?_
          obtain rfl := Option.some.inj hF
          exact hret _ _ _ _ hW dX10_fault_84
  exact L_56 5000 0 v_isSo a_boat ((upd a_boats (Int32.toNatClampNeg 1) 0)) a_brings ((upd ((upd a_costs (Int32.toNatClampNeg 2) 60)) (Int32.toNatClampNeg 3) 5)) q10 ((upd a_houses (Int32.toNatClampNeg 1) 0)) a_minutes a_noise a_people ((upd a_signs (Int32.toNatClampNeg 1) 0)) a_told ((upd a_works (Int32.toNatClampNeg 1) 0)) _ _ _ hF (lv_sub hl [0] rfl) hW
theorem dX10_lay_0 : decode cX10_lay 0 = .ok (.aload_n 0, 1) := by decide +kernel
theorem dX10_lay_1 : decode cX10_lay 1 = .ok (.invokevirtual 125, 3) := by decide +kernel
theorem dX10_lay_4 : decode cX10_lay 4 = .ok (.bipush (-4), 2) := by decide +kernel
theorem dX10_lay_6 : decode cX10_lay 6 = .ok (.if_icmp .ne 12, 3) := by decide +kernel
theorem dX10_lay_9 : decode cX10_lay 9 = .ok (.aload_n 0, 1) := by decide +kernel
theorem dX10_lay_10 : decode cX10_lay 10 = .ok (.getfield 17, 3) := by decide +kernel
theorem dX10_lay_13 : decode cX10_lay 13 = .ok (.iconst 1, 1) := by decide +kernel
theorem dX10_lay_14 : decode cX10_lay 14 = .ok (.iaload, 1) := by decide +kernel
theorem dX10_lay_15 : decode cX10_lay 15 = .ok (.ifCond .ne 6, 3) := by decide +kernel
theorem dX10_lay_18 : decode cX10_lay 18 = .ok (.bipush (-2), 2) := by decide +kernel
theorem dX10_lay_20 : decode cX10_lay 20 = .ok (.ireturn, 1) := by decide +kernel
theorem dX10_lay_21 : decode cX10_lay 21 = .ok (.aload_n 0, 1) := by decide +kernel
theorem dX10_lay_22 : decode cX10_lay 22 = .ok (.iconst 0, 1) := by decide +kernel
theorem dX10_lay_23 : decode cX10_lay 23 = .ok (.aload_n 0, 1) := by decide +kernel
theorem dX10_lay_24 : decode cX10_lay 24 = .ok (.getfield 13, 3) := by decide +kernel
theorem dX10_lay_27 : decode cX10_lay 27 = .ok (.iconst 3, 1) := by decide +kernel
theorem dX10_lay_28 : decode cX10_lay 28 = .ok (.iaload, 1) := by decide +kernel
theorem dX10_lay_29 : decode cX10_lay 29 = .ok (.aload_n 0, 1) := by decide +kernel
theorem dX10_lay_30 : decode cX10_lay 30 = .ok (.getfield 13, 3) := by decide +kernel
theorem dX10_lay_33 : decode cX10_lay 33 = .ok (.iconst 4, 1) := by decide +kernel
theorem dX10_lay_34 : decode cX10_lay 34 = .ok (.iaload, 1) := by decide +kernel
theorem dX10_lay_35 : decode cX10_lay 35 = .ok (.aload_n 0, 1) := by decide +kernel
theorem dX10_lay_36 : decode cX10_lay 36 = .ok (.getfield 13, 3) := by decide +kernel
theorem dX10_lay_39 : decode cX10_lay 39 = .ok (.iconst 5, 1) := by decide +kernel
theorem dX10_lay_40 : decode cX10_lay 40 = .ok (.iaload, 1) := by decide +kernel
theorem dX10_lay_41 : decode cX10_lay 41 = .ok (.invokevirtual 84, 3) := by decide +kernel
theorem dX10_lay_44 : decode cX10_lay 44 = .ok (.aload_n 0, 1) := by decide +kernel
theorem dX10_lay_45 : decode cX10_lay 45 = .ok (.getfield 17, 3) := by decide +kernel
theorem dX10_lay_48 : decode cX10_lay 48 = .ok (.iconst 0, 1) := by decide +kernel
theorem dX10_lay_49 : decode cX10_lay 49 = .ok (.aload_n 0, 1) := by decide +kernel
theorem dX10_lay_50 : decode cX10_lay 50 = .ok (.getfield 17, 3) := by decide +kernel
theorem dX10_lay_53 : decode cX10_lay 53 = .ok (.iconst 1, 1) := by decide +kernel
theorem dX10_lay_54 : decode cX10_lay 54 = .ok (.iaload, 1) := by decide +kernel
theorem dX10_lay_55 : decode cX10_lay 55 = .ok (.iastore, 1) := by decide +kernel
theorem dX10_lay_56 : decode cX10_lay 56 = .ok (.aload_n 0, 1) := by decide +kernel
theorem dX10_lay_57 : decode cX10_lay 57 = .ok (.getfield 23, 3) := by decide +kernel
theorem dX10_lay_60 : decode cX10_lay 60 = .ok (.iconst 0, 1) := by decide +kernel
theorem dX10_lay_61 : decode cX10_lay 61 = .ok (.aload_n 0, 1) := by decide +kernel
theorem dX10_lay_62 : decode cX10_lay 62 = .ok (.getfield 23, 3) := by decide +kernel
theorem dX10_lay_65 : decode cX10_lay 65 = .ok (.iconst 1, 1) := by decide +kernel
theorem dX10_lay_66 : decode cX10_lay 66 = .ok (.iaload, 1) := by decide +kernel
theorem dX10_lay_67 : decode cX10_lay 67 = .ok (.iastore, 1) := by decide +kernel
theorem dX10_lay_68 : decode cX10_lay 68 = .ok (.aload_n 0, 1) := by decide +kernel
theorem dX10_lay_69 : decode cX10_lay 69 = .ok (.getfield 32, 3) := by decide +kernel
theorem dX10_lay_72 : decode cX10_lay 72 = .ok (.iconst 0, 1) := by decide +kernel
theorem dX10_lay_73 : decode cX10_lay 73 = .ok (.aload_n 0, 1) := by decide +kernel
theorem dX10_lay_74 : decode cX10_lay 74 = .ok (.getfield 32, 3) := by decide +kernel
theorem dX10_lay_77 : decode cX10_lay 77 = .ok (.iconst 1, 1) := by decide +kernel
theorem dX10_lay_78 : decode cX10_lay 78 = .ok (.iaload, 1) := by decide +kernel
theorem dX10_lay_79 : decode cX10_lay 79 = .ok (.iastore, 1) := by decide +kernel
theorem dX10_lay_80 : decode cX10_lay 80 = .ok (.aload_n 0, 1) := by decide +kernel
theorem dX10_lay_81 : decode cX10_lay 81 = .ok (.getfield 38, 3) := by decide +kernel
theorem dX10_lay_84 : decode cX10_lay 84 = .ok (.iconst 0, 1) := by decide +kernel
theorem dX10_lay_85 : decode cX10_lay 85 = .ok (.aload_n 0, 1) := by decide +kernel
theorem dX10_lay_86 : decode cX10_lay 86 = .ok (.getfield 38, 3) := by decide +kernel
theorem dX10_lay_89 : decode cX10_lay 89 = .ok (.iconst 1, 1) := by decide +kernel
theorem dX10_lay_90 : decode cX10_lay 90 = .ok (.iaload, 1) := by decide +kernel
theorem dX10_lay_91 : decode cX10_lay 91 = .ok (.iastore, 1) := by decide +kernel
theorem dX10_lay_92 : decode cX10_lay 92 = .ok (.aload_n 0, 1) := by decide +kernel
theorem dX10_lay_93 : decode cX10_lay 93 = .ok (.getfield 47, 3) := by decide +kernel
theorem dX10_lay_96 : decode cX10_lay 96 = .ok (.iconst 0, 1) := by decide +kernel
theorem dX10_lay_97 : decode cX10_lay 97 = .ok (.aload_n 0, 1) := by decide +kernel
theorem dX10_lay_98 : decode cX10_lay 98 = .ok (.getfield 47, 3) := by decide +kernel
theorem dX10_lay_101 : decode cX10_lay 101 = .ok (.iconst 2, 1) := by decide +kernel
theorem dX10_lay_102 : decode cX10_lay 102 = .ok (.iaload, 1) := by decide +kernel
theorem dX10_lay_103 : decode cX10_lay 103 = .ok (.iastore, 1) := by decide +kernel
theorem dX10_lay_104 : decode cX10_lay 104 = .ok (.aload_n 0, 1) := by decide +kernel
theorem dX10_lay_105 : decode cX10_lay 105 = .ok (.getfield 47, 3) := by decide +kernel
theorem dX10_lay_108 : decode cX10_lay 108 = .ok (.iconst 1, 1) := by decide +kernel
theorem dX10_lay_109 : decode cX10_lay 109 = .ok (.aload_n 0, 1) := by decide +kernel
theorem dX10_lay_110 : decode cX10_lay 110 = .ok (.getfield 47, 3) := by decide +kernel
theorem dX10_lay_113 : decode cX10_lay 113 = .ok (.iconst 3, 1) := by decide +kernel
theorem dX10_lay_114 : decode cX10_lay 114 = .ok (.iaload, 1) := by decide +kernel
theorem dX10_lay_115 : decode cX10_lay 115 = .ok (.iastore, 1) := by decide +kernel
theorem dX10_lay_116 : decode cX10_lay 116 = .ok (.iconst 0, 1) := by decide +kernel
theorem dX10_lay_117 : decode cX10_lay 117 = .ok (.istore_n 1, 1) := by decide +kernel
theorem dX10_lay_118 : decode cX10_lay 118 = .ok (.iload_n 1, 1) := by decide +kernel
theorem dX10_lay_119 : decode cX10_lay 119 = .ok (.bipush 16, 2) := by decide +kernel
theorem dX10_lay_121 : decode cX10_lay 121 = .ok (.if_icmp .ge 24, 3) := by decide +kernel
theorem dX10_lay_124 : decode cX10_lay 124 = .ok (.aload_n 0, 1) := by decide +kernel
theorem dX10_lay_125 : decode cX10_lay 125 = .ok (.getfield 20, 3) := by decide +kernel
theorem dX10_lay_128 : decode cX10_lay 128 = .ok (.iload_n 1, 1) := by decide +kernel
theorem dX10_lay_129 : decode cX10_lay 129 = .ok (.aload_n 0, 1) := by decide +kernel
theorem dX10_lay_130 : decode cX10_lay 130 = .ok (.getfield 20, 3) := by decide +kernel
theorem dX10_lay_133 : decode cX10_lay 133 = .ok (.bipush 16, 2) := by decide +kernel
theorem dX10_lay_135 : decode cX10_lay 135 = .ok (.iload_n 1, 1) := by decide +kernel
theorem dX10_lay_136 : decode cX10_lay 136 = .ok (.iadd, 1) := by decide +kernel
theorem dX10_lay_137 : decode cX10_lay 137 = .ok (.iaload, 1) := by decide +kernel
theorem dX10_lay_138 : decode cX10_lay 138 = .ok (.iastore, 1) := by decide +kernel
theorem dX10_lay_139 : decode cX10_lay 139 = .ok (.iinc 1 1, 3) := by decide +kernel
theorem dX10_lay_142 : decode cX10_lay 142 = .ok (.goto (-24), 3) := by decide +kernel
theorem dX10_lay_145 : decode cX10_lay 145 = .ok (.iconst 0, 1) := by decide +kernel
theorem dX10_lay_146 : decode cX10_lay 146 = .ok (.istore_n 1, 1) := by decide +kernel
theorem dX10_lay_147 : decode cX10_lay 147 = .ok (.iload_n 1, 1) := by decide +kernel
theorem dX10_lay_148 : decode cX10_lay 148 = .ok (.bipush 6, 2) := by decide +kernel
theorem dX10_lay_150 : decode cX10_lay 150 = .ok (.if_icmp .ge 39, 3) := by decide +kernel
theorem dX10_lay_153 : decode cX10_lay 153 = .ok (.aload_n 0, 1) := by decide +kernel
theorem dX10_lay_154 : decode cX10_lay 154 = .ok (.getfield 26, 3) := by decide +kernel
theorem dX10_lay_157 : decode cX10_lay 157 = .ok (.iload_n 1, 1) := by decide +kernel
theorem dX10_lay_158 : decode cX10_lay 158 = .ok (.aload_n 0, 1) := by decide +kernel
theorem dX10_lay_159 : decode cX10_lay 159 = .ok (.getfield 26, 3) := by decide +kernel
theorem dX10_lay_162 : decode cX10_lay 162 = .ok (.bipush 6, 2) := by decide +kernel
theorem dX10_lay_164 : decode cX10_lay 164 = .ok (.iload_n 1, 1) := by decide +kernel
theorem dX10_lay_165 : decode cX10_lay 165 = .ok (.iadd, 1) := by decide +kernel
theorem dX10_lay_166 : decode cX10_lay 166 = .ok (.iaload, 1) := by decide +kernel
theorem dX10_lay_167 : decode cX10_lay 167 = .ok (.iastore, 1) := by decide +kernel
theorem dX10_lay_168 : decode cX10_lay 168 = .ok (.aload_n 0, 1) := by decide +kernel
theorem dX10_lay_169 : decode cX10_lay 169 = .ok (.getfield 29, 3) := by decide +kernel
theorem dX10_lay_172 : decode cX10_lay 172 = .ok (.iload_n 1, 1) := by decide +kernel
theorem dX10_lay_173 : decode cX10_lay 173 = .ok (.aload_n 0, 1) := by decide +kernel
theorem dX10_lay_174 : decode cX10_lay 174 = .ok (.getfield 29, 3) := by decide +kernel
theorem dX10_lay_177 : decode cX10_lay 177 = .ok (.bipush 6, 2) := by decide +kernel
theorem dX10_lay_179 : decode cX10_lay 179 = .ok (.iload_n 1, 1) := by decide +kernel
theorem dX10_lay_180 : decode cX10_lay 180 = .ok (.iadd, 1) := by decide +kernel
theorem dX10_lay_181 : decode cX10_lay 181 = .ok (.iaload, 1) := by decide +kernel
theorem dX10_lay_182 : decode cX10_lay 182 = .ok (.iastore, 1) := by decide +kernel
theorem dX10_lay_183 : decode cX10_lay 183 = .ok (.iinc 1 1, 3) := by decide +kernel
theorem dX10_lay_186 : decode cX10_lay 186 = .ok (.goto (-39), 3) := by decide +kernel
theorem dX10_lay_189 : decode cX10_lay 189 = .ok (.iconst 0, 1) := by decide +kernel
theorem dX10_lay_190 : decode cX10_lay 190 = .ok (.istore_n 1, 1) := by decide +kernel
theorem dX10_lay_191 : decode cX10_lay 191 = .ok (.iload_n 1, 1) := by decide +kernel
theorem dX10_lay_192 : decode cX10_lay 192 = .ok (.iconst 4, 1) := by decide +kernel
theorem dX10_lay_193 : decode cX10_lay 193 = .ok (.if_icmp .ge 23, 3) := by decide +kernel
theorem dX10_lay_196 : decode cX10_lay 196 = .ok (.aload_n 0, 1) := by decide +kernel
theorem dX10_lay_197 : decode cX10_lay 197 = .ok (.getfield 35, 3) := by decide +kernel
theorem dX10_lay_200 : decode cX10_lay 200 = .ok (.iload_n 1, 1) := by decide +kernel
theorem dX10_lay_201 : decode cX10_lay 201 = .ok (.aload_n 0, 1) := by decide +kernel
theorem dX10_lay_202 : decode cX10_lay 202 = .ok (.getfield 35, 3) := by decide +kernel
theorem dX10_lay_205 : decode cX10_lay 205 = .ok (.iconst 4, 1) := by decide +kernel
theorem dX10_lay_206 : decode cX10_lay 206 = .ok (.iload_n 1, 1) := by decide +kernel
theorem dX10_lay_207 : decode cX10_lay 207 = .ok (.iadd, 1) := by decide +kernel
theorem dX10_lay_208 : decode cX10_lay 208 = .ok (.iaload, 1) := by decide +kernel
theorem dX10_lay_209 : decode cX10_lay 209 = .ok (.iastore, 1) := by decide +kernel
theorem dX10_lay_210 : decode cX10_lay 210 = .ok (.iinc 1 1, 3) := by decide +kernel
theorem dX10_lay_213 : decode cX10_lay 213 = .ok (.goto (-22), 3) := by decide +kernel
theorem dX10_lay_216 : decode cX10_lay 216 = .ok (.iconst 0, 1) := by decide +kernel
theorem dX10_lay_217 : decode cX10_lay 217 = .ok (.istore_n 1, 1) := by decide +kernel
theorem dX10_lay_218 : decode cX10_lay 218 = .ok (.iload_n 1, 1) := by decide +kernel
theorem dX10_lay_219 : decode cX10_lay 219 = .ok (.iconst 5, 1) := by decide +kernel
theorem dX10_lay_220 : decode cX10_lay 220 = .ok (.if_icmp .ge 37, 3) := by decide +kernel
theorem dX10_lay_223 : decode cX10_lay 223 = .ok (.aload_n 0, 1) := by decide +kernel
theorem dX10_lay_224 : decode cX10_lay 224 = .ok (.getfield 41, 3) := by decide +kernel
theorem dX10_lay_227 : decode cX10_lay 227 = .ok (.iload_n 1, 1) := by decide +kernel
theorem dX10_lay_228 : decode cX10_lay 228 = .ok (.aload_n 0, 1) := by decide +kernel
theorem dX10_lay_229 : decode cX10_lay 229 = .ok (.getfield 41, 3) := by decide +kernel
theorem dX10_lay_232 : decode cX10_lay 232 = .ok (.iconst 5, 1) := by decide +kernel
theorem dX10_lay_233 : decode cX10_lay 233 = .ok (.iload_n 1, 1) := by decide +kernel
theorem dX10_lay_234 : decode cX10_lay 234 = .ok (.iadd, 1) := by decide +kernel
theorem dX10_lay_235 : decode cX10_lay 235 = .ok (.iaload, 1) := by decide +kernel
theorem dX10_lay_236 : decode cX10_lay 236 = .ok (.iastore, 1) := by decide +kernel
theorem dX10_lay_237 : decode cX10_lay 237 = .ok (.aload_n 0, 1) := by decide +kernel
theorem dX10_lay_238 : decode cX10_lay 238 = .ok (.getfield 44, 3) := by decide +kernel
theorem dX10_lay_241 : decode cX10_lay 241 = .ok (.iload_n 1, 1) := by decide +kernel
theorem dX10_lay_242 : decode cX10_lay 242 = .ok (.aload_n 0, 1) := by decide +kernel
theorem dX10_lay_243 : decode cX10_lay 243 = .ok (.getfield 44, 3) := by decide +kernel
theorem dX10_lay_246 : decode cX10_lay 246 = .ok (.iconst 5, 1) := by decide +kernel
theorem dX10_lay_247 : decode cX10_lay 247 = .ok (.iload_n 1, 1) := by decide +kernel
theorem dX10_lay_248 : decode cX10_lay 248 = .ok (.iadd, 1) := by decide +kernel
theorem dX10_lay_249 : decode cX10_lay 249 = .ok (.iaload, 1) := by decide +kernel
theorem dX10_lay_250 : decode cX10_lay 250 = .ok (.iastore, 1) := by decide +kernel
theorem dX10_lay_251 : decode cX10_lay 251 = .ok (.iinc 1 1, 3) := by decide +kernel
theorem dX10_lay_254 : decode cX10_lay 254 = .ok (.goto (-36), 3) := by decide +kernel
theorem dX10_lay_257 : decode cX10_lay 257 = .ok (.aload_n 0, 1) := by decide +kernel
theorem dX10_lay_258 : decode cX10_lay 258 = .ok (.getfield 50, 3) := by decide +kernel
theorem dX10_lay_261 : decode cX10_lay 261 = .ok (.iconst 0, 1) := by decide +kernel
theorem dX10_lay_262 : decode cX10_lay 262 = .ok (.iconst 0, 1) := by decide +kernel
theorem dX10_lay_263 : decode cX10_lay 263 = .ok (.iastore, 1) := by decide +kernel
theorem dX10_lay_264 : decode cX10_lay 264 = .ok (.aload_n 0, 1) := by decide +kernel
theorem dX10_lay_265 : decode cX10_lay 265 = .ok (.iconst 0, 1) := by decide +kernel
theorem dX10_lay_266 : decode cX10_lay 266 = .ok (.putfield 128, 3) := by decide +kernel
theorem dX10_lay_269 : decode cX10_lay 269 = .ok (.aload_n 0, 1) := by decide +kernel
theorem dX10_lay_270 : decode cX10_lay 270 = .ok (.iconst 0, 1) := by decide +kernel
theorem dX10_lay_271 : decode cX10_lay 271 = .ok (.putfield 131, 3) := by decide +kernel
theorem dX10_lay_274 : decode cX10_lay 274 = .ok (.aload_n 0, 1) := by decide +kernel
theorem dX10_lay_275 : decode cX10_lay 275 = .ok (.getfield 17, 3) := by decide +kernel
theorem dX10_lay_278 : decode cX10_lay 278 = .ok (.iconst 0, 1) := by decide +kernel
theorem dX10_lay_279 : decode cX10_lay 279 = .ok (.iaload, 1) := by decide +kernel
theorem dX10_lay_280 : decode cX10_lay 280 = .ok (.ireturn, 1) := by decide +kernel
def L_X10_lay_218 (k_257 : (Nat → Int32) → (Nat → Int32) → Option (Int32 × Int32 × Int32 × Int32 × Int32 × (Nat → Int32) × (Nat → Int32) × (Nat → Int32) × (Nat → Int32) × (Nat → Int32) × (Nat → Int32) × (Nat → Int32) × (Nat → Int32) × (Nat → Int32) × (Nat → Int32) × (Nat → Int32) × (Nat → Int32) × (Nat → Int32))) : Nat → Int32 → (Nat → Int32) → (Nat → Int32) → Option (Int32 × Int32 × Int32 × Int32 × Int32 × (Nat → Int32) × (Nat → Int32) × (Nat → Int32) × (Nat → Int32) × (Nat → Int32) × (Nat → Int32) × (Nat → Int32) × (Nat → Int32) × (Nat → Int32) × (Nat → Int32) × (Nat → Int32) × (Nat → Int32) × (Nat → Int32))
  | 0, _, _, _ => none
  | n + 1, x1_218, a_brings_218, a_noise_218 => (if 5 ≤ x1_218 then k_257 a_brings_218 a_noise_218 else (if inb ((5 + x1_218)) 10 = true then (if inb x1_218 10 = true then (if inb ((5 + x1_218)) 10 = true then (if inb x1_218 10 = true then L_X10_lay_218 k_257 n ((x1_218 + 1)) ((upd a_brings_218 (Int32.toNatClampNeg x1_218) ((a_brings_218 (Int32.toNatClampNeg ((5 + x1_218))))))) ((upd a_noise_218 (Int32.toNatClampNeg x1_218) ((a_noise_218 (Int32.toNatClampNeg ((5 + x1_218))))))) else none) else none) else none) else none))
def L_X10_lay_191 (k_216 : (Nat → Int32) → Option (Int32 × Int32 × Int32 × Int32 × Int32 × (Nat → Int32) × (Nat → Int32) × (Nat → Int32) × (Nat → Int32) × (Nat → Int32) × (Nat → Int32) × (Nat → Int32) × (Nat → Int32) × (Nat → Int32) × (Nat → Int32) × (Nat → Int32) × (Nat → Int32) × (Nat → Int32))) : Nat → Int32 → (Nat → Int32) → Option (Int32 × Int32 × Int32 × Int32 × Int32 × (Nat → Int32) × (Nat → Int32) × (Nat → Int32) × (Nat → Int32) × (Nat → Int32) × (Nat → Int32) × (Nat → Int32) × (Nat → Int32) × (Nat → Int32) × (Nat → Int32) × (Nat → Int32) × (Nat → Int32) × (Nat → Int32))
  | 0, _, _ => none
  | n + 1, x1_191, a_boat_191 => (if 4 ≤ x1_191 then k_216 a_boat_191 else (if inb ((4 + x1_191)) 8 = true then (if inb x1_191 8 = true then L_X10_lay_191 k_216 n ((x1_191 + 1)) ((upd a_boat_191 (Int32.toNatClampNeg x1_191) ((a_boat_191 (Int32.toNatClampNeg ((4 + x1_191))))))) else none) else none))
def L_X10_lay_147 (k_189 : (Nat → Int32) → (Nat → Int32) → Option (Int32 × Int32 × Int32 × Int32 × Int32 × (Nat → Int32) × (Nat → Int32) × (Nat → Int32) × (Nat → Int32) × (Nat → Int32) × (Nat → Int32) × (Nat → Int32) × (Nat → Int32) × (Nat → Int32) × (Nat → Int32) × (Nat → Int32) × (Nat → Int32) × (Nat → Int32))) : Nat → Int32 → (Nat → Int32) → (Nat → Int32) → Option (Int32 × Int32 × Int32 × Int32 × Int32 × (Nat → Int32) × (Nat → Int32) × (Nat → Int32) × (Nat → Int32) × (Nat → Int32) × (Nat → Int32) × (Nat → Int32) × (Nat → Int32) × (Nat → Int32) × (Nat → Int32) × (Nat → Int32) × (Nat → Int32) × (Nat → Int32))
  | 0, _, _, _ => none
  | n + 1, x1_147, a_minutes_147, a_people_147 => (if 6 ≤ x1_147 then k_189 a_minutes_147 a_people_147 else (if inb ((6 + x1_147)) 12 = true then (if inb x1_147 12 = true then (if inb ((6 + x1_147)) 12 = true then (if inb x1_147 12 = true then L_X10_lay_147 k_189 n ((x1_147 + 1)) ((upd a_minutes_147 (Int32.toNatClampNeg x1_147) ((a_minutes_147 (Int32.toNatClampNeg ((6 + x1_147))))))) ((upd a_people_147 (Int32.toNatClampNeg x1_147) ((a_people_147 (Int32.toNatClampNeg ((6 + x1_147))))))) else none) else none) else none) else none))
def L_X10_lay_118 (k_145 : (Nat → Int32) → Option (Int32 × Int32 × Int32 × Int32 × Int32 × (Nat → Int32) × (Nat → Int32) × (Nat → Int32) × (Nat → Int32) × (Nat → Int32) × (Nat → Int32) × (Nat → Int32) × (Nat → Int32) × (Nat → Int32) × (Nat → Int32) × (Nat → Int32) × (Nat → Int32) × (Nat → Int32))) : Nat → Int32 → (Nat → Int32) → Option (Int32 × Int32 × Int32 × Int32 × Int32 × (Nat → Int32) × (Nat → Int32) × (Nat → Int32) × (Nat → Int32) × (Nat → Int32) × (Nat → Int32) × (Nat → Int32) × (Nat → Int32) × (Nat → Int32) × (Nat → Int32) × (Nat → Int32) × (Nat → Int32) × (Nat → Int32))
  | 0, _, _ => none
  | n + 1, x1_118, a_told_118 => (if 16 ≤ x1_118 then k_145 a_told_118 else (if inb ((16 + x1_118)) 32 = true then (if inb x1_118 32 = true then L_X10_lay_118 k_145 n ((x1_118 + 1)) ((upd a_told_118 (Int32.toNatClampNeg x1_118) ((a_told_118 (Int32.toNatClampNeg ((16 + x1_118))))))) else none) else none))
def F_X10_lay (v_aheadMany : Int32) (v_at : Int32) (v_isSo : Int32) (v_kept : Int32) (v_typed : Int32) (a_boat : Nat → Int32) (a_boats : Nat → Int32) (a_brings : Nat → Int32) (a_costs : Nat → Int32) (a_days : Nat → Int32) (a_goes : Nat → Int32) (a_houses : Nat → Int32) (a_minutes : Nat → Int32) (a_noise : Nat → Int32) (a_people : Nat → Int32) (a_signs : Nat → Int32) (a_text : Nat → Int32) (a_told : Nat → Int32) (a_works : Nat → Int32) : Option (Int32 × Int32 × Int32 × Int32 × Int32 × (Nat → Int32) × (Nat → Int32) × (Nat → Int32) × (Nat → Int32) × (Nat → Int32) × (Nat → Int32) × (Nat → Int32) × (Nat → Int32) × (Nat → Int32) × (Nat → Int32) × (Nat → Int32) × (Nat → Int32) × (Nat → Int32)) := (F_X10_fault v_at v_isSo v_typed a_boat a_boats a_brings a_costs a_goes a_houses a_minutes a_noise a_people a_signs a_text a_told a_works).bind (fun q1 => (if q1.1 = (-4) then (if (q1.2.2.2.2.2.2.2.2.2.2.2.2.1 (Int32.toNatClampNeg 1)) = 0 then some ((-2), v_aheadMany, q1.2.1, q1.2.2.1, v_kept, q1.2.2.2.1, q1.2.2.2.2.1, q1.2.2.2.2.2.1, q1.2.2.2.2.2.2.1, a_days, q1.2.2.2.2.2.2.2.1, q1.2.2.2.2.2.2.2.2.1, q1.2.2.2.2.2.2.2.2.2.1, q1.2.2.2.2.2.2.2.2.2.2.1, q1.2.2.2.2.2.2.2.2.2.2.2.1, q1.2.2.2.2.2.2.2.2.2.2.2.2.1, q1.2.2.2.2.2.2.2.2.2.2.2.2.2.1, q1.2.2.2.2.2.2.2.2.2.2.2.2.2.2) else (F_X10_law 0 ((q1.2.2.2.2.2.2.2.1 (Int32.toNatClampNeg 3))) ((q1.2.2.2.2.2.2.2.1 (Int32.toNatClampNeg 4))) ((q1.2.2.2.2.2.2.2.1 (Int32.toNatClampNeg 5))) q1.2.2.2.2.2.2.2.1).bind (fun q41 => jn (fun (a_told_145 : Nat → Int32) => jn (fun (a_minutes_189 : Nat → Int32) (a_people_189 : Nat → Int32) => jn (fun (a_boat_216 : Nat → Int32) => jn (fun (a_brings_257 : Nat → Int32) (a_noise_257 : Nat → Int32) => some ((((upd q1.2.2.2.2.2.2.2.2.2.2.2.2.1 (Int32.toNatClampNeg 0) ((q1.2.2.2.2.2.2.2.2.2.2.2.2.1 (Int32.toNatClampNeg 1))))) (Int32.toNatClampNeg 0)), 0, q1.2.1, q1.2.2.1, 0, a_boat_216, (upd q1.2.2.2.2.1 (Int32.toNatClampNeg 0) ((q1.2.2.2.2.1 (Int32.toNatClampNeg 1)))), a_brings_257, (upd ((upd q1.2.2.2.2.2.2.1 (Int32.toNatClampNeg 0) ((q1.2.2.2.2.2.2.1 (Int32.toNatClampNeg 2))))) (Int32.toNatClampNeg 1) ((((upd q1.2.2.2.2.2.2.1 (Int32.toNatClampNeg 0) ((q1.2.2.2.2.2.2.1 (Int32.toNatClampNeg 2))))) (Int32.toNatClampNeg 3)))), (upd a_days (Int32.toNatClampNeg 0) 0), q41, (upd q1.2.2.2.2.2.2.2.2.1 (Int32.toNatClampNeg 0) ((q1.2.2.2.2.2.2.2.2.1 (Int32.toNatClampNeg 1)))), a_minutes_189, a_noise_257, a_people_189, (upd q1.2.2.2.2.2.2.2.2.2.2.2.2.1 (Int32.toNatClampNeg 0) ((q1.2.2.2.2.2.2.2.2.2.2.2.2.1 (Int32.toNatClampNeg 1)))), a_told_145, (upd q1.2.2.2.2.2.2.2.2.2.2.2.2.2.2 (Int32.toNatClampNeg 0) ((q1.2.2.2.2.2.2.2.2.2.2.2.2.2.2 (Int32.toNatClampNeg 1)))))) (fun k_257 => L_X10_lay_218 k_257 5000 0 q1.2.2.2.2.2.1 q1.2.2.2.2.2.2.2.2.2.2.1)) (fun k_216 => L_X10_lay_191 k_216 5000 0 q1.2.2.2.1)) (fun k_189 => L_X10_lay_147 k_189 5000 0 q1.2.2.2.2.2.2.2.2.2.1 q1.2.2.2.2.2.2.2.2.2.2.2.1)) (fun k_145 => L_X10_lay_118 k_145 5000 0 q1.2.2.2.2.2.2.2.2.2.2.2.2.2.1))) else some ((-2), v_aheadMany, q1.2.1, q1.2.2.1, v_kept, q1.2.2.2.1, q1.2.2.2.2.1, q1.2.2.2.2.2.1, q1.2.2.2.2.2.2.1, a_days, q1.2.2.2.2.2.2.2.1, q1.2.2.2.2.2.2.2.2.1, q1.2.2.2.2.2.2.2.2.2.1, q1.2.2.2.2.2.2.2.2.2.2.1, q1.2.2.2.2.2.2.2.2.2.2.2.1, q1.2.2.2.2.2.2.2.2.2.2.2.2.1, q1.2.2.2.2.2.2.2.2.2.2.2.2.2.1, q1.2.2.2.2.2.2.2.2.2.2.2.2.2.2)))
theorem hdV_X10_lay : yX10_lay.cls = RX10 ∧ yX10_lay.cls ≠ "java/lang/invoke/MethodHandle" ∧ yX10_lay.cls ≠ "java/lang/invoke/VarHandle" ∧ (parseMethodDescriptor yX10_lay.desc).map (fun d => d.parameters.length) = some 0 := by decide +kernel
set_option maxHeartbeats 4000000 in
set_option maxRecDepth 100000 in
theorem c_X10_lay (l : Launch) (G : GG) (h_this : Nat) (ad_this : Nat → Nat) (v_typed : Int32) (v_at : Int32) (v_isSo : Int32) (v_kept : Int32) (v_all : Int64) (v_sightAll : Int64) (v_aheadMany : Int32) (a_boat : Nat → Int32) (a_boats : Nat → Int32) (a_brings : Nat → Int32) (a_costs : Nat → Int32) (a_days : Nat → Int32) (a_goes : Nat → Int32) (a_houses : Nat → Int32) (a_minutes : Nat → Int32) (a_noise : Nat → Int32) (a_people : Nat → Int32) (a_signs : Nat → Int32) (a_text : Nat → Int32) (a_told : Nat → Int32) (a_works : Nat → Int32) (out : Int32 × Int32 × Int32 × Int32 × Int32 × (Nat → Int32) × (Nat → Int32) × (Nat → Int32) × (Nat → Int32) × (Nat → Int32) × (Nat → Int32) × (Nat → Int32) × (Nat → Int32) × (Nat → Int32) × (Nat → Int32) × (Nat → Int32) × (Nat → Int32) × (Nat → Int32)) (hF : F_X10_lay v_aheadMany v_at v_isSo v_kept v_typed a_boat a_boats a_brings a_costs a_days a_goes a_houses a_minutes a_noise a_people a_signs a_text a_told a_works = some out) : CtrI l yX10_lay (WS yX10_lay cX10_lay 2 (some .int)) { frames := 4, cells := 0, slots := 0, locals := 93 } G [.ref h_this] [(h_this, oX10 ad_this v_typed v_at v_isSo v_kept v_all v_sightAll v_aheadMany), ((ad_this 9), cI G 8 a_boat), ((ad_this 8), cI G 2 a_boats), ((ad_this 12), cI G 10 a_brings), ((ad_this 13), cI G 4 a_costs), ((ad_this 16), cI G 3 a_days), ((ad_this 2), cI G 6 a_goes), ((ad_this 5), cI G 2 a_houses), ((ad_this 7), cI G 12 a_minutes), ((ad_this 11), cI G 10 a_noise), ((ad_this 6), cI G 12 a_people), ((ad_this 3), cI G 2 a_signs), ((ad_this 0), cB G 200 a_text), ((ad_this 4), cI G 32 a_told), ((ad_this 10), cI G 2 a_works)] [(h_this, oX10 ad_this v_typed out.2.2.1 out.2.2.2.1 out.2.2.2.2.1 v_all v_sightAll out.2.1), ((ad_this 9), cI G 8 out.2.2.2.2.2.1), ((ad_this 8), cI G 2 out.2.2.2.2.2.2.1), ((ad_this 12), cI G 10 out.2.2.2.2.2.2.2.1), ((ad_this 13), cI G 4 out.2.2.2.2.2.2.2.2.1), ((ad_this 16), cI G 3 out.2.2.2.2.2.2.2.2.2.1), ((ad_this 2), cI G 6 out.2.2.2.2.2.2.2.2.2.2.1), ((ad_this 5), cI G 2 out.2.2.2.2.2.2.2.2.2.2.2.1), ((ad_this 7), cI G 12 out.2.2.2.2.2.2.2.2.2.2.2.2.1), ((ad_this 11), cI G 10 out.2.2.2.2.2.2.2.2.2.2.2.2.2.1), ((ad_this 6), cI G 12 out.2.2.2.2.2.2.2.2.2.2.2.2.2.2.1), ((ad_this 3), cI G 2 out.2.2.2.2.2.2.2.2.2.2.2.2.2.2.2.1), ((ad_this 0), cB G 200 a_text), ((ad_this 4), cI G 32 out.2.2.2.2.2.2.2.2.2.2.2.2.2.2.2.2.1), ((ad_this 10), cI G 2 out.2.2.2.2.2.2.2.2.2.2.2.2.2.2.2.2.2)] out.1 := by
  refine startI (cc := cX10_lay) (maxL := 2) (by decide) rfl (Nat.le_of_ble_eq_true rfl) ?_
  intro p e s m args below meth c A Q hx hb hml hts hown hc hA hret ls H locs hl hW
  have hown : s.vm.findClass RX10 = some m.cls := hown
  have hg : ∀ w ∈ GOODS, w.before _ s = true := fun w h => hts w (List.mem_cons_of_mem _ h)
  have hl : lv_has ls 2 [(0, .ref h_this)] := hl
  rw [F_X10_lay] at hF
  refine lv_aload_n hx hb dX10_lay_0 rfl (lv_at hl 0 rfl) ?_
  obtain ⟨q1, c_1, hF⟩ := bd_el hF
  refine wcI (ws' := [(h_this, oX10 ad_this v_typed q1.2.1 q1.2.2.1 v_kept v_all v_sightAll v_aheadMany), ((ad_this 9), cI G 8 q1.2.2.2.1), ((ad_this 8), cI G 2 q1.2.2.2.2.1), ((ad_this 12), cI G 10 q1.2.2.2.2.2.1), ((ad_this 13), cI G 4 q1.2.2.2.2.2.2.1), ((ad_this 16), cI G 3 a_days), ((ad_this 2), cI G 6 q1.2.2.2.2.2.2.2.1), ((ad_this 5), cI G 2 q1.2.2.2.2.2.2.2.2.1), ((ad_this 7), cI G 12 q1.2.2.2.2.2.2.2.2.2.1), ((ad_this 11), cI G 10 q1.2.2.2.2.2.2.2.2.2.2.1), ((ad_this 6), cI G 12 q1.2.2.2.2.2.2.2.2.2.2.2.1), ((ad_this 3), cI G 2 q1.2.2.2.2.2.2.2.2.2.2.2.2.1), ((ad_this 0), cB G 200 a_text), ((ad_this 4), cI G 32 q1.2.2.2.2.2.2.2.2.2.2.2.2.2.1), ((ad_this 10), cI G 2 q1.2.2.2.2.2.2.2.2.2.2.2.2.2.2)]) (wc := [(h_this, oX10 ad_this v_typed v_at v_isSo v_kept v_all v_sightAll v_aheadMany), ((ad_this 9), cI G 8 a_boat), ((ad_this 8), cI G 2 a_boats), ((ad_this 12), cI G 10 a_brings), ((ad_this 13), cI G 4 a_costs), ((ad_this 2), cI G 6 a_goes), ((ad_this 5), cI G 2 a_houses), ((ad_this 7), cI G 12 a_minutes), ((ad_this 11), cI G 10 a_noise), ((ad_this 6), cI G 12 a_people), ((ad_this 3), cI G 2 a_signs), ((ad_this 0), cB G 200 a_text), ((ad_this 4), cI G 32 a_told), ((ad_this 10), cI G 2 a_works)]) (wr := [((ad_this 16), cI G 3 a_days)]) (w1 := [(h_this, oX10 ad_this v_typed q1.2.1 q1.2.2.1 v_kept v_all v_sightAll v_aheadMany), ((ad_this 9), cI G 8 q1.2.2.2.1), ((ad_this 8), cI G 2 q1.2.2.2.2.1), ((ad_this 12), cI G 10 q1.2.2.2.2.2.1), ((ad_this 13), cI G 4 q1.2.2.2.2.2.2.1), ((ad_this 2), cI G 6 q1.2.2.2.2.2.2.2.1), ((ad_this 5), cI G 2 q1.2.2.2.2.2.2.2.2.1), ((ad_this 7), cI G 12 q1.2.2.2.2.2.2.2.2.2.1), ((ad_this 11), cI G 10 q1.2.2.2.2.2.2.2.2.2.2.1), ((ad_this 6), cI G 12 q1.2.2.2.2.2.2.2.2.2.2.2.1), ((ad_this 3), cI G 2 q1.2.2.2.2.2.2.2.2.2.2.2.2.1), ((ad_this 0), cB G 200 a_text), ((ad_this 4), cI G 32 q1.2.2.2.2.2.2.2.2.2.2.2.2.2.1), ((ad_this 10), cI G 2 q1.2.2.2.2.2.2.2.2.2.2.2.2.2.2)]) (va_runV (As := []) (rest := []) ⟨hx, hb, hml, hown, hg⟩ (c_X10_fault l G h_this ad_this v_typed v_at v_isSo v_kept v_all v_sightAll v_aheadMany a_boat a_boats a_brings a_costs a_goes a_houses a_minutes a_noise a_people a_signs a_text a_told a_works q1 c_1 H.size) (cwV 0 hg (gV wd_4_163 wd_4_144 wd_4_145 wd_1_15 wd_4_146) rfl rfl rfl hdV_X10_fault ⟨(Nat.le_of_ble_eq_true rfl), (Nat.le_of_ble_eq_true rfl)⟩) (preV hc hW [0, 1, 2, 3, 4, 6, 7, 8, 9, 10, 11, 12, 13, 14] rfl (by decide) rfl rfl) rfl rfl hl.1 rfl (lv_room (Nat.le_of_ble_eq_true rfl)) dX10_lay_1 ⟨Nat.zero_le _, Nat.zero_le _⟩) hA hW [0, 1, 2, 3, 4, 6, 7, 8, 9, 10, 11, 12, 13, 14] [5] [1, 2, 3, 4, 5, 0, 6, 7, 8, 9, 10, 11, 12, 13, 14] rfl rfl (by decide) (by decide) rfl (by decide) (fun H locs hW => ?_)
  refine lv_bipush (v := (-4)) hx hb dX10_lay_4 (by decide) ?_
  refine lv_icmp_ne (tgt := 18) hx hb dX10_lay_6 (by decide) (fun c_6 => ?_) (fun c_6 => ?_)
  · have hF := ite_f hF c_6
    refine lv_bipush (v := (-2)) hx hb dX10_lay_18 (by decide) ?_
    obtain rfl := Option.some.inj hF
    exact hret _ _ _ _ hW dX10_lay_20
  · have hF := ite_t hF c_6
    refine lv_aload_n hx hb dX10_lay_9 rfl (lv_at hl 0 rfl) ?_
    refine va_get (D := G.1) (ci := 9) (v := .ref ((ad_this 3))) (C := RX10) (T := TX10) (N := 31) hx hb hg hu_X10 hown hc.1 hW.1 0 rfl rfl 3 (by decide) (hg _ wd_4_41) (fun _ h9 => h9) rfl dX10_lay_10 ?_
    refine lv_iconst (v := 1) hx hb dX10_lay_13 (by decide) ?_
    have b_14 : vp_in 1 2 := inb_vp (by decide)
    refine va_iald hx hb hc.1 hW.1 11 0 rfl rfl b_14 dX10_lay_14 ?_
    refine lv_if_ne (tgt := 21) hx hb dX10_lay_15 (by decide) (fun c_15 => ?_) (fun c_15 => ?_)
    · have hF := ite_f hF c_15
      refine lv_aload_n hx hb dX10_lay_21 rfl (lv_at hl 0 rfl) ?_
      refine lv_iconst (v := 0) hx hb dX10_lay_22 (by decide) ?_
      refine lv_aload_n hx hb dX10_lay_23 rfl (lv_at hl 0 rfl) ?_
      refine va_get (D := G.1) (ci := 9) (v := .ref ((ad_this 2))) (C := RX10) (T := TX10) (N := 31) hx hb hg hu_X10 hown hc.1 hW.1 0 rfl rfl 2 (by decide) (hg _ wd_4_40) (fun _ h9 => h9) rfl dX10_lay_24 ?_
      refine lv_iconst (v := 3) hx hb dX10_lay_27 (by decide) ?_
      have b_28 : vp_in 3 6 := inb_vp (by decide)
      refine va_iald hx hb hc.1 hW.1 6 0 rfl rfl b_28 dX10_lay_28 ?_
      refine lv_aload_n hx hb dX10_lay_29 rfl (lv_at hl 0 rfl) ?_
      refine va_get (D := G.1) (ci := 9) (v := .ref ((ad_this 2))) (C := RX10) (T := TX10) (N := 31) hx hb hg hu_X10 hown hc.1 hW.1 0 rfl rfl 2 (by decide) (hg _ wd_4_40) (fun _ h9 => h9) rfl dX10_lay_30 ?_
      refine lv_iconst (v := 4) hx hb dX10_lay_33 (by decide) ?_
      have b_34 : vp_in 4 6 := inb_vp (by decide)
      refine va_iald hx hb hc.1 hW.1 6 0 rfl rfl b_34 dX10_lay_34 ?_
      refine lv_aload_n hx hb dX10_lay_35 rfl (lv_at hl 0 rfl) ?_
      refine va_get (D := G.1) (ci := 9) (v := .ref ((ad_this 2))) (C := RX10) (T := TX10) (N := 31) hx hb hg hu_X10 hown hc.1 hW.1 0 rfl rfl 2 (by decide) (hg _ wd_4_40) (fun _ h9 => h9) rfl dX10_lay_36 ?_
      refine lv_iconst (v := 5) hx hb dX10_lay_39 (by decide) ?_
      have b_40 : vp_in 5 6 := inb_vp (by decide)
      refine va_iald hx hb hc.1 hW.1 6 0 rfl rfl b_40 dX10_lay_40 ?_
      obtain ⟨q41, c_41, hF⟩ := bd_el hF
      refine wcV (ws' := [(h_this, oX10 ad_this v_typed q1.2.1 q1.2.2.1 v_kept v_all v_sightAll v_aheadMany), ((ad_this 9), cI G 8 q1.2.2.2.1), ((ad_this 8), cI G 2 q1.2.2.2.2.1), ((ad_this 12), cI G 10 q1.2.2.2.2.2.1), ((ad_this 13), cI G 4 q1.2.2.2.2.2.2.1), ((ad_this 16), cI G 3 a_days), ((ad_this 2), cI G 6 q41), ((ad_this 5), cI G 2 q1.2.2.2.2.2.2.2.2.1), ((ad_this 7), cI G 12 q1.2.2.2.2.2.2.2.2.2.1), ((ad_this 11), cI G 10 q1.2.2.2.2.2.2.2.2.2.2.1), ((ad_this 6), cI G 12 q1.2.2.2.2.2.2.2.2.2.2.2.1), ((ad_this 3), cI G 2 q1.2.2.2.2.2.2.2.2.2.2.2.2.1), ((ad_this 0), cB G 200 a_text), ((ad_this 4), cI G 32 q1.2.2.2.2.2.2.2.2.2.2.2.2.2.1), ((ad_this 10), cI G 2 q1.2.2.2.2.2.2.2.2.2.2.2.2.2.2)]) (wc := [(h_this, oX10 ad_this v_typed q1.2.1 q1.2.2.1 v_kept v_all v_sightAll v_aheadMany), ((ad_this 2), cI G 6 q1.2.2.2.2.2.2.2.1)]) (wr := [((ad_this 9), cI G 8 q1.2.2.2.1), ((ad_this 8), cI G 2 q1.2.2.2.2.1), ((ad_this 12), cI G 10 q1.2.2.2.2.2.1), ((ad_this 13), cI G 4 q1.2.2.2.2.2.2.1), ((ad_this 16), cI G 3 a_days), ((ad_this 5), cI G 2 q1.2.2.2.2.2.2.2.2.1), ((ad_this 7), cI G 12 q1.2.2.2.2.2.2.2.2.2.1), ((ad_this 11), cI G 10 q1.2.2.2.2.2.2.2.2.2.2.1), ((ad_this 6), cI G 12 q1.2.2.2.2.2.2.2.2.2.2.2.1), ((ad_this 3), cI G 2 q1.2.2.2.2.2.2.2.2.2.2.2.2.1), ((ad_this 0), cB G 200 a_text), ((ad_this 4), cI G 32 q1.2.2.2.2.2.2.2.2.2.2.2.2.2.1), ((ad_this 10), cI G 2 q1.2.2.2.2.2.2.2.2.2.2.2.2.2.2)]) (w1 := [(h_this, oX10 ad_this v_typed q1.2.1 q1.2.2.1 v_kept v_all v_sightAll v_aheadMany), ((ad_this 2), cI G 6 q41)]) (va_runV (As := [.int 0, .int ((q1.2.2.2.2.2.2.2.1 (Int32.toNatClampNeg 3))), .int ((q1.2.2.2.2.2.2.2.1 (Int32.toNatClampNeg 4))), .int ((q1.2.2.2.2.2.2.2.1 (Int32.toNatClampNeg 5)))]) (rest := []) ⟨hx, hb, hml, hown, hg⟩ (c_X10_law l G 0 ((q1.2.2.2.2.2.2.2.1 (Int32.toNatClampNeg 3))) ((q1.2.2.2.2.2.2.2.1 (Int32.toNatClampNeg 4))) ((q1.2.2.2.2.2.2.2.1 (Int32.toNatClampNeg 5))) h_this ad_this v_typed q1.2.1 q1.2.2.1 v_kept v_all v_sightAll v_aheadMany q1.2.2.2.2.2.2.2.1 q41 c_41 H.size) (cwV 4 hg (gV wd_4_22 wd_4_24 wd_0_23 wd_1_15 wd_4_25) rfl rfl rfl hdV_X10_law ⟨(Nat.le_of_ble_eq_true rfl), (Nat.le_of_ble_eq_true rfl)⟩) (preV hc hW [0, 6] rfl (by decide) rfl rfl) rfl rfl hl.1 rfl (lv_room (Nat.le_of_ble_eq_true rfl)) dX10_lay_41 ⟨Nat.zero_le _, Nat.zero_le _⟩) hA hW [0, 6] [1, 2, 3, 4, 5, 7, 8, 9, 10, 11, 12, 13, 14] [13, 0, 1, 2, 3, 4, 14, 5, 6, 7, 8, 9, 10, 11, 12] rfl rfl (by decide) (by decide) rfl (by decide) (fun H locs hW => ?_)
      refine lv_aload_n hx hb dX10_lay_44 rfl (lv_at hl 0 rfl) ?_
      refine va_get (D := G.1) (ci := 9) (v := .ref ((ad_this 3))) (C := RX10) (T := TX10) (N := 31) hx hb hg hu_X10 hown hc.1 hW.1 0 rfl rfl 3 (by decide) (hg _ wd_4_41) (fun _ h9 => h9) rfl dX10_lay_45 ?_
      refine lv_iconst (v := 0) hx hb dX10_lay_48 (by decide) ?_
      refine lv_aload_n hx hb dX10_lay_49 rfl (lv_at hl 0 rfl) ?_
      refine va_get (D := G.1) (ci := 9) (v := .ref ((ad_this 3))) (C := RX10) (T := TX10) (N := 31) hx hb hg hu_X10 hown hc.1 hW.1 0 rfl rfl 3 (by decide) (hg _ wd_4_41) (fun _ h9 => h9) rfl dX10_lay_50 ?_
      refine lv_iconst (v := 1) hx hb dX10_lay_53 (by decide) ?_
      have b_54 : vp_in 1 2 := inb_vp (by decide)
      refine va_iald hx hb hc.1 hW.1 11 0 rfl rfl b_54 dX10_lay_54 ?_
      have b_55 : vp_in 0 2 := inb_vp (by decide)
      refine va_iast hx hb hc.1 hW.1 hW.2.1 hW.2.2 11 0 rfl rfl b_55 dX10_lay_55 (fun H locs hP hD hS => ?_)
      have hW : Wd G A s.heap [(h_this, oX10 ad_this v_typed q1.2.1 q1.2.2.1 v_kept v_all v_sightAll v_aheadMany), ((ad_this 9), cI G 8 q1.2.2.2.1), ((ad_this 8), cI G 2 q1.2.2.2.2.1), ((ad_this 12), cI G 10 q1.2.2.2.2.2.1), ((ad_this 13), cI G 4 q1.2.2.2.2.2.2.1), ((ad_this 16), cI G 3 a_days), ((ad_this 2), cI G 6 q41), ((ad_this 5), cI G 2 q1.2.2.2.2.2.2.2.2.1), ((ad_this 7), cI G 12 q1.2.2.2.2.2.2.2.2.2.1), ((ad_this 11), cI G 10 q1.2.2.2.2.2.2.2.2.2.2.1), ((ad_this 6), cI G 12 q1.2.2.2.2.2.2.2.2.2.2.2.1), ((ad_this 3), cI G 2 ((upd q1.2.2.2.2.2.2.2.2.2.2.2.2.1 (Int32.toNatClampNeg 0) ((q1.2.2.2.2.2.2.2.2.2.2.2.2.1 (Int32.toNatClampNeg 1)))))), ((ad_this 0), cB G 200 a_text), ((ad_this 4), cI G 32 q1.2.2.2.2.2.2.2.2.2.2.2.2.2.1), ((ad_this 10), cI G 2 q1.2.2.2.2.2.2.2.2.2.2.2.2.2.2)] H locs := ⟨hP, hD, hS⟩
      refine lv_aload_n hx hb dX10_lay_56 rfl (lv_at hl 0 rfl) ?_
      refine va_get (D := G.1) (ci := 9) (v := .ref ((ad_this 5))) (C := RX10) (T := TX10) (N := 31) hx hb hg hu_X10 hown hc.1 hW.1 0 rfl rfl 5 (by decide) (hg _ wd_4_43) (fun _ h9 => h9) rfl dX10_lay_57 ?_
      refine lv_iconst (v := 0) hx hb dX10_lay_60 (by decide) ?_
      refine lv_aload_n hx hb dX10_lay_61 rfl (lv_at hl 0 rfl) ?_
      refine va_get (D := G.1) (ci := 9) (v := .ref ((ad_this 5))) (C := RX10) (T := TX10) (N := 31) hx hb hg hu_X10 hown hc.1 hW.1 0 rfl rfl 5 (by decide) (hg _ wd_4_43) (fun _ h9 => h9) rfl dX10_lay_62 ?_
      refine lv_iconst (v := 1) hx hb dX10_lay_65 (by decide) ?_
      have b_66 : vp_in 1 2 := inb_vp (by decide)
      refine va_iald hx hb hc.1 hW.1 7 0 rfl rfl b_66 dX10_lay_66 ?_
      have b_67 : vp_in 0 2 := inb_vp (by decide)
      refine va_iast hx hb hc.1 hW.1 hW.2.1 hW.2.2 7 0 rfl rfl b_67 dX10_lay_67 (fun H locs hP hD hS => ?_)
      have hW : Wd G A s.heap [(h_this, oX10 ad_this v_typed q1.2.1 q1.2.2.1 v_kept v_all v_sightAll v_aheadMany), ((ad_this 9), cI G 8 q1.2.2.2.1), ((ad_this 8), cI G 2 q1.2.2.2.2.1), ((ad_this 12), cI G 10 q1.2.2.2.2.2.1), ((ad_this 13), cI G 4 q1.2.2.2.2.2.2.1), ((ad_this 16), cI G 3 a_days), ((ad_this 2), cI G 6 q41), ((ad_this 5), cI G 2 ((upd q1.2.2.2.2.2.2.2.2.1 (Int32.toNatClampNeg 0) ((q1.2.2.2.2.2.2.2.2.1 (Int32.toNatClampNeg 1)))))), ((ad_this 7), cI G 12 q1.2.2.2.2.2.2.2.2.2.1), ((ad_this 11), cI G 10 q1.2.2.2.2.2.2.2.2.2.2.1), ((ad_this 6), cI G 12 q1.2.2.2.2.2.2.2.2.2.2.2.1), ((ad_this 3), cI G 2 ((upd q1.2.2.2.2.2.2.2.2.2.2.2.2.1 (Int32.toNatClampNeg 0) ((q1.2.2.2.2.2.2.2.2.2.2.2.2.1 (Int32.toNatClampNeg 1)))))), ((ad_this 0), cB G 200 a_text), ((ad_this 4), cI G 32 q1.2.2.2.2.2.2.2.2.2.2.2.2.2.1), ((ad_this 10), cI G 2 q1.2.2.2.2.2.2.2.2.2.2.2.2.2.2)] H locs := ⟨hP, hD, hS⟩
      refine lv_aload_n hx hb dX10_lay_68 rfl (lv_at hl 0 rfl) ?_
      refine va_get (D := G.1) (ci := 9) (v := .ref ((ad_this 8))) (C := RX10) (T := TX10) (N := 31) hx hb hg hu_X10 hown hc.1 hW.1 0 rfl rfl 8 (by decide) (hg _ wd_4_46) (fun _ h9 => h9) rfl dX10_lay_69 ?_
      refine lv_iconst (v := 0) hx hb dX10_lay_72 (by decide) ?_
      refine lv_aload_n hx hb dX10_lay_73 rfl (lv_at hl 0 rfl) ?_
      refine va_get (D := G.1) (ci := 9) (v := .ref ((ad_this 8))) (C := RX10) (T := TX10) (N := 31) hx hb hg hu_X10 hown hc.1 hW.1 0 rfl rfl 8 (by decide) (hg _ wd_4_46) (fun _ h9 => h9) rfl dX10_lay_74 ?_
      refine lv_iconst (v := 1) hx hb dX10_lay_77 (by decide) ?_
      have b_78 : vp_in 1 2 := inb_vp (by decide)
      refine va_iald hx hb hc.1 hW.1 2 0 rfl rfl b_78 dX10_lay_78 ?_
      have b_79 : vp_in 0 2 := inb_vp (by decide)
      refine va_iast hx hb hc.1 hW.1 hW.2.1 hW.2.2 2 0 rfl rfl b_79 dX10_lay_79 (fun H locs hP hD hS => ?_)
      have hW : Wd G A s.heap [(h_this, oX10 ad_this v_typed q1.2.1 q1.2.2.1 v_kept v_all v_sightAll v_aheadMany), ((ad_this 9), cI G 8 q1.2.2.2.1), ((ad_this 8), cI G 2 ((upd q1.2.2.2.2.1 (Int32.toNatClampNeg 0) ((q1.2.2.2.2.1 (Int32.toNatClampNeg 1)))))), ((ad_this 12), cI G 10 q1.2.2.2.2.2.1), ((ad_this 13), cI G 4 q1.2.2.2.2.2.2.1), ((ad_this 16), cI G 3 a_days), ((ad_this 2), cI G 6 q41), ((ad_this 5), cI G 2 ((upd q1.2.2.2.2.2.2.2.2.1 (Int32.toNatClampNeg 0) ((q1.2.2.2.2.2.2.2.2.1 (Int32.toNatClampNeg 1)))))), ((ad_this 7), cI G 12 q1.2.2.2.2.2.2.2.2.2.1), ((ad_this 11), cI G 10 q1.2.2.2.2.2.2.2.2.2.2.1), ((ad_this 6), cI G 12 q1.2.2.2.2.2.2.2.2.2.2.2.1), ((ad_this 3), cI G 2 ((upd q1.2.2.2.2.2.2.2.2.2.2.2.2.1 (Int32.toNatClampNeg 0) ((q1.2.2.2.2.2.2.2.2.2.2.2.2.1 (Int32.toNatClampNeg 1)))))), ((ad_this 0), cB G 200 a_text), ((ad_this 4), cI G 32 q1.2.2.2.2.2.2.2.2.2.2.2.2.2.1), ((ad_this 10), cI G 2 q1.2.2.2.2.2.2.2.2.2.2.2.2.2.2)] H locs := ⟨hP, hD, hS⟩
      refine lv_aload_n hx hb dX10_lay_80 rfl (lv_at hl 0 rfl) ?_
      refine va_get (D := G.1) (ci := 9) (v := .ref ((ad_this 10))) (C := RX10) (T := TX10) (N := 31) hx hb hg hu_X10 hown hc.1 hW.1 0 rfl rfl 10 (by decide) (hg _ wd_4_48) (fun _ h9 => h9) rfl dX10_lay_81 ?_
      refine lv_iconst (v := 0) hx hb dX10_lay_84 (by decide) ?_
      refine lv_aload_n hx hb dX10_lay_85 rfl (lv_at hl 0 rfl) ?_
      refine va_get (D := G.1) (ci := 9) (v := .ref ((ad_this 10))) (C := RX10) (T := TX10) (N := 31) hx hb hg hu_X10 hown hc.1 hW.1 0 rfl rfl 10 (by decide) (hg _ wd_4_48) (fun _ h9 => h9) rfl dX10_lay_86 ?_
      refine lv_iconst (v := 1) hx hb dX10_lay_89 (by decide) ?_
      have b_90 : vp_in 1 2 := inb_vp (by decide)
      refine va_iald hx hb hc.1 hW.1 14 0 rfl rfl b_90 dX10_lay_90 ?_
      have b_91 : vp_in 0 2 := inb_vp (by decide)
      refine va_iast hx hb hc.1 hW.1 hW.2.1 hW.2.2 14 0 rfl rfl b_91 dX10_lay_91 (fun H locs hP hD hS => ?_)
      have hW : Wd G A s.heap [(h_this, oX10 ad_this v_typed q1.2.1 q1.2.2.1 v_kept v_all v_sightAll v_aheadMany), ((ad_this 9), cI G 8 q1.2.2.2.1), ((ad_this 8), cI G 2 ((upd q1.2.2.2.2.1 (Int32.toNatClampNeg 0) ((q1.2.2.2.2.1 (Int32.toNatClampNeg 1)))))), ((ad_this 12), cI G 10 q1.2.2.2.2.2.1), ((ad_this 13), cI G 4 q1.2.2.2.2.2.2.1), ((ad_this 16), cI G 3 a_days), ((ad_this 2), cI G 6 q41), ((ad_this 5), cI G 2 ((upd q1.2.2.2.2.2.2.2.2.1 (Int32.toNatClampNeg 0) ((q1.2.2.2.2.2.2.2.2.1 (Int32.toNatClampNeg 1)))))), ((ad_this 7), cI G 12 q1.2.2.2.2.2.2.2.2.2.1), ((ad_this 11), cI G 10 q1.2.2.2.2.2.2.2.2.2.2.1), ((ad_this 6), cI G 12 q1.2.2.2.2.2.2.2.2.2.2.2.1), ((ad_this 3), cI G 2 ((upd q1.2.2.2.2.2.2.2.2.2.2.2.2.1 (Int32.toNatClampNeg 0) ((q1.2.2.2.2.2.2.2.2.2.2.2.2.1 (Int32.toNatClampNeg 1)))))), ((ad_this 0), cB G 200 a_text), ((ad_this 4), cI G 32 q1.2.2.2.2.2.2.2.2.2.2.2.2.2.1), ((ad_this 10), cI G 2 ((upd q1.2.2.2.2.2.2.2.2.2.2.2.2.2.2 (Int32.toNatClampNeg 0) ((q1.2.2.2.2.2.2.2.2.2.2.2.2.2.2 (Int32.toNatClampNeg 1))))))] H locs := ⟨hP, hD, hS⟩
      refine lv_aload_n hx hb dX10_lay_92 rfl (lv_at hl 0 rfl) ?_
      refine va_get (D := G.1) (ci := 9) (v := .ref ((ad_this 13))) (C := RX10) (T := TX10) (N := 31) hx hb hg hu_X10 hown hc.1 hW.1 0 rfl rfl 13 (by decide) (hg _ wd_4_51) (fun _ h9 => h9) rfl dX10_lay_93 ?_
      refine lv_iconst (v := 0) hx hb dX10_lay_96 (by decide) ?_
      refine lv_aload_n hx hb dX10_lay_97 rfl (lv_at hl 0 rfl) ?_
      refine va_get (D := G.1) (ci := 9) (v := .ref ((ad_this 13))) (C := RX10) (T := TX10) (N := 31) hx hb hg hu_X10 hown hc.1 hW.1 0 rfl rfl 13 (by decide) (hg _ wd_4_51) (fun _ h9 => h9) rfl dX10_lay_98 ?_
      refine lv_iconst (v := 2) hx hb dX10_lay_101 (by decide) ?_
      have b_102 : vp_in 2 4 := inb_vp (by decide)
      refine va_iald hx hb hc.1 hW.1 4 0 rfl rfl b_102 dX10_lay_102 ?_
      have b_103 : vp_in 0 4 := inb_vp (by decide)
      refine va_iast hx hb hc.1 hW.1 hW.2.1 hW.2.2 4 0 rfl rfl b_103 dX10_lay_103 (fun H locs hP hD hS => ?_)
      have hW : Wd G A s.heap [(h_this, oX10 ad_this v_typed q1.2.1 q1.2.2.1 v_kept v_all v_sightAll v_aheadMany), ((ad_this 9), cI G 8 q1.2.2.2.1), ((ad_this 8), cI G 2 ((upd q1.2.2.2.2.1 (Int32.toNatClampNeg 0) ((q1.2.2.2.2.1 (Int32.toNatClampNeg 1)))))), ((ad_this 12), cI G 10 q1.2.2.2.2.2.1), ((ad_this 13), cI G 4 ((upd q1.2.2.2.2.2.2.1 (Int32.toNatClampNeg 0) ((q1.2.2.2.2.2.2.1 (Int32.toNatClampNeg 2)))))), ((ad_this 16), cI G 3 a_days), ((ad_this 2), cI G 6 q41), ((ad_this 5), cI G 2 ((upd q1.2.2.2.2.2.2.2.2.1 (Int32.toNatClampNeg 0) ((q1.2.2.2.2.2.2.2.2.1 (Int32.toNatClampNeg 1)))))), ((ad_this 7), cI G 12 q1.2.2.2.2.2.2.2.2.2.1), ((ad_this 11), cI G 10 q1.2.2.2.2.2.2.2.2.2.2.1), ((ad_this 6), cI G 12 q1.2.2.2.2.2.2.2.2.2.2.2.1), ((ad_this 3), cI G 2 ((upd q1.2.2.2.2.2.2.2.2.2.2.2.2.1 (Int32.toNatClampNeg 0) ((q1.2.2.2.2.2.2.2.2.2.2.2.2.1 (Int32.toNatClampNeg 1)))))), ((ad_this 0), cB G 200 a_text), ((ad_this 4), cI G 32 q1.2.2.2.2.2.2.2.2.2.2.2.2.2.1), ((ad_this 10), cI G 2 ((upd q1.2.2.2.2.2.2.2.2.2.2.2.2.2.2 (Int32.toNatClampNeg 0) ((q1.2.2.2.2.2.2.2.2.2.2.2.2.2.2 (Int32.toNatClampNeg 1))))))] H locs := ⟨hP, hD, hS⟩
      refine lv_aload_n hx hb dX10_lay_104 rfl (lv_at hl 0 rfl) ?_
      refine va_get (D := G.1) (ci := 9) (v := .ref ((ad_this 13))) (C := RX10) (T := TX10) (N := 31) hx hb hg hu_X10 hown hc.1 hW.1 0 rfl rfl 13 (by decide) (hg _ wd_4_51) (fun _ h9 => h9) rfl dX10_lay_105 ?_
      refine lv_iconst (v := 1) hx hb dX10_lay_108 (by decide) ?_
      refine lv_aload_n hx hb dX10_lay_109 rfl (lv_at hl 0 rfl) ?_
      refine va_get (D := G.1) (ci := 9) (v := .ref ((ad_this 13))) (C := RX10) (T := TX10) (N := 31) hx hb hg hu_X10 hown hc.1 hW.1 0 rfl rfl 13 (by decide) (hg _ wd_4_51) (fun _ h9 => h9) rfl dX10_lay_110 ?_
      refine lv_iconst (v := 3) hx hb dX10_lay_113 (by decide) ?_
      have b_114 : vp_in 3 4 := inb_vp (by decide)
      refine va_iald hx hb hc.1 hW.1 4 0 rfl rfl b_114 dX10_lay_114 ?_
      have b_115 : vp_in 1 4 := inb_vp (by decide)
      refine va_iast hx hb hc.1 hW.1 hW.2.1 hW.2.2 4 0 rfl rfl b_115 dX10_lay_115 (fun H locs hP hD hS => ?_)
      have hW : Wd G A s.heap [(h_this, oX10 ad_this v_typed q1.2.1 q1.2.2.1 v_kept v_all v_sightAll v_aheadMany), ((ad_this 9), cI G 8 q1.2.2.2.1), ((ad_this 8), cI G 2 ((upd q1.2.2.2.2.1 (Int32.toNatClampNeg 0) ((q1.2.2.2.2.1 (Int32.toNatClampNeg 1)))))), ((ad_this 12), cI G 10 q1.2.2.2.2.2.1), ((ad_this 13), cI G 4 ((upd ((upd q1.2.2.2.2.2.2.1 (Int32.toNatClampNeg 0) ((q1.2.2.2.2.2.2.1 (Int32.toNatClampNeg 2))))) (Int32.toNatClampNeg 1) ((((upd q1.2.2.2.2.2.2.1 (Int32.toNatClampNeg 0) ((q1.2.2.2.2.2.2.1 (Int32.toNatClampNeg 2))))) (Int32.toNatClampNeg 3)))))), ((ad_this 16), cI G 3 a_days), ((ad_this 2), cI G 6 q41), ((ad_this 5), cI G 2 ((upd q1.2.2.2.2.2.2.2.2.1 (Int32.toNatClampNeg 0) ((q1.2.2.2.2.2.2.2.2.1 (Int32.toNatClampNeg 1)))))), ((ad_this 7), cI G 12 q1.2.2.2.2.2.2.2.2.2.1), ((ad_this 11), cI G 10 q1.2.2.2.2.2.2.2.2.2.2.1), ((ad_this 6), cI G 12 q1.2.2.2.2.2.2.2.2.2.2.2.1), ((ad_this 3), cI G 2 ((upd q1.2.2.2.2.2.2.2.2.2.2.2.2.1 (Int32.toNatClampNeg 0) ((q1.2.2.2.2.2.2.2.2.2.2.2.2.1 (Int32.toNatClampNeg 1)))))), ((ad_this 0), cB G 200 a_text), ((ad_this 4), cI G 32 q1.2.2.2.2.2.2.2.2.2.2.2.2.2.1), ((ad_this 10), cI G 2 ((upd q1.2.2.2.2.2.2.2.2.2.2.2.2.2.2 (Int32.toNatClampNeg 0) ((q1.2.2.2.2.2.2.2.2.2.2.2.2.2.2 (Int32.toNatClampNeg 1))))))] H locs := ⟨hP, hD, hS⟩
      refine lv_iconst (v := 0) hx hb dX10_lay_116 (by decide) ?_
      refine lv_istore_n (lv' := [(1, .int 0), (0, .ref h_this)]) hx hb dX10_lay_117 rfl hl (by decide) rfl (fun ls hl => ?_)
      obtain ⟨k_145, e_145, hF⟩ := jn_el hF
      have J_145 : ∀ (a_told_145 : Nat → Int32) (ls : Array Slot) (H : Heap) (locs : List Loc), k_145 a_told_145 = some out → lv_has ls 2 [(0, .ref h_this)] → Wd G A s.heap [(h_this, oX10 ad_this v_typed q1.2.1 q1.2.2.1 v_kept v_all v_sightAll v_aheadMany), ((ad_this 9), cI G 8 q1.2.2.2.1), ((ad_this 8), cI G 2 ((upd q1.2.2.2.2.1 (Int32.toNatClampNeg 0) ((q1.2.2.2.2.1 (Int32.toNatClampNeg 1)))))), ((ad_this 12), cI G 10 q1.2.2.2.2.2.1), ((ad_this 13), cI G 4 ((upd ((upd q1.2.2.2.2.2.2.1 (Int32.toNatClampNeg 0) ((q1.2.2.2.2.2.2.1 (Int32.toNatClampNeg 2))))) (Int32.toNatClampNeg 1) ((((upd q1.2.2.2.2.2.2.1 (Int32.toNatClampNeg 0) ((q1.2.2.2.2.2.2.1 (Int32.toNatClampNeg 2))))) (Int32.toNatClampNeg 3)))))), ((ad_this 16), cI G 3 a_days), ((ad_this 2), cI G 6 q41), ((ad_this 5), cI G 2 ((upd q1.2.2.2.2.2.2.2.2.1 (Int32.toNatClampNeg 0) ((q1.2.2.2.2.2.2.2.2.1 (Int32.toNatClampNeg 1)))))), ((ad_this 7), cI G 12 q1.2.2.2.2.2.2.2.2.2.1), ((ad_this 11), cI G 10 q1.2.2.2.2.2.2.2.2.2.2.1), ((ad_this 6), cI G 12 q1.2.2.2.2.2.2.2.2.2.2.2.1), ((ad_this 3), cI G 2 ((upd q1.2.2.2.2.2.2.2.2.2.2.2.2.1 (Int32.toNatClampNeg 0) ((q1.2.2.2.2.2.2.2.2.2.2.2.2.1 (Int32.toNatClampNeg 1)))))), ((ad_this 0), cB G 200 a_text), ((ad_this 4), cI G 32 a_told_145), ((ad_this 10), cI G 2 ((upd q1.2.2.2.2.2.2.2.2.2.2.2.2.2.2 (Int32.toNatClampNeg 0) ((q1.2.2.2.2.2.2.2.2.2.2.2.2.2.2 (Int32.toNatClampNeg 1))))))] H locs → W p l e ({ frames := 4, cells := 0, slots := 0, locals := 93 } : Room) s m args below meth c H locs 0 0 Q (F0 m 145 ls []) := by
        intro a_told_145 ls H locs hF hl hW
        rw [e_145] at hF
        dsimp only at hF
        refine lv_iconst (v := 0) hx hb dX10_lay_145 (by decide) ?_
        refine lv_istore_n (lv' := [(1, .int 0), (0, .ref h_this)]) hx hb dX10_lay_146 rfl hl (by decide) rfl (fun ls hl => ?_)
        obtain ⟨k_189, e_189, hF⟩ := jn_el hF
        have J_189 : ∀ (a_minutes_189 : Nat → Int32) (a_people_189 : Nat → Int32) (ls : Array Slot) (H : Heap) (locs : List Loc), k_189 a_minutes_189 a_people_189 = some out → lv_has ls 2 [(0, .ref h_this)] → Wd G A s.heap [(h_this, oX10 ad_this v_typed q1.2.1 q1.2.2.1 v_kept v_all v_sightAll v_aheadMany), ((ad_this 9), cI G 8 q1.2.2.2.1), ((ad_this 8), cI G 2 ((upd q1.2.2.2.2.1 (Int32.toNatClampNeg 0) ((q1.2.2.2.2.1 (Int32.toNatClampNeg 1)))))), ((ad_this 12), cI G 10 q1.2.2.2.2.2.1), ((ad_this 13), cI G 4 ((upd ((upd q1.2.2.2.2.2.2.1 (Int32.toNatClampNeg 0) ((q1.2.2.2.2.2.2.1 (Int32.toNatClampNeg 2))))) (Int32.toNatClampNeg 1) ((((upd q1.2.2.2.2.2.2.1 (Int32.toNatClampNeg 0) ((q1.2.2.2.2.2.2.1 (Int32.toNatClampNeg 2))))) (Int32.toNatClampNeg 3)))))), ((ad_this 16), cI G 3 a_days), ((ad_this 2), cI G 6 q41), ((ad_this 5), cI G 2 ((upd q1.2.2.2.2.2.2.2.2.1 (Int32.toNatClampNeg 0) ((q1.2.2.2.2.2.2.2.2.1 (Int32.toNatClampNeg 1)))))), ((ad_this 7), cI G 12 a_minutes_189), ((ad_this 11), cI G 10 q1.2.2.2.2.2.2.2.2.2.2.1), ((ad_this 6), cI G 12 a_people_189), ((ad_this 3), cI G 2 ((upd q1.2.2.2.2.2.2.2.2.2.2.2.2.1 (Int32.toNatClampNeg 0) ((q1.2.2.2.2.2.2.2.2.2.2.2.2.1 (Int32.toNatClampNeg 1)))))), ((ad_this 0), cB G 200 a_text), ((ad_this 4), cI G 32 a_told_145), ((ad_this 10), cI G 2 ((upd q1.2.2.2.2.2.2.2.2.2.2.2.2.2.2 (Int32.toNatClampNeg 0) ((q1.2.2.2.2.2.2.2.2.2.2.2.2.2.2 (Int32.toNatClampNeg 1))))))] H locs → W p l e ({ frames := 4, cells := 0, slots := 0, locals := 93 } : Room) s m args below meth c H locs 0 0 Q (F0 m 189 ls []) := by
          intro a_minutes_189 a_people_189 ls H locs hF hl hW
          rw [e_189] at hF
          dsimp only at hF
          refine lv_iconst (v := 0) hx hb dX10_lay_189 (by decide) ?_
          refine lv_istore_n (lv' := [(1, .int 0), (0, .ref h_this)]) hx hb dX10_lay_190 rfl hl (by decide) rfl (fun ls hl => ?_)
          obtain ⟨k_216, e_216, hF⟩ := jn_el hF
          have J_216 : ∀ (a_boat_216 : Nat → Int32) (ls : Array Slot) (H : Heap) (locs : List Loc), k_216 a_boat_216 = some out → lv_has ls 2 [(0, .ref h_this)] → Wd G A s.heap [(h_this, oX10 ad_this v_typed q1.2.1 q1.2.2.1 v_kept v_all v_sightAll v_aheadMany), ((ad_this 9), cI G 8 a_boat_216), ((ad_this 8), cI G 2 ((upd q1.2.2.2.2.1 (Int32.toNatClampNeg 0) ((q1.2.2.2.2.1 (Int32.toNatClampNeg 1)))))), ((ad_this 12), cI G 10 q1.2.2.2.2.2.1), ((ad_this 13), cI G 4 ((upd ((upd q1.2.2.2.2.2.2.1 (Int32.toNatClampNeg 0) ((q1.2.2.2.2.2.2.1 (Int32.toNatClampNeg 2))))) (Int32.toNatClampNeg 1) ((((upd q1.2.2.2.2.2.2.1 (Int32.toNatClampNeg 0) ((q1.2.2.2.2.2.2.1 (Int32.toNatClampNeg 2))))) (Int32.toNatClampNeg 3)))))), ((ad_this 16), cI G 3 a_days), ((ad_this 2), cI G 6 q41), ((ad_this 5), cI G 2 ((upd q1.2.2.2.2.2.2.2.2.1 (Int32.toNatClampNeg 0) ((q1.2.2.2.2.2.2.2.2.1 (Int32.toNatClampNeg 1)))))), ((ad_this 7), cI G 12 a_minutes_189), ((ad_this 11), cI G 10 q1.2.2.2.2.2.2.2.2.2.2.1), ((ad_this 6), cI G 12 a_people_189), ((ad_this 3), cI G 2 ((upd q1.2.2.2.2.2.2.2.2.2.2.2.2.1 (Int32.toNatClampNeg 0) ((q1.2.2.2.2.2.2.2.2.2.2.2.2.1 (Int32.toNatClampNeg 1)))))), ((ad_this 0), cB G 200 a_text), ((ad_this 4), cI G 32 a_told_145), ((ad_this 10), cI G 2 ((upd q1.2.2.2.2.2.2.2.2.2.2.2.2.2.2 (Int32.toNatClampNeg 0) ((q1.2.2.2.2.2.2.2.2.2.2.2.2.2.2 (Int32.toNatClampNeg 1))))))] H locs → W p l e ({ frames := 4, cells := 0, slots := 0, locals := 93 } : Room) s m args below meth c H locs 0 0 Q (F0 m 216 ls []) := by
            intro a_boat_216 ls H locs hF hl hW
            rw [e_216] at hF
            dsimp only at hF
            refine lv_iconst (v := 0) hx hb dX10_lay_216 (by decide) ?_
            refine lv_istore_n (lv' := [(1, .int 0), (0, .ref h_this)]) hx hb dX10_lay_217 rfl hl (by decide) rfl (fun ls hl => ?_)
            obtain ⟨k_257, e_257, hF⟩ := jn_el hF
            have J_257 : ∀ (a_brings_257 : Nat → Int32) (a_noise_257 : Nat → Int32) (ls : Array Slot) (H : Heap) (locs : List Loc), k_257 a_brings_257 a_noise_257 = some out → lv_has ls 2 [(0, .ref h_this)] → Wd G A s.heap [(h_this, oX10 ad_this v_typed q1.2.1 q1.2.2.1 v_kept v_all v_sightAll v_aheadMany), ((ad_this 9), cI G 8 a_boat_216), ((ad_this 8), cI G 2 ((upd q1.2.2.2.2.1 (Int32.toNatClampNeg 0) ((q1.2.2.2.2.1 (Int32.toNatClampNeg 1)))))), ((ad_this 12), cI G 10 a_brings_257), ((ad_this 13), cI G 4 ((upd ((upd q1.2.2.2.2.2.2.1 (Int32.toNatClampNeg 0) ((q1.2.2.2.2.2.2.1 (Int32.toNatClampNeg 2))))) (Int32.toNatClampNeg 1) ((((upd q1.2.2.2.2.2.2.1 (Int32.toNatClampNeg 0) ((q1.2.2.2.2.2.2.1 (Int32.toNatClampNeg 2))))) (Int32.toNatClampNeg 3)))))), ((ad_this 16), cI G 3 a_days), ((ad_this 2), cI G 6 q41), ((ad_this 5), cI G 2 ((upd q1.2.2.2.2.2.2.2.2.1 (Int32.toNatClampNeg 0) ((q1.2.2.2.2.2.2.2.2.1 (Int32.toNatClampNeg 1)))))), ((ad_this 7), cI G 12 a_minutes_189), ((ad_this 11), cI G 10 a_noise_257), ((ad_this 6), cI G 12 a_people_189), ((ad_this 3), cI G 2 ((upd q1.2.2.2.2.2.2.2.2.2.2.2.2.1 (Int32.toNatClampNeg 0) ((q1.2.2.2.2.2.2.2.2.2.2.2.2.1 (Int32.toNatClampNeg 1)))))), ((ad_this 0), cB G 200 a_text), ((ad_this 4), cI G 32 a_told_145), ((ad_this 10), cI G 2 ((upd q1.2.2.2.2.2.2.2.2.2.2.2.2.2.2 (Int32.toNatClampNeg 0) ((q1.2.2.2.2.2.2.2.2.2.2.2.2.2.2 (Int32.toNatClampNeg 1))))))] H locs → W p l e ({ frames := 4, cells := 0, slots := 0, locals := 93 } : Room) s m args below meth c H locs 0 0 Q (F0 m 257 ls []) := by
              intro a_brings_257 a_noise_257 ls H locs hF hl hW
              rw [e_257] at hF
              dsimp only at hF
              refine lv_aload_n hx hb dX10_lay_257 rfl (lv_at hl 0 rfl) ?_
              refine va_get (D := G.1) (ci := 9) (v := .ref ((ad_this 16))) (C := RX10) (T := TX10) (N := 31) hx hb hg hu_X10 hown hc.1 hW.1 0 rfl rfl 16 (by decide) (hg _ wd_4_54) (fun _ h9 => h9) rfl dX10_lay_258 ?_
              refine lv_iconst (v := 0) hx hb dX10_lay_261 (by decide) ?_
              refine lv_iconst (v := 0) hx hb dX10_lay_262 (by decide) ?_
              have b_263 : vp_in 0 3 := inb_vp (by decide)
              refine va_iast hx hb hc.1 hW.1 hW.2.1 hW.2.2 5 0 rfl rfl b_263 dX10_lay_263 (fun H locs hP hD hS => ?_)
              have hW : Wd G A s.heap [(h_this, oX10 ad_this v_typed q1.2.1 q1.2.2.1 v_kept v_all v_sightAll v_aheadMany), ((ad_this 9), cI G 8 a_boat_216), ((ad_this 8), cI G 2 ((upd q1.2.2.2.2.1 (Int32.toNatClampNeg 0) ((q1.2.2.2.2.1 (Int32.toNatClampNeg 1)))))), ((ad_this 12), cI G 10 a_brings_257), ((ad_this 13), cI G 4 ((upd ((upd q1.2.2.2.2.2.2.1 (Int32.toNatClampNeg 0) ((q1.2.2.2.2.2.2.1 (Int32.toNatClampNeg 2))))) (Int32.toNatClampNeg 1) ((((upd q1.2.2.2.2.2.2.1 (Int32.toNatClampNeg 0) ((q1.2.2.2.2.2.2.1 (Int32.toNatClampNeg 2))))) (Int32.toNatClampNeg 3)))))), ((ad_this 16), cI G 3 ((upd a_days (Int32.toNatClampNeg 0) 0))), ((ad_this 2), cI G 6 q41), ((ad_this 5), cI G 2 ((upd q1.2.2.2.2.2.2.2.2.1 (Int32.toNatClampNeg 0) ((q1.2.2.2.2.2.2.2.2.1 (Int32.toNatClampNeg 1)))))), ((ad_this 7), cI G 12 a_minutes_189), ((ad_this 11), cI G 10 a_noise_257), ((ad_this 6), cI G 12 a_people_189), ((ad_this 3), cI G 2 ((upd q1.2.2.2.2.2.2.2.2.2.2.2.2.1 (Int32.toNatClampNeg 0) ((q1.2.2.2.2.2.2.2.2.2.2.2.2.1 (Int32.toNatClampNeg 1)))))), ((ad_this 0), cB G 200 a_text), ((ad_this 4), cI G 32 a_told_145), ((ad_this 10), cI G 2 ((upd q1.2.2.2.2.2.2.2.2.2.2.2.2.2.2 (Int32.toNatClampNeg 0) ((q1.2.2.2.2.2.2.2.2.2.2.2.2.2.2 (Int32.toNatClampNeg 1))))))] H locs := ⟨hP, hD, hS⟩
              refine lv_aload_n hx hb dX10_lay_264 rfl (lv_at hl 0 rfl) ?_
              refine lv_iconst (v := 0) hx hb dX10_lay_265 (by decide) ?_
              refine va_put (D := G.1) (ci := 9) (v := .int 0) (ty := .int) (C := RX10) (T := TX10) (N := 31) hx hb hg hu_X10 tyX10 tyX10_ok nmX10 hown hc.1 hW.1 hW.2.1 hW.2.2 0 rfl rfl 29 (by decide) (hg _ wd_4_67) (fun _ h9 => h9) rfl (by decide +kernel) rfl rfl (Nat.le_of_ble_eq_true rfl) dX10_lay_266 (fun H locs hP hD hS => ?_)
              have hW : Wd G A s.heap [(h_this, oX10 ad_this v_typed q1.2.1 q1.2.2.1 v_kept v_all v_sightAll 0), ((ad_this 9), cI G 8 a_boat_216), ((ad_this 8), cI G 2 ((upd q1.2.2.2.2.1 (Int32.toNatClampNeg 0) ((q1.2.2.2.2.1 (Int32.toNatClampNeg 1)))))), ((ad_this 12), cI G 10 a_brings_257), ((ad_this 13), cI G 4 ((upd ((upd q1.2.2.2.2.2.2.1 (Int32.toNatClampNeg 0) ((q1.2.2.2.2.2.2.1 (Int32.toNatClampNeg 2))))) (Int32.toNatClampNeg 1) ((((upd q1.2.2.2.2.2.2.1 (Int32.toNatClampNeg 0) ((q1.2.2.2.2.2.2.1 (Int32.toNatClampNeg 2))))) (Int32.toNatClampNeg 3)))))), ((ad_this 16), cI G 3 ((upd a_days (Int32.toNatClampNeg 0) 0))), ((ad_this 2), cI G 6 q41), ((ad_this 5), cI G 2 ((upd q1.2.2.2.2.2.2.2.2.1 (Int32.toNatClampNeg 0) ((q1.2.2.2.2.2.2.2.2.1 (Int32.toNatClampNeg 1)))))), ((ad_this 7), cI G 12 a_minutes_189), ((ad_this 11), cI G 10 a_noise_257), ((ad_this 6), cI G 12 a_people_189), ((ad_this 3), cI G 2 ((upd q1.2.2.2.2.2.2.2.2.2.2.2.2.1 (Int32.toNatClampNeg 0) ((q1.2.2.2.2.2.2.2.2.2.2.2.2.1 (Int32.toNatClampNeg 1)))))), ((ad_this 0), cB G 200 a_text), ((ad_this 4), cI G 32 a_told_145), ((ad_this 10), cI G 2 ((upd q1.2.2.2.2.2.2.2.2.2.2.2.2.2.2 (Int32.toNatClampNeg 0) ((q1.2.2.2.2.2.2.2.2.2.2.2.2.2.2 (Int32.toNatClampNeg 1))))))] H locs := ⟨hP, hD, hS⟩
              refine lv_aload_n hx hb dX10_lay_269 rfl (lv_at hl 0 rfl) ?_
              refine lv_iconst (v := 0) hx hb dX10_lay_270 (by decide) ?_
              refine va_put (D := G.1) (ci := 9) (v := .int 0) (ty := .int) (C := RX10) (T := TX10) (N := 31) hx hb hg hu_X10 tyX10 tyX10_ok nmX10 hown hc.1 hW.1 hW.2.1 hW.2.2 0 rfl rfl 19 (by decide) (hg _ wd_4_57) (fun _ h9 => h9) rfl (by decide +kernel) rfl rfl (Nat.le_of_ble_eq_true rfl) dX10_lay_271 (fun H locs hP hD hS => ?_)
              have hW : Wd G A s.heap [(h_this, oX10 ad_this v_typed q1.2.1 q1.2.2.1 0 v_all v_sightAll 0), ((ad_this 9), cI G 8 a_boat_216), ((ad_this 8), cI G 2 ((upd q1.2.2.2.2.1 (Int32.toNatClampNeg 0) ((q1.2.2.2.2.1 (Int32.toNatClampNeg 1)))))), ((ad_this 12), cI G 10 a_brings_257), ((ad_this 13), cI G 4 ((upd ((upd q1.2.2.2.2.2.2.1 (Int32.toNatClampNeg 0) ((q1.2.2.2.2.2.2.1 (Int32.toNatClampNeg 2))))) (Int32.toNatClampNeg 1) ((((upd q1.2.2.2.2.2.2.1 (Int32.toNatClampNeg 0) ((q1.2.2.2.2.2.2.1 (Int32.toNatClampNeg 2))))) (Int32.toNatClampNeg 3)))))), ((ad_this 16), cI G 3 ((upd a_days (Int32.toNatClampNeg 0) 0))), ((ad_this 2), cI G 6 q41), ((ad_this 5), cI G 2 ((upd q1.2.2.2.2.2.2.2.2.1 (Int32.toNatClampNeg 0) ((q1.2.2.2.2.2.2.2.2.1 (Int32.toNatClampNeg 1)))))), ((ad_this 7), cI G 12 a_minutes_189), ((ad_this 11), cI G 10 a_noise_257), ((ad_this 6), cI G 12 a_people_189), ((ad_this 3), cI G 2 ((upd q1.2.2.2.2.2.2.2.2.2.2.2.2.1 (Int32.toNatClampNeg 0) ((q1.2.2.2.2.2.2.2.2.2.2.2.2.1 (Int32.toNatClampNeg 1)))))), ((ad_this 0), cB G 200 a_text), ((ad_this 4), cI G 32 a_told_145), ((ad_this 10), cI G 2 ((upd q1.2.2.2.2.2.2.2.2.2.2.2.2.2.2 (Int32.toNatClampNeg 0) ((q1.2.2.2.2.2.2.2.2.2.2.2.2.2.2 (Int32.toNatClampNeg 1))))))] H locs := ⟨hP, hD, hS⟩
              refine lv_aload_n hx hb dX10_lay_274 rfl (lv_at hl 0 rfl) ?_
              refine va_get (D := G.1) (ci := 9) (v := .ref ((ad_this 3))) (C := RX10) (T := TX10) (N := 31) hx hb hg hu_X10 hown hc.1 hW.1 0 rfl rfl 3 (by decide) (hg _ wd_4_41) (fun _ h9 => h9) rfl dX10_lay_275 ?_
              refine lv_iconst (v := 0) hx hb dX10_lay_278 (by decide) ?_
              have b_279 : vp_in 0 2 := inb_vp (by decide)
              refine va_iald hx hb hc.1 hW.1 11 0 rfl rfl b_279 dX10_lay_279 ?_
              obtain rfl := Option.some.inj hF
              exact hret _ _ _ _ hW dX10_lay_280
            have L_218 : ∀ (n : Nat) (x1_218 : Int32) (a_brings_218 : Nat → Int32) (a_noise_218 : Nat → Int32) (ls : Array Slot) (H : Heap) (locs : List Loc), L_X10_lay_218 k_257 n x1_218 a_brings_218 a_noise_218 = some out → lv_has ls 2 [(0, .ref h_this), (1, .int x1_218)] → Wd G A s.heap [(h_this, oX10 ad_this v_typed q1.2.1 q1.2.2.1 v_kept v_all v_sightAll v_aheadMany), ((ad_this 9), cI G 8 a_boat_216), ((ad_this 8), cI G 2 ((upd q1.2.2.2.2.1 (Int32.toNatClampNeg 0) ((q1.2.2.2.2.1 (Int32.toNatClampNeg 1)))))), ((ad_this 12), cI G 10 a_brings_218), ((ad_this 13), cI G 4 ((upd ((upd q1.2.2.2.2.2.2.1 (Int32.toNatClampNeg 0) ((q1.2.2.2.2.2.2.1 (Int32.toNatClampNeg 2))))) (Int32.toNatClampNeg 1) ((((upd q1.2.2.2.2.2.2.1 (Int32.toNatClampNeg 0) ((q1.2.2.2.2.2.2.1 (Int32.toNatClampNeg 2))))) (Int32.toNatClampNeg 3)))))), ((ad_this 16), cI G 3 a_days), ((ad_this 2), cI G 6 q41), ((ad_this 5), cI G 2 ((upd q1.2.2.2.2.2.2.2.2.1 (Int32.toNatClampNeg 0) ((q1.2.2.2.2.2.2.2.2.1 (Int32.toNatClampNeg 1)))))), ((ad_this 7), cI G 12 a_minutes_189), ((ad_this 11), cI G 10 a_noise_218), ((ad_this 6), cI G 12 a_people_189), ((ad_this 3), cI G 2 ((upd q1.2.2.2.2.2.2.2.2.2.2.2.2.1 (Int32.toNatClampNeg 0) ((q1.2.2.2.2.2.2.2.2.2.2.2.2.1 (Int32.toNatClampNeg 1)))))), ((ad_this 0), cB G 200 a_text), ((ad_this 4), cI G 32 a_told_145), ((ad_this 10), cI G 2 ((upd q1.2.2.2.2.2.2.2.2.2.2.2.2.2.2 (Int32.toNatClampNeg 0) ((q1.2.2.2.2.2.2.2.2.2.2.2.2.2.2 (Int32.toNatClampNeg 1))))))] H locs → W p l e ({ frames := 4, cells := 0, slots := 0, locals := 93 } : Room) s m args below meth c H locs 0 0 Q (F0 m 218 ls []) := by
              intro n
              induction n with
              | zero => intro x1_218 a_brings_218 a_noise_218 ls H locs hF hl hW; have h0 : none = some out := hF; cases h0
              | succ n ih =>
                intro x1_218 a_brings_218 a_noise_218 ls H locs hF hl hW
                rw [L_X10_lay_218] at hF
                refine lv_iload_n hx hb dX10_lay_218 rfl (lv_at hl 1 rfl) ?_
                refine lv_iconst (v := 5) hx hb dX10_lay_219 (by decide) ?_
                refine lv_icmp_ge (tgt := 257) hx hb dX10_lay_220 (by decide) (fun c_220 => ?_) (fun c_220 => ?_)
                · have hF := ite_t hF c_220
                  exact J_257 a_brings_218 a_noise_218 _ _ _ hF (lv_sub hl [0] rfl) hW
                · have hF := ite_f hF c_220
                  refine lv_aload_n hx hb dX10_lay_223 rfl (lv_at hl 0 rfl) ?_
                  refine va_get (D := G.1) (ci := 9) (v := .ref ((ad_this 11))) (C := RX10) (T := TX10) (N := 31) hx hb hg hu_X10 hown hc.1 hW.1 0 rfl rfl 11 (by decide) (hg _ wd_4_49) (fun _ h9 => h9) rfl dX10_lay_224 ?_
                  refine lv_iload_n hx hb dX10_lay_227 rfl (lv_at hl 1 rfl) ?_
                  refine lv_aload_n hx hb dX10_lay_228 rfl (lv_at hl 0 rfl) ?_
                  refine va_get (D := G.1) (ci := 9) (v := .ref ((ad_this 11))) (C := RX10) (T := TX10) (N := 31) hx hb hg hu_X10 hown hc.1 hW.1 0 rfl rfl 11 (by decide) (hg _ wd_4_49) (fun _ h9 => h9) rfl dX10_lay_229 ?_
                  refine lv_iconst (v := 5) hx hb dX10_lay_232 (by decide) ?_
                  refine lv_iload_n hx hb dX10_lay_233 rfl (lv_at hl 1 rfl) ?_
                  refine lv_iadd hx hb dX10_lay_234 ?_
                  obtain ⟨b_235, hF⟩ := inb_el hF
                  refine va_iald hx hb hc.1 hW.1 9 0 rfl rfl b_235 dX10_lay_235 ?_
                  obtain ⟨b_236, hF⟩ := inb_el hF
                  refine va_iast hx hb hc.1 hW.1 hW.2.1 hW.2.2 9 0 rfl rfl b_236 dX10_lay_236 (fun H locs hP hD hS => ?_)
                  have hW : Wd G A s.heap [(h_this, oX10 ad_this v_typed q1.2.1 q1.2.2.1 v_kept v_all v_sightAll v_aheadMany), ((ad_this 9), cI G 8 a_boat_216), ((ad_this 8), cI G 2 ((upd q1.2.2.2.2.1 (Int32.toNatClampNeg 0) ((q1.2.2.2.2.1 (Int32.toNatClampNeg 1)))))), ((ad_this 12), cI G 10 a_brings_218), ((ad_this 13), cI G 4 ((upd ((upd q1.2.2.2.2.2.2.1 (Int32.toNatClampNeg 0) ((q1.2.2.2.2.2.2.1 (Int32.toNatClampNeg 2))))) (Int32.toNatClampNeg 1) ((((upd q1.2.2.2.2.2.2.1 (Int32.toNatClampNeg 0) ((q1.2.2.2.2.2.2.1 (Int32.toNatClampNeg 2))))) (Int32.toNatClampNeg 3)))))), ((ad_this 16), cI G 3 a_days), ((ad_this 2), cI G 6 q41), ((ad_this 5), cI G 2 ((upd q1.2.2.2.2.2.2.2.2.1 (Int32.toNatClampNeg 0) ((q1.2.2.2.2.2.2.2.2.1 (Int32.toNatClampNeg 1)))))), ((ad_this 7), cI G 12 a_minutes_189), ((ad_this 11), cI G 10 ((upd a_noise_218 (Int32.toNatClampNeg x1_218) ((a_noise_218 (Int32.toNatClampNeg ((5 + x1_218)))))))), ((ad_this 6), cI G 12 a_people_189), ((ad_this 3), cI G 2 ((upd q1.2.2.2.2.2.2.2.2.2.2.2.2.1 (Int32.toNatClampNeg 0) ((q1.2.2.2.2.2.2.2.2.2.2.2.2.1 (Int32.toNatClampNeg 1)))))), ((ad_this 0), cB G 200 a_text), ((ad_this 4), cI G 32 a_told_145), ((ad_this 10), cI G 2 ((upd q1.2.2.2.2.2.2.2.2.2.2.2.2.2.2 (Int32.toNatClampNeg 0) ((q1.2.2.2.2.2.2.2.2.2.2.2.2.2.2 (Int32.toNatClampNeg 1))))))] H locs := ⟨hP, hD, hS⟩
                  refine lv_aload_n hx hb dX10_lay_237 rfl (lv_at hl 0 rfl) ?_
                  refine va_get (D := G.1) (ci := 9) (v := .ref ((ad_this 12))) (C := RX10) (T := TX10) (N := 31) hx hb hg hu_X10 hown hc.1 hW.1 0 rfl rfl 12 (by decide) (hg _ wd_4_50) (fun _ h9 => h9) rfl dX10_lay_238 ?_
                  refine lv_iload_n hx hb dX10_lay_241 rfl (lv_at hl 1 rfl) ?_
                  refine lv_aload_n hx hb dX10_lay_242 rfl (lv_at hl 0 rfl) ?_
                  refine va_get (D := G.1) (ci := 9) (v := .ref ((ad_this 12))) (C := RX10) (T := TX10) (N := 31) hx hb hg hu_X10 hown hc.1 hW.1 0 rfl rfl 12 (by decide) (hg _ wd_4_50) (fun _ h9 => h9) rfl dX10_lay_243 ?_
                  refine lv_iconst (v := 5) hx hb dX10_lay_246 (by decide) ?_
                  refine lv_iload_n hx hb dX10_lay_247 rfl (lv_at hl 1 rfl) ?_
                  refine lv_iadd hx hb dX10_lay_248 ?_
                  obtain ⟨b_249, hF⟩ := inb_el hF
                  refine va_iald hx hb hc.1 hW.1 3 0 rfl rfl b_249 dX10_lay_249 ?_
                  obtain ⟨b_250, hF⟩ := inb_el hF
                  refine va_iast hx hb hc.1 hW.1 hW.2.1 hW.2.2 3 0 rfl rfl b_250 dX10_lay_250 (fun H locs hP hD hS => ?_)
                  have hW : Wd G A s.heap [(h_this, oX10 ad_this v_typed q1.2.1 q1.2.2.1 v_kept v_all v_sightAll v_aheadMany), ((ad_this 9), cI G 8 a_boat_216), ((ad_this 8), cI G 2 ((upd q1.2.2.2.2.1 (Int32.toNatClampNeg 0) ((q1.2.2.2.2.1 (Int32.toNatClampNeg 1)))))), ((ad_this 12), cI G 10 ((upd a_brings_218 (Int32.toNatClampNeg x1_218) ((a_brings_218 (Int32.toNatClampNeg ((5 + x1_218)))))))), ((ad_this 13), cI G 4 ((upd ((upd q1.2.2.2.2.2.2.1 (Int32.toNatClampNeg 0) ((q1.2.2.2.2.2.2.1 (Int32.toNatClampNeg 2))))) (Int32.toNatClampNeg 1) ((((upd q1.2.2.2.2.2.2.1 (Int32.toNatClampNeg 0) ((q1.2.2.2.2.2.2.1 (Int32.toNatClampNeg 2))))) (Int32.toNatClampNeg 3)))))), ((ad_this 16), cI G 3 a_days), ((ad_this 2), cI G 6 q41), ((ad_this 5), cI G 2 ((upd q1.2.2.2.2.2.2.2.2.1 (Int32.toNatClampNeg 0) ((q1.2.2.2.2.2.2.2.2.1 (Int32.toNatClampNeg 1)))))), ((ad_this 7), cI G 12 a_minutes_189), ((ad_this 11), cI G 10 ((upd a_noise_218 (Int32.toNatClampNeg x1_218) ((a_noise_218 (Int32.toNatClampNeg ((5 + x1_218)))))))), ((ad_this 6), cI G 12 a_people_189), ((ad_this 3), cI G 2 ((upd q1.2.2.2.2.2.2.2.2.2.2.2.2.1 (Int32.toNatClampNeg 0) ((q1.2.2.2.2.2.2.2.2.2.2.2.2.1 (Int32.toNatClampNeg 1)))))), ((ad_this 0), cB G 200 a_text), ((ad_this 4), cI G 32 a_told_145), ((ad_this 10), cI G 2 ((upd q1.2.2.2.2.2.2.2.2.2.2.2.2.2.2 (Int32.toNatClampNeg 0) ((q1.2.2.2.2.2.2.2.2.2.2.2.2.2.2 (Int32.toNatClampNeg 1))))))] H locs := ⟨hP, hD, hS⟩
                  refine lv_iinc (v := (x1_218 + 1)) (lv' := [(1, .int ((x1_218 + 1))), (0, .ref h_this)]) hx hb dX10_lay_251 hl (k := 1) rfl rfl (by decide) rfl (fun ls hl => ?_)
                  refine lv_goto (tgt := 218) hx hb dX10_lay_254 (by decide) ?_
                  exact ih ((x1_218 + 1)) ((upd a_brings_218 (Int32.toNatClampNeg x1_218) ((a_brings_218 (Int32.toNatClampNeg ((5 + x1_218))))))) ((upd a_noise_218 (Int32.toNatClampNeg x1_218) ((a_noise_218 (Int32.toNatClampNeg ((5 + x1_218))))))) _ _ _ hF (lv_sub hl [1, 0] rfl) hW
            exact L_218 5000 0 q1.2.2.2.2.2.1 q1.2.2.2.2.2.2.2.2.2.2.1 _ _ _ hF (lv_sub hl [1, 0] rfl) hW
          have L_191 : ∀ (n : Nat) (x1_191 : Int32) (a_boat_191 : Nat → Int32) (ls : Array Slot) (H : Heap) (locs : List Loc), L_X10_lay_191 k_216 n x1_191 a_boat_191 = some out → lv_has ls 2 [(0, .ref h_this), (1, .int x1_191)] → Wd G A s.heap [(h_this, oX10 ad_this v_typed q1.2.1 q1.2.2.1 v_kept v_all v_sightAll v_aheadMany), ((ad_this 9), cI G 8 a_boat_191), ((ad_this 8), cI G 2 ((upd q1.2.2.2.2.1 (Int32.toNatClampNeg 0) ((q1.2.2.2.2.1 (Int32.toNatClampNeg 1)))))), ((ad_this 12), cI G 10 q1.2.2.2.2.2.1), ((ad_this 13), cI G 4 ((upd ((upd q1.2.2.2.2.2.2.1 (Int32.toNatClampNeg 0) ((q1.2.2.2.2.2.2.1 (Int32.toNatClampNeg 2))))) (Int32.toNatClampNeg 1) ((((upd q1.2.2.2.2.2.2.1 (Int32.toNatClampNeg 0) ((q1.2.2.2.2.2.2.1 (Int32.toNatClampNeg 2))))) (Int32.toNatClampNeg 3)))))), ((ad_this 16), cI G 3 a_days), ((ad_this 2), cI G 6 q41), ((ad_this 5), cI G 2 ((upd q1.2.2.2.2.2.2.2.2.1 (Int32.toNatClampNeg 0) ((q1.2.2.2.2.2.2.2.2.1 (Int32.toNatClampNeg 1)))))), ((ad_this 7), cI G 12 a_minutes_189), ((ad_this 11), cI G 10 q1.2.2.2.2.2.2.2.2.2.2.1), ((ad_this 6), cI G 12 a_people_189), ((ad_this 3), cI G 2 ((upd q1.2.2.2.2.2.2.2.2.2.2.2.2.1 (Int32.toNatClampNeg 0) ((q1.2.2.2.2.2.2.2.2.2.2.2.2.1 (Int32.toNatClampNeg 1)))))), ((ad_this 0), cB G 200 a_text), ((ad_this 4), cI G 32 a_told_145), ((ad_this 10), cI G 2 ((upd q1.2.2.2.2.2.2.2.2.2.2.2.2.2.2 (Int32.toNatClampNeg 0) ((q1.2.2.2.2.2.2.2.2.2.2.2.2.2.2 (Int32.toNatClampNeg 1))))))] H locs → W p l e ({ frames := 4, cells := 0, slots := 0, locals := 93 } : Room) s m args below meth c H locs 0 0 Q (F0 m 191 ls []) := by
            intro n
            induction n with
            | zero => intro x1_191 a_boat_191 ls H locs hF hl hW; have h0 : none = some out := hF; cases h0
            | succ n ih =>
              intro x1_191 a_boat_191 ls H locs hF hl hW
              rw [L_X10_lay_191] at hF
              refine lv_iload_n hx hb dX10_lay_191 rfl (lv_at hl 1 rfl) ?_
              refine lv_iconst (v := 4) hx hb dX10_lay_192 (by decide) ?_
              refine lv_icmp_ge (tgt := 216) hx hb dX10_lay_193 (by decide) (fun c_193 => ?_) (fun c_193 => ?_)
              · have hF := ite_t hF c_193
                exact J_216 a_boat_191 _ _ _ hF (lv_sub hl [0] rfl) hW
              · have hF := ite_f hF c_193
                refine lv_aload_n hx hb dX10_lay_196 rfl (lv_at hl 0 rfl) ?_
                refine va_get (D := G.1) (ci := 9) (v := .ref ((ad_this 9))) (C := RX10) (T := TX10) (N := 31) hx hb hg hu_X10 hown hc.1 hW.1 0 rfl rfl 9 (by decide) (hg _ wd_4_47) (fun _ h9 => h9) rfl dX10_lay_197 ?_
                refine lv_iload_n hx hb dX10_lay_200 rfl (lv_at hl 1 rfl) ?_
                refine lv_aload_n hx hb dX10_lay_201 rfl (lv_at hl 0 rfl) ?_
                refine va_get (D := G.1) (ci := 9) (v := .ref ((ad_this 9))) (C := RX10) (T := TX10) (N := 31) hx hb hg hu_X10 hown hc.1 hW.1 0 rfl rfl 9 (by decide) (hg _ wd_4_47) (fun _ h9 => h9) rfl dX10_lay_202 ?_
                refine lv_iconst (v := 4) hx hb dX10_lay_205 (by decide) ?_
                refine lv_iload_n hx hb dX10_lay_206 rfl (lv_at hl 1 rfl) ?_
                refine lv_iadd hx hb dX10_lay_207 ?_
                obtain ⟨b_208, hF⟩ := inb_el hF
                refine va_iald hx hb hc.1 hW.1 1 0 rfl rfl b_208 dX10_lay_208 ?_
                obtain ⟨b_209, hF⟩ := inb_el hF
                refine va_iast hx hb hc.1 hW.1 hW.2.1 hW.2.2 1 0 rfl rfl b_209 dX10_lay_209 (fun H locs hP hD hS => ?_)
                have hW : Wd G A s.heap [(h_this, oX10 ad_this v_typed q1.2.1 q1.2.2.1 v_kept v_all v_sightAll v_aheadMany), ((ad_this 9), cI G 8 ((upd a_boat_191 (Int32.toNatClampNeg x1_191) ((a_boat_191 (Int32.toNatClampNeg ((4 + x1_191)))))))), ((ad_this 8), cI G 2 ((upd q1.2.2.2.2.1 (Int32.toNatClampNeg 0) ((q1.2.2.2.2.1 (Int32.toNatClampNeg 1)))))), ((ad_this 12), cI G 10 q1.2.2.2.2.2.1), ((ad_this 13), cI G 4 ((upd ((upd q1.2.2.2.2.2.2.1 (Int32.toNatClampNeg 0) ((q1.2.2.2.2.2.2.1 (Int32.toNatClampNeg 2))))) (Int32.toNatClampNeg 1) ((((upd q1.2.2.2.2.2.2.1 (Int32.toNatClampNeg 0) ((q1.2.2.2.2.2.2.1 (Int32.toNatClampNeg 2))))) (Int32.toNatClampNeg 3)))))), ((ad_this 16), cI G 3 a_days), ((ad_this 2), cI G 6 q41), ((ad_this 5), cI G 2 ((upd q1.2.2.2.2.2.2.2.2.1 (Int32.toNatClampNeg 0) ((q1.2.2.2.2.2.2.2.2.1 (Int32.toNatClampNeg 1)))))), ((ad_this 7), cI G 12 a_minutes_189), ((ad_this 11), cI G 10 q1.2.2.2.2.2.2.2.2.2.2.1), ((ad_this 6), cI G 12 a_people_189), ((ad_this 3), cI G 2 ((upd q1.2.2.2.2.2.2.2.2.2.2.2.2.1 (Int32.toNatClampNeg 0) ((q1.2.2.2.2.2.2.2.2.2.2.2.2.1 (Int32.toNatClampNeg 1)))))), ((ad_this 0), cB G 200 a_text), ((ad_this 4), cI G 32 a_told_145), ((ad_this 10), cI G 2 ((upd q1.2.2.2.2.2.2.2.2.2.2.2.2.2.2 (Int32.toNatClampNeg 0) ((q1.2.2.2.2.2.2.2.2.2.2.2.2.2.2 (Int32.toNatClampNeg 1))))))] H locs := ⟨hP, hD, hS⟩
                refine lv_iinc (v := (x1_191 + 1)) (lv' := [(1, .int ((x1_191 + 1))), (0, .ref h_this)]) hx hb dX10_lay_210 hl (k := 1) rfl rfl (by decide) rfl (fun ls hl => ?_)
                refine lv_goto (tgt := 191) hx hb dX10_lay_213 (by decide) ?_
                exact ih ((x1_191 + 1)) ((upd a_boat_191 (Int32.toNatClampNeg x1_191) ((a_boat_191 (Int32.toNatClampNeg ((4 + x1_191))))))) _ _ _ hF (lv_sub hl [1, 0] rfl) hW
          exact L_191 5000 0 q1.2.2.2.1 _ _ _ hF (lv_sub hl [1, 0] rfl) hW
        have L_147 : ∀ (n : Nat) (x1_147 : Int32) (a_minutes_147 : Nat → Int32) (a_people_147 : Nat → Int32) (ls : Array Slot) (H : Heap) (locs : List Loc), L_X10_lay_147 k_189 n x1_147 a_minutes_147 a_people_147 = some out → lv_has ls 2 [(0, .ref h_this), (1, .int x1_147)] → Wd G A s.heap [(h_this, oX10 ad_this v_typed q1.2.1 q1.2.2.1 v_kept v_all v_sightAll v_aheadMany), ((ad_this 9), cI G 8 q1.2.2.2.1), ((ad_this 8), cI G 2 ((upd q1.2.2.2.2.1 (Int32.toNatClampNeg 0) ((q1.2.2.2.2.1 (Int32.toNatClampNeg 1)))))), ((ad_this 12), cI G 10 q1.2.2.2.2.2.1), ((ad_this 13), cI G 4 ((upd ((upd q1.2.2.2.2.2.2.1 (Int32.toNatClampNeg 0) ((q1.2.2.2.2.2.2.1 (Int32.toNatClampNeg 2))))) (Int32.toNatClampNeg 1) ((((upd q1.2.2.2.2.2.2.1 (Int32.toNatClampNeg 0) ((q1.2.2.2.2.2.2.1 (Int32.toNatClampNeg 2))))) (Int32.toNatClampNeg 3)))))), ((ad_this 16), cI G 3 a_days), ((ad_this 2), cI G 6 q41), ((ad_this 5), cI G 2 ((upd q1.2.2.2.2.2.2.2.2.1 (Int32.toNatClampNeg 0) ((q1.2.2.2.2.2.2.2.2.1 (Int32.toNatClampNeg 1)))))), ((ad_this 7), cI G 12 a_minutes_147), ((ad_this 11), cI G 10 q1.2.2.2.2.2.2.2.2.2.2.1), ((ad_this 6), cI G 12 a_people_147), ((ad_this 3), cI G 2 ((upd q1.2.2.2.2.2.2.2.2.2.2.2.2.1 (Int32.toNatClampNeg 0) ((q1.2.2.2.2.2.2.2.2.2.2.2.2.1 (Int32.toNatClampNeg 1)))))), ((ad_this 0), cB G 200 a_text), ((ad_this 4), cI G 32 a_told_145), ((ad_this 10), cI G 2 ((upd q1.2.2.2.2.2.2.2.2.2.2.2.2.2.2 (Int32.toNatClampNeg 0) ((q1.2.2.2.2.2.2.2.2.2.2.2.2.2.2 (Int32.toNatClampNeg 1))))))] H locs → W p l e ({ frames := 4, cells := 0, slots := 0, locals := 93 } : Room) s m args below meth c H locs 0 0 Q (F0 m 147 ls []) := by
          intro n
          induction n with
          | zero => intro x1_147 a_minutes_147 a_people_147 ls H locs hF hl hW; have h0 : none = some out := hF; cases h0
          | succ n ih =>
            intro x1_147 a_minutes_147 a_people_147 ls H locs hF hl hW
            rw [L_X10_lay_147] at hF
            refine lv_iload_n hx hb dX10_lay_147 rfl (lv_at hl 1 rfl) ?_
            refine lv_bipush (v := 6) hx hb dX10_lay_148 (by decide) ?_
            refine lv_icmp_ge (tgt := 189) hx hb dX10_lay_150 (by decide) (fun c_150 => ?_) (fun c_150 => ?_)
            · have hF := ite_t hF c_150
              exact J_189 a_minutes_147 a_people_147 _ _ _ hF (lv_sub hl [0] rfl) hW
            · have hF := ite_f hF c_150
              refine lv_aload_n hx hb dX10_lay_153 rfl (lv_at hl 0 rfl) ?_
              refine va_get (D := G.1) (ci := 9) (v := .ref ((ad_this 6))) (C := RX10) (T := TX10) (N := 31) hx hb hg hu_X10 hown hc.1 hW.1 0 rfl rfl 6 (by decide) (hg _ wd_4_44) (fun _ h9 => h9) rfl dX10_lay_154 ?_
              refine lv_iload_n hx hb dX10_lay_157 rfl (lv_at hl 1 rfl) ?_
              refine lv_aload_n hx hb dX10_lay_158 rfl (lv_at hl 0 rfl) ?_
              refine va_get (D := G.1) (ci := 9) (v := .ref ((ad_this 6))) (C := RX10) (T := TX10) (N := 31) hx hb hg hu_X10 hown hc.1 hW.1 0 rfl rfl 6 (by decide) (hg _ wd_4_44) (fun _ h9 => h9) rfl dX10_lay_159 ?_
              refine lv_bipush (v := 6) hx hb dX10_lay_162 (by decide) ?_
              refine lv_iload_n hx hb dX10_lay_164 rfl (lv_at hl 1 rfl) ?_
              refine lv_iadd hx hb dX10_lay_165 ?_
              obtain ⟨b_166, hF⟩ := inb_el hF
              refine va_iald hx hb hc.1 hW.1 10 0 rfl rfl b_166 dX10_lay_166 ?_
              obtain ⟨b_167, hF⟩ := inb_el hF
              refine va_iast hx hb hc.1 hW.1 hW.2.1 hW.2.2 10 0 rfl rfl b_167 dX10_lay_167 (fun H locs hP hD hS => ?_)
              have hW : Wd G A s.heap [(h_this, oX10 ad_this v_typed q1.2.1 q1.2.2.1 v_kept v_all v_sightAll v_aheadMany), ((ad_this 9), cI G 8 q1.2.2.2.1), ((ad_this 8), cI G 2 ((upd q1.2.2.2.2.1 (Int32.toNatClampNeg 0) ((q1.2.2.2.2.1 (Int32.toNatClampNeg 1)))))), ((ad_this 12), cI G 10 q1.2.2.2.2.2.1), ((ad_this 13), cI G 4 ((upd ((upd q1.2.2.2.2.2.2.1 (Int32.toNatClampNeg 0) ((q1.2.2.2.2.2.2.1 (Int32.toNatClampNeg 2))))) (Int32.toNatClampNeg 1) ((((upd q1.2.2.2.2.2.2.1 (Int32.toNatClampNeg 0) ((q1.2.2.2.2.2.2.1 (Int32.toNatClampNeg 2))))) (Int32.toNatClampNeg 3)))))), ((ad_this 16), cI G 3 a_days), ((ad_this 2), cI G 6 q41), ((ad_this 5), cI G 2 ((upd q1.2.2.2.2.2.2.2.2.1 (Int32.toNatClampNeg 0) ((q1.2.2.2.2.2.2.2.2.1 (Int32.toNatClampNeg 1)))))), ((ad_this 7), cI G 12 a_minutes_147), ((ad_this 11), cI G 10 q1.2.2.2.2.2.2.2.2.2.2.1), ((ad_this 6), cI G 12 ((upd a_people_147 (Int32.toNatClampNeg x1_147) ((a_people_147 (Int32.toNatClampNeg ((6 + x1_147)))))))), ((ad_this 3), cI G 2 ((upd q1.2.2.2.2.2.2.2.2.2.2.2.2.1 (Int32.toNatClampNeg 0) ((q1.2.2.2.2.2.2.2.2.2.2.2.2.1 (Int32.toNatClampNeg 1)))))), ((ad_this 0), cB G 200 a_text), ((ad_this 4), cI G 32 a_told_145), ((ad_this 10), cI G 2 ((upd q1.2.2.2.2.2.2.2.2.2.2.2.2.2.2 (Int32.toNatClampNeg 0) ((q1.2.2.2.2.2.2.2.2.2.2.2.2.2.2 (Int32.toNatClampNeg 1))))))] H locs := ⟨hP, hD, hS⟩
              refine lv_aload_n hx hb dX10_lay_168 rfl (lv_at hl 0 rfl) ?_
              refine va_get (D := G.1) (ci := 9) (v := .ref ((ad_this 7))) (C := RX10) (T := TX10) (N := 31) hx hb hg hu_X10 hown hc.1 hW.1 0 rfl rfl 7 (by decide) (hg _ wd_4_45) (fun _ h9 => h9) rfl dX10_lay_169 ?_
              refine lv_iload_n hx hb dX10_lay_172 rfl (lv_at hl 1 rfl) ?_
              refine lv_aload_n hx hb dX10_lay_173 rfl (lv_at hl 0 rfl) ?_
              refine va_get (D := G.1) (ci := 9) (v := .ref ((ad_this 7))) (C := RX10) (T := TX10) (N := 31) hx hb hg hu_X10 hown hc.1 hW.1 0 rfl rfl 7 (by decide) (hg _ wd_4_45) (fun _ h9 => h9) rfl dX10_lay_174 ?_
              refine lv_bipush (v := 6) hx hb dX10_lay_177 (by decide) ?_
              refine lv_iload_n hx hb dX10_lay_179 rfl (lv_at hl 1 rfl) ?_
              refine lv_iadd hx hb dX10_lay_180 ?_
              obtain ⟨b_181, hF⟩ := inb_el hF
              refine va_iald hx hb hc.1 hW.1 8 0 rfl rfl b_181 dX10_lay_181 ?_
              obtain ⟨b_182, hF⟩ := inb_el hF
              refine va_iast hx hb hc.1 hW.1 hW.2.1 hW.2.2 8 0 rfl rfl b_182 dX10_lay_182 (fun H locs hP hD hS => ?_)
              have hW : Wd G A s.heap [(h_this, oX10 ad_this v_typed q1.2.1 q1.2.2.1 v_kept v_all v_sightAll v_aheadMany), ((ad_this 9), cI G 8 q1.2.2.2.1), ((ad_this 8), cI G 2 ((upd q1.2.2.2.2.1 (Int32.toNatClampNeg 0) ((q1.2.2.2.2.1 (Int32.toNatClampNeg 1)))))), ((ad_this 12), cI G 10 q1.2.2.2.2.2.1), ((ad_this 13), cI G 4 ((upd ((upd q1.2.2.2.2.2.2.1 (Int32.toNatClampNeg 0) ((q1.2.2.2.2.2.2.1 (Int32.toNatClampNeg 2))))) (Int32.toNatClampNeg 1) ((((upd q1.2.2.2.2.2.2.1 (Int32.toNatClampNeg 0) ((q1.2.2.2.2.2.2.1 (Int32.toNatClampNeg 2))))) (Int32.toNatClampNeg 3)))))), ((ad_this 16), cI G 3 a_days), ((ad_this 2), cI G 6 q41), ((ad_this 5), cI G 2 ((upd q1.2.2.2.2.2.2.2.2.1 (Int32.toNatClampNeg 0) ((q1.2.2.2.2.2.2.2.2.1 (Int32.toNatClampNeg 1)))))), ((ad_this 7), cI G 12 ((upd a_minutes_147 (Int32.toNatClampNeg x1_147) ((a_minutes_147 (Int32.toNatClampNeg ((6 + x1_147)))))))), ((ad_this 11), cI G 10 q1.2.2.2.2.2.2.2.2.2.2.1), ((ad_this 6), cI G 12 ((upd a_people_147 (Int32.toNatClampNeg x1_147) ((a_people_147 (Int32.toNatClampNeg ((6 + x1_147)))))))), ((ad_this 3), cI G 2 ((upd q1.2.2.2.2.2.2.2.2.2.2.2.2.1 (Int32.toNatClampNeg 0) ((q1.2.2.2.2.2.2.2.2.2.2.2.2.1 (Int32.toNatClampNeg 1)))))), ((ad_this 0), cB G 200 a_text), ((ad_this 4), cI G 32 a_told_145), ((ad_this 10), cI G 2 ((upd q1.2.2.2.2.2.2.2.2.2.2.2.2.2.2 (Int32.toNatClampNeg 0) ((q1.2.2.2.2.2.2.2.2.2.2.2.2.2.2 (Int32.toNatClampNeg 1))))))] H locs := ⟨hP, hD, hS⟩
              refine lv_iinc (v := (x1_147 + 1)) (lv' := [(1, .int ((x1_147 + 1))), (0, .ref h_this)]) hx hb dX10_lay_183 hl (k := 1) rfl rfl (by decide) rfl (fun ls hl => ?_)
              refine lv_goto (tgt := 147) hx hb dX10_lay_186 (by decide) ?_
              exact ih ((x1_147 + 1)) ((upd a_minutes_147 (Int32.toNatClampNeg x1_147) ((a_minutes_147 (Int32.toNatClampNeg ((6 + x1_147))))))) ((upd a_people_147 (Int32.toNatClampNeg x1_147) ((a_people_147 (Int32.toNatClampNeg ((6 + x1_147))))))) _ _ _ hF (lv_sub hl [1, 0] rfl) hW
        exact L_147 5000 0 q1.2.2.2.2.2.2.2.2.2.1 q1.2.2.2.2.2.2.2.2.2.2.2.1 _ _ _ hF (lv_sub hl [1, 0] rfl) hW
      have L_118 : ∀ (n : Nat) (x1_118 : Int32) (a_told_118 : Nat → Int32) (ls : Array Slot) (H : Heap) (locs : List Loc), L_X10_lay_118 k_145 n x1_118 a_told_118 = some out → lv_has ls 2 [(0, .ref h_this), (1, .int x1_118)] → Wd G A s.heap [(h_this, oX10 ad_this v_typed q1.2.1 q1.2.2.1 v_kept v_all v_sightAll v_aheadMany), ((ad_this 9), cI G 8 q1.2.2.2.1), ((ad_this 8), cI G 2 ((upd q1.2.2.2.2.1 (Int32.toNatClampNeg 0) ((q1.2.2.2.2.1 (Int32.toNatClampNeg 1)))))), ((ad_this 12), cI G 10 q1.2.2.2.2.2.1), ((ad_this 13), cI G 4 ((upd ((upd q1.2.2.2.2.2.2.1 (Int32.toNatClampNeg 0) ((q1.2.2.2.2.2.2.1 (Int32.toNatClampNeg 2))))) (Int32.toNatClampNeg 1) ((((upd q1.2.2.2.2.2.2.1 (Int32.toNatClampNeg 0) ((q1.2.2.2.2.2.2.1 (Int32.toNatClampNeg 2))))) (Int32.toNatClampNeg 3)))))), ((ad_this 16), cI G 3 a_days), ((ad_this 2), cI G 6 q41), ((ad_this 5), cI G 2 ((upd q1.2.2.2.2.2.2.2.2.1 (Int32.toNatClampNeg 0) ((q1.2.2.2.2.2.2.2.2.1 (Int32.toNatClampNeg 1)))))), ((ad_this 7), cI G 12 q1.2.2.2.2.2.2.2.2.2.1), ((ad_this 11), cI G 10 q1.2.2.2.2.2.2.2.2.2.2.1), ((ad_this 6), cI G 12 q1.2.2.2.2.2.2.2.2.2.2.2.1), ((ad_this 3), cI G 2 ((upd q1.2.2.2.2.2.2.2.2.2.2.2.2.1 (Int32.toNatClampNeg 0) ((q1.2.2.2.2.2.2.2.2.2.2.2.2.1 (Int32.toNatClampNeg 1)))))), ((ad_this 0), cB G 200 a_text), ((ad_this 4), cI G 32 a_told_118), ((ad_this 10), cI G 2 ((upd q1.2.2.2.2.2.2.2.2.2.2.2.2.2.2 (Int32.toNatClampNeg 0) ((q1.2.2.2.2.2.2.2.2.2.2.2.2.2.2 (Int32.toNatClampNeg 1))))))] H locs → W p l e ({ frames := 4, cells := 0, slots := 0, locals := 93 } : Room) s m args below meth c H locs 0 0 Q (F0 m 118 ls []) := by
        intro n
        induction n with
        | zero => intro x1_118 a_told_118 ls H locs hF hl hW; have h0 : none = some out := hF; cases h0
        | succ n ih =>
          intro x1_118 a_told_118 ls H locs hF hl hW
          rw [L_X10_lay_118] at hF
          refine lv_iload_n hx hb dX10_lay_118 rfl (lv_at hl 1 rfl) ?_
          refine lv_bipush (v := 16) hx hb dX10_lay_119 (by decide) ?_
          refine lv_icmp_ge (tgt := 145) hx hb dX10_lay_121 (by decide) (fun c_121 => ?_) (fun c_121 => ?_)
          · have hF := ite_t hF c_121
            exact J_145 a_told_118 _ _ _ hF (lv_sub hl [0] rfl) hW
          · have hF := ite_f hF c_121
            refine lv_aload_n hx hb dX10_lay_124 rfl (lv_at hl 0 rfl) ?_
            refine va_get (D := G.1) (ci := 9) (v := .ref ((ad_this 4))) (C := RX10) (T := TX10) (N := 31) hx hb hg hu_X10 hown hc.1 hW.1 0 rfl rfl 4 (by decide) (hg _ wd_4_42) (fun _ h9 => h9) rfl dX10_lay_125 ?_
            refine lv_iload_n hx hb dX10_lay_128 rfl (lv_at hl 1 rfl) ?_
            refine lv_aload_n hx hb dX10_lay_129 rfl (lv_at hl 0 rfl) ?_
            refine va_get (D := G.1) (ci := 9) (v := .ref ((ad_this 4))) (C := RX10) (T := TX10) (N := 31) hx hb hg hu_X10 hown hc.1 hW.1 0 rfl rfl 4 (by decide) (hg _ wd_4_42) (fun _ h9 => h9) rfl dX10_lay_130 ?_
            refine lv_bipush (v := 16) hx hb dX10_lay_133 (by decide) ?_
            refine lv_iload_n hx hb dX10_lay_135 rfl (lv_at hl 1 rfl) ?_
            refine lv_iadd hx hb dX10_lay_136 ?_
            obtain ⟨b_137, hF⟩ := inb_el hF
            refine va_iald hx hb hc.1 hW.1 13 0 rfl rfl b_137 dX10_lay_137 ?_
            obtain ⟨b_138, hF⟩ := inb_el hF
            refine va_iast hx hb hc.1 hW.1 hW.2.1 hW.2.2 13 0 rfl rfl b_138 dX10_lay_138 (fun H locs hP hD hS => ?_)
            have hW : Wd G A s.heap [(h_this, oX10 ad_this v_typed q1.2.1 q1.2.2.1 v_kept v_all v_sightAll v_aheadMany), ((ad_this 9), cI G 8 q1.2.2.2.1), ((ad_this 8), cI G 2 ((upd q1.2.2.2.2.1 (Int32.toNatClampNeg 0) ((q1.2.2.2.2.1 (Int32.toNatClampNeg 1)))))), ((ad_this 12), cI G 10 q1.2.2.2.2.2.1), ((ad_this 13), cI G 4 ((upd ((upd q1.2.2.2.2.2.2.1 (Int32.toNatClampNeg 0) ((q1.2.2.2.2.2.2.1 (Int32.toNatClampNeg 2))))) (Int32.toNatClampNeg 1) ((((upd q1.2.2.2.2.2.2.1 (Int32.toNatClampNeg 0) ((q1.2.2.2.2.2.2.1 (Int32.toNatClampNeg 2))))) (Int32.toNatClampNeg 3)))))), ((ad_this 16), cI G 3 a_days), ((ad_this 2), cI G 6 q41), ((ad_this 5), cI G 2 ((upd q1.2.2.2.2.2.2.2.2.1 (Int32.toNatClampNeg 0) ((q1.2.2.2.2.2.2.2.2.1 (Int32.toNatClampNeg 1)))))), ((ad_this 7), cI G 12 q1.2.2.2.2.2.2.2.2.2.1), ((ad_this 11), cI G 10 q1.2.2.2.2.2.2.2.2.2.2.1), ((ad_this 6), cI G 12 q1.2.2.2.2.2.2.2.2.2.2.2.1), ((ad_this 3), cI G 2 ((upd q1.2.2.2.2.2.2.2.2.2.2.2.2.1 (Int32.toNatClampNeg 0) ((q1.2.2.2.2.2.2.2.2.2.2.2.2.1 (Int32.toNatClampNeg 1)))))), ((ad_this 0), cB G 200 a_text), ((ad_this 4), cI G 32 ((upd a_told_118 (Int32.toNatClampNeg x1_118) ((a_told_118 (Int32.toNatClampNeg ((16 + x1_118)))))))), ((ad_this 10), cI G 2 ((upd q1.2.2.2.2.2.2.2.2.2.2.2.2.2.2 (Int32.toNatClampNeg 0) ((q1.2.2.2.2.2.2.2.2.2.2.2.2.2.2 (Int32.toNatClampNeg 1))))))] H locs := ⟨hP, hD, hS⟩
            refine lv_iinc (v := (x1_118 + 1)) (lv' := [(1, .int ((x1_118 + 1))), (0, .ref h_this)]) hx hb dX10_lay_139 hl (k := 1) rfl rfl (by decide) rfl (fun ls hl => ?_)
            refine lv_goto (tgt := 118) hx hb dX10_lay_142 (by decide) ?_
            exact ih ((x1_118 + 1)) ((upd a_told_118 (Int32.toNatClampNeg x1_118) ((a_told_118 (Int32.toNatClampNeg ((16 + x1_118))))))) _ _ _ hF (lv_sub hl [1, 0] rfl) hW
      exact L_118 5000 0 q1.2.2.2.2.2.2.2.2.2.2.2.2.2.1 _ _ _ hF (lv_sub hl [1, 0] rfl) hW
    · have hF := ite_t hF c_15
      refine lv_bipush (v := (-2)) hx hb dX10_lay_18 (by decide) ?_
      obtain rfl := Option.some.inj hF
      exact hret _ _ _ _ hW dX10_lay_20
theorem dX10_isSign_0 : decode cX10_isSign 0 = .ok (.iload_n 1, 1) := by decide +kernel
theorem dX10_isSign_1 : decode cX10_isSign 1 = .ok (.iconst 0, 1) := by decide +kernel
theorem dX10_isSign_2 : decode cX10_isSign 2 = .ok (.aload_n 0, 1) := by decide +kernel
theorem dX10_isSign_3 : decode cX10_isSign 3 = .ok (.getfield 17, 3) := by decide +kernel
theorem dX10_isSign_6 : decode cX10_isSign 6 = .ok (.iconst 0, 1) := by decide +kernel
theorem dX10_isSign_7 : decode cX10_isSign 7 = .ok (.iaload, 1) := by decide +kernel
theorem dX10_isSign_8 : decode cX10_isSign 8 = .ok (.iconst 1, 1) := by decide +kernel
theorem dX10_isSign_9 : decode cX10_isSign 9 = .ok (.isub, 1) := by decide +kernel
theorem dX10_isSign_10 : decode cX10_isSign 10 = .ok (.invokestatic 99, 3) := by decide +kernel
theorem dX10_isSign_13 : decode cX10_isSign 13 = .ok (.ireturn, 1) := by decide +kernel
def F_X10_isSign (x1 : Int32) (a_signs : Nat → Int32) : Option (Int32) := (F_X10_in x1 0 (((a_signs (Int32.toNatClampNeg 0)) - 1))).bind (fun q10 => some (q10))
theorem hdV_X10_isSign : yX10_isSign.cls = RX10 ∧ yX10_isSign.cls ≠ "java/lang/invoke/MethodHandle" ∧ yX10_isSign.cls ≠ "java/lang/invoke/VarHandle" ∧ (parseMethodDescriptor yX10_isSign.desc).map (fun d => d.parameters.length) = some 1 := by decide +kernel
set_option maxHeartbeats 4000000 in
set_option maxRecDepth 100000 in
theorem c_X10_isSign (l : Launch) (G : GG) (x1 : Int32) (h_this : Nat) (ad_this : Nat → Nat) (v_typed : Int32) (v_at : Int32) (v_isSo : Int32) (v_kept : Int32) (v_all : Int64) (v_sightAll : Int64) (v_aheadMany : Int32) (a_signs : Nat → Int32) (out : Int32) (hF : F_X10_isSign x1 a_signs = some out) : CtrZ l yX10_isSign (WS yX10_isSign cX10_isSign 2 (some .boolean)) { frames := 1, cells := 0, slots := 0, locals := 22 } G [.ref h_this, .int x1] [(h_this, oX10 ad_this v_typed v_at v_isSo v_kept v_all v_sightAll v_aheadMany), ((ad_this 3), cI G 2 a_signs)] [(h_this, oX10 ad_this v_typed v_at v_isSo v_kept v_all v_sightAll v_aheadMany), ((ad_this 3), cI G 2 a_signs)] out := by
  refine startZ (cc := cX10_isSign) (maxL := 2) (by decide) rfl (Nat.le_of_ble_eq_true rfl) ?_
  intro p e s m args below meth c A Q hx hb hml hts hown hc hA hret ls H locs hl hW
  have hown : s.vm.findClass RX10 = some m.cls := hown
  have hg : ∀ w ∈ GOODS, w.before _ s = true := fun w h => hts w (List.mem_cons_of_mem _ h)
  have hl : lv_has ls 2 [(0, .ref h_this), (1, .int x1)] := hl
  rw [F_X10_isSign] at hF
  refine lv_iload_n hx hb dX10_isSign_0 rfl (lv_at hl 1 rfl) ?_
  refine lv_iconst (v := 0) hx hb dX10_isSign_1 (by decide) ?_
  refine lv_aload_n hx hb dX10_isSign_2 rfl (lv_at hl 0 rfl) ?_
  refine va_get (D := G.1) (ci := 9) (v := .ref ((ad_this 3))) (C := RX10) (T := TX10) (N := 31) hx hb hg hu_X10 hown hc.1 hW.1 0 rfl rfl 3 (by decide) (hg _ wd_4_41) (fun _ h9 => h9) rfl dX10_isSign_3 ?_
  refine lv_iconst (v := 0) hx hb dX10_isSign_6 (by decide) ?_
  have b_7 : vp_in 0 2 := inb_vp (by decide)
  refine va_iald hx hb hc.1 hW.1 1 0 rfl rfl b_7 dX10_isSign_7 ?_
  refine lv_iconst (v := 1) hx hb dX10_isSign_8 (by decide) ?_
  refine lv_isub hx hb dX10_isSign_9 ?_
  obtain ⟨q10, c_10, hF⟩ := bd_el hF
  refine wcZ (ws' := [(h_this, oX10 ad_this v_typed v_at v_isSo v_kept v_all v_sightAll v_aheadMany), ((ad_this 3), cI G 2 a_signs)]) (wc := []) (wr := [(h_this, oX10 ad_this v_typed v_at v_isSo v_kept v_all v_sightAll v_aheadMany), ((ad_this 3), cI G 2 a_signs)]) (w1 := []) (va_runS (As := [.int x1, .int 0, .int (((a_signs (Int32.toNatClampNeg 0)) - 1))]) (rest := []) ⟨hx, hb, hml, hown, hg⟩ (c_X10_in l G x1 0 (((a_signs (Int32.toNatClampNeg 0)) - 1)) q10 c_10 H.size) (va_cwS 3 hg (gS wd_4_136 wd_4_137 wd_1_15 wd_4_138) rfl rfl rfl hdS_X10_in ⟨(Nat.le_of_ble_eq_true rfl), (Nat.le_of_ble_eq_true rfl)⟩) (preS hc hW [] rfl (by decide)) rfl rfl hl.1 rfl (lv_room (Nat.le_of_ble_eq_true rfl)) dX10_isSign_10 ⟨Nat.zero_le _, Nat.zero_le _⟩) hA hW [] [0, 1] [0, 1] rfl rfl (by decide) (by decide) rfl (by decide) (fun z_10 H locs hW => ?_)
  obtain rfl := Option.some.inj hF
  exact hret _ _ _ _ hW z_10 dX10_isSign_13
theorem dX10_areWorks_0 : decode cX10_areWorks 0 = .ok (.iload_n 1, 1) := by decide +kernel
theorem dX10_areWorks_1 : decode cX10_areWorks 1 = .ok (.iconst 0, 1) := by decide +kernel
theorem dX10_areWorks_2 : decode cX10_areWorks 2 = .ok (.iconst 1, 1) := by decide +kernel
theorem dX10_areWorks_3 : decode cX10_areWorks 3 = .ok (.aload_n 0, 1) := by decide +kernel
theorem dX10_areWorks_4 : decode cX10_areWorks 4 = .ok (.getfield 38, 3) := by decide +kernel
theorem dX10_areWorks_7 : decode cX10_areWorks 7 = .ok (.iconst 0, 1) := by decide +kernel
theorem dX10_areWorks_8 : decode cX10_areWorks 8 = .ok (.iaload, 1) := by decide +kernel
theorem dX10_areWorks_9 : decode cX10_areWorks 9 = .ok (.ishl, 1) := by decide +kernel
theorem dX10_areWorks_10 : decode cX10_areWorks 10 = .ok (.iconst 1, 1) := by decide +kernel
theorem dX10_areWorks_11 : decode cX10_areWorks 11 = .ok (.isub, 1) := by decide +kernel
theorem dX10_areWorks_12 : decode cX10_areWorks 12 = .ok (.invokestatic 99, 3) := by decide +kernel
theorem dX10_areWorks_15 : decode cX10_areWorks 15 = .ok (.ireturn, 1) := by decide +kernel
def F_X10_areWorks (x1 : Int32) (a_works : Nat → Int32) : Option (Int32) := (F_X10_in x1 0 ((((1 : Int32) <<< ((a_works (Int32.toNatClampNeg 0)) &&& 31)) - 1))).bind (fun q12 => some (q12))
theorem hdV_X10_areWorks : yX10_areWorks.cls = RX10 ∧ yX10_areWorks.cls ≠ "java/lang/invoke/MethodHandle" ∧ yX10_areWorks.cls ≠ "java/lang/invoke/VarHandle" ∧ (parseMethodDescriptor yX10_areWorks.desc).map (fun d => d.parameters.length) = some 1 := by decide +kernel
set_option maxHeartbeats 4000000 in
set_option maxRecDepth 100000 in
theorem c_X10_areWorks (l : Launch) (G : GG) (x1 : Int32) (h_this : Nat) (ad_this : Nat → Nat) (v_typed : Int32) (v_at : Int32) (v_isSo : Int32) (v_kept : Int32) (v_all : Int64) (v_sightAll : Int64) (v_aheadMany : Int32) (a_works : Nat → Int32) (out : Int32) (hF : F_X10_areWorks x1 a_works = some out) : CtrZ l yX10_areWorks (WS yX10_areWorks cX10_areWorks 2 (some .boolean)) { frames := 1, cells := 0, slots := 0, locals := 22 } G [.ref h_this, .int x1] [(h_this, oX10 ad_this v_typed v_at v_isSo v_kept v_all v_sightAll v_aheadMany), ((ad_this 10), cI G 2 a_works)] [(h_this, oX10 ad_this v_typed v_at v_isSo v_kept v_all v_sightAll v_aheadMany), ((ad_this 10), cI G 2 a_works)] out := by
  refine startZ (cc := cX10_areWorks) (maxL := 2) (by decide) rfl (Nat.le_of_ble_eq_true rfl) ?_
  intro p e s m args below meth c A Q hx hb hml hts hown hc hA hret ls H locs hl hW
  have hown : s.vm.findClass RX10 = some m.cls := hown
  have hg : ∀ w ∈ GOODS, w.before _ s = true := fun w h => hts w (List.mem_cons_of_mem _ h)
  have hl : lv_has ls 2 [(0, .ref h_this), (1, .int x1)] := hl
  rw [F_X10_areWorks] at hF
  refine lv_iload_n hx hb dX10_areWorks_0 rfl (lv_at hl 1 rfl) ?_
  refine lv_iconst (v := 0) hx hb dX10_areWorks_1 (by decide) ?_
  refine lv_iconst (v := 1) hx hb dX10_areWorks_2 (by decide) ?_
  refine lv_aload_n hx hb dX10_areWorks_3 rfl (lv_at hl 0 rfl) ?_
  refine va_get (D := G.1) (ci := 9) (v := .ref ((ad_this 10))) (C := RX10) (T := TX10) (N := 31) hx hb hg hu_X10 hown hc.1 hW.1 0 rfl rfl 10 (by decide) (hg _ wd_4_48) (fun _ h9 => h9) rfl dX10_areWorks_4 ?_
  refine lv_iconst (v := 0) hx hb dX10_areWorks_7 (by decide) ?_
  have b_8 : vp_in 0 2 := inb_vp (by decide)
  refine va_iald hx hb hc.1 hW.1 1 0 rfl rfl b_8 dX10_areWorks_8 ?_
  refine lv_ishl hx hb dX10_areWorks_9 ?_
  refine lv_iconst (v := 1) hx hb dX10_areWorks_10 (by decide) ?_
  refine lv_isub hx hb dX10_areWorks_11 ?_
  obtain ⟨q12, c_12, hF⟩ := bd_el hF
  refine wcZ (ws' := [(h_this, oX10 ad_this v_typed v_at v_isSo v_kept v_all v_sightAll v_aheadMany), ((ad_this 10), cI G 2 a_works)]) (wc := []) (wr := [(h_this, oX10 ad_this v_typed v_at v_isSo v_kept v_all v_sightAll v_aheadMany), ((ad_this 10), cI G 2 a_works)]) (w1 := []) (va_runS (As := [.int x1, .int 0, .int ((((1 : Int32) <<< ((a_works (Int32.toNatClampNeg 0)) &&& 31)) - 1))]) (rest := []) ⟨hx, hb, hml, hown, hg⟩ (c_X10_in l G x1 0 ((((1 : Int32) <<< ((a_works (Int32.toNatClampNeg 0)) &&& 31)) - 1)) q12 c_12 H.size) (va_cwS 3 hg (gS wd_4_136 wd_4_137 wd_1_15 wd_4_138) rfl rfl rfl hdS_X10_in ⟨(Nat.le_of_ble_eq_true rfl), (Nat.le_of_ble_eq_true rfl)⟩) (preS hc hW [] rfl (by decide)) rfl rfl hl.1 rfl (lv_room (Nat.le_of_ble_eq_true rfl)) dX10_areWorks_12 ⟨Nat.zero_le _, Nat.zero_le _⟩) hA hW [] [0, 1] [0, 1] rfl rfl (by decide) (by decide) rfl (by decide) (fun z_12 H locs hW => ?_)
  obtain rfl := Option.some.inj hF
  exact hret _ _ _ _ hW z_12 dX10_areWorks_15
theorem dX10_sign_0 : decode cX10_sign 0 = .ok (.aload_n 0, 1) := by decide +kernel
theorem dX10_sign_1 : decode cX10_sign 1 = .ok (.iload_n 1, 1) := by decide +kernel
theorem dX10_sign_2 : decode cX10_sign 2 = .ok (.invokevirtual 134, 3) := by decide +kernel
theorem dX10_sign_5 : decode cX10_sign 5 = .ok (.ifCond .eq 25, 3) := by decide +kernel
theorem dX10_sign_8 : decode cX10_sign 8 = .ok (.iload_n 2, 1) := by decide +kernel
theorem dX10_sign_9 : decode cX10_sign 9 = .ok (.iconst 0, 1) := by decide +kernel
theorem dX10_sign_10 : decode cX10_sign 10 = .ok (.iconst 3, 1) := by decide +kernel
theorem dX10_sign_11 : decode cX10_sign 11 = .ok (.invokestatic 99, 3) := by decide +kernel
theorem dX10_sign_14 : decode cX10_sign 14 = .ok (.ifCond .eq 16, 3) := by decide +kernel
theorem dX10_sign_17 : decode cX10_sign 17 = .ok (.aload_n 0, 1) := by decide +kernel
theorem dX10_sign_18 : decode cX10_sign 18 = .ok (.getfield 20, 3) := by decide +kernel
theorem dX10_sign_21 : decode cX10_sign 21 = .ok (.iconst 4, 1) := by decide +kernel
theorem dX10_sign_22 : decode cX10_sign 22 = .ok (.iload_n 1, 1) := by decide +kernel
theorem dX10_sign_23 : decode cX10_sign 23 = .ok (.imul, 1) := by decide +kernel
theorem dX10_sign_24 : decode cX10_sign 24 = .ok (.iload_n 2, 1) := by decide +kernel
theorem dX10_sign_25 : decode cX10_sign 25 = .ok (.iadd, 1) := by decide +kernel
theorem dX10_sign_26 : decode cX10_sign 26 = .ok (.iaload, 1) := by decide +kernel
theorem dX10_sign_27 : decode cX10_sign 27 = .ok (.goto 4, 3) := by decide +kernel
theorem dX10_sign_30 : decode cX10_sign 30 = .ok (.iconst (-1), 1) := by decide +kernel
theorem dX10_sign_31 : decode cX10_sign 31 = .ok (.ireturn, 1) := by decide +kernel
def F_X10_sign (x1 : Int32) (x2 : Int32) (a_signs : Nat → Int32) (a_told : Nat → Int32) : Option (Int32) := (F_X10_isSign x1 a_signs).bind (fun q2 => (if q2 = 0 then some ((-1)) else (F_X10_in x2 0 3).bind (fun q11 => (if q11 = 0 then some ((-1)) else (if inb (((4 * x1) + x2)) 32 = true then some ((a_told (Int32.toNatClampNeg (((4 * x1) + x2))))) else none)))))
theorem hdV_X10_sign : yX10_sign.cls = RX10 ∧ yX10_sign.cls ≠ "java/lang/invoke/MethodHandle" ∧ yX10_sign.cls ≠ "java/lang/invoke/VarHandle" ∧ (parseMethodDescriptor yX10_sign.desc).map (fun d => d.parameters.length) = some 2 := by decide +kernel
set_option maxHeartbeats 4000000 in
set_option maxRecDepth 100000 in
theorem c_X10_sign (l : Launch) (G : GG) (x1 : Int32) (x2 : Int32) (h_this : Nat) (ad_this : Nat → Nat) (v_typed : Int32) (v_at : Int32) (v_isSo : Int32) (v_kept : Int32) (v_all : Int64) (v_sightAll : Int64) (v_aheadMany : Int32) (a_signs : Nat → Int32) (a_told : Nat → Int32) (out : Int32) (hF : F_X10_sign x1 x2 a_signs a_told = some out) : CtrI l yX10_sign (WS yX10_sign cX10_sign 3 (some .int)) { frames := 2, cells := 0, slots := 0, locals := 43 } G [.ref h_this, .int x1, .int x2] [(h_this, oX10 ad_this v_typed v_at v_isSo v_kept v_all v_sightAll v_aheadMany), ((ad_this 3), cI G 2 a_signs), ((ad_this 4), cI G 32 a_told)] [(h_this, oX10 ad_this v_typed v_at v_isSo v_kept v_all v_sightAll v_aheadMany), ((ad_this 3), cI G 2 a_signs), ((ad_this 4), cI G 32 a_told)] out := by
  refine startI (cc := cX10_sign) (maxL := 3) (by decide) rfl (Nat.le_of_ble_eq_true rfl) ?_
  intro p e s m args below meth c A Q hx hb hml hts hown hc hA hret ls H locs hl hW
  have hown : s.vm.findClass RX10 = some m.cls := hown
  have hg : ∀ w ∈ GOODS, w.before _ s = true := fun w h => hts w (List.mem_cons_of_mem _ h)
  have hl : lv_has ls 3 [(0, .ref h_this), (1, .int x1), (2, .int x2)] := hl
  rw [F_X10_sign] at hF
  refine lv_aload_n hx hb dX10_sign_0 rfl (lv_at hl 0 rfl) ?_
  refine lv_iload_n hx hb dX10_sign_1 rfl (lv_at hl 1 rfl) ?_
  obtain ⟨q2, c_2, hF⟩ := bd_el hF
  refine wcZ (ws' := [(h_this, oX10 ad_this v_typed v_at v_isSo v_kept v_all v_sightAll v_aheadMany), ((ad_this 3), cI G 2 a_signs), ((ad_this 4), cI G 32 a_told)]) (wc := [(h_this, oX10 ad_this v_typed v_at v_isSo v_kept v_all v_sightAll v_aheadMany), ((ad_this 3), cI G 2 a_signs)]) (wr := [((ad_this 4), cI G 32 a_told)]) (w1 := [(h_this, oX10 ad_this v_typed v_at v_isSo v_kept v_all v_sightAll v_aheadMany), ((ad_this 3), cI G 2 a_signs)]) (va_runV (As := [.int x1]) (rest := []) ⟨hx, hb, hml, hown, hg⟩ (c_X10_isSign l G x1 h_this ad_this v_typed v_at v_isSo v_kept v_all v_sightAll v_aheadMany a_signs q2 c_2 H.size) (cwV 1 hg (gV wd_4_168 wd_4_170 wd_0_30 wd_1_15 wd_4_171) rfl rfl rfl hdV_X10_isSign ⟨(Nat.le_of_ble_eq_true rfl), (Nat.le_of_ble_eq_true rfl)⟩) (preV hc hW [0, 1] rfl (by decide) rfl rfl) rfl rfl hl.1 rfl (lv_room (Nat.le_of_ble_eq_true rfl)) dX10_sign_2 ⟨Nat.zero_le _, Nat.zero_le _⟩) hA hW [0, 1] [2] [1, 2, 0] rfl rfl (by decide) (by decide) rfl (by decide) (fun z_2 H locs hW => ?_)
  refine lv_if_eq (tgt := 30) hx hb dX10_sign_5 (by decide) (fun c_5 => ?_) (fun c_5 => ?_)
  · have hF := ite_t hF c_5
    refine lv_iconst (v := (-1)) hx hb dX10_sign_30 (by decide) ?_
    obtain rfl := Option.some.inj hF
    exact hret _ _ _ _ hW dX10_sign_31
  · have hF := ite_f hF c_5
    refine lv_iload_n hx hb dX10_sign_8 rfl (lv_at hl 2 rfl) ?_
    refine lv_iconst (v := 0) hx hb dX10_sign_9 (by decide) ?_
    refine lv_iconst (v := 3) hx hb dX10_sign_10 (by decide) ?_
    obtain ⟨q11, c_11, hF⟩ := bd_el hF
    refine wcZ (ws' := [(h_this, oX10 ad_this v_typed v_at v_isSo v_kept v_all v_sightAll v_aheadMany), ((ad_this 3), cI G 2 a_signs), ((ad_this 4), cI G 32 a_told)]) (wc := []) (wr := [(h_this, oX10 ad_this v_typed v_at v_isSo v_kept v_all v_sightAll v_aheadMany), ((ad_this 3), cI G 2 a_signs), ((ad_this 4), cI G 32 a_told)]) (w1 := []) (va_runS (As := [.int x2, .int 0, .int 3]) (rest := []) ⟨hx, hb, hml, hown, hg⟩ (c_X10_in l G x2 0 3 q11 c_11 H.size) (va_cwS 3 hg (gS wd_4_136 wd_4_137 wd_1_15 wd_4_138) rfl rfl rfl hdS_X10_in ⟨(Nat.le_of_ble_eq_true rfl), (Nat.le_of_ble_eq_true rfl)⟩) (preS hc hW [] rfl (by decide)) rfl rfl hl.1 rfl (lv_room (Nat.le_of_ble_eq_true rfl)) dX10_sign_11 ⟨Nat.zero_le _, Nat.zero_le _⟩) hA hW [] [0, 1, 2] [0, 1, 2] rfl rfl (by decide) (by decide) rfl (by decide) (fun z_11 H locs hW => ?_)
    refine lv_if_eq (tgt := 30) hx hb dX10_sign_14 (by decide) (fun c_14 => ?_) (fun c_14 => ?_)
    · have hF := ite_t hF c_14
      refine lv_iconst (v := (-1)) hx hb dX10_sign_30 (by decide) ?_
      obtain rfl := Option.some.inj hF
      exact hret _ _ _ _ hW dX10_sign_31
    · have hF := ite_f hF c_14
      refine lv_aload_n hx hb dX10_sign_17 rfl (lv_at hl 0 rfl) ?_
      refine va_get (D := G.1) (ci := 9) (v := .ref ((ad_this 4))) (C := RX10) (T := TX10) (N := 31) hx hb hg hu_X10 hown hc.1 hW.1 0 rfl rfl 4 (by decide) (hg _ wd_4_42) (fun _ h9 => h9) rfl dX10_sign_18 ?_
      refine lv_iconst (v := 4) hx hb dX10_sign_21 (by decide) ?_
      refine lv_iload_n hx hb dX10_sign_22 rfl (lv_at hl 1 rfl) ?_
      refine lv_imul hx hb dX10_sign_23 ?_
      refine lv_iload_n hx hb dX10_sign_24 rfl (lv_at hl 2 rfl) ?_
      refine lv_iadd hx hb dX10_sign_25 ?_
      obtain ⟨b_26, hF⟩ := inb_el hF
      refine va_iald hx hb hc.1 hW.1 2 0 rfl rfl b_26 dX10_sign_26 ?_
      refine lv_goto (tgt := 31) hx hb dX10_sign_27 (by decide) ?_
      obtain rfl := Option.some.inj hF
      exact hret _ _ _ _ hW dX10_sign_31
theorem dX10_sumNoise_0 : decode cX10_sumNoise 0 = .ok (.iconst 0, 1) := by decide +kernel
theorem dX10_sumNoise_1 : decode cX10_sumNoise 1 = .ok (.istore_n 2, 1) := by decide +kernel
theorem dX10_sumNoise_2 : decode cX10_sumNoise 2 = .ok (.iconst 0, 1) := by decide +kernel
theorem dX10_sumNoise_3 : decode cX10_sumNoise 3 = .ok (.istore_n 3, 1) := by decide +kernel
theorem dX10_sumNoise_4 : decode cX10_sumNoise 4 = .ok (.iload_n 3, 1) := by decide +kernel
theorem dX10_sumNoise_5 : decode cX10_sumNoise 5 = .ok (.aload_n 0, 1) := by decide +kernel
theorem dX10_sumNoise_6 : decode cX10_sumNoise 6 = .ok (.getfield 38, 3) := by decide +kernel
theorem dX10_sumNoise_9 : decode cX10_sumNoise 9 = .ok (.iconst 0, 1) := by decide +kernel
theorem dX10_sumNoise_10 : decode cX10_sumNoise 10 = .ok (.iaload, 1) := by decide +kernel
theorem dX10_sumNoise_11 : decode cX10_sumNoise 11 = .ok (.if_icmp .ge 24, 3) := by decide +kernel
theorem dX10_sumNoise_14 : decode cX10_sumNoise 14 = .ok (.iload_n 2, 1) := by decide +kernel
theorem dX10_sumNoise_15 : decode cX10_sumNoise 15 = .ok (.iload_n 1, 1) := by decide +kernel
theorem dX10_sumNoise_16 : decode cX10_sumNoise 16 = .ok (.iload_n 3, 1) := by decide +kernel
theorem dX10_sumNoise_17 : decode cX10_sumNoise 17 = .ok (.ishr, 1) := by decide +kernel
theorem dX10_sumNoise_18 : decode cX10_sumNoise 18 = .ok (.iconst 1, 1) := by decide +kernel
theorem dX10_sumNoise_19 : decode cX10_sumNoise 19 = .ok (.iand, 1) := by decide +kernel
theorem dX10_sumNoise_20 : decode cX10_sumNoise 20 = .ok (.aload_n 0, 1) := by decide +kernel
theorem dX10_sumNoise_21 : decode cX10_sumNoise 21 = .ok (.getfield 41, 3) := by decide +kernel
theorem dX10_sumNoise_24 : decode cX10_sumNoise 24 = .ok (.iload_n 3, 1) := by decide +kernel
theorem dX10_sumNoise_25 : decode cX10_sumNoise 25 = .ok (.iaload, 1) := by decide +kernel
theorem dX10_sumNoise_26 : decode cX10_sumNoise 26 = .ok (.imul, 1) := by decide +kernel
theorem dX10_sumNoise_27 : decode cX10_sumNoise 27 = .ok (.iadd, 1) := by decide +kernel
theorem dX10_sumNoise_28 : decode cX10_sumNoise 28 = .ok (.istore_n 2, 1) := by decide +kernel
theorem dX10_sumNoise_29 : decode cX10_sumNoise 29 = .ok (.iinc 3 1, 3) := by decide +kernel
theorem dX10_sumNoise_32 : decode cX10_sumNoise 32 = .ok (.goto (-28), 3) := by decide +kernel
theorem dX10_sumNoise_35 : decode cX10_sumNoise 35 = .ok (.iload_n 2, 1) := by decide +kernel
theorem dX10_sumNoise_36 : decode cX10_sumNoise 36 = .ok (.ireturn, 1) := by decide +kernel
def L_X10_sumNoise_4 (x1 : Int32) (a_noise : Nat → Int32) (a_works : Nat → Int32)  : Nat → Int32 → Int32 → Option (Int32)
  | 0, _, _ => none
  | n + 1, x2_4, x3_4 => (if (a_works (Int32.toNatClampNeg 0)) ≤ x3_4 then some (x2_4) else (if inb x3_4 10 = true then L_X10_sumNoise_4 x1 a_noise a_works n ((x2_4 + (((x1 >>> (x3_4 &&& 31)) &&& 1) * (a_noise (Int32.toNatClampNeg x3_4))))) ((x3_4 + 1)) else none))
def F_X10_sumNoise (x1 : Int32) (a_noise : Nat → Int32) (a_works : Nat → Int32) : Option (Int32) := L_X10_sumNoise_4 x1 a_noise a_works 5000 0 0
theorem hdV_X10_sumNoise : yX10_sumNoise.cls = RX10 ∧ yX10_sumNoise.cls ≠ "java/lang/invoke/MethodHandle" ∧ yX10_sumNoise.cls ≠ "java/lang/invoke/VarHandle" ∧ (parseMethodDescriptor yX10_sumNoise.desc).map (fun d => d.parameters.length) = some 1 := by decide +kernel
set_option maxHeartbeats 4000000 in
set_option maxRecDepth 100000 in
theorem c_X10_sumNoise (l : Launch) (G : GG) (x1 : Int32) (h_this : Nat) (ad_this : Nat → Nat) (v_typed : Int32) (v_at : Int32) (v_isSo : Int32) (v_kept : Int32) (v_all : Int64) (v_sightAll : Int64) (v_aheadMany : Int32) (a_noise : Nat → Int32) (a_works : Nat → Int32) (out : Int32) (hF : F_X10_sumNoise x1 a_noise a_works = some out) : CtrI l yX10_sumNoise (WS yX10_sumNoise cX10_sumNoise 4 (some .int)) { frames := 0, cells := 0, slots := 0, locals := 0 } G [.ref h_this, .int x1] [(h_this, oX10 ad_this v_typed v_at v_isSo v_kept v_all v_sightAll v_aheadMany), ((ad_this 11), cI G 10 a_noise), ((ad_this 10), cI G 2 a_works)] [(h_this, oX10 ad_this v_typed v_at v_isSo v_kept v_all v_sightAll v_aheadMany), ((ad_this 11), cI G 10 a_noise), ((ad_this 10), cI G 2 a_works)] out := by
  refine startI (cc := cX10_sumNoise) (maxL := 4) (by decide) rfl (Nat.le_of_ble_eq_true rfl) ?_
  intro p e s m args below meth c A Q hx hb hml hts hown hc hA hret ls H locs hl hW
  have hown : s.vm.findClass RX10 = some m.cls := hown
  have hg : ∀ w ∈ GOODS, w.before _ s = true := fun w h => hts w (List.mem_cons_of_mem _ h)
  have hl : lv_has ls 4 [(0, .ref h_this), (1, .int x1)] := hl
  rw [F_X10_sumNoise] at hF
  refine lv_iconst (v := 0) hx hb dX10_sumNoise_0 (by decide) ?_
  refine lv_istore_n (lv' := [(2, .int 0), (0, .ref h_this), (1, .int x1)]) hx hb dX10_sumNoise_1 rfl hl (by decide) rfl (fun ls hl => ?_)
  refine lv_iconst (v := 0) hx hb dX10_sumNoise_2 (by decide) ?_
  refine lv_istore_n (lv' := [(3, .int 0), (2, .int 0), (0, .ref h_this), (1, .int x1)]) hx hb dX10_sumNoise_3 rfl hl (by decide) rfl (fun ls hl => ?_)
  have L_4 : ∀ (n : Nat) (x2_4 : Int32) (x3_4 : Int32) (ls : Array Slot) (H : Heap) (locs : List Loc), L_X10_sumNoise_4 x1 a_noise a_works n x2_4 x3_4 = some out → lv_has ls 4 [(0, .ref h_this), (1, .int x1), (2, .int x2_4), (3, .int x3_4)] → Wd G A s.heap [(h_this, oX10 ad_this v_typed v_at v_isSo v_kept v_all v_sightAll v_aheadMany), ((ad_this 11), cI G 10 a_noise), ((ad_this 10), cI G 2 a_works)] H locs → W p l e ({ frames := 0, cells := 0, slots := 0, locals := 0 } : Room) s m args below meth c H locs 0 0 Q (F0 m 4 ls []) := by
    intro n
    induction n with
    | zero => intro x2_4 x3_4 ls H locs hF hl hW; have h0 : none = some out := hF; cases h0
    | succ n ih =>
      intro x2_4 x3_4 ls H locs hF hl hW
      rw [L_X10_sumNoise_4] at hF
      refine lv_iload_n hx hb dX10_sumNoise_4 rfl (lv_at hl 3 rfl) ?_
      refine lv_aload_n hx hb dX10_sumNoise_5 rfl (lv_at hl 0 rfl) ?_
      refine va_get (D := G.1) (ci := 9) (v := .ref ((ad_this 10))) (C := RX10) (T := TX10) (N := 31) hx hb hg hu_X10 hown hc.1 hW.1 0 rfl rfl 10 (by decide) (hg _ wd_4_48) (fun _ h9 => h9) rfl dX10_sumNoise_6 ?_
      refine lv_iconst (v := 0) hx hb dX10_sumNoise_9 (by decide) ?_
      have b_10 : vp_in 0 2 := inb_vp (by decide)
      refine va_iald hx hb hc.1 hW.1 2 0 rfl rfl b_10 dX10_sumNoise_10 ?_
      refine lv_icmp_ge (tgt := 35) hx hb dX10_sumNoise_11 (by decide) (fun c_11 => ?_) (fun c_11 => ?_)
      · have hF := ite_t hF c_11
        refine lv_iload_n hx hb dX10_sumNoise_35 rfl (lv_at hl 2 rfl) ?_
        obtain rfl := Option.some.inj hF
        exact hret _ _ _ _ hW dX10_sumNoise_36
      · have hF := ite_f hF c_11
        refine lv_iload_n hx hb dX10_sumNoise_14 rfl (lv_at hl 2 rfl) ?_
        refine lv_iload_n hx hb dX10_sumNoise_15 rfl (lv_at hl 1 rfl) ?_
        refine lv_iload_n hx hb dX10_sumNoise_16 rfl (lv_at hl 3 rfl) ?_
        refine lv_ishr hx hb dX10_sumNoise_17 ?_
        refine lv_iconst (v := 1) hx hb dX10_sumNoise_18 (by decide) ?_
        refine lv_iand hx hb dX10_sumNoise_19 ?_
        refine lv_aload_n hx hb dX10_sumNoise_20 rfl (lv_at hl 0 rfl) ?_
        refine va_get (D := G.1) (ci := 9) (v := .ref ((ad_this 11))) (C := RX10) (T := TX10) (N := 31) hx hb hg hu_X10 hown hc.1 hW.1 0 rfl rfl 11 (by decide) (hg _ wd_4_49) (fun _ h9 => h9) rfl dX10_sumNoise_21 ?_
        refine lv_iload_n hx hb dX10_sumNoise_24 rfl (lv_at hl 3 rfl) ?_
        obtain ⟨b_25, hF⟩ := inb_el hF
        refine va_iald hx hb hc.1 hW.1 1 0 rfl rfl b_25 dX10_sumNoise_25 ?_
        refine lv_imul hx hb dX10_sumNoise_26 ?_
        refine lv_iadd hx hb dX10_sumNoise_27 ?_
        refine lv_istore_n (lv' := [(2, .int ((x2_4 + (((x1 >>> (x3_4 &&& 31)) &&& 1) * (a_noise (Int32.toNatClampNeg x3_4)))))), (0, .ref h_this), (1, .int x1), (3, .int x3_4)]) hx hb dX10_sumNoise_28 rfl hl (by decide) rfl (fun ls hl => ?_)
        refine lv_iinc (v := (x3_4 + 1)) (lv' := [(3, .int ((x3_4 + 1))), (2, .int ((x2_4 + (((x1 >>> (x3_4 &&& 31)) &&& 1) * (a_noise (Int32.toNatClampNeg x3_4)))))), (0, .ref h_this), (1, .int x1)]) hx hb dX10_sumNoise_29 hl (k := 3) rfl rfl (by decide) rfl (fun ls hl => ?_)
        refine lv_goto (tgt := 4) hx hb dX10_sumNoise_32 (by decide) ?_
        exact ih ((x2_4 + (((x1 >>> (x3_4 &&& 31)) &&& 1) * (a_noise (Int32.toNatClampNeg x3_4))))) ((x3_4 + 1)) _ _ _ hF (lv_sub hl [2, 3, 1, 0] rfl) hW
  exact L_4 5000 0 0 _ _ _ hF (lv_sub hl [2, 3, 1, 0] rfl) hW
theorem dX10_sumBrings_0 : decode cX10_sumBrings 0 = .ok (.iconst 0, 1) := by decide +kernel
theorem dX10_sumBrings_1 : decode cX10_sumBrings 1 = .ok (.istore_n 2, 1) := by decide +kernel
theorem dX10_sumBrings_2 : decode cX10_sumBrings 2 = .ok (.iconst 0, 1) := by decide +kernel
theorem dX10_sumBrings_3 : decode cX10_sumBrings 3 = .ok (.istore_n 3, 1) := by decide +kernel
theorem dX10_sumBrings_4 : decode cX10_sumBrings 4 = .ok (.iload_n 3, 1) := by decide +kernel
theorem dX10_sumBrings_5 : decode cX10_sumBrings 5 = .ok (.aload_n 0, 1) := by decide +kernel
theorem dX10_sumBrings_6 : decode cX10_sumBrings 6 = .ok (.getfield 38, 3) := by decide +kernel
theorem dX10_sumBrings_9 : decode cX10_sumBrings 9 = .ok (.iconst 0, 1) := by decide +kernel
theorem dX10_sumBrings_10 : decode cX10_sumBrings 10 = .ok (.iaload, 1) := by decide +kernel
theorem dX10_sumBrings_11 : decode cX10_sumBrings 11 = .ok (.if_icmp .ge 24, 3) := by decide +kernel
theorem dX10_sumBrings_14 : decode cX10_sumBrings 14 = .ok (.iload_n 2, 1) := by decide +kernel
theorem dX10_sumBrings_15 : decode cX10_sumBrings 15 = .ok (.iload_n 1, 1) := by decide +kernel
theorem dX10_sumBrings_16 : decode cX10_sumBrings 16 = .ok (.iload_n 3, 1) := by decide +kernel
theorem dX10_sumBrings_17 : decode cX10_sumBrings 17 = .ok (.ishr, 1) := by decide +kernel
theorem dX10_sumBrings_18 : decode cX10_sumBrings 18 = .ok (.iconst 1, 1) := by decide +kernel
theorem dX10_sumBrings_19 : decode cX10_sumBrings 19 = .ok (.iand, 1) := by decide +kernel
theorem dX10_sumBrings_20 : decode cX10_sumBrings 20 = .ok (.aload_n 0, 1) := by decide +kernel
theorem dX10_sumBrings_21 : decode cX10_sumBrings 21 = .ok (.getfield 44, 3) := by decide +kernel
theorem dX10_sumBrings_24 : decode cX10_sumBrings 24 = .ok (.iload_n 3, 1) := by decide +kernel
theorem dX10_sumBrings_25 : decode cX10_sumBrings 25 = .ok (.iaload, 1) := by decide +kernel
theorem dX10_sumBrings_26 : decode cX10_sumBrings 26 = .ok (.imul, 1) := by decide +kernel
theorem dX10_sumBrings_27 : decode cX10_sumBrings 27 = .ok (.iadd, 1) := by decide +kernel
theorem dX10_sumBrings_28 : decode cX10_sumBrings 28 = .ok (.istore_n 2, 1) := by decide +kernel
theorem dX10_sumBrings_29 : decode cX10_sumBrings 29 = .ok (.iinc 3 1, 3) := by decide +kernel
theorem dX10_sumBrings_32 : decode cX10_sumBrings 32 = .ok (.goto (-28), 3) := by decide +kernel
theorem dX10_sumBrings_35 : decode cX10_sumBrings 35 = .ok (.iload_n 2, 1) := by decide +kernel
theorem dX10_sumBrings_36 : decode cX10_sumBrings 36 = .ok (.ireturn, 1) := by decide +kernel
def L_X10_sumBrings_4 (x1 : Int32) (a_brings : Nat → Int32) (a_works : Nat → Int32)  : Nat → Int32 → Int32 → Option (Int32)
  | 0, _, _ => none
  | n + 1, x2_4, x3_4 => (if (a_works (Int32.toNatClampNeg 0)) ≤ x3_4 then some (x2_4) else (if inb x3_4 10 = true then L_X10_sumBrings_4 x1 a_brings a_works n ((x2_4 + (((x1 >>> (x3_4 &&& 31)) &&& 1) * (a_brings (Int32.toNatClampNeg x3_4))))) ((x3_4 + 1)) else none))
def F_X10_sumBrings (x1 : Int32) (a_brings : Nat → Int32) (a_works : Nat → Int32) : Option (Int32) := L_X10_sumBrings_4 x1 a_brings a_works 5000 0 0
theorem hdV_X10_sumBrings : yX10_sumBrings.cls = RX10 ∧ yX10_sumBrings.cls ≠ "java/lang/invoke/MethodHandle" ∧ yX10_sumBrings.cls ≠ "java/lang/invoke/VarHandle" ∧ (parseMethodDescriptor yX10_sumBrings.desc).map (fun d => d.parameters.length) = some 1 := by decide +kernel
set_option maxHeartbeats 4000000 in
set_option maxRecDepth 100000 in
theorem c_X10_sumBrings (l : Launch) (G : GG) (x1 : Int32) (h_this : Nat) (ad_this : Nat → Nat) (v_typed : Int32) (v_at : Int32) (v_isSo : Int32) (v_kept : Int32) (v_all : Int64) (v_sightAll : Int64) (v_aheadMany : Int32) (a_brings : Nat → Int32) (a_works : Nat → Int32) (out : Int32) (hF : F_X10_sumBrings x1 a_brings a_works = some out) : CtrI l yX10_sumBrings (WS yX10_sumBrings cX10_sumBrings 4 (some .int)) { frames := 0, cells := 0, slots := 0, locals := 0 } G [.ref h_this, .int x1] [(h_this, oX10 ad_this v_typed v_at v_isSo v_kept v_all v_sightAll v_aheadMany), ((ad_this 12), cI G 10 a_brings), ((ad_this 10), cI G 2 a_works)] [(h_this, oX10 ad_this v_typed v_at v_isSo v_kept v_all v_sightAll v_aheadMany), ((ad_this 12), cI G 10 a_brings), ((ad_this 10), cI G 2 a_works)] out := by
  refine startI (cc := cX10_sumBrings) (maxL := 4) (by decide) rfl (Nat.le_of_ble_eq_true rfl) ?_
  intro p e s m args below meth c A Q hx hb hml hts hown hc hA hret ls H locs hl hW
  have hown : s.vm.findClass RX10 = some m.cls := hown
  have hg : ∀ w ∈ GOODS, w.before _ s = true := fun w h => hts w (List.mem_cons_of_mem _ h)
  have hl : lv_has ls 4 [(0, .ref h_this), (1, .int x1)] := hl
  rw [F_X10_sumBrings] at hF
  refine lv_iconst (v := 0) hx hb dX10_sumBrings_0 (by decide) ?_
  refine lv_istore_n (lv' := [(2, .int 0), (0, .ref h_this), (1, .int x1)]) hx hb dX10_sumBrings_1 rfl hl (by decide) rfl (fun ls hl => ?_)
  refine lv_iconst (v := 0) hx hb dX10_sumBrings_2 (by decide) ?_
  refine lv_istore_n (lv' := [(3, .int 0), (2, .int 0), (0, .ref h_this), (1, .int x1)]) hx hb dX10_sumBrings_3 rfl hl (by decide) rfl (fun ls hl => ?_)
  have L_4 : ∀ (n : Nat) (x2_4 : Int32) (x3_4 : Int32) (ls : Array Slot) (H : Heap) (locs : List Loc), L_X10_sumBrings_4 x1 a_brings a_works n x2_4 x3_4 = some out → lv_has ls 4 [(0, .ref h_this), (1, .int x1), (2, .int x2_4), (3, .int x3_4)] → Wd G A s.heap [(h_this, oX10 ad_this v_typed v_at v_isSo v_kept v_all v_sightAll v_aheadMany), ((ad_this 12), cI G 10 a_brings), ((ad_this 10), cI G 2 a_works)] H locs → W p l e ({ frames := 0, cells := 0, slots := 0, locals := 0 } : Room) s m args below meth c H locs 0 0 Q (F0 m 4 ls []) := by
    intro n
    induction n with
    | zero => intro x2_4 x3_4 ls H locs hF hl hW; have h0 : none = some out := hF; cases h0
    | succ n ih =>
      intro x2_4 x3_4 ls H locs hF hl hW
      rw [L_X10_sumBrings_4] at hF
      refine lv_iload_n hx hb dX10_sumBrings_4 rfl (lv_at hl 3 rfl) ?_
      refine lv_aload_n hx hb dX10_sumBrings_5 rfl (lv_at hl 0 rfl) ?_
      refine va_get (D := G.1) (ci := 9) (v := .ref ((ad_this 10))) (C := RX10) (T := TX10) (N := 31) hx hb hg hu_X10 hown hc.1 hW.1 0 rfl rfl 10 (by decide) (hg _ wd_4_48) (fun _ h9 => h9) rfl dX10_sumBrings_6 ?_
      refine lv_iconst (v := 0) hx hb dX10_sumBrings_9 (by decide) ?_
      have b_10 : vp_in 0 2 := inb_vp (by decide)
      refine va_iald hx hb hc.1 hW.1 2 0 rfl rfl b_10 dX10_sumBrings_10 ?_
      refine lv_icmp_ge (tgt := 35) hx hb dX10_sumBrings_11 (by decide) (fun c_11 => ?_) (fun c_11 => ?_)
      · have hF := ite_t hF c_11
        refine lv_iload_n hx hb dX10_sumBrings_35 rfl (lv_at hl 2 rfl) ?_
        obtain rfl := Option.some.inj hF
        exact hret _ _ _ _ hW dX10_sumBrings_36
      · have hF := ite_f hF c_11
        refine lv_iload_n hx hb dX10_sumBrings_14 rfl (lv_at hl 2 rfl) ?_
        refine lv_iload_n hx hb dX10_sumBrings_15 rfl (lv_at hl 1 rfl) ?_
        refine lv_iload_n hx hb dX10_sumBrings_16 rfl (lv_at hl 3 rfl) ?_
        refine lv_ishr hx hb dX10_sumBrings_17 ?_
        refine lv_iconst (v := 1) hx hb dX10_sumBrings_18 (by decide) ?_
        refine lv_iand hx hb dX10_sumBrings_19 ?_
        refine lv_aload_n hx hb dX10_sumBrings_20 rfl (lv_at hl 0 rfl) ?_
        refine va_get (D := G.1) (ci := 9) (v := .ref ((ad_this 12))) (C := RX10) (T := TX10) (N := 31) hx hb hg hu_X10 hown hc.1 hW.1 0 rfl rfl 12 (by decide) (hg _ wd_4_50) (fun _ h9 => h9) rfl dX10_sumBrings_21 ?_
        refine lv_iload_n hx hb dX10_sumBrings_24 rfl (lv_at hl 3 rfl) ?_
        obtain ⟨b_25, hF⟩ := inb_el hF
        refine va_iald hx hb hc.1 hW.1 1 0 rfl rfl b_25 dX10_sumBrings_25 ?_
        refine lv_imul hx hb dX10_sumBrings_26 ?_
        refine lv_iadd hx hb dX10_sumBrings_27 ?_
        refine lv_istore_n (lv' := [(2, .int ((x2_4 + (((x1 >>> (x3_4 &&& 31)) &&& 1) * (a_brings (Int32.toNatClampNeg x3_4)))))), (0, .ref h_this), (1, .int x1), (3, .int x3_4)]) hx hb dX10_sumBrings_28 rfl hl (by decide) rfl (fun ls hl => ?_)
        refine lv_iinc (v := (x3_4 + 1)) (lv' := [(3, .int ((x3_4 + 1))), (2, .int ((x2_4 + (((x1 >>> (x3_4 &&& 31)) &&& 1) * (a_brings (Int32.toNatClampNeg x3_4)))))), (0, .ref h_this), (1, .int x1)]) hx hb dX10_sumBrings_29 hl (k := 3) rfl rfl (by decide) rfl (fun ls hl => ?_)
        refine lv_goto (tgt := 4) hx hb dX10_sumBrings_32 (by decide) ?_
        exact ih ((x2_4 + (((x1 >>> (x3_4 &&& 31)) &&& 1) * (a_brings (Int32.toNatClampNeg x3_4))))) ((x3_4 + 1)) _ _ _ hF (lv_sub hl [2, 3, 1, 0] rfl) hW
  exact L_4 5000 0 0 _ _ _ hF (lv_sub hl [2, 3, 1, 0] rfl) hW
theorem dX10_works_0 : decode cX10_works 0 = .ok (.aload_n 0, 1) := by decide +kernel
theorem dX10_works_1 : decode cX10_works 1 = .ok (.iload_n 1, 1) := by decide +kernel
theorem dX10_works_2 : decode cX10_works 2 = .ok (.invokevirtual 138, 3) := by decide +kernel
theorem dX10_works_5 : decode cX10_works 5 = .ok (.ifCond .eq 12, 3) := by decide +kernel
theorem dX10_works_8 : decode cX10_works 8 = .ok (.iload_n 2, 1) := by decide +kernel
theorem dX10_works_9 : decode cX10_works 9 = .ok (.iconst 0, 1) := by decide +kernel
theorem dX10_works_10 : decode cX10_works 10 = .ok (.iconst 1, 1) := by decide +kernel
theorem dX10_works_11 : decode cX10_works 11 = .ok (.invokestatic 99, 3) := by decide +kernel
theorem dX10_works_14 : decode cX10_works 14 = .ok (.ifCond .ne 5, 3) := by decide +kernel
theorem dX10_works_17 : decode cX10_works 17 = .ok (.iconst (-1), 1) := by decide +kernel
theorem dX10_works_18 : decode cX10_works 18 = .ok (.ireturn, 1) := by decide +kernel
theorem dX10_works_19 : decode cX10_works 19 = .ok (.iload_n 2, 1) := by decide +kernel
theorem dX10_works_20 : decode cX10_works 20 = .ok (.ifCond .ne 11, 3) := by decide +kernel
theorem dX10_works_23 : decode cX10_works 23 = .ok (.aload_n 0, 1) := by decide +kernel
theorem dX10_works_24 : decode cX10_works 24 = .ok (.iload_n 1, 1) := by decide +kernel
theorem dX10_works_25 : decode cX10_works 25 = .ok (.invokevirtual 141, 3) := by decide +kernel
theorem dX10_works_28 : decode cX10_works 28 = .ok (.goto 8, 3) := by decide +kernel
theorem dX10_works_31 : decode cX10_works 31 = .ok (.aload_n 0, 1) := by decide +kernel
theorem dX10_works_32 : decode cX10_works 32 = .ok (.iload_n 1, 1) := by decide +kernel
theorem dX10_works_33 : decode cX10_works 33 = .ok (.invokevirtual 145, 3) := by decide +kernel
theorem dX10_works_36 : decode cX10_works 36 = .ok (.ireturn, 1) := by decide +kernel
def F_X10_works (x1 : Int32) (x2 : Int32) (a_brings : Nat → Int32) (a_noise : Nat → Int32) (a_works : Nat → Int32) : Option (Int32) := (F_X10_areWorks x1 a_works).bind (fun q2 => (if q2 = 0 then some ((-1)) else (F_X10_in x2 0 1).bind (fun q11 => (if q11 = 0 then some ((-1)) else (if x2 = 0 then (F_X10_sumNoise x1 a_noise a_works).bind (fun q25 => some (q25)) else (F_X10_sumBrings x1 a_brings a_works).bind (fun q33 => some (q33)))))))
theorem hdV_X10_works : yX10_works.cls = RX10 ∧ yX10_works.cls ≠ "java/lang/invoke/MethodHandle" ∧ yX10_works.cls ≠ "java/lang/invoke/VarHandle" ∧ (parseMethodDescriptor yX10_works.desc).map (fun d => d.parameters.length) = some 2 := by decide +kernel
set_option maxHeartbeats 4000000 in
set_option maxRecDepth 100000 in
theorem c_X10_works (l : Launch) (G : GG) (x1 : Int32) (x2 : Int32) (h_this : Nat) (ad_this : Nat → Nat) (v_typed : Int32) (v_at : Int32) (v_isSo : Int32) (v_kept : Int32) (v_all : Int64) (v_sightAll : Int64) (v_aheadMany : Int32) (a_brings : Nat → Int32) (a_noise : Nat → Int32) (a_works : Nat → Int32) (out : Int32) (hF : F_X10_works x1 x2 a_brings a_noise a_works = some out) : CtrI l yX10_works (WS yX10_works cX10_works 3 (some .int)) { frames := 2, cells := 0, slots := 0, locals := 43 } G [.ref h_this, .int x1, .int x2] [(h_this, oX10 ad_this v_typed v_at v_isSo v_kept v_all v_sightAll v_aheadMany), ((ad_this 12), cI G 10 a_brings), ((ad_this 11), cI G 10 a_noise), ((ad_this 10), cI G 2 a_works)] [(h_this, oX10 ad_this v_typed v_at v_isSo v_kept v_all v_sightAll v_aheadMany), ((ad_this 12), cI G 10 a_brings), ((ad_this 11), cI G 10 a_noise), ((ad_this 10), cI G 2 a_works)] out := by
  refine startI (cc := cX10_works) (maxL := 3) (by decide) rfl (Nat.le_of_ble_eq_true rfl) ?_
  intro p e s m args below meth c A Q hx hb hml hts hown hc hA hret ls H locs hl hW
  have hown : s.vm.findClass RX10 = some m.cls := hown
  have hg : ∀ w ∈ GOODS, w.before _ s = true := fun w h => hts w (List.mem_cons_of_mem _ h)
  have hl : lv_has ls 3 [(0, .ref h_this), (1, .int x1), (2, .int x2)] := hl
  rw [F_X10_works] at hF
  refine lv_aload_n hx hb dX10_works_0 rfl (lv_at hl 0 rfl) ?_
  refine lv_iload_n hx hb dX10_works_1 rfl (lv_at hl 1 rfl) ?_
  obtain ⟨q2, c_2, hF⟩ := bd_el hF
  refine wcZ (ws' := [(h_this, oX10 ad_this v_typed v_at v_isSo v_kept v_all v_sightAll v_aheadMany), ((ad_this 12), cI G 10 a_brings), ((ad_this 11), cI G 10 a_noise), ((ad_this 10), cI G 2 a_works)]) (wc := [(h_this, oX10 ad_this v_typed v_at v_isSo v_kept v_all v_sightAll v_aheadMany), ((ad_this 10), cI G 2 a_works)]) (wr := [((ad_this 12), cI G 10 a_brings), ((ad_this 11), cI G 10 a_noise)]) (w1 := [(h_this, oX10 ad_this v_typed v_at v_isSo v_kept v_all v_sightAll v_aheadMany), ((ad_this 10), cI G 2 a_works)]) (va_runV (As := [.int x1]) (rest := []) ⟨hx, hb, hml, hown, hg⟩ (c_X10_areWorks l G x1 h_this ad_this v_typed v_at v_isSo v_kept v_all v_sightAll v_aheadMany a_works q2 c_2 H.size) (cwV 1 hg (gV wd_4_176 wd_4_178 wd_0_31 wd_1_15 wd_4_179) rfl rfl rfl hdV_X10_areWorks ⟨(Nat.le_of_ble_eq_true rfl), (Nat.le_of_ble_eq_true rfl)⟩) (preV hc hW [0, 3] rfl (by decide) rfl rfl) rfl rfl hl.1 rfl (lv_room (Nat.le_of_ble_eq_true rfl)) dX10_works_2 ⟨Nat.zero_le _, Nat.zero_le _⟩) hA hW [0, 3] [1, 2] [2, 0, 1, 3] rfl rfl (by decide) (by decide) rfl (by decide) (fun z_2 H locs hW => ?_)
  refine lv_if_eq (tgt := 17) hx hb dX10_works_5 (by decide) (fun c_5 => ?_) (fun c_5 => ?_)
  · have hF := ite_t hF c_5
    refine lv_iconst (v := (-1)) hx hb dX10_works_17 (by decide) ?_
    obtain rfl := Option.some.inj hF
    exact hret _ _ _ _ hW dX10_works_18
  · have hF := ite_f hF c_5
    refine lv_iload_n hx hb dX10_works_8 rfl (lv_at hl 2 rfl) ?_
    refine lv_iconst (v := 0) hx hb dX10_works_9 (by decide) ?_
    refine lv_iconst (v := 1) hx hb dX10_works_10 (by decide) ?_
    obtain ⟨q11, c_11, hF⟩ := bd_el hF
    refine wcZ (ws' := [(h_this, oX10 ad_this v_typed v_at v_isSo v_kept v_all v_sightAll v_aheadMany), ((ad_this 12), cI G 10 a_brings), ((ad_this 11), cI G 10 a_noise), ((ad_this 10), cI G 2 a_works)]) (wc := []) (wr := [(h_this, oX10 ad_this v_typed v_at v_isSo v_kept v_all v_sightAll v_aheadMany), ((ad_this 12), cI G 10 a_brings), ((ad_this 11), cI G 10 a_noise), ((ad_this 10), cI G 2 a_works)]) (w1 := []) (va_runS (As := [.int x2, .int 0, .int 1]) (rest := []) ⟨hx, hb, hml, hown, hg⟩ (c_X10_in l G x2 0 1 q11 c_11 H.size) (va_cwS 3 hg (gS wd_4_136 wd_4_137 wd_1_15 wd_4_138) rfl rfl rfl hdS_X10_in ⟨(Nat.le_of_ble_eq_true rfl), (Nat.le_of_ble_eq_true rfl)⟩) (preS hc hW [] rfl (by decide)) rfl rfl hl.1 rfl (lv_room (Nat.le_of_ble_eq_true rfl)) dX10_works_11 ⟨Nat.zero_le _, Nat.zero_le _⟩) hA hW [] [0, 1, 2, 3] [0, 1, 2, 3] rfl rfl (by decide) (by decide) rfl (by decide) (fun z_11 H locs hW => ?_)
    refine lv_if_ne (tgt := 19) hx hb dX10_works_14 (by decide) (fun c_14 => ?_) (fun c_14 => ?_)
    · have hF := ite_f hF c_14
      refine lv_iload_n hx hb dX10_works_19 rfl (lv_at hl 2 rfl) ?_
      refine lv_if_ne (tgt := 31) hx hb dX10_works_20 (by decide) (fun c_20 => ?_) (fun c_20 => ?_)
      · have hF := ite_f hF c_20
        refine lv_aload_n hx hb dX10_works_31 rfl (lv_at hl 0 rfl) ?_
        refine lv_iload_n hx hb dX10_works_32 rfl (lv_at hl 1 rfl) ?_
        obtain ⟨q33, c_33, hF⟩ := bd_el hF
        refine wcI (ws' := [(h_this, oX10 ad_this v_typed v_at v_isSo v_kept v_all v_sightAll v_aheadMany), ((ad_this 12), cI G 10 a_brings), ((ad_this 11), cI G 10 a_noise), ((ad_this 10), cI G 2 a_works)]) (wc := [(h_this, oX10 ad_this v_typed v_at v_isSo v_kept v_all v_sightAll v_aheadMany), ((ad_this 12), cI G 10 a_brings), ((ad_this 10), cI G 2 a_works)]) (wr := [((ad_this 11), cI G 10 a_noise)]) (w1 := [(h_this, oX10 ad_this v_typed v_at v_isSo v_kept v_all v_sightAll v_aheadMany), ((ad_this 12), cI G 10 a_brings), ((ad_this 10), cI G 2 a_works)]) (va_runV (As := [.int x1]) (rest := []) ⟨hx, hb, hml, hown, hg⟩ (c_X10_sumBrings l G x1 h_this ad_this v_typed v_at v_isSo v_kept v_all v_sightAll v_aheadMany a_brings a_works q33 c_33 H.size) (cwV 1 hg (gV wd_4_184 wd_4_186 wd_0_33 wd_1_15 wd_4_187) rfl rfl rfl hdV_X10_sumBrings ⟨(Nat.le_of_ble_eq_true rfl), (Nat.le_of_ble_eq_true rfl)⟩) (preV hc hW [0, 1, 3] rfl (by decide) rfl rfl) rfl rfl hl.1 rfl (lv_room (Nat.le_of_ble_eq_true rfl)) dX10_works_33 ⟨Nat.zero_le _, Nat.zero_le _⟩) hA hW [0, 1, 3] [2] [1, 2, 0, 3] rfl rfl (by decide) (by decide) rfl (by decide) (fun H locs hW => ?_)
        obtain rfl := Option.some.inj hF
        exact hret _ _ _ _ hW dX10_works_36
      · have hF := ite_t hF c_20
        refine lv_aload_n hx hb dX10_works_23 rfl (lv_at hl 0 rfl) ?_
        refine lv_iload_n hx hb dX10_works_24 rfl (lv_at hl 1 rfl) ?_
        obtain ⟨q25, c_25, hF⟩ := bd_el hF
        refine wcI (ws' := [(h_this, oX10 ad_this v_typed v_at v_isSo v_kept v_all v_sightAll v_aheadMany), ((ad_this 12), cI G 10 a_brings), ((ad_this 11), cI G 10 a_noise), ((ad_this 10), cI G 2 a_works)]) (wc := [(h_this, oX10 ad_this v_typed v_at v_isSo v_kept v_all v_sightAll v_aheadMany), ((ad_this 11), cI G 10 a_noise), ((ad_this 10), cI G 2 a_works)]) (wr := [((ad_this 12), cI G 10 a_brings)]) (w1 := [(h_this, oX10 ad_this v_typed v_at v_isSo v_kept v_all v_sightAll v_aheadMany), ((ad_this 11), cI G 10 a_noise), ((ad_this 10), cI G 2 a_works)]) (va_runV (As := [.int x1]) (rest := []) ⟨hx, hb, hml, hown, hg⟩ (c_X10_sumNoise l G x1 h_this ad_this v_typed v_at v_isSo v_kept v_all v_sightAll v_aheadMany a_noise a_works q25 c_25 H.size) (cwV 1 hg (gV wd_4_180 wd_4_182 wd_0_32 wd_1_15 wd_4_183) rfl rfl rfl hdV_X10_sumNoise ⟨(Nat.le_of_ble_eq_true rfl), (Nat.le_of_ble_eq_true rfl)⟩) (preV hc hW [0, 2, 3] rfl (by decide) rfl rfl) rfl rfl hl.1 rfl (lv_room (Nat.le_of_ble_eq_true rfl)) dX10_works_25 ⟨Nat.zero_le _, Nat.zero_le _⟩) hA hW [0, 2, 3] [1] [1, 0, 2, 3] rfl rfl (by decide) (by decide) rfl (by decide) (fun H locs hW => ?_)
        refine lv_goto (tgt := 36) hx hb dX10_works_28 (by decide) ?_
        obtain rfl := Option.some.inj hF
        exact hret _ _ _ _ hW dX10_works_36
    · have hF := ite_t hF c_14
      refine lv_iconst (v := (-1)) hx hb dX10_works_17 (by decide) ?_
      obtain rfl := Option.some.inj hF
      exact hret _ _ _ _ hW dX10_works_18
theorem dX10_day_0 : decode cX10_day 0 = .ok (.iload_n 1, 1) := by decide +kernel
theorem dX10_day_1 : decode cX10_day 1 = .ok (.iconst 0, 1) := by decide +kernel
theorem dX10_day_2 : decode cX10_day 2 = .ok (.iconst 1, 1) := by decide +kernel
theorem dX10_day_3 : decode cX10_day 3 = .ok (.aload_n 0, 1) := by decide +kernel
theorem dX10_day_4 : decode cX10_day 4 = .ok (.getfield 17, 3) := by decide +kernel
theorem dX10_day_7 : decode cX10_day 7 = .ok (.iconst 0, 1) := by decide +kernel
theorem dX10_day_8 : decode cX10_day 8 = .ok (.iaload, 1) := by decide +kernel
theorem dX10_day_9 : decode cX10_day 9 = .ok (.ishl, 1) := by decide +kernel
theorem dX10_day_10 : decode cX10_day 10 = .ok (.iconst 1, 1) := by decide +kernel
theorem dX10_day_11 : decode cX10_day 11 = .ok (.isub, 1) := by decide +kernel
theorem dX10_day_12 : decode cX10_day 12 = .ok (.invokestatic 99, 3) := by decide +kernel
theorem dX10_day_15 : decode cX10_day 15 = .ok (.ifCond .eq 11, 3) := by decide +kernel
theorem dX10_day_18 : decode cX10_day 18 = .ok (.aload_n 0, 1) := by decide +kernel
theorem dX10_day_19 : decode cX10_day 19 = .ok (.iload_n 2, 1) := by decide +kernel
theorem dX10_day_20 : decode cX10_day 20 = .ok (.invokevirtual 138, 3) := by decide +kernel
theorem dX10_day_23 : decode cX10_day 23 = .ok (.ifCond .ne 5, 3) := by decide +kernel
theorem dX10_day_26 : decode cX10_day 26 = .ok (.iconst (-1), 1) := by decide +kernel
theorem dX10_day_27 : decode cX10_day 27 = .ok (.ireturn, 1) := by decide +kernel
theorem dX10_day_28 : decode cX10_day 28 = .ok (.aload_n 0, 1) := by decide +kernel
theorem dX10_day_29 : decode cX10_day 29 = .ok (.getfield 50, 3) := by decide +kernel
theorem dX10_day_32 : decode cX10_day 32 = .ok (.iconst 0, 1) := by decide +kernel
theorem dX10_day_33 : decode cX10_day 33 = .ok (.iaload, 1) := by decide +kernel
theorem dX10_day_34 : decode cX10_day 34 = .ok (.iconst 5, 1) := by decide +kernel
theorem dX10_day_35 : decode cX10_day 35 = .ok (.if_icmp .ne 6, 3) := by decide +kernel
theorem dX10_day_38 : decode cX10_day 38 = .ok (.bipush (-3), 2) := by decide +kernel
theorem dX10_day_40 : decode cX10_day 40 = .ok (.ireturn, 1) := by decide +kernel
theorem dX10_day_41 : decode cX10_day 41 = .ok (.aload_n 0, 1) := by decide +kernel
theorem dX10_day_42 : decode cX10_day 42 = .ok (.getfield 53, 3) := by decide +kernel
theorem dX10_day_45 : decode cX10_day 45 = .ok (.aload_n 0, 1) := by decide +kernel
theorem dX10_day_46 : decode cX10_day 46 = .ok (.getfield 50, 3) := by decide +kernel
theorem dX10_day_49 : decode cX10_day 49 = .ok (.iconst 0, 1) := by decide +kernel
theorem dX10_day_50 : decode cX10_day 50 = .ok (.iaload, 1) := by decide +kernel
theorem dX10_day_51 : decode cX10_day 51 = .ok (.iload_n 1, 1) := by decide +kernel
theorem dX10_day_52 : decode cX10_day 52 = .ok (.iastore, 1) := by decide +kernel
theorem dX10_day_53 : decode cX10_day 53 = .ok (.aload_n 0, 1) := by decide +kernel
theorem dX10_day_54 : decode cX10_day 54 = .ok (.getfield 56, 3) := by decide +kernel
theorem dX10_day_57 : decode cX10_day 57 = .ok (.aload_n 0, 1) := by decide +kernel
theorem dX10_day_58 : decode cX10_day 58 = .ok (.getfield 50, 3) := by decide +kernel
theorem dX10_day_61 : decode cX10_day 61 = .ok (.iconst 0, 1) := by decide +kernel
theorem dX10_day_62 : decode cX10_day 62 = .ok (.iaload, 1) := by decide +kernel
theorem dX10_day_63 : decode cX10_day 63 = .ok (.iload_n 2, 1) := by decide +kernel
theorem dX10_day_64 : decode cX10_day 64 = .ok (.iastore, 1) := by decide +kernel
theorem dX10_day_65 : decode cX10_day 65 = .ok (.aload_n 0, 1) := by decide +kernel
theorem dX10_day_66 : decode cX10_day 66 = .ok (.getfield 50, 3) := by decide +kernel
theorem dX10_day_69 : decode cX10_day 69 = .ok (.iconst 0, 1) := by decide +kernel
theorem dX10_day_70 : decode cX10_day 70 = .ok (.dup2, 1) := by decide +kernel
theorem dX10_day_71 : decode cX10_day 71 = .ok (.iaload, 1) := by decide +kernel
theorem dX10_day_72 : decode cX10_day 72 = .ok (.iconst 1, 1) := by decide +kernel
theorem dX10_day_73 : decode cX10_day 73 = .ok (.iadd, 1) := by decide +kernel
theorem dX10_day_74 : decode cX10_day 74 = .ok (.iastore, 1) := by decide +kernel
theorem dX10_day_75 : decode cX10_day 75 = .ok (.aload_n 0, 1) := by decide +kernel
theorem dX10_day_76 : decode cX10_day 76 = .ok (.getfield 50, 3) := by decide +kernel
theorem dX10_day_79 : decode cX10_day 79 = .ok (.iconst 0, 1) := by decide +kernel
theorem dX10_day_80 : decode cX10_day 80 = .ok (.iaload, 1) := by decide +kernel
theorem dX10_day_81 : decode cX10_day 81 = .ok (.ireturn, 1) := by decide +kernel
def F_X10_day (x1 : Int32) (x2 : Int32) (a_days : Nat → Int32) (a_seenSigns : Nat → Int32) (a_signs : Nat → Int32) (a_wentOn : Nat → Int32) (a_works : Nat → Int32) : Option (Int32 × (Nat → Int32) × (Nat → Int32) × (Nat → Int32)) := (F_X10_in x1 0 ((((1 : Int32) <<< ((a_signs (Int32.toNatClampNeg 0)) &&& 31)) - 1))).bind (fun q12 => (if q12 = 0 then some ((-1), a_days, a_seenSigns, a_wentOn) else (F_X10_areWorks x2 a_works).bind (fun q20 => (if q20 = 0 then some ((-1), a_days, a_seenSigns, a_wentOn) else (if (a_days (Int32.toNatClampNeg 0)) = 5 then some ((-3), a_days, a_seenSigns, a_wentOn) else (if inb ((a_days (Int32.toNatClampNeg 0))) 15 = true then (if inb ((a_days (Int32.toNatClampNeg 0))) 15 = true then some ((((upd a_days (Int32.toNatClampNeg 0) (((a_days (Int32.toNatClampNeg 0)) + 1)))) (Int32.toNatClampNeg 0)), (upd a_days (Int32.toNatClampNeg 0) (((a_days (Int32.toNatClampNeg 0)) + 1))), (upd a_seenSigns (Int32.toNatClampNeg ((a_days (Int32.toNatClampNeg 0)))) x1), (upd a_wentOn (Int32.toNatClampNeg ((a_days (Int32.toNatClampNeg 0)))) x2)) else none) else none))))))
theorem hdV_X10_day : yX10_day.cls = RX10 ∧ yX10_day.cls ≠ "java/lang/invoke/MethodHandle" ∧ yX10_day.cls ≠ "java/lang/invoke/VarHandle" ∧ (parseMethodDescriptor yX10_day.desc).map (fun d => d.parameters.length) = some 2 := by decide +kernel
set_option maxHeartbeats 4000000 in
set_option maxRecDepth 100000 in
theorem c_X10_day (l : Launch) (G : GG) (x1 : Int32) (x2 : Int32) (h_this : Nat) (ad_this : Nat → Nat) (v_typed : Int32) (v_at : Int32) (v_isSo : Int32) (v_kept : Int32) (v_all : Int64) (v_sightAll : Int64) (v_aheadMany : Int32) (a_days : Nat → Int32) (a_seenSigns : Nat → Int32) (a_signs : Nat → Int32) (a_wentOn : Nat → Int32) (a_works : Nat → Int32) (out : Int32 × (Nat → Int32) × (Nat → Int32) × (Nat → Int32)) (hF : F_X10_day x1 x2 a_days a_seenSigns a_signs a_wentOn a_works = some out) : CtrI l yX10_day (WS yX10_day cX10_day 3 (some .int)) { frames := 2, cells := 0, slots := 0, locals := 43 } G [.ref h_this, .int x1, .int x2] [(h_this, oX10 ad_this v_typed v_at v_isSo v_kept v_all v_sightAll v_aheadMany), ((ad_this 16), cI G 3 a_days), ((ad_this 17), cI G 15 a_seenSigns), ((ad_this 3), cI G 2 a_signs), ((ad_this 18), cI G 15 a_wentOn), ((ad_this 10), cI G 2 a_works)] [(h_this, oX10 ad_this v_typed v_at v_isSo v_kept v_all v_sightAll v_aheadMany), ((ad_this 16), cI G 3 out.2.1), ((ad_this 17), cI G 15 out.2.2.1), ((ad_this 3), cI G 2 a_signs), ((ad_this 18), cI G 15 out.2.2.2), ((ad_this 10), cI G 2 a_works)] out.1 := by
  refine startI (cc := cX10_day) (maxL := 3) (by decide) rfl (Nat.le_of_ble_eq_true rfl) ?_
  intro p e s m args below meth c A Q hx hb hml hts hown hc hA hret ls H locs hl hW
  have hown : s.vm.findClass RX10 = some m.cls := hown
  have hg : ∀ w ∈ GOODS, w.before _ s = true := fun w h => hts w (List.mem_cons_of_mem _ h)
  have hl : lv_has ls 3 [(0, .ref h_this), (1, .int x1), (2, .int x2)] := hl
  rw [F_X10_day] at hF
  refine lv_iload_n hx hb dX10_day_0 rfl (lv_at hl 1 rfl) ?_
  refine lv_iconst (v := 0) hx hb dX10_day_1 (by decide) ?_
  refine lv_iconst (v := 1) hx hb dX10_day_2 (by decide) ?_
  refine lv_aload_n hx hb dX10_day_3 rfl (lv_at hl 0 rfl) ?_
  refine va_get (D := G.1) (ci := 9) (v := .ref ((ad_this 3))) (C := RX10) (T := TX10) (N := 31) hx hb hg hu_X10 hown hc.1 hW.1 0 rfl rfl 3 (by decide) (hg _ wd_4_41) (fun _ h9 => h9) rfl dX10_day_4 ?_
  refine lv_iconst (v := 0) hx hb dX10_day_7 (by decide) ?_
  have b_8 : vp_in 0 2 := inb_vp (by decide)
  refine va_iald hx hb hc.1 hW.1 3 0 rfl rfl b_8 dX10_day_8 ?_
  refine lv_ishl hx hb dX10_day_9 ?_
  refine lv_iconst (v := 1) hx hb dX10_day_10 (by decide) ?_
  refine lv_isub hx hb dX10_day_11 ?_
  obtain ⟨q12, c_12, hF⟩ := bd_el hF
  refine wcZ (ws' := [(h_this, oX10 ad_this v_typed v_at v_isSo v_kept v_all v_sightAll v_aheadMany), ((ad_this 16), cI G 3 a_days), ((ad_this 17), cI G 15 a_seenSigns), ((ad_this 3), cI G 2 a_signs), ((ad_this 18), cI G 15 a_wentOn), ((ad_this 10), cI G 2 a_works)]) (wc := []) (wr := [(h_this, oX10 ad_this v_typed v_at v_isSo v_kept v_all v_sightAll v_aheadMany), ((ad_this 16), cI G 3 a_days), ((ad_this 17), cI G 15 a_seenSigns), ((ad_this 3), cI G 2 a_signs), ((ad_this 18), cI G 15 a_wentOn), ((ad_this 10), cI G 2 a_works)]) (w1 := []) (va_runS (As := [.int x1, .int 0, .int ((((1 : Int32) <<< ((a_signs (Int32.toNatClampNeg 0)) &&& 31)) - 1))]) (rest := []) ⟨hx, hb, hml, hown, hg⟩ (c_X10_in l G x1 0 ((((1 : Int32) <<< ((a_signs (Int32.toNatClampNeg 0)) &&& 31)) - 1)) q12 c_12 H.size) (va_cwS 3 hg (gS wd_4_136 wd_4_137 wd_1_15 wd_4_138) rfl rfl rfl hdS_X10_in ⟨(Nat.le_of_ble_eq_true rfl), (Nat.le_of_ble_eq_true rfl)⟩) (preS hc hW [] rfl (by decide)) rfl rfl hl.1 rfl (lv_room (Nat.le_of_ble_eq_true rfl)) dX10_day_12 ⟨Nat.zero_le _, Nat.zero_le _⟩) hA hW [] [0, 1, 2, 3, 4, 5] [0, 1, 2, 3, 4, 5] rfl rfl (by decide) (by decide) rfl (by decide) (fun z_12 H locs hW => ?_)
  refine lv_if_eq (tgt := 26) hx hb dX10_day_15 (by decide) (fun c_15 => ?_) (fun c_15 => ?_)
  · have hF := ite_t hF c_15
    refine lv_iconst (v := (-1)) hx hb dX10_day_26 (by decide) ?_
    obtain rfl := Option.some.inj hF
    exact hret _ _ _ _ hW dX10_day_27
  · have hF := ite_f hF c_15
    refine lv_aload_n hx hb dX10_day_18 rfl (lv_at hl 0 rfl) ?_
    refine lv_iload_n hx hb dX10_day_19 rfl (lv_at hl 2 rfl) ?_
    obtain ⟨q20, c_20, hF⟩ := bd_el hF
    refine wcZ (ws' := [(h_this, oX10 ad_this v_typed v_at v_isSo v_kept v_all v_sightAll v_aheadMany), ((ad_this 16), cI G 3 a_days), ((ad_this 17), cI G 15 a_seenSigns), ((ad_this 3), cI G 2 a_signs), ((ad_this 18), cI G 15 a_wentOn), ((ad_this 10), cI G 2 a_works)]) (wc := [(h_this, oX10 ad_this v_typed v_at v_isSo v_kept v_all v_sightAll v_aheadMany), ((ad_this 10), cI G 2 a_works)]) (wr := [((ad_this 16), cI G 3 a_days), ((ad_this 17), cI G 15 a_seenSigns), ((ad_this 3), cI G 2 a_signs), ((ad_this 18), cI G 15 a_wentOn)]) (w1 := [(h_this, oX10 ad_this v_typed v_at v_isSo v_kept v_all v_sightAll v_aheadMany), ((ad_this 10), cI G 2 a_works)]) (va_runV (As := [.int x2]) (rest := []) ⟨hx, hb, hml, hown, hg⟩ (c_X10_areWorks l G x2 h_this ad_this v_typed v_at v_isSo v_kept v_all v_sightAll v_aheadMany a_works q20 c_20 H.size) (cwV 1 hg (gV wd_4_176 wd_4_178 wd_0_31 wd_1_15 wd_4_179) rfl rfl rfl hdV_X10_areWorks ⟨(Nat.le_of_ble_eq_true rfl), (Nat.le_of_ble_eq_true rfl)⟩) (preV hc hW [0, 5] rfl (by decide) rfl rfl) rfl rfl hl.1 rfl (lv_room (Nat.le_of_ble_eq_true rfl)) dX10_day_20 ⟨Nat.zero_le _, Nat.zero_le _⟩) hA hW [0, 5] [1, 2, 3, 4] [4, 0, 1, 2, 3, 5] rfl rfl (by decide) (by decide) rfl (by decide) (fun z_20 H locs hW => ?_)
    refine lv_if_ne (tgt := 28) hx hb dX10_day_23 (by decide) (fun c_23 => ?_) (fun c_23 => ?_)
    · have hF := ite_f hF c_23
      refine lv_aload_n hx hb dX10_day_28 rfl (lv_at hl 0 rfl) ?_
      refine va_get (D := G.1) (ci := 9) (v := .ref ((ad_this 16))) (C := RX10) (T := TX10) (N := 31) hx hb hg hu_X10 hown hc.1 hW.1 0 rfl rfl 16 (by decide) (hg _ wd_4_54) (fun _ h9 => h9) rfl dX10_day_29 ?_
      refine lv_iconst (v := 0) hx hb dX10_day_32 (by decide) ?_
      have b_33 : vp_in 0 3 := inb_vp (by decide)
      refine va_iald hx hb hc.1 hW.1 1 0 rfl rfl b_33 dX10_day_33 ?_
      refine lv_iconst (v := 5) hx hb dX10_day_34 (by decide) ?_
      refine lv_icmp_ne (tgt := 41) hx hb dX10_day_35 (by decide) (fun c_35 => ?_) (fun c_35 => ?_)
      · have hF := ite_f hF c_35
        refine lv_aload_n hx hb dX10_day_41 rfl (lv_at hl 0 rfl) ?_
        refine va_get (D := G.1) (ci := 9) (v := .ref ((ad_this 17))) (C := RX10) (T := TX10) (N := 31) hx hb hg hu_X10 hown hc.1 hW.1 0 rfl rfl 17 (by decide) (hg _ wd_4_55) (fun _ h9 => h9) rfl dX10_day_42 ?_
        refine lv_aload_n hx hb dX10_day_45 rfl (lv_at hl 0 rfl) ?_
        refine va_get (D := G.1) (ci := 9) (v := .ref ((ad_this 16))) (C := RX10) (T := TX10) (N := 31) hx hb hg hu_X10 hown hc.1 hW.1 0 rfl rfl 16 (by decide) (hg _ wd_4_54) (fun _ h9 => h9) rfl dX10_day_46 ?_
        refine lv_iconst (v := 0) hx hb dX10_day_49 (by decide) ?_
        have b_50 : vp_in 0 3 := inb_vp (by decide)
        refine va_iald hx hb hc.1 hW.1 1 0 rfl rfl b_50 dX10_day_50 ?_
        refine lv_iload_n hx hb dX10_day_51 rfl (lv_at hl 1 rfl) ?_
        obtain ⟨b_52, hF⟩ := inb_el hF
        refine va_iast hx hb hc.1 hW.1 hW.2.1 hW.2.2 2 0 rfl rfl b_52 dX10_day_52 (fun H locs hP hD hS => ?_)
        have hW : Wd G A s.heap [(h_this, oX10 ad_this v_typed v_at v_isSo v_kept v_all v_sightAll v_aheadMany), ((ad_this 16), cI G 3 a_days), ((ad_this 17), cI G 15 ((upd a_seenSigns (Int32.toNatClampNeg ((a_days (Int32.toNatClampNeg 0)))) x1))), ((ad_this 3), cI G 2 a_signs), ((ad_this 18), cI G 15 a_wentOn), ((ad_this 10), cI G 2 a_works)] H locs := ⟨hP, hD, hS⟩
        refine lv_aload_n hx hb dX10_day_53 rfl (lv_at hl 0 rfl) ?_
        refine va_get (D := G.1) (ci := 9) (v := .ref ((ad_this 18))) (C := RX10) (T := TX10) (N := 31) hx hb hg hu_X10 hown hc.1 hW.1 0 rfl rfl 18 (by decide) (hg _ wd_4_56) (fun _ h9 => h9) rfl dX10_day_54 ?_
        refine lv_aload_n hx hb dX10_day_57 rfl (lv_at hl 0 rfl) ?_
        refine va_get (D := G.1) (ci := 9) (v := .ref ((ad_this 16))) (C := RX10) (T := TX10) (N := 31) hx hb hg hu_X10 hown hc.1 hW.1 0 rfl rfl 16 (by decide) (hg _ wd_4_54) (fun _ h9 => h9) rfl dX10_day_58 ?_
        refine lv_iconst (v := 0) hx hb dX10_day_61 (by decide) ?_
        have b_62 : vp_in 0 3 := inb_vp (by decide)
        refine va_iald hx hb hc.1 hW.1 1 0 rfl rfl b_62 dX10_day_62 ?_
        refine lv_iload_n hx hb dX10_day_63 rfl (lv_at hl 2 rfl) ?_
        obtain ⟨b_64, hF⟩ := inb_el hF
        refine va_iast hx hb hc.1 hW.1 hW.2.1 hW.2.2 4 0 rfl rfl b_64 dX10_day_64 (fun H locs hP hD hS => ?_)
        have hW : Wd G A s.heap [(h_this, oX10 ad_this v_typed v_at v_isSo v_kept v_all v_sightAll v_aheadMany), ((ad_this 16), cI G 3 a_days), ((ad_this 17), cI G 15 ((upd a_seenSigns (Int32.toNatClampNeg ((a_days (Int32.toNatClampNeg 0)))) x1))), ((ad_this 3), cI G 2 a_signs), ((ad_this 18), cI G 15 ((upd a_wentOn (Int32.toNatClampNeg ((a_days (Int32.toNatClampNeg 0)))) x2))), ((ad_this 10), cI G 2 a_works)] H locs := ⟨hP, hD, hS⟩
        refine lv_aload_n hx hb dX10_day_65 rfl (lv_at hl 0 rfl) ?_
        refine va_get (D := G.1) (ci := 9) (v := .ref ((ad_this 16))) (C := RX10) (T := TX10) (N := 31) hx hb hg hu_X10 hown hc.1 hW.1 0 rfl rfl 16 (by decide) (hg _ wd_4_54) (fun _ h9 => h9) rfl dX10_day_66 ?_
        refine lv_iconst (v := 0) hx hb dX10_day_69 (by decide) ?_
        refine lv_dup2_11 hx hb dX10_day_70 rfl rfl ?_
        have b_71 : vp_in 0 3 := inb_vp (by decide)
        refine va_iald hx hb hc.1 hW.1 1 0 rfl rfl b_71 dX10_day_71 ?_
        refine lv_iconst (v := 1) hx hb dX10_day_72 (by decide) ?_
        refine lv_iadd hx hb dX10_day_73 ?_
        have b_74 : vp_in 0 3 := inb_vp (by decide)
        refine va_iast hx hb hc.1 hW.1 hW.2.1 hW.2.2 1 0 rfl rfl b_74 dX10_day_74 (fun H locs hP hD hS => ?_)
        have hW : Wd G A s.heap [(h_this, oX10 ad_this v_typed v_at v_isSo v_kept v_all v_sightAll v_aheadMany), ((ad_this 16), cI G 3 ((upd a_days (Int32.toNatClampNeg 0) (((a_days (Int32.toNatClampNeg 0)) + 1))))), ((ad_this 17), cI G 15 ((upd a_seenSigns (Int32.toNatClampNeg ((a_days (Int32.toNatClampNeg 0)))) x1))), ((ad_this 3), cI G 2 a_signs), ((ad_this 18), cI G 15 ((upd a_wentOn (Int32.toNatClampNeg ((a_days (Int32.toNatClampNeg 0)))) x2))), ((ad_this 10), cI G 2 a_works)] H locs := ⟨hP, hD, hS⟩
        refine lv_aload_n hx hb dX10_day_75 rfl (lv_at hl 0 rfl) ?_
        refine va_get (D := G.1) (ci := 9) (v := .ref ((ad_this 16))) (C := RX10) (T := TX10) (N := 31) hx hb hg hu_X10 hown hc.1 hW.1 0 rfl rfl 16 (by decide) (hg _ wd_4_54) (fun _ h9 => h9) rfl dX10_day_76 ?_
        refine lv_iconst (v := 0) hx hb dX10_day_79 (by decide) ?_
        have b_80 : vp_in 0 3 := inb_vp (by decide)
        refine va_iald hx hb hc.1 hW.1 1 0 rfl rfl b_80 dX10_day_80 ?_
        obtain rfl := Option.some.inj hF
        exact hret _ _ _ _ hW dX10_day_81
      · have hF := ite_t hF c_35
        refine lv_bipush (v := (-3)) hx hb dX10_day_38 (by decide) ?_
        obtain rfl := Option.some.inj hF
        exact hret _ _ _ _ hW dX10_day_40
    · have hF := ite_t hF c_23
      refine lv_iconst (v := (-1)) hx hb dX10_day_26 (by decide) ?_
      obtain rfl := Option.some.inj hF
      exact hret _ _ _ _ hW dX10_day_27
theorem dX10_diary_0 : decode cX10_diary 0 = .ok (.iload_n 1, 1) := by decide +kernel
theorem dX10_diary_1 : decode cX10_diary 1 = .ok (.iconst 0, 1) := by decide +kernel
theorem dX10_diary_2 : decode cX10_diary 2 = .ok (.aload_n 0, 1) := by decide +kernel
theorem dX10_diary_3 : decode cX10_diary 3 = .ok (.getfield 50, 3) := by decide +kernel
theorem dX10_diary_6 : decode cX10_diary 6 = .ok (.iconst 0, 1) := by decide +kernel
theorem dX10_diary_7 : decode cX10_diary 7 = .ok (.iaload, 1) := by decide +kernel
theorem dX10_diary_8 : decode cX10_diary 8 = .ok (.iconst 1, 1) := by decide +kernel
theorem dX10_diary_9 : decode cX10_diary 9 = .ok (.isub, 1) := by decide +kernel
theorem dX10_diary_10 : decode cX10_diary 10 = .ok (.invokestatic 99, 3) := by decide +kernel
theorem dX10_diary_13 : decode cX10_diary 13 = .ok (.ifCond .eq 12, 3) := by decide +kernel
theorem dX10_diary_16 : decode cX10_diary 16 = .ok (.iload_n 2, 1) := by decide +kernel
theorem dX10_diary_17 : decode cX10_diary 17 = .ok (.iconst 0, 1) := by decide +kernel
theorem dX10_diary_18 : decode cX10_diary 18 = .ok (.iconst 1, 1) := by decide +kernel
theorem dX10_diary_19 : decode cX10_diary 19 = .ok (.invokestatic 99, 3) := by decide +kernel
theorem dX10_diary_22 : decode cX10_diary 22 = .ok (.ifCond .ne 5, 3) := by decide +kernel
theorem dX10_diary_25 : decode cX10_diary 25 = .ok (.iconst (-1), 1) := by decide +kernel
theorem dX10_diary_26 : decode cX10_diary 26 = .ok (.ireturn, 1) := by decide +kernel
theorem dX10_diary_27 : decode cX10_diary 27 = .ok (.iload_n 2, 1) := by decide +kernel
theorem dX10_diary_28 : decode cX10_diary 28 = .ok (.ifCond .ne 12, 3) := by decide +kernel
theorem dX10_diary_31 : decode cX10_diary 31 = .ok (.aload_n 0, 1) := by decide +kernel
theorem dX10_diary_32 : decode cX10_diary 32 = .ok (.getfield 53, 3) := by decide +kernel
theorem dX10_diary_35 : decode cX10_diary 35 = .ok (.iload_n 1, 1) := by decide +kernel
theorem dX10_diary_36 : decode cX10_diary 36 = .ok (.iaload, 1) := by decide +kernel
theorem dX10_diary_37 : decode cX10_diary 37 = .ok (.goto 9, 3) := by decide +kernel
theorem dX10_diary_40 : decode cX10_diary 40 = .ok (.aload_n 0, 1) := by decide +kernel
theorem dX10_diary_41 : decode cX10_diary 41 = .ok (.getfield 56, 3) := by decide +kernel
theorem dX10_diary_44 : decode cX10_diary 44 = .ok (.iload_n 1, 1) := by decide +kernel
theorem dX10_diary_45 : decode cX10_diary 45 = .ok (.iaload, 1) := by decide +kernel
theorem dX10_diary_46 : decode cX10_diary 46 = .ok (.ireturn, 1) := by decide +kernel
def F_X10_diary (x1 : Int32) (x2 : Int32) (a_days : Nat → Int32) (a_seenSigns : Nat → Int32) (a_wentOn : Nat → Int32) : Option (Int32) := (F_X10_in x1 0 (((a_days (Int32.toNatClampNeg 0)) - 1))).bind (fun q10 => (if q10 = 0 then some ((-1)) else (F_X10_in x2 0 1).bind (fun q19 => (if q19 = 0 then some ((-1)) else (if x2 = 0 then (if inb x1 15 = true then some ((a_seenSigns (Int32.toNatClampNeg x1))) else none) else (if inb x1 15 = true then some ((a_wentOn (Int32.toNatClampNeg x1))) else none))))))
theorem hdV_X10_diary : yX10_diary.cls = RX10 ∧ yX10_diary.cls ≠ "java/lang/invoke/MethodHandle" ∧ yX10_diary.cls ≠ "java/lang/invoke/VarHandle" ∧ (parseMethodDescriptor yX10_diary.desc).map (fun d => d.parameters.length) = some 2 := by decide +kernel
set_option maxHeartbeats 4000000 in
set_option maxRecDepth 100000 in
theorem c_X10_diary (l : Launch) (G : GG) (x1 : Int32) (x2 : Int32) (h_this : Nat) (ad_this : Nat → Nat) (v_typed : Int32) (v_at : Int32) (v_isSo : Int32) (v_kept : Int32) (v_all : Int64) (v_sightAll : Int64) (v_aheadMany : Int32) (a_days : Nat → Int32) (a_seenSigns : Nat → Int32) (a_wentOn : Nat → Int32) (out : Int32) (hF : F_X10_diary x1 x2 a_days a_seenSigns a_wentOn = some out) : CtrI l yX10_diary (WS yX10_diary cX10_diary 3 (some .int)) { frames := 1, cells := 0, slots := 0, locals := 22 } G [.ref h_this, .int x1, .int x2] [(h_this, oX10 ad_this v_typed v_at v_isSo v_kept v_all v_sightAll v_aheadMany), ((ad_this 16), cI G 3 a_days), ((ad_this 17), cI G 15 a_seenSigns), ((ad_this 18), cI G 15 a_wentOn)] [(h_this, oX10 ad_this v_typed v_at v_isSo v_kept v_all v_sightAll v_aheadMany), ((ad_this 16), cI G 3 a_days), ((ad_this 17), cI G 15 a_seenSigns), ((ad_this 18), cI G 15 a_wentOn)] out := by
  refine startI (cc := cX10_diary) (maxL := 3) (by decide) rfl (Nat.le_of_ble_eq_true rfl) ?_
  intro p e s m args below meth c A Q hx hb hml hts hown hc hA hret ls H locs hl hW
  have hown : s.vm.findClass RX10 = some m.cls := hown
  have hg : ∀ w ∈ GOODS, w.before _ s = true := fun w h => hts w (List.mem_cons_of_mem _ h)
  have hl : lv_has ls 3 [(0, .ref h_this), (1, .int x1), (2, .int x2)] := hl
  rw [F_X10_diary] at hF
  refine lv_iload_n hx hb dX10_diary_0 rfl (lv_at hl 1 rfl) ?_
  refine lv_iconst (v := 0) hx hb dX10_diary_1 (by decide) ?_
  refine lv_aload_n hx hb dX10_diary_2 rfl (lv_at hl 0 rfl) ?_
  refine va_get (D := G.1) (ci := 9) (v := .ref ((ad_this 16))) (C := RX10) (T := TX10) (N := 31) hx hb hg hu_X10 hown hc.1 hW.1 0 rfl rfl 16 (by decide) (hg _ wd_4_54) (fun _ h9 => h9) rfl dX10_diary_3 ?_
  refine lv_iconst (v := 0) hx hb dX10_diary_6 (by decide) ?_
  have b_7 : vp_in 0 3 := inb_vp (by decide)
  refine va_iald hx hb hc.1 hW.1 1 0 rfl rfl b_7 dX10_diary_7 ?_
  refine lv_iconst (v := 1) hx hb dX10_diary_8 (by decide) ?_
  refine lv_isub hx hb dX10_diary_9 ?_
  obtain ⟨q10, c_10, hF⟩ := bd_el hF
  refine wcZ (ws' := [(h_this, oX10 ad_this v_typed v_at v_isSo v_kept v_all v_sightAll v_aheadMany), ((ad_this 16), cI G 3 a_days), ((ad_this 17), cI G 15 a_seenSigns), ((ad_this 18), cI G 15 a_wentOn)]) (wc := []) (wr := [(h_this, oX10 ad_this v_typed v_at v_isSo v_kept v_all v_sightAll v_aheadMany), ((ad_this 16), cI G 3 a_days), ((ad_this 17), cI G 15 a_seenSigns), ((ad_this 18), cI G 15 a_wentOn)]) (w1 := []) (va_runS (As := [.int x1, .int 0, .int (((a_days (Int32.toNatClampNeg 0)) - 1))]) (rest := []) ⟨hx, hb, hml, hown, hg⟩ (c_X10_in l G x1 0 (((a_days (Int32.toNatClampNeg 0)) - 1)) q10 c_10 H.size) (va_cwS 3 hg (gS wd_4_136 wd_4_137 wd_1_15 wd_4_138) rfl rfl rfl hdS_X10_in ⟨(Nat.le_of_ble_eq_true rfl), (Nat.le_of_ble_eq_true rfl)⟩) (preS hc hW [] rfl (by decide)) rfl rfl hl.1 rfl (lv_room (Nat.le_of_ble_eq_true rfl)) dX10_diary_10 ⟨Nat.zero_le _, Nat.zero_le _⟩) hA hW [] [0, 1, 2, 3] [0, 1, 2, 3] rfl rfl (by decide) (by decide) rfl (by decide) (fun z_10 H locs hW => ?_)
  refine lv_if_eq (tgt := 25) hx hb dX10_diary_13 (by decide) (fun c_13 => ?_) (fun c_13 => ?_)
  · have hF := ite_t hF c_13
    refine lv_iconst (v := (-1)) hx hb dX10_diary_25 (by decide) ?_
    obtain rfl := Option.some.inj hF
    exact hret _ _ _ _ hW dX10_diary_26
  · have hF := ite_f hF c_13
    refine lv_iload_n hx hb dX10_diary_16 rfl (lv_at hl 2 rfl) ?_
    refine lv_iconst (v := 0) hx hb dX10_diary_17 (by decide) ?_
    refine lv_iconst (v := 1) hx hb dX10_diary_18 (by decide) ?_
    obtain ⟨q19, c_19, hF⟩ := bd_el hF
    refine wcZ (ws' := [(h_this, oX10 ad_this v_typed v_at v_isSo v_kept v_all v_sightAll v_aheadMany), ((ad_this 16), cI G 3 a_days), ((ad_this 17), cI G 15 a_seenSigns), ((ad_this 18), cI G 15 a_wentOn)]) (wc := []) (wr := [(h_this, oX10 ad_this v_typed v_at v_isSo v_kept v_all v_sightAll v_aheadMany), ((ad_this 16), cI G 3 a_days), ((ad_this 17), cI G 15 a_seenSigns), ((ad_this 18), cI G 15 a_wentOn)]) (w1 := []) (va_runS (As := [.int x2, .int 0, .int 1]) (rest := []) ⟨hx, hb, hml, hown, hg⟩ (c_X10_in l G x2 0 1 q19 c_19 H.size) (va_cwS 3 hg (gS wd_4_136 wd_4_137 wd_1_15 wd_4_138) rfl rfl rfl hdS_X10_in ⟨(Nat.le_of_ble_eq_true rfl), (Nat.le_of_ble_eq_true rfl)⟩) (preS hc hW [] rfl (by decide)) rfl rfl hl.1 rfl (lv_room (Nat.le_of_ble_eq_true rfl)) dX10_diary_19 ⟨Nat.zero_le _, Nat.zero_le _⟩) hA hW [] [0, 1, 2, 3] [0, 1, 2, 3] rfl rfl (by decide) (by decide) rfl (by decide) (fun z_19 H locs hW => ?_)
    refine lv_if_ne (tgt := 27) hx hb dX10_diary_22 (by decide) (fun c_22 => ?_) (fun c_22 => ?_)
    · have hF := ite_f hF c_22
      refine lv_iload_n hx hb dX10_diary_27 rfl (lv_at hl 2 rfl) ?_
      refine lv_if_ne (tgt := 40) hx hb dX10_diary_28 (by decide) (fun c_28 => ?_) (fun c_28 => ?_)
      · have hF := ite_f hF c_28
        refine lv_aload_n hx hb dX10_diary_40 rfl (lv_at hl 0 rfl) ?_
        refine va_get (D := G.1) (ci := 9) (v := .ref ((ad_this 18))) (C := RX10) (T := TX10) (N := 31) hx hb hg hu_X10 hown hc.1 hW.1 0 rfl rfl 18 (by decide) (hg _ wd_4_56) (fun _ h9 => h9) rfl dX10_diary_41 ?_
        refine lv_iload_n hx hb dX10_diary_44 rfl (lv_at hl 1 rfl) ?_
        obtain ⟨b_45, hF⟩ := inb_el hF
        refine va_iald hx hb hc.1 hW.1 3 0 rfl rfl b_45 dX10_diary_45 ?_
        obtain rfl := Option.some.inj hF
        exact hret _ _ _ _ hW dX10_diary_46
      · have hF := ite_t hF c_28
        refine lv_aload_n hx hb dX10_diary_31 rfl (lv_at hl 0 rfl) ?_
        refine va_get (D := G.1) (ci := 9) (v := .ref ((ad_this 17))) (C := RX10) (T := TX10) (N := 31) hx hb hg hu_X10 hown hc.1 hW.1 0 rfl rfl 17 (by decide) (hg _ wd_4_55) (fun _ h9 => h9) rfl dX10_diary_32 ?_
        refine lv_iload_n hx hb dX10_diary_35 rfl (lv_at hl 1 rfl) ?_
        obtain ⟨b_36, hF⟩ := inb_el hF
        refine va_iald hx hb hc.1 hW.1 2 0 rfl rfl b_36 dX10_diary_36 ?_
        refine lv_goto (tgt := 46) hx hb dX10_diary_37 (by decide) ?_
        obtain rfl := Option.some.inj hF
        exact hret _ _ _ _ hW dX10_diary_46
    · have hF := ite_t hF c_22
      refine lv_iconst (v := (-1)) hx hb dX10_diary_25 (by decide) ?_
      obtain rfl := Option.some.inj hF
      exact hret _ _ _ _ hW dX10_diary_26
theorem dX10_undo_0 : decode cX10_undo 0 = .ok (.aload_n 0, 1) := by decide +kernel
theorem dX10_undo_1 : decode cX10_undo 1 = .ok (.getfield 50, 3) := by decide +kernel
theorem dX10_undo_4 : decode cX10_undo 4 = .ok (.iconst 0, 1) := by decide +kernel
theorem dX10_undo_5 : decode cX10_undo 5 = .ok (.iaload, 1) := by decide +kernel
theorem dX10_undo_6 : decode cX10_undo 6 = .ok (.ifCond .ne 6, 3) := by decide +kernel
theorem dX10_undo_9 : decode cX10_undo 9 = .ok (.bipush (-2), 2) := by decide +kernel
theorem dX10_undo_11 : decode cX10_undo 11 = .ok (.ireturn, 1) := by decide +kernel
theorem dX10_undo_12 : decode cX10_undo 12 = .ok (.aload_n 0, 1) := by decide +kernel
theorem dX10_undo_13 : decode cX10_undo 13 = .ok (.getfield 50, 3) := by decide +kernel
theorem dX10_undo_16 : decode cX10_undo 16 = .ok (.iconst 0, 1) := by decide +kernel
theorem dX10_undo_17 : decode cX10_undo 17 = .ok (.dup2, 1) := by decide +kernel
theorem dX10_undo_18 : decode cX10_undo 18 = .ok (.iaload, 1) := by decide +kernel
theorem dX10_undo_19 : decode cX10_undo 19 = .ok (.iconst 1, 1) := by decide +kernel
theorem dX10_undo_20 : decode cX10_undo 20 = .ok (.isub, 1) := by decide +kernel
theorem dX10_undo_21 : decode cX10_undo 21 = .ok (.iastore, 1) := by decide +kernel
theorem dX10_undo_22 : decode cX10_undo 22 = .ok (.aload_n 0, 1) := by decide +kernel
theorem dX10_undo_23 : decode cX10_undo 23 = .ok (.getfield 50, 3) := by decide +kernel
theorem dX10_undo_26 : decode cX10_undo 26 = .ok (.iconst 0, 1) := by decide +kernel
theorem dX10_undo_27 : decode cX10_undo 27 = .ok (.iaload, 1) := by decide +kernel
theorem dX10_undo_28 : decode cX10_undo 28 = .ok (.ireturn, 1) := by decide +kernel
def F_X10_undo (a_days : Nat → Int32) : Option (Int32 × (Nat → Int32)) := (if (a_days (Int32.toNatClampNeg 0)) = 0 then some ((-2), a_days) else some ((((upd a_days (Int32.toNatClampNeg 0) (((a_days (Int32.toNatClampNeg 0)) - 1)))) (Int32.toNatClampNeg 0)), (upd a_days (Int32.toNatClampNeg 0) (((a_days (Int32.toNatClampNeg 0)) - 1)))))
theorem hdV_X10_undo : yX10_undo.cls = RX10 ∧ yX10_undo.cls ≠ "java/lang/invoke/MethodHandle" ∧ yX10_undo.cls ≠ "java/lang/invoke/VarHandle" ∧ (parseMethodDescriptor yX10_undo.desc).map (fun d => d.parameters.length) = some 0 := by decide +kernel
set_option maxHeartbeats 4000000 in
set_option maxRecDepth 100000 in
theorem c_X10_undo (l : Launch) (G : GG) (h_this : Nat) (ad_this : Nat → Nat) (v_typed : Int32) (v_at : Int32) (v_isSo : Int32) (v_kept : Int32) (v_all : Int64) (v_sightAll : Int64) (v_aheadMany : Int32) (a_days : Nat → Int32) (out : Int32 × (Nat → Int32)) (hF : F_X10_undo a_days = some out) : CtrI l yX10_undo (WS yX10_undo cX10_undo 1 (some .int)) { frames := 0, cells := 0, slots := 0, locals := 0 } G [.ref h_this] [(h_this, oX10 ad_this v_typed v_at v_isSo v_kept v_all v_sightAll v_aheadMany), ((ad_this 16), cI G 3 a_days)] [(h_this, oX10 ad_this v_typed v_at v_isSo v_kept v_all v_sightAll v_aheadMany), ((ad_this 16), cI G 3 out.2)] out.1 := by
  refine startI (cc := cX10_undo) (maxL := 1) (by decide) rfl (Nat.le_of_ble_eq_true rfl) ?_
  intro p e s m args below meth c A Q hx hb hml hts hown hc hA hret ls H locs hl hW
  have hown : s.vm.findClass RX10 = some m.cls := hown
  have hg : ∀ w ∈ GOODS, w.before _ s = true := fun w h => hts w (List.mem_cons_of_mem _ h)
  have hl : lv_has ls 1 [(0, .ref h_this)] := hl
  rw [F_X10_undo] at hF
  refine lv_aload_n hx hb dX10_undo_0 rfl (lv_at hl 0 rfl) ?_
  refine va_get (D := G.1) (ci := 9) (v := .ref ((ad_this 16))) (C := RX10) (T := TX10) (N := 31) hx hb hg hu_X10 hown hc.1 hW.1 0 rfl rfl 16 (by decide) (hg _ wd_4_54) (fun _ h9 => h9) rfl dX10_undo_1 ?_
  refine lv_iconst (v := 0) hx hb dX10_undo_4 (by decide) ?_
  have b_5 : vp_in 0 3 := inb_vp (by decide)
  refine va_iald hx hb hc.1 hW.1 1 0 rfl rfl b_5 dX10_undo_5 ?_
  refine lv_if_ne (tgt := 12) hx hb dX10_undo_6 (by decide) (fun c_6 => ?_) (fun c_6 => ?_)
  · have hF := ite_f hF c_6
    refine lv_aload_n hx hb dX10_undo_12 rfl (lv_at hl 0 rfl) ?_
    refine va_get (D := G.1) (ci := 9) (v := .ref ((ad_this 16))) (C := RX10) (T := TX10) (N := 31) hx hb hg hu_X10 hown hc.1 hW.1 0 rfl rfl 16 (by decide) (hg _ wd_4_54) (fun _ h9 => h9) rfl dX10_undo_13 ?_
    refine lv_iconst (v := 0) hx hb dX10_undo_16 (by decide) ?_
    refine lv_dup2_11 hx hb dX10_undo_17 rfl rfl ?_
    have b_18 : vp_in 0 3 := inb_vp (by decide)
    refine va_iald hx hb hc.1 hW.1 1 0 rfl rfl b_18 dX10_undo_18 ?_
    refine lv_iconst (v := 1) hx hb dX10_undo_19 (by decide) ?_
    refine lv_isub hx hb dX10_undo_20 ?_
    have b_21 : vp_in 0 3 := inb_vp (by decide)
    refine va_iast hx hb hc.1 hW.1 hW.2.1 hW.2.2 1 0 rfl rfl b_21 dX10_undo_21 (fun H locs hP hD hS => ?_)
    have hW : Wd G A s.heap [(h_this, oX10 ad_this v_typed v_at v_isSo v_kept v_all v_sightAll v_aheadMany), ((ad_this 16), cI G 3 ((upd a_days (Int32.toNatClampNeg 0) (((a_days (Int32.toNatClampNeg 0)) - 1)))))] H locs := ⟨hP, hD, hS⟩
    refine lv_aload_n hx hb dX10_undo_22 rfl (lv_at hl 0 rfl) ?_
    refine va_get (D := G.1) (ci := 9) (v := .ref ((ad_this 16))) (C := RX10) (T := TX10) (N := 31) hx hb hg hu_X10 hown hc.1 hW.1 0 rfl rfl 16 (by decide) (hg _ wd_4_54) (fun _ h9 => h9) rfl dX10_undo_23 ?_
    refine lv_iconst (v := 0) hx hb dX10_undo_26 (by decide) ?_
    have b_27 : vp_in 0 3 := inb_vp (by decide)
    refine va_iald hx hb hc.1 hW.1 1 0 rfl rfl b_27 dX10_undo_27 ?_
    obtain rfl := Option.some.inj hF
    exact hret _ _ _ _ hW dX10_undo_28
  · have hF := ite_t hF c_6
    refine lv_bipush (v := (-2)) hx hb dX10_undo_9 (by decide) ?_
    obtain rfl := Option.some.inj hF
    exact hret _ _ _ _ hW dX10_undo_11
