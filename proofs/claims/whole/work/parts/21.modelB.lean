theorem dX10_chance_0 : decode cX10_chance 0 = .ok (.aload_n 0, 1) := by decide +kernel
theorem dX10_chance_1 : decode cX10_chance 1 = .ok (.getfield 13, 3) := by decide +kernel
theorem dX10_chance_4 : decode cX10_chance 4 = .ok (.iload_n 1, 1) := by decide +kernel
theorem dX10_chance_5 : decode cX10_chance 5 = .ok (.iaload, 1) := by decide +kernel
theorem dX10_chance_6 : decode cX10_chance 6 = .ok (.aload_n 0, 1) := by decide +kernel
theorem dX10_chance_7 : decode cX10_chance 7 = .ok (.iload_n 2, 1) := by decide +kernel
theorem dX10_chance_8 : decode cX10_chance 8 = .ok (.invokevirtual 141, 3) := by decide +kernel
theorem dX10_chance_11 : decode cX10_chance 11 = .ok (.iadd, 1) := by decide +kernel
theorem dX10_chance_12 : decode cX10_chance 12 = .ok (.istore_n 3, 1) := by decide +kernel
theorem dX10_chance_13 : decode cX10_chance 13 = .ok (.iload_n 3, 1) := by decide +kernel
theorem dX10_chance_14 : decode cX10_chance 14 = .ok (.iconst 4, 1) := by decide +kernel
theorem dX10_chance_15 : decode cX10_chance 15 = .ok (.if_icmp .le 7, 3) := by decide +kernel
theorem dX10_chance_18 : decode cX10_chance 18 = .ok (.iconst 4, 1) := by decide +kernel
theorem dX10_chance_19 : decode cX10_chance 19 = .ok (.goto 4, 3) := by decide +kernel
theorem dX10_chance_22 : decode cX10_chance 22 = .ok (.iload_n 3, 1) := by decide +kernel
theorem dX10_chance_23 : decode cX10_chance 23 = .ok (.ireturn, 1) := by decide +kernel
def F_X10_chance (x1 : Int32) (x2 : Int32) (a_goes : Nat → Int32) (a_noise : Nat → Int32) (a_works : Nat → Int32) : Option (Int32) := (if inb x1 6 = true then (F_X10_sumNoise x2 a_noise a_works).bind (fun q8 => (if ((a_goes (Int32.toNatClampNeg x1)) + q8) ≤ 4 then some (((a_goes (Int32.toNatClampNeg x1)) + q8)) else some (4))) else none)
theorem hdV_X10_chance : yX10_chance.cls = RX10 ∧ yX10_chance.cls ≠ "java/lang/invoke/MethodHandle" ∧ yX10_chance.cls ≠ "java/lang/invoke/VarHandle" ∧ (parseMethodDescriptor yX10_chance.desc).map (fun d => d.parameters.length) = some 2 := by decide +kernel
set_option maxHeartbeats 4000000 in
set_option maxRecDepth 100000 in
theorem c_X10_chance (l : Launch) (G : GG) (x1 : Int32) (x2 : Int32) (h_this : Nat) (ad_this : Nat → Nat) (v_typed : Int32) (v_at : Int32) (v_isSo : Int32) (v_kept : Int32) (v_all : Int64) (v_sightAll : Int64) (v_aheadMany : Int32) (a_goes : Nat → Int32) (a_noise : Nat → Int32) (a_works : Nat → Int32) (out : Int32) (hF : F_X10_chance x1 x2 a_goes a_noise a_works = some out) : CtrI l yX10_chance (WS yX10_chance cX10_chance 4 (some .int)) { frames := 1, cells := 0, slots := 0, locals := 23 } G [.ref h_this, .int x1, .int x2] [(h_this, oX10 ad_this v_typed v_at v_isSo v_kept v_all v_sightAll v_aheadMany), ((ad_this 2), cI G 6 a_goes), ((ad_this 11), cI G 10 a_noise), ((ad_this 10), cI G 2 a_works)] [(h_this, oX10 ad_this v_typed v_at v_isSo v_kept v_all v_sightAll v_aheadMany), ((ad_this 2), cI G 6 a_goes), ((ad_this 11), cI G 10 a_noise), ((ad_this 10), cI G 2 a_works)] out := by
  refine startI (cc := cX10_chance) (maxL := 4) (by decide) rfl (Nat.le_of_ble_eq_true rfl) ?_
  intro p e s m args below meth c A Q hx hb hml hts hown hc hA hret ls H locs hl hW
  have hown : s.vm.findClass RX10 = some m.cls := hown
  have hg : ∀ w ∈ GOODS, w.before _ s = true := fun w h => hts w (List.mem_cons_of_mem _ h)
  have hl : lv_has ls 4 [(0, .ref h_this), (1, .int x1), (2, .int x2)] := hl
  rw [F_X10_chance] at hF
  refine lv_aload_n hx hb dX10_chance_0 rfl (lv_at hl 0 rfl) ?_
  refine va_get (D := G.1) (ci := 9) (v := .ref ((ad_this 2))) (C := RX10) (T := TX10) (N := 31) hx hb hg hu_X10 hown hc.1 hW.1 0 rfl rfl 2 (by decide) (hg _ wd_4_40) (fun _ h9 => h9) rfl dX10_chance_1 ?_
  refine lv_iload_n hx hb dX10_chance_4 rfl (lv_at hl 1 rfl) ?_
  obtain ⟨b_5, hF⟩ := inb_el hF
  refine va_iald hx hb hc.1 hW.1 1 0 rfl rfl b_5 dX10_chance_5 ?_
  refine lv_aload_n hx hb dX10_chance_6 rfl (lv_at hl 0 rfl) ?_
  refine lv_iload_n hx hb dX10_chance_7 rfl (lv_at hl 2 rfl) ?_
  obtain ⟨q8, c_8, hF⟩ := bd_el hF
  refine wcI (ws' := [(h_this, oX10 ad_this v_typed v_at v_isSo v_kept v_all v_sightAll v_aheadMany), ((ad_this 2), cI G 6 a_goes), ((ad_this 11), cI G 10 a_noise), ((ad_this 10), cI G 2 a_works)]) (wc := [(h_this, oX10 ad_this v_typed v_at v_isSo v_kept v_all v_sightAll v_aheadMany), ((ad_this 11), cI G 10 a_noise), ((ad_this 10), cI G 2 a_works)]) (wr := [((ad_this 2), cI G 6 a_goes)]) (w1 := [(h_this, oX10 ad_this v_typed v_at v_isSo v_kept v_all v_sightAll v_aheadMany), ((ad_this 11), cI G 10 a_noise), ((ad_this 10), cI G 2 a_works)]) (va_runV (As := [.int x2]) (rest := [.int ((a_goes (Int32.toNatClampNeg x1)))]) ⟨hx, hb, hml, hown, hg⟩ (c_X10_sumNoise l G x2 h_this ad_this v_typed v_at v_isSo v_kept v_all v_sightAll v_aheadMany a_noise a_works q8 c_8 H.size) (cwV 1 hg (gV wd_4_180 wd_4_182 wd_0_32 wd_1_15 wd_4_183) rfl rfl rfl hdV_X10_sumNoise ⟨(Nat.le_of_ble_eq_true rfl), (Nat.le_of_ble_eq_true rfl)⟩) (preV hc hW [0, 2, 3] rfl (by decide) rfl rfl) rfl rfl hl.1 rfl (lv_room (Nat.le_of_ble_eq_true rfl)) dX10_chance_8 ⟨Nat.zero_le _, Nat.zero_le _⟩) hA hW [0, 2, 3] [1] [1, 0, 2, 3] rfl rfl (by decide) (by decide) rfl (by decide) (fun H locs hW => ?_)
  refine lv_iadd hx hb dX10_chance_11 ?_
  refine lv_istore_n (lv' := [(3, .int (((a_goes (Int32.toNatClampNeg x1)) + q8))), (0, .ref h_this), (1, .int x1), (2, .int x2)]) hx hb dX10_chance_12 rfl hl (by decide) rfl (fun ls hl => ?_)
  refine lv_iload_n hx hb dX10_chance_13 rfl (lv_at hl 0 rfl) ?_
  refine lv_iconst (v := 4) hx hb dX10_chance_14 (by decide) ?_
  refine lv_icmp_le (tgt := 22) hx hb dX10_chance_15 (by decide) (fun c_15 => ?_) (fun c_15 => ?_)
  · have hF := ite_t hF c_15
    refine lv_iload_n hx hb dX10_chance_22 rfl (lv_at hl 0 rfl) ?_
    obtain rfl := Option.some.inj hF
    exact hret _ _ _ _ hW dX10_chance_23
  · have hF := ite_f hF c_15
    refine lv_iconst (v := 4) hx hb dX10_chance_18 (by decide) ?_
    refine lv_goto (tgt := 23) hx hb dX10_chance_19 (by decide) ?_
    obtain rfl := Option.some.inj hF
    exact hret _ _ _ _ hW dX10_chance_23
theorem dX10_seenBy_0 : decode cX10_seenBy 0 = .ok (.aload_n 0, 1) := by decide +kernel
theorem dX10_seenBy_1 : decode cX10_seenBy 1 = .ok (.getfield 20, 3) := by decide +kernel
theorem dX10_seenBy_4 : decode cX10_seenBy 4 = .ok (.iconst 4, 1) := by decide +kernel
theorem dX10_seenBy_5 : decode cX10_seenBy 5 = .ok (.iload_n 1, 1) := by decide +kernel
theorem dX10_seenBy_6 : decode cX10_seenBy 6 = .ok (.imul, 1) := by decide +kernel
theorem dX10_seenBy_7 : decode cX10_seenBy 7 = .ok (.iaload, 1) := by decide +kernel
theorem dX10_seenBy_8 : decode cX10_seenBy 8 = .ok (.istore 4, 2) := by decide +kernel
theorem dX10_seenBy_10 : decode cX10_seenBy 10 = .ok (.iload 4, 2) := by decide +kernel
theorem dX10_seenBy_12 : decode cX10_seenBy 12 = .ok (.iconst 2, 1) := by decide +kernel
theorem dX10_seenBy_13 : decode cX10_seenBy 13 = .ok (.if_icmp .ne 18, 3) := by decide +kernel
theorem dX10_seenBy_16 : decode cX10_seenBy 16 = .ok (.iconst 4, 1) := by decide +kernel
theorem dX10_seenBy_17 : decode cX10_seenBy 17 = .ok (.aload_n 0, 1) := by decide +kernel
theorem dX10_seenBy_18 : decode cX10_seenBy 18 = .ok (.getfield 20, 3) := by decide +kernel
theorem dX10_seenBy_21 : decode cX10_seenBy 21 = .ok (.iconst 4, 1) := by decide +kernel
theorem dX10_seenBy_22 : decode cX10_seenBy 22 = .ok (.iload_n 1, 1) := by decide +kernel
theorem dX10_seenBy_23 : decode cX10_seenBy 23 = .ok (.imul, 1) := by decide +kernel
theorem dX10_seenBy_24 : decode cX10_seenBy 24 = .ok (.iconst 1, 1) := by decide +kernel
theorem dX10_seenBy_25 : decode cX10_seenBy 25 = .ok (.iadd, 1) := by decide +kernel
theorem dX10_seenBy_26 : decode cX10_seenBy 26 = .ok (.iload_n 3, 1) := by decide +kernel
theorem dX10_seenBy_27 : decode cX10_seenBy 27 = .ok (.iadd, 1) := by decide +kernel
theorem dX10_seenBy_28 : decode cX10_seenBy 28 = .ok (.iaload, 1) := by decide +kernel
theorem dX10_seenBy_29 : decode cX10_seenBy 29 = .ok (.isub, 1) := by decide +kernel
theorem dX10_seenBy_30 : decode cX10_seenBy 30 = .ok (.ireturn, 1) := by decide +kernel
theorem dX10_seenBy_31 : decode cX10_seenBy 31 = .ok (.aload_n 0, 1) := by decide +kernel
theorem dX10_seenBy_32 : decode cX10_seenBy 32 = .ok (.getfield 20, 3) := by decide +kernel
theorem dX10_seenBy_35 : decode cX10_seenBy 35 = .ok (.iconst 4, 1) := by decide +kernel
theorem dX10_seenBy_36 : decode cX10_seenBy 36 = .ok (.iload_n 1, 1) := by decide +kernel
theorem dX10_seenBy_37 : decode cX10_seenBy 37 = .ok (.imul, 1) := by decide +kernel
theorem dX10_seenBy_38 : decode cX10_seenBy 38 = .ok (.iconst 1, 1) := by decide +kernel
theorem dX10_seenBy_39 : decode cX10_seenBy 39 = .ok (.iadd, 1) := by decide +kernel
theorem dX10_seenBy_40 : decode cX10_seenBy 40 = .ok (.iload 4, 2) := by decide +kernel
theorem dX10_seenBy_42 : decode cX10_seenBy 42 = .ok (.iconst 1, 1) := by decide +kernel
theorem dX10_seenBy_43 : decode cX10_seenBy 43 = .ok (.if_icmp .ne 7, 3) := by decide +kernel
theorem dX10_seenBy_46 : decode cX10_seenBy 46 = .ok (.iload_n 2, 1) := by decide +kernel
theorem dX10_seenBy_47 : decode cX10_seenBy 47 = .ok (.goto 4, 3) := by decide +kernel
theorem dX10_seenBy_50 : decode cX10_seenBy 50 = .ok (.iload_n 3, 1) := by decide +kernel
theorem dX10_seenBy_51 : decode cX10_seenBy 51 = .ok (.iadd, 1) := by decide +kernel
theorem dX10_seenBy_52 : decode cX10_seenBy 52 = .ok (.iaload, 1) := by decide +kernel
theorem dX10_seenBy_53 : decode cX10_seenBy 53 = .ok (.ireturn, 1) := by decide +kernel
def F_X10_seenBy (x1 : Int32) (x2 : Int32) (x3 : Int32) (a_told : Nat → Int32) : Option (Int32) := (if inb ((4 * x1)) 32 = true then (if (a_told (Int32.toNatClampNeg ((4 * x1)))) = 2 then (if inb ((((4 * x1) + 1) + x3)) 32 = true then some ((4 - (a_told (Int32.toNatClampNeg ((((4 * x1) + 1) + x3)))))) else none) else jn (fun (j0_51 : Int32) => (if inb ((((4 * x1) + 1) + j0_51)) 32 = true then some ((a_told (Int32.toNatClampNeg ((((4 * x1) + 1) + j0_51))))) else none)) (fun k_51 => (if (a_told (Int32.toNatClampNeg ((4 * x1)))) = 1 then k_51 x2 else k_51 x3))) else none)
theorem hdV_X10_seenBy : yX10_seenBy.cls = RX10 ∧ yX10_seenBy.cls ≠ "java/lang/invoke/MethodHandle" ∧ yX10_seenBy.cls ≠ "java/lang/invoke/VarHandle" ∧ (parseMethodDescriptor yX10_seenBy.desc).map (fun d => d.parameters.length) = some 3 := by decide +kernel
set_option maxHeartbeats 4000000 in
set_option maxRecDepth 100000 in
theorem c_X10_seenBy (l : Launch) (G : GG) (x1 : Int32) (x2 : Int32) (x3 : Int32) (h_this : Nat) (ad_this : Nat → Nat) (v_typed : Int32) (v_at : Int32) (v_isSo : Int32) (v_kept : Int32) (v_all : Int64) (v_sightAll : Int64) (v_aheadMany : Int32) (a_told : Nat → Int32) (out : Int32) (hF : F_X10_seenBy x1 x2 x3 a_told = some out) : CtrI l yX10_seenBy (WS yX10_seenBy cX10_seenBy 5 (some .int)) { frames := 0, cells := 0, slots := 0, locals := 0 } G [.ref h_this, .int x1, .int x2, .int x3] [(h_this, oX10 ad_this v_typed v_at v_isSo v_kept v_all v_sightAll v_aheadMany), ((ad_this 4), cI G 32 a_told)] [(h_this, oX10 ad_this v_typed v_at v_isSo v_kept v_all v_sightAll v_aheadMany), ((ad_this 4), cI G 32 a_told)] out := by
  refine startI (cc := cX10_seenBy) (maxL := 5) (by decide) rfl (Nat.le_of_ble_eq_true rfl) ?_
  intro p e s m args below meth c A Q hx hb hml hts hown hc hA hret ls H locs hl hW
  have hown : s.vm.findClass RX10 = some m.cls := hown
  have hg : ∀ w ∈ GOODS, w.before _ s = true := fun w h => hts w (List.mem_cons_of_mem _ h)
  have hl : lv_has ls 5 [(0, .ref h_this), (1, .int x1), (2, .int x2), (3, .int x3)] := hl
  rw [F_X10_seenBy] at hF
  refine lv_aload_n hx hb dX10_seenBy_0 rfl (lv_at hl 0 rfl) ?_
  refine va_get (D := G.1) (ci := 9) (v := .ref ((ad_this 4))) (C := RX10) (T := TX10) (N := 31) hx hb hg hu_X10 hown hc.1 hW.1 0 rfl rfl 4 (by decide) (hg _ wd_4_42) (fun _ h9 => h9) rfl dX10_seenBy_1 ?_
  refine lv_iconst (v := 4) hx hb dX10_seenBy_4 (by decide) ?_
  refine lv_iload_n hx hb dX10_seenBy_5 rfl (lv_at hl 1 rfl) ?_
  refine lv_imul hx hb dX10_seenBy_6 ?_
  obtain ⟨b_7, hF⟩ := inb_el hF
  refine va_iald hx hb hc.1 hW.1 1 0 rfl rfl b_7 dX10_seenBy_7 ?_
  refine lv_istore (lv' := [(4, .int ((a_told (Int32.toNatClampNeg ((4 * x1)))))), (0, .ref h_this), (1, .int x1), (2, .int x2), (3, .int x3)]) hx hb dX10_seenBy_8 hl (by decide) rfl (fun ls hl => ?_)
  refine lv_iload hx hb dX10_seenBy_10 (lv_at hl 0 rfl) ?_
  refine lv_iconst (v := 2) hx hb dX10_seenBy_12 (by decide) ?_
  refine lv_icmp_ne (tgt := 31) hx hb dX10_seenBy_13 (by decide) (fun c_13 => ?_) (fun c_13 => ?_)
  · have hF := ite_f hF c_13
    refine lv_aload_n hx hb dX10_seenBy_31 rfl (lv_at hl 1 rfl) ?_
    refine va_get (D := G.1) (ci := 9) (v := .ref ((ad_this 4))) (C := RX10) (T := TX10) (N := 31) hx hb hg hu_X10 hown hc.1 hW.1 0 rfl rfl 4 (by decide) (hg _ wd_4_42) (fun _ h9 => h9) rfl dX10_seenBy_32 ?_
    refine lv_iconst (v := 4) hx hb dX10_seenBy_35 (by decide) ?_
    refine lv_iload_n hx hb dX10_seenBy_36 rfl (lv_at hl 2 rfl) ?_
    refine lv_imul hx hb dX10_seenBy_37 ?_
    refine lv_iconst (v := 1) hx hb dX10_seenBy_38 (by decide) ?_
    refine lv_iadd hx hb dX10_seenBy_39 ?_
    refine lv_iload hx hb dX10_seenBy_40 (lv_at hl 0 rfl) ?_
    refine lv_iconst (v := 1) hx hb dX10_seenBy_42 (by decide) ?_
    obtain ⟨k_51, e_51, hF⟩ := jn_el hF
    have J_51 : ∀ (j0_51 : Int32) (ls : Array Slot) (H : Heap) (locs : List Loc), k_51 j0_51 = some out → lv_has ls 5 [] → Wd G A s.heap [(h_this, oX10 ad_this v_typed v_at v_isSo v_kept v_all v_sightAll v_aheadMany), ((ad_this 4), cI G 32 a_told)] H locs → W p l e ({ frames := 0, cells := 0, slots := 0, locals := 0 } : Room) s m args below meth c H locs 0 0 Q (F0 m 51 ls [.int j0_51, .int (((4 * x1) + 1)), .ref ((ad_this 4))]) := by
      intro j0_51 ls H locs hF hl hW
      rw [e_51] at hF
      dsimp only at hF
      refine lv_iadd hx hb dX10_seenBy_51 ?_
      obtain ⟨b_52, hF⟩ := inb_el hF
      refine va_iald hx hb hc.1 hW.1 1 0 rfl rfl b_52 dX10_seenBy_52 ?_
      obtain rfl := Option.some.inj hF
      exact hret _ _ _ _ hW dX10_seenBy_53
    refine lv_icmp_ne (tgt := 50) hx hb dX10_seenBy_43 (by decide) (fun c_43 => ?_) (fun c_43 => ?_)
    · have hF := ite_f hF c_43
      refine lv_iload_n hx hb dX10_seenBy_50 rfl (lv_at hl 4 rfl) ?_
      exact J_51 x3 _ _ _ hF (lv_sub hl [] rfl) hW
    · have hF := ite_t hF c_43
      refine lv_iload_n hx hb dX10_seenBy_46 rfl (lv_at hl 3 rfl) ?_
      refine lv_goto (tgt := 51) hx hb dX10_seenBy_47 (by decide) ?_
      exact J_51 x2 _ _ _ hF (lv_sub hl [] rfl) hW
  · have hF := ite_t hF c_13
    refine lv_iconst (v := 4) hx hb dX10_seenBy_16 (by decide) ?_
    refine lv_aload_n hx hb dX10_seenBy_17 rfl (lv_at hl 1 rfl) ?_
    refine va_get (D := G.1) (ci := 9) (v := .ref ((ad_this 4))) (C := RX10) (T := TX10) (N := 31) hx hb hg hu_X10 hown hc.1 hW.1 0 rfl rfl 4 (by decide) (hg _ wd_4_42) (fun _ h9 => h9) rfl dX10_seenBy_18 ?_
    refine lv_iconst (v := 4) hx hb dX10_seenBy_21 (by decide) ?_
    refine lv_iload_n hx hb dX10_seenBy_22 rfl (lv_at hl 2 rfl) ?_
    refine lv_imul hx hb dX10_seenBy_23 ?_
    refine lv_iconst (v := 1) hx hb dX10_seenBy_24 (by decide) ?_
    refine lv_iadd hx hb dX10_seenBy_25 ?_
    refine lv_iload_n hx hb dX10_seenBy_26 rfl (lv_at hl 4 rfl) ?_
    refine lv_iadd hx hb dX10_seenBy_27 ?_
    obtain ⟨b_28, hF⟩ := inb_el hF
    refine va_iald hx hb hc.1 hW.1 1 0 rfl rfl b_28 dX10_seenBy_28 ?_
    refine lv_isub hx hb dX10_seenBy_29 ?_
    obtain rfl := Option.some.inj hF
    exact hret _ _ _ _ hW dX10_seenBy_30
theorem dX10_isPaired_0 : decode cX10_isPaired 0 = .ok (.aload_n 0, 1) := by decide +kernel
theorem dX10_isPaired_1 : decode cX10_isPaired 1 = .ok (.getfield 20, 3) := by decide +kernel
theorem dX10_isPaired_4 : decode cX10_isPaired 4 = .ok (.iconst 4, 1) := by decide +kernel
theorem dX10_isPaired_5 : decode cX10_isPaired 5 = .ok (.iload_n 1, 1) := by decide +kernel
theorem dX10_isPaired_6 : decode cX10_isPaired 6 = .ok (.imul, 1) := by decide +kernel
theorem dX10_isPaired_7 : decode cX10_isPaired 7 = .ok (.iaload, 1) := by decide +kernel
theorem dX10_isPaired_8 : decode cX10_isPaired 8 = .ok (.iconst 3, 1) := by decide +kernel
theorem dX10_isPaired_9 : decode cX10_isPaired 9 = .ok (.if_icmp .ne 11, 3) := by decide +kernel
theorem dX10_isPaired_12 : decode cX10_isPaired 12 = .ok (.iload_n 1, 1) := by decide +kernel
theorem dX10_isPaired_13 : decode cX10_isPaired 13 = .ok (.ifCond .le 7, 3) := by decide +kernel
theorem dX10_isPaired_16 : decode cX10_isPaired 16 = .ok (.iconst 1, 1) := by decide +kernel
theorem dX10_isPaired_17 : decode cX10_isPaired 17 = .ok (.goto 4, 3) := by decide +kernel
theorem dX10_isPaired_20 : decode cX10_isPaired 20 = .ok (.iconst 0, 1) := by decide +kernel
theorem dX10_isPaired_21 : decode cX10_isPaired 21 = .ok (.ireturn, 1) := by decide +kernel
def F_X10_isPaired (x1 : Int32) (a_told : Nat → Int32) : Option (Int32) := (if inb ((4 * x1)) 32 = true then (if (a_told (Int32.toNatClampNeg ((4 * x1)))) = 3 then (if x1 ≤ 0 then some (0) else some (1)) else some (0)) else none)
theorem hdV_X10_isPaired : yX10_isPaired.cls = RX10 ∧ yX10_isPaired.cls ≠ "java/lang/invoke/MethodHandle" ∧ yX10_isPaired.cls ≠ "java/lang/invoke/VarHandle" ∧ (parseMethodDescriptor yX10_isPaired.desc).map (fun d => d.parameters.length) = some 1 := by decide +kernel
set_option maxHeartbeats 4000000 in
set_option maxRecDepth 100000 in
theorem c_X10_isPaired (l : Launch) (G : GG) (x1 : Int32) (h_this : Nat) (ad_this : Nat → Nat) (v_typed : Int32) (v_at : Int32) (v_isSo : Int32) (v_kept : Int32) (v_all : Int64) (v_sightAll : Int64) (v_aheadMany : Int32) (a_told : Nat → Int32) (out : Int32) (hF : F_X10_isPaired x1 a_told = some out) : CtrZ l yX10_isPaired (WS yX10_isPaired cX10_isPaired 2 (some .boolean)) { frames := 0, cells := 0, slots := 0, locals := 0 } G [.ref h_this, .int x1] [(h_this, oX10 ad_this v_typed v_at v_isSo v_kept v_all v_sightAll v_aheadMany), ((ad_this 4), cI G 32 a_told)] [(h_this, oX10 ad_this v_typed v_at v_isSo v_kept v_all v_sightAll v_aheadMany), ((ad_this 4), cI G 32 a_told)] out := by
  refine startZ (cc := cX10_isPaired) (maxL := 2) (by decide) rfl (Nat.le_of_ble_eq_true rfl) ?_
  intro p e s m args below meth c A Q hx hb hml hts hown hc hA hret ls H locs hl hW
  have hown : s.vm.findClass RX10 = some m.cls := hown
  have hg : ∀ w ∈ GOODS, w.before _ s = true := fun w h => hts w (List.mem_cons_of_mem _ h)
  have hl : lv_has ls 2 [(0, .ref h_this), (1, .int x1)] := hl
  rw [F_X10_isPaired] at hF
  refine lv_aload_n hx hb dX10_isPaired_0 rfl (lv_at hl 0 rfl) ?_
  refine va_get (D := G.1) (ci := 9) (v := .ref ((ad_this 4))) (C := RX10) (T := TX10) (N := 31) hx hb hg hu_X10 hown hc.1 hW.1 0 rfl rfl 4 (by decide) (hg _ wd_4_42) (fun _ h9 => h9) rfl dX10_isPaired_1 ?_
  refine lv_iconst (v := 4) hx hb dX10_isPaired_4 (by decide) ?_
  refine lv_iload_n hx hb dX10_isPaired_5 rfl (lv_at hl 1 rfl) ?_
  refine lv_imul hx hb dX10_isPaired_6 ?_
  obtain ⟨b_7, hF⟩ := inb_el hF
  refine va_iald hx hb hc.1 hW.1 1 0 rfl rfl b_7 dX10_isPaired_7 ?_
  refine lv_iconst (v := 3) hx hb dX10_isPaired_8 (by decide) ?_
  refine lv_icmp_ne (tgt := 20) hx hb dX10_isPaired_9 (by decide) (fun c_9 => ?_) (fun c_9 => ?_)
  · have hF := ite_f hF c_9
    refine lv_iconst (v := 0) hx hb dX10_isPaired_20 (by decide) ?_
    obtain rfl := Option.some.inj hF
    exact hret _ _ _ _ hW (Or.inl rfl) dX10_isPaired_21
  · have hF := ite_t hF c_9
    refine lv_iload_n hx hb dX10_isPaired_12 rfl (lv_at hl 1 rfl) ?_
    refine lv_if_le (tgt := 20) hx hb dX10_isPaired_13 (by decide) (fun c_13 => ?_) (fun c_13 => ?_)
    · have hF := ite_t hF c_13
      refine lv_iconst (v := 0) hx hb dX10_isPaired_20 (by decide) ?_
      obtain rfl := Option.some.inj hF
      exact hret _ _ _ _ hW (Or.inl rfl) dX10_isPaired_21
    · have hF := ite_f hF c_13
      refine lv_iconst (v := 1) hx hb dX10_isPaired_16 (by decide) ?_
      refine lv_goto (tgt := 21) hx hb dX10_isPaired_17 (by decide) ?_
      obtain rfl := Option.some.inj hF
      exact hret _ _ _ _ hW (Or.inr rfl) dX10_isPaired_21
theorem dX10_likely_0 : decode cX10_likely 0 = .ok (.lconst 1, 1) := by decide +kernel
theorem dX10_likely_1 : decode cX10_likely 1 = .ok (.lstore 4, 2) := by decide +kernel
theorem dX10_likely_3 : decode cX10_likely 3 = .ok (.iconst 0, 1) := by decide +kernel
theorem dX10_likely_4 : decode cX10_likely 4 = .ok (.istore 6, 2) := by decide +kernel
theorem dX10_likely_6 : decode cX10_likely 6 = .ok (.iload 6, 2) := by decide +kernel
theorem dX10_likely_8 : decode cX10_likely 8 = .ok (.aload_n 0, 1) := by decide +kernel
theorem dX10_likely_9 : decode cX10_likely 9 = .ok (.getfield 17, 3) := by decide +kernel
theorem dX10_likely_12 : decode cX10_likely 12 = .ok (.iconst 0, 1) := by decide +kernel
theorem dX10_likely_13 : decode cX10_likely 13 = .ok (.iaload, 1) := by decide +kernel
theorem dX10_likely_14 : decode cX10_likely 14 = .ok (.if_icmp .ge 69, 3) := by decide +kernel
theorem dX10_likely_17 : decode cX10_likely 17 = .ok (.aload_n 0, 1) := by decide +kernel
theorem dX10_likely_18 : decode cX10_likely 18 = .ok (.iload 6, 2) := by decide +kernel
theorem dX10_likely_20 : decode cX10_likely 20 = .ok (.invokevirtual 148, 3) := by decide +kernel
theorem dX10_likely_23 : decode cX10_likely 23 = .ok (.ifCond .eq 18, 3) := by decide +kernel
theorem dX10_likely_26 : decode cX10_likely 26 = .ok (.iload_n 1, 1) := by decide +kernel
theorem dX10_likely_27 : decode cX10_likely 27 = .ok (.iload 6, 2) := by decide +kernel
theorem dX10_likely_29 : decode cX10_likely 29 = .ok (.iconst 1, 1) := by decide +kernel
theorem dX10_likely_30 : decode cX10_likely 30 = .ok (.isub, 1) := by decide +kernel
theorem dX10_likely_31 : decode cX10_likely 31 = .ok (.ishr, 1) := by decide +kernel
theorem dX10_likely_32 : decode cX10_likely 32 = .ok (.iconst 1, 1) := by decide +kernel
theorem dX10_likely_33 : decode cX10_likely 33 = .ok (.iand, 1) := by decide +kernel
theorem dX10_likely_34 : decode cX10_likely 34 = .ok (.ifCond .ne 7, 3) := by decide +kernel
theorem dX10_likely_37 : decode cX10_likely 37 = .ok (.iconst 0, 1) := by decide +kernel
theorem dX10_likely_38 : decode cX10_likely 38 = .ok (.goto 11, 3) := by decide +kernel
theorem dX10_likely_41 : decode cX10_likely 41 = .ok (.aload_n 0, 1) := by decide +kernel
theorem dX10_likely_42 : decode cX10_likely 42 = .ok (.iload 6, 2) := by decide +kernel
theorem dX10_likely_44 : decode cX10_likely 44 = .ok (.iload_n 2, 1) := by decide +kernel
theorem dX10_likely_45 : decode cX10_likely 45 = .ok (.iload_n 3, 1) := by decide +kernel
theorem dX10_likely_46 : decode cX10_likely 46 = .ok (.invokevirtual 151, 3) := by decide +kernel
theorem dX10_likely_49 : decode cX10_likely 49 = .ok (.istore 7, 2) := by decide +kernel
theorem dX10_likely_51 : decode cX10_likely 51 = .ok (.lload 4, 2) := by decide +kernel
theorem dX10_likely_53 : decode cX10_likely 53 = .ok (.iload_n 1, 1) := by decide +kernel
theorem dX10_likely_54 : decode cX10_likely 54 = .ok (.iload 6, 2) := by decide +kernel
theorem dX10_likely_56 : decode cX10_likely 56 = .ok (.ishr, 1) := by decide +kernel
theorem dX10_likely_57 : decode cX10_likely 57 = .ok (.iconst 1, 1) := by decide +kernel
theorem dX10_likely_58 : decode cX10_likely 58 = .ok (.iand, 1) := by decide +kernel
theorem dX10_likely_59 : decode cX10_likely 59 = .ok (.iconst 1, 1) := by decide +kernel
theorem dX10_likely_60 : decode cX10_likely 60 = .ok (.if_icmp .ne 9, 3) := by decide +kernel
theorem dX10_likely_63 : decode cX10_likely 63 = .ok (.iload 7, 2) := by decide +kernel
theorem dX10_likely_65 : decode cX10_likely 65 = .ok (.i2l, 1) := by decide +kernel
theorem dX10_likely_66 : decode cX10_likely 66 = .ok (.goto 8, 3) := by decide +kernel
theorem dX10_likely_69 : decode cX10_likely 69 = .ok (.iconst 4, 1) := by decide +kernel
theorem dX10_likely_70 : decode cX10_likely 70 = .ok (.iload 7, 2) := by decide +kernel
theorem dX10_likely_72 : decode cX10_likely 72 = .ok (.isub, 1) := by decide +kernel
theorem dX10_likely_73 : decode cX10_likely 73 = .ok (.i2l, 1) := by decide +kernel
theorem dX10_likely_74 : decode cX10_likely 74 = .ok (.lmul, 1) := by decide +kernel
theorem dX10_likely_75 : decode cX10_likely 75 = .ok (.lstore 4, 2) := by decide +kernel
theorem dX10_likely_77 : decode cX10_likely 77 = .ok (.iinc 6 1, 3) := by decide +kernel
theorem dX10_likely_80 : decode cX10_likely 80 = .ok (.goto (-74), 3) := by decide +kernel
theorem dX10_likely_83 : decode cX10_likely 83 = .ok (.lload 4, 2) := by decide +kernel
theorem dX10_likely_85 : decode cX10_likely 85 = .ok (.lreturn, 1) := by decide +kernel
def L_X10_likely_6 (x1 : Int32) (x2 : Int32) (x3 : Int32) (a_signs : Nat → Int32) (a_told : Nat → Int32)  : Nat → Int64 → Int32 → Option (Int64)
  | 0, _, _ => none
  | n + 1, x4_6, x6_6 => (if (a_signs (Int32.toNatClampNeg 0)) ≤ x6_6 then some (x4_6) else (F_X10_isPaired x6_6 a_told).bind (fun q20 => jn (fun (j0_49 : Int32) => jn (fun (j0_74 : Int64) => L_X10_likely_6 x1 x2 x3 a_signs a_told n ((x4_6 * j0_74)) ((x6_6 + 1))) (fun k_74 => (if ((x1 >>> (x6_6 &&& 31)) &&& 1) = 1 then k_74 ((Int32.toInt64 j0_49)) else k_74 ((Int32.toInt64 ((4 - j0_49))))))) (fun k_49 => jn ((F_X10_seenBy x6_6 x2 x3 a_told).bind (fun q46 => k_49 q46)) (fun k_41 => (if q20 = 0 then k_41 else (if ((x1 >>> ((x6_6 - 1) &&& 31)) &&& 1) = 0 then k_49 0 else k_41))))))
def F_X10_likely (x1 : Int32) (x2 : Int32) (x3 : Int32) (a_signs : Nat → Int32) (a_told : Nat → Int32) : Option (Int64) := L_X10_likely_6 x1 x2 x3 a_signs a_told 5000 1 0
theorem hdV_X10_likely : yX10_likely.cls = RX10 ∧ yX10_likely.cls ≠ "java/lang/invoke/MethodHandle" ∧ yX10_likely.cls ≠ "java/lang/invoke/VarHandle" ∧ (parseMethodDescriptor yX10_likely.desc).map (fun d => d.parameters.length) = some 3 := by decide +kernel
set_option maxHeartbeats 4000000 in
set_option maxRecDepth 100000 in
theorem c_X10_likely (l : Launch) (G : GG) (x1 : Int32) (x2 : Int32) (x3 : Int32) (h_this : Nat) (ad_this : Nat → Nat) (v_typed : Int32) (v_at : Int32) (v_isSo : Int32) (v_kept : Int32) (v_all : Int64) (v_sightAll : Int64) (v_aheadMany : Int32) (a_signs : Nat → Int32) (a_told : Nat → Int32) (out : Int64) (hF : F_X10_likely x1 x2 x3 a_signs a_told = some out) : CtrJ l yX10_likely (WS yX10_likely cX10_likely 8 (some .long)) { frames := 1, cells := 0, slots := 0, locals := 24 } G [.ref h_this, .int x1, .int x2, .int x3] [(h_this, oX10 ad_this v_typed v_at v_isSo v_kept v_all v_sightAll v_aheadMany), ((ad_this 3), cI G 2 a_signs), ((ad_this 4), cI G 32 a_told)] [(h_this, oX10 ad_this v_typed v_at v_isSo v_kept v_all v_sightAll v_aheadMany), ((ad_this 3), cI G 2 a_signs), ((ad_this 4), cI G 32 a_told)] out := by
  refine startJ (cc := cX10_likely) (maxL := 8) (by decide) rfl (Nat.le_of_ble_eq_true rfl) ?_
  intro p e s m args below meth c A Q hx hb hml hts hown hc hA hret ls H locs hl hW
  have hown : s.vm.findClass RX10 = some m.cls := hown
  have hg : ∀ w ∈ GOODS, w.before _ s = true := fun w h => hts w (List.mem_cons_of_mem _ h)
  have hl : lv_has ls 8 [(0, .ref h_this), (1, .int x1), (2, .int x2), (3, .int x3)] := hl
  rw [F_X10_likely] at hF
  refine lv_lconst (v := 1) hx hb dX10_likely_0 (by decide) ?_
  refine lv_lstore (lv' := [(4, .long 1), (0, .ref h_this), (1, .int x1), (2, .int x2), (3, .int x3)]) hx hb dX10_likely_1 hl (by decide) rfl (fun ls hl => ?_)
  refine lv_iconst (v := 0) hx hb dX10_likely_3 (by decide) ?_
  refine lv_istore (lv' := [(6, .int 0), (4, .long 1), (0, .ref h_this), (1, .int x1), (2, .int x2), (3, .int x3)]) hx hb dX10_likely_4 hl (by decide) rfl (fun ls hl => ?_)
  have L_6 : ∀ (n : Nat) (x4_6 : Int64) (x6_6 : Int32) (ls : Array Slot) (H : Heap) (locs : List Loc), L_X10_likely_6 x1 x2 x3 a_signs a_told n x4_6 x6_6 = some out → lv_has ls 8 [(0, .ref h_this), (1, .int x1), (2, .int x2), (3, .int x3), (4, .long x4_6), (6, .int x6_6)] → Wd G A s.heap [(h_this, oX10 ad_this v_typed v_at v_isSo v_kept v_all v_sightAll v_aheadMany), ((ad_this 3), cI G 2 a_signs), ((ad_this 4), cI G 32 a_told)] H locs → W p l e ({ frames := 1, cells := 0, slots := 0, locals := 24 } : Room) s m args below meth c H locs 0 0 Q (F0 m 6 ls []) := by
    intro n
    induction n with
    | zero => intro x4_6 x6_6 ls H locs hF hl hW; have h0 : none = some out := hF; cases h0
    | succ n ih =>
      intro x4_6 x6_6 ls H locs hF hl hW
      rw [L_X10_likely_6] at hF
      refine lv_iload hx hb dX10_likely_6 (lv_at hl 5 rfl) ?_
      refine lv_aload_n hx hb dX10_likely_8 rfl (lv_at hl 0 rfl) ?_
      refine va_get (D := G.1) (ci := 9) (v := .ref ((ad_this 3))) (C := RX10) (T := TX10) (N := 31) hx hb hg hu_X10 hown hc.1 hW.1 0 rfl rfl 3 (by decide) (hg _ wd_4_41) (fun _ h9 => h9) rfl dX10_likely_9 ?_
      refine lv_iconst (v := 0) hx hb dX10_likely_12 (by decide) ?_
      have b_13 : vp_in 0 2 := inb_vp (by decide)
      refine va_iald hx hb hc.1 hW.1 1 0 rfl rfl b_13 dX10_likely_13 ?_
      refine lv_icmp_ge (tgt := 83) hx hb dX10_likely_14 (by decide) (fun c_14 => ?_) (fun c_14 => ?_)
      · have hF := ite_t hF c_14
        refine lv_lload hx hb dX10_likely_83 (lv_at hl 4 rfl) ?_
        obtain rfl := Option.some.inj hF
        exact hret _ _ _ _ hW dX10_likely_85
      · have hF := ite_f hF c_14
        refine lv_aload_n hx hb dX10_likely_17 rfl (lv_at hl 0 rfl) ?_
        refine lv_iload hx hb dX10_likely_18 (lv_at hl 5 rfl) ?_
        obtain ⟨q20, c_20, hF⟩ := bd_el hF
        refine wcZ (ws' := [(h_this, oX10 ad_this v_typed v_at v_isSo v_kept v_all v_sightAll v_aheadMany), ((ad_this 3), cI G 2 a_signs), ((ad_this 4), cI G 32 a_told)]) (wc := [(h_this, oX10 ad_this v_typed v_at v_isSo v_kept v_all v_sightAll v_aheadMany), ((ad_this 4), cI G 32 a_told)]) (wr := [((ad_this 3), cI G 2 a_signs)]) (w1 := [(h_this, oX10 ad_this v_typed v_at v_isSo v_kept v_all v_sightAll v_aheadMany), ((ad_this 4), cI G 32 a_told)]) (va_runV (As := [.int x6_6]) (rest := []) ⟨hx, hb, hml, hown, hg⟩ (c_X10_isPaired l G x6_6 h_this ad_this v_typed v_at v_isSo v_kept v_all v_sightAll v_aheadMany a_told q20 c_20 H.size) (cwV 1 hg (gV wd_4_225 wd_4_227 wd_0_39 wd_1_15 wd_4_228) rfl rfl rfl hdV_X10_isPaired ⟨(Nat.le_of_ble_eq_true rfl), (Nat.le_of_ble_eq_true rfl)⟩) (preV hc hW [0, 2] rfl (by decide) rfl rfl) rfl rfl hl.1 rfl (lv_room (Nat.le_of_ble_eq_true rfl)) dX10_likely_20 ⟨Nat.zero_le _, Nat.zero_le _⟩) hA hW [0, 2] [1] [1, 0, 2] rfl rfl (by decide) (by decide) rfl (by decide) (fun z_20 H locs hW => ?_)
        obtain ⟨k_49, e_49, hF⟩ := jn_el hF
        have J_49 : ∀ (j0_49 : Int32) (ls : Array Slot) (H : Heap) (locs : List Loc), k_49 j0_49 = some out → lv_has ls 8 [(0, .ref h_this), (1, .int x1), (2, .int x2), (3, .int x3), (4, .long x4_6), (6, .int x6_6)] → Wd G A s.heap [(h_this, oX10 ad_this v_typed v_at v_isSo v_kept v_all v_sightAll v_aheadMany), ((ad_this 3), cI G 2 a_signs), ((ad_this 4), cI G 32 a_told)] H locs → W p l e ({ frames := 1, cells := 0, slots := 0, locals := 24 } : Room) s m args below meth c H locs 0 0 Q (F0 m 49 ls [.int j0_49]) := by
          intro j0_49 ls H locs hF hl hW
          rw [e_49] at hF
          dsimp only at hF
          refine lv_istore (lv' := [(7, .int j0_49), (0, .ref h_this), (1, .int x1), (2, .int x2), (3, .int x3), (4, .long x4_6), (6, .int x6_6)]) hx hb dX10_likely_49 hl (by decide) rfl (fun ls hl => ?_)
          refine lv_lload hx hb dX10_likely_51 (lv_at hl 5 rfl) ?_
          refine lv_iload_n hx hb dX10_likely_53 rfl (lv_at hl 2 rfl) ?_
          refine lv_iload hx hb dX10_likely_54 (lv_at hl 6 rfl) ?_
          refine lv_ishr hx hb dX10_likely_56 ?_
          refine lv_iconst (v := 1) hx hb dX10_likely_57 (by decide) ?_
          refine lv_iand hx hb dX10_likely_58 ?_
          refine lv_iconst (v := 1) hx hb dX10_likely_59 (by decide) ?_
          obtain ⟨k_74, e_74, hF⟩ := jn_el hF
          have J_74 : ∀ (j0_74 : Int64) (ls : Array Slot) (H : Heap) (locs : List Loc), k_74 j0_74 = some out → lv_has ls 8 [(0, .ref h_this), (1, .int x1), (2, .int x2), (3, .int x3), (6, .int x6_6)] → Wd G A s.heap [(h_this, oX10 ad_this v_typed v_at v_isSo v_kept v_all v_sightAll v_aheadMany), ((ad_this 3), cI G 2 a_signs), ((ad_this 4), cI G 32 a_told)] H locs → W p l e ({ frames := 1, cells := 0, slots := 0, locals := 24 } : Room) s m args below meth c H locs 0 0 Q (F0 m 74 ls [.long j0_74, .long x4_6]) := by
            intro j0_74 ls H locs hF hl hW
            rw [e_74] at hF
            dsimp only at hF
            refine lv_lmul hx hb dX10_likely_74 ?_
            refine lv_lstore (lv' := [(4, .long ((x4_6 * j0_74))), (0, .ref h_this), (1, .int x1), (2, .int x2), (3, .int x3), (6, .int x6_6)]) hx hb dX10_likely_75 hl (by decide) rfl (fun ls hl => ?_)
            refine lv_iinc (v := (x6_6 + 1)) (lv' := [(6, .int ((x6_6 + 1))), (4, .long ((x4_6 * j0_74))), (0, .ref h_this), (1, .int x1), (2, .int x2), (3, .int x3)]) hx hb dX10_likely_77 hl (k := 5) rfl rfl (by decide) rfl (fun ls hl => ?_)
            refine lv_goto (tgt := 6) hx hb dX10_likely_80 (by decide) ?_
            exact ih ((x4_6 * j0_74)) ((x6_6 + 1)) _ _ _ hF (lv_sub hl [2, 3, 4, 5, 1, 0] rfl) hW
          refine lv_icmp_ne (tgt := 69) hx hb dX10_likely_60 (by decide) (fun c_60 => ?_) (fun c_60 => ?_)
          · have hF := ite_f hF c_60
            refine lv_iconst (v := 4) hx hb dX10_likely_69 (by decide) ?_
            refine lv_iload hx hb dX10_likely_70 (lv_at hl 0 rfl) ?_
            refine lv_isub hx hb dX10_likely_72 ?_
            refine lv_i2l (v := (Int32.toInt64 ((4 - j0_49)))) hx hb dX10_likely_73 rfl ?_
            exact J_74 ((Int32.toInt64 ((4 - j0_49)))) _ _ _ hF (lv_sub hl [1, 2, 3, 4, 6] rfl) hW
          · have hF := ite_t hF c_60
            refine lv_iload hx hb dX10_likely_63 (lv_at hl 0 rfl) ?_
            refine lv_i2l (v := (Int32.toInt64 j0_49)) hx hb dX10_likely_65 rfl ?_
            refine lv_goto (tgt := 74) hx hb dX10_likely_66 (by decide) ?_
            exact J_74 ((Int32.toInt64 j0_49)) _ _ _ hF (lv_sub hl [1, 2, 3, 4, 6] rfl) hW
        obtain ⟨k_41, e_41, hF⟩ := jn_el hF
        have J_41 : ∀ (ls : Array Slot) (H : Heap) (locs : List Loc), k_41 = some out → lv_has ls 8 [(0, .ref h_this), (1, .int x1), (2, .int x2), (3, .int x3), (4, .long x4_6), (6, .int x6_6)] → Wd G A s.heap [(h_this, oX10 ad_this v_typed v_at v_isSo v_kept v_all v_sightAll v_aheadMany), ((ad_this 3), cI G 2 a_signs), ((ad_this 4), cI G 32 a_told)] H locs → W p l e ({ frames := 1, cells := 0, slots := 0, locals := 24 } : Room) s m args below meth c H locs 0 0 Q (F0 m 41 ls []) := by
          intro ls H locs hF hl hW
          rw [e_41] at hF
          refine lv_aload_n hx hb dX10_likely_41 rfl (lv_at hl 0 rfl) ?_
          refine lv_iload hx hb dX10_likely_42 (lv_at hl 5 rfl) ?_
          refine lv_iload_n hx hb dX10_likely_44 rfl (lv_at hl 2 rfl) ?_
          refine lv_iload_n hx hb dX10_likely_45 rfl (lv_at hl 3 rfl) ?_
          obtain ⟨q46, c_46, hF⟩ := bd_el hF
          refine wcI (ws' := [(h_this, oX10 ad_this v_typed v_at v_isSo v_kept v_all v_sightAll v_aheadMany), ((ad_this 3), cI G 2 a_signs), ((ad_this 4), cI G 32 a_told)]) (wc := [(h_this, oX10 ad_this v_typed v_at v_isSo v_kept v_all v_sightAll v_aheadMany), ((ad_this 4), cI G 32 a_told)]) (wr := [((ad_this 3), cI G 2 a_signs)]) (w1 := [(h_this, oX10 ad_this v_typed v_at v_isSo v_kept v_all v_sightAll v_aheadMany), ((ad_this 4), cI G 32 a_told)]) (va_runV (As := [.int x6_6, .int x2, .int x3]) (rest := []) ⟨hx, hb, hml, hown, hg⟩ (c_X10_seenBy l G x6_6 x2 x3 h_this ad_this v_typed v_at v_isSo v_kept v_all v_sightAll v_aheadMany a_told q46 c_46 H.size) (cwV 3 hg (gV wd_4_229 wd_4_231 wd_0_40 wd_1_15 wd_4_232) rfl rfl rfl hdV_X10_seenBy ⟨(Nat.le_of_ble_eq_true rfl), (Nat.le_of_ble_eq_true rfl)⟩) (preV hc hW [0, 2] rfl (by decide) rfl rfl) rfl rfl hl.1 rfl (lv_room (Nat.le_of_ble_eq_true rfl)) dX10_likely_46 ⟨Nat.zero_le _, Nat.zero_le _⟩) hA hW [0, 2] [1] [1, 0, 2] rfl rfl (by decide) (by decide) rfl (by decide) (fun H locs hW => ?_)
          exact J_49 q46 _ _ _ hF (lv_sub hl [0, 1, 2, 3, 4, 5] rfl) hW
        refine lv_if_eq (tgt := 41) hx hb dX10_likely_23 (by decide) (fun c_23 => ?_) (fun c_23 => ?_)
        · have hF := ite_t hF c_23
          exact J_41 _ _ _ hF (lv_sub hl [0, 1, 2, 3, 4, 5] rfl) hW
        · have hF := ite_f hF c_23
          refine lv_iload_n hx hb dX10_likely_26 rfl (lv_at hl 1 rfl) ?_
          refine lv_iload hx hb dX10_likely_27 (lv_at hl 5 rfl) ?_
          refine lv_iconst (v := 1) hx hb dX10_likely_29 (by decide) ?_
          refine lv_isub hx hb dX10_likely_30 ?_
          refine lv_ishr hx hb dX10_likely_31 ?_
          refine lv_iconst (v := 1) hx hb dX10_likely_32 (by decide) ?_
          refine lv_iand hx hb dX10_likely_33 ?_
          refine lv_if_ne (tgt := 41) hx hb dX10_likely_34 (by decide) (fun c_34 => ?_) (fun c_34 => ?_)
          · have hF := ite_f hF c_34
            exact J_41 _ _ _ hF (lv_sub hl [0, 1, 2, 3, 4, 5] rfl) hW
          · have hF := ite_t hF c_34
            refine lv_iconst (v := 0) hx hb dX10_likely_37 (by decide) ?_
            refine lv_goto (tgt := 49) hx hb dX10_likely_38 (by decide) ?_
            exact J_49 0 _ _ _ hF (lv_sub hl [0, 1, 2, 3, 4, 5] rfl) hW
  exact L_6 5000 1 0 _ _ _ hF (lv_sub hl [2, 3, 4, 5, 1, 0] rfl) hW
theorem dX10_goOn_0 : decode cX10_goOn 0 = .ok (.iconst 0, 1) := by decide +kernel
theorem dX10_goOn_1 : decode cX10_goOn 1 = .ok (.istore_n 3, 1) := by decide +kernel
theorem dX10_goOn_2 : decode cX10_goOn 2 = .ok (.iload_n 3, 1) := by decide +kernel
theorem dX10_goOn_3 : decode cX10_goOn 3 = .ok (.iconst 3, 1) := by decide +kernel
theorem dX10_goOn_4 : decode cX10_goOn 4 = .ok (.if_icmp .ge 16, 3) := by decide +kernel
theorem dX10_goOn_7 : decode cX10_goOn 7 = .ok (.aload_n 0, 1) := by decide +kernel
theorem dX10_goOn_8 : decode cX10_goOn 8 = .ok (.getfield 63, 3) := by decide +kernel
theorem dX10_goOn_11 : decode cX10_goOn 11 = .ok (.iload_n 3, 1) := by decide +kernel
theorem dX10_goOn_12 : decode cX10_goOn 12 = .ok (.lconst 0, 1) := by decide +kernel
theorem dX10_goOn_13 : decode cX10_goOn 13 = .ok (.lastore, 1) := by decide +kernel
theorem dX10_goOn_14 : decode cX10_goOn 14 = .ok (.iinc 3 1, 3) := by decide +kernel
theorem dX10_goOn_17 : decode cX10_goOn 17 = .ok (.goto (-15), 3) := by decide +kernel
theorem dX10_goOn_20 : decode cX10_goOn 20 = .ok (.iconst 0, 1) := by decide +kernel
theorem dX10_goOn_21 : decode cX10_goOn 21 = .ok (.istore_n 3, 1) := by decide +kernel
theorem dX10_goOn_22 : decode cX10_goOn 22 = .ok (.iload_n 3, 1) := by decide +kernel
theorem dX10_goOn_23 : decode cX10_goOn 23 = .ok (.iconst 3, 1) := by decide +kernel
theorem dX10_goOn_24 : decode cX10_goOn 24 = .ok (.if_icmp .ge 98, 3) := by decide +kernel
theorem dX10_goOn_27 : decode cX10_goOn 27 = .ok (.aload_n 0, 1) := by decide +kernel
theorem dX10_goOn_28 : decode cX10_goOn 28 = .ok (.iload_n 3, 1) := by decide +kernel
theorem dX10_goOn_29 : decode cX10_goOn 29 = .ok (.iload_n 1, 1) := by decide +kernel
theorem dX10_goOn_30 : decode cX10_goOn 30 = .ok (.invokevirtual 154, 3) := by decide +kernel
theorem dX10_goOn_33 : decode cX10_goOn 33 = .ok (.istore 4, 2) := by decide +kernel
theorem dX10_goOn_35 : decode cX10_goOn 35 = .ok (.aload_n 0, 1) := by decide +kernel
theorem dX10_goOn_36 : decode cX10_goOn 36 = .ok (.getfield 63, 3) := by decide +kernel
theorem dX10_goOn_39 : decode cX10_goOn 39 = .ok (.iload_n 3, 1) := by decide +kernel
theorem dX10_goOn_40 : decode cX10_goOn 40 = .ok (.dup2, 1) := by decide +kernel
theorem dX10_goOn_41 : decode cX10_goOn 41 = .ok (.laload, 1) := by decide +kernel
theorem dX10_goOn_42 : decode cX10_goOn 42 = .ok (.aload_n 0, 1) := by decide +kernel
theorem dX10_goOn_43 : decode cX10_goOn 43 = .ok (.getfield 59, 3) := by decide +kernel
theorem dX10_goOn_46 : decode cX10_goOn 46 = .ok (.iload_n 3, 1) := by decide +kernel
theorem dX10_goOn_47 : decode cX10_goOn 47 = .ok (.laload, 1) := by decide +kernel
theorem dX10_goOn_48 : decode cX10_goOn 48 = .ok (.iconst 4, 1) := by decide +kernel
theorem dX10_goOn_49 : decode cX10_goOn 49 = .ok (.iload 4, 2) := by decide +kernel
theorem dX10_goOn_51 : decode cX10_goOn 51 = .ok (.isub, 1) := by decide +kernel
theorem dX10_goOn_52 : decode cX10_goOn 52 = .ok (.i2l, 1) := by decide +kernel
theorem dX10_goOn_53 : decode cX10_goOn 53 = .ok (.lmul, 1) := by decide +kernel
theorem dX10_goOn_54 : decode cX10_goOn 54 = .ok (.iload_n 2, 1) := by decide +kernel
theorem dX10_goOn_55 : decode cX10_goOn 55 = .ok (.ifCond .ge 7, 3) := by decide +kernel
theorem dX10_goOn_58 : decode cX10_goOn 58 = .ok (.lconst 1, 1) := by decide +kernel
theorem dX10_goOn_59 : decode cX10_goOn 59 = .ok (.goto 10, 3) := by decide +kernel
theorem dX10_goOn_62 : decode cX10_goOn 62 = .ok (.aload_n 0, 1) := by decide +kernel
theorem dX10_goOn_63 : decode cX10_goOn 63 = .ok (.iload_n 2, 1) := by decide +kernel
theorem dX10_goOn_64 : decode cX10_goOn 64 = .ok (.iload_n 3, 1) := by decide +kernel
theorem dX10_goOn_65 : decode cX10_goOn 65 = .ok (.iload_n 3, 1) := by decide +kernel
theorem dX10_goOn_66 : decode cX10_goOn 66 = .ok (.invokevirtual 158, 3) := by decide +kernel
theorem dX10_goOn_69 : decode cX10_goOn 69 = .ok (.lmul, 1) := by decide +kernel
theorem dX10_goOn_70 : decode cX10_goOn 70 = .ok (.ladd, 1) := by decide +kernel
theorem dX10_goOn_71 : decode cX10_goOn 71 = .ok (.lastore, 1) := by decide +kernel
theorem dX10_goOn_72 : decode cX10_goOn 72 = .ok (.iload_n 3, 1) := by decide +kernel
theorem dX10_goOn_73 : decode cX10_goOn 73 = .ok (.iconst 2, 1) := by decide +kernel
theorem dX10_goOn_74 : decode cX10_goOn 74 = .ok (.if_icmp .ge 42, 3) := by decide +kernel
theorem dX10_goOn_77 : decode cX10_goOn 77 = .ok (.aload_n 0, 1) := by decide +kernel
theorem dX10_goOn_78 : decode cX10_goOn 78 = .ok (.getfield 63, 3) := by decide +kernel
theorem dX10_goOn_81 : decode cX10_goOn 81 = .ok (.iload_n 3, 1) := by decide +kernel
theorem dX10_goOn_82 : decode cX10_goOn 82 = .ok (.iconst 1, 1) := by decide +kernel
theorem dX10_goOn_83 : decode cX10_goOn 83 = .ok (.iadd, 1) := by decide +kernel
theorem dX10_goOn_84 : decode cX10_goOn 84 = .ok (.dup2, 1) := by decide +kernel
theorem dX10_goOn_85 : decode cX10_goOn 85 = .ok (.laload, 1) := by decide +kernel
theorem dX10_goOn_86 : decode cX10_goOn 86 = .ok (.aload_n 0, 1) := by decide +kernel
theorem dX10_goOn_87 : decode cX10_goOn 87 = .ok (.getfield 59, 3) := by decide +kernel
theorem dX10_goOn_90 : decode cX10_goOn 90 = .ok (.iload_n 3, 1) := by decide +kernel
theorem dX10_goOn_91 : decode cX10_goOn 91 = .ok (.laload, 1) := by decide +kernel
theorem dX10_goOn_92 : decode cX10_goOn 92 = .ok (.iload 4, 2) := by decide +kernel
theorem dX10_goOn_94 : decode cX10_goOn 94 = .ok (.i2l, 1) := by decide +kernel
theorem dX10_goOn_95 : decode cX10_goOn 95 = .ok (.lmul, 1) := by decide +kernel
theorem dX10_goOn_96 : decode cX10_goOn 96 = .ok (.iload_n 2, 1) := by decide +kernel
theorem dX10_goOn_97 : decode cX10_goOn 97 = .ok (.ifCond .ge 7, 3) := by decide +kernel
theorem dX10_goOn_100 : decode cX10_goOn 100 = .ok (.lconst 1, 1) := by decide +kernel
theorem dX10_goOn_101 : decode cX10_goOn 101 = .ok (.goto 12, 3) := by decide +kernel
theorem dX10_goOn_104 : decode cX10_goOn 104 = .ok (.aload_n 0, 1) := by decide +kernel
theorem dX10_goOn_105 : decode cX10_goOn 105 = .ok (.iload_n 2, 1) := by decide +kernel
theorem dX10_goOn_106 : decode cX10_goOn 106 = .ok (.iload_n 3, 1) := by decide +kernel
theorem dX10_goOn_107 : decode cX10_goOn 107 = .ok (.iload_n 3, 1) := by decide +kernel
theorem dX10_goOn_108 : decode cX10_goOn 108 = .ok (.iconst 1, 1) := by decide +kernel
theorem dX10_goOn_109 : decode cX10_goOn 109 = .ok (.iadd, 1) := by decide +kernel
theorem dX10_goOn_110 : decode cX10_goOn 110 = .ok (.invokevirtual 158, 3) := by decide +kernel
theorem dX10_goOn_113 : decode cX10_goOn 113 = .ok (.lmul, 1) := by decide +kernel
theorem dX10_goOn_114 : decode cX10_goOn 114 = .ok (.ladd, 1) := by decide +kernel
theorem dX10_goOn_115 : decode cX10_goOn 115 = .ok (.lastore, 1) := by decide +kernel
theorem dX10_goOn_116 : decode cX10_goOn 116 = .ok (.iinc 3 1, 3) := by decide +kernel
theorem dX10_goOn_119 : decode cX10_goOn 119 = .ok (.goto (-97), 3) := by decide +kernel
theorem dX10_goOn_122 : decode cX10_goOn 122 = .ok (.iconst 0, 1) := by decide +kernel
theorem dX10_goOn_123 : decode cX10_goOn 123 = .ok (.istore_n 3, 1) := by decide +kernel
theorem dX10_goOn_124 : decode cX10_goOn 124 = .ok (.iload_n 3, 1) := by decide +kernel
theorem dX10_goOn_125 : decode cX10_goOn 125 = .ok (.iconst 3, 1) := by decide +kernel
theorem dX10_goOn_126 : decode cX10_goOn 126 = .ok (.if_icmp .ge 21, 3) := by decide +kernel
theorem dX10_goOn_129 : decode cX10_goOn 129 = .ok (.aload_n 0, 1) := by decide +kernel
theorem dX10_goOn_130 : decode cX10_goOn 130 = .ok (.getfield 59, 3) := by decide +kernel
theorem dX10_goOn_133 : decode cX10_goOn 133 = .ok (.iload_n 3, 1) := by decide +kernel
theorem dX10_goOn_134 : decode cX10_goOn 134 = .ok (.aload_n 0, 1) := by decide +kernel
theorem dX10_goOn_135 : decode cX10_goOn 135 = .ok (.getfield 63, 3) := by decide +kernel
theorem dX10_goOn_138 : decode cX10_goOn 138 = .ok (.iload_n 3, 1) := by decide +kernel
theorem dX10_goOn_139 : decode cX10_goOn 139 = .ok (.laload, 1) := by decide +kernel
theorem dX10_goOn_140 : decode cX10_goOn 140 = .ok (.lastore, 1) := by decide +kernel
theorem dX10_goOn_141 : decode cX10_goOn 141 = .ok (.iinc 3 1, 3) := by decide +kernel
theorem dX10_goOn_144 : decode cX10_goOn 144 = .ok (.goto (-20), 3) := by decide +kernel
theorem dX10_goOn_147 : decode cX10_goOn 147 = .ok (.return_, 1) := by decide +kernel
def L_X10_goOn_124 (a_then_122 : Nat → Int64)  : Nat → Int32 → (Nat → Int64) → Option ((Nat → Int64) × (Nat → Int64))
  | 0, _, _ => none
  | n + 1, x3_124, a_weight_124 => (if 3 ≤ x3_124 then some (a_then_122, a_weight_124) else (if inb x3_124 3 = true then (if inb x3_124 3 = true then L_X10_goOn_124 a_then_122 n ((x3_124 + 1)) ((vp_updL a_weight_124 (Int32.toNatClampNeg x3_124) ((a_then_122 (Int32.toNatClampNeg x3_124))))) else none) else none))
def L_X10_goOn_22 (x1 : Int32) (x2 : Int32) (a_goes : Nat → Int32) (a_noise : Nat → Int32) (a_signs : Nat → Int32) (a_told : Nat → Int32) (a_weight : Nat → Int64) (a_works : Nat → Int32) (k_122 : (Nat → Int64) → Option ((Nat → Int64) × (Nat → Int64))) : Nat → Int32 → (Nat → Int64) → Option ((Nat → Int64) × (Nat → Int64))
  | 0, _, _ => none
  | n + 1, x3_22, a_then_22 => (if 3 ≤ x3_22 then k_122 a_then_22 else (F_X10_chance x3_22 x1 a_goes a_noise a_works).bind (fun q30 => (if inb x3_22 3 = true then (if inb x3_22 3 = true then jn (fun (j0_69 : Int64) => (if inb x3_22 3 = true then jn (fun (a_then_116 : Nat → Int64) => L_X10_goOn_22 x1 x2 a_goes a_noise a_signs a_told a_weight a_works k_122 n ((x3_22 + 1)) a_then_116) (fun k_116 => (if 2 ≤ x3_22 then k_116 ((vp_updL a_then_22 (Int32.toNatClampNeg x3_22) (((a_then_22 (Int32.toNatClampNeg x3_22)) + (((a_weight (Int32.toNatClampNeg x3_22)) * (Int32.toInt64 ((4 - q30)))) * j0_69))))) else (if inb ((x3_22 + 1)) 3 = true then (if inb x3_22 3 = true then jn (fun (j0_113 : Int64) => (if inb ((x3_22 + 1)) 3 = true then k_116 ((vp_updL ((vp_updL a_then_22 (Int32.toNatClampNeg x3_22) (((a_then_22 (Int32.toNatClampNeg x3_22)) + (((a_weight (Int32.toNatClampNeg x3_22)) * (Int32.toInt64 ((4 - q30)))) * j0_69))))) (Int32.toNatClampNeg ((x3_22 + 1))) (((((vp_updL a_then_22 (Int32.toNatClampNeg x3_22) (((a_then_22 (Int32.toNatClampNeg x3_22)) + (((a_weight (Int32.toNatClampNeg x3_22)) * (Int32.toInt64 ((4 - q30)))) * j0_69))))) (Int32.toNatClampNeg ((x3_22 + 1)))) + (((a_weight (Int32.toNatClampNeg x3_22)) * (Int32.toInt64 q30)) * j0_113))))) else none)) (fun k_113 => (if 0 ≤ x2 then (F_X10_likely x2 x3_22 ((x3_22 + 1)) a_signs a_told).bind (fun q110 => k_113 q110) else k_113 1)) else none) else none))) else none)) (fun k_69 => (if 0 ≤ x2 then (F_X10_likely x2 x3_22 x3_22 a_signs a_told).bind (fun q66 => k_69 q66) else k_69 1)) else none) else none)))
def L_X10_goOn_2 (k_20 : (Nat → Int64) → Option ((Nat → Int64) × (Nat → Int64))) : Nat → Int32 → (Nat → Int64) → Option ((Nat → Int64) × (Nat → Int64))
  | 0, _, _ => none
  | n + 1, x3_2, a_then_2 => (if 3 ≤ x3_2 then k_20 a_then_2 else (if inb x3_2 3 = true then L_X10_goOn_2 k_20 n ((x3_2 + 1)) ((vp_updL a_then_2 (Int32.toNatClampNeg x3_2) 0)) else none))
def F_X10_goOn (x1 : Int32) (x2 : Int32) (a_goes : Nat → Int32) (a_noise : Nat → Int32) (a_signs : Nat → Int32) (a_then : Nat → Int64) (a_told : Nat → Int32) (a_weight : Nat → Int64) (a_works : Nat → Int32) : Option ((Nat → Int64) × (Nat → Int64)) := jn (fun (a_then_20 : Nat → Int64) => jn (fun (a_then_122 : Nat → Int64) => L_X10_goOn_124 a_then_122 5000 0 a_weight) (fun k_122 => L_X10_goOn_22 x1 x2 a_goes a_noise a_signs a_told a_weight a_works k_122 5000 0 a_then_20)) (fun k_20 => L_X10_goOn_2 k_20 5000 0 a_then)
theorem hdV_X10_goOn : yX10_goOn.cls = RX10 ∧ yX10_goOn.cls ≠ "java/lang/invoke/MethodHandle" ∧ yX10_goOn.cls ≠ "java/lang/invoke/VarHandle" ∧ (parseMethodDescriptor yX10_goOn.desc).map (fun d => d.parameters.length) = some 2 := by decide +kernel
set_option maxHeartbeats 4000000 in
set_option maxRecDepth 100000 in
theorem c_X10_goOn (l : Launch) (G : GG) (x1 : Int32) (x2 : Int32) (h_this : Nat) (ad_this : Nat → Nat) (v_typed : Int32) (v_at : Int32) (v_isSo : Int32) (v_kept : Int32) (v_all : Int64) (v_sightAll : Int64) (v_aheadMany : Int32) (a_goes : Nat → Int32) (a_noise : Nat → Int32) (a_signs : Nat → Int32) (a_then : Nat → Int64) (a_told : Nat → Int32) (a_weight : Nat → Int64) (a_works : Nat → Int32) (out : (Nat → Int64) × (Nat → Int64)) (hF : F_X10_goOn x1 x2 a_goes a_noise a_signs a_then a_told a_weight a_works = some out) : CtrV l yX10_goOn (WS yX10_goOn cX10_goOn 5 none) { frames := 2, cells := 0, slots := 0, locals := 51 } G [.ref h_this, .int x1, .int x2] [(h_this, oX10 ad_this v_typed v_at v_isSo v_kept v_all v_sightAll v_aheadMany), ((ad_this 2), cI G 6 a_goes), ((ad_this 11), cI G 10 a_noise), ((ad_this 3), cI G 2 a_signs), ((ad_this 21), cJ G 3 a_then), ((ad_this 4), cI G 32 a_told), ((ad_this 20), cJ G 3 a_weight), ((ad_this 10), cI G 2 a_works)] [(h_this, oX10 ad_this v_typed v_at v_isSo v_kept v_all v_sightAll v_aheadMany), ((ad_this 2), cI G 6 a_goes), ((ad_this 11), cI G 10 a_noise), ((ad_this 3), cI G 2 a_signs), ((ad_this 21), cJ G 3 out.1), ((ad_this 4), cI G 32 a_told), ((ad_this 20), cJ G 3 out.2), ((ad_this 10), cI G 2 a_works)] := by
  refine startV (cc := cX10_goOn) (maxL := 5) (by decide) rfl (Nat.le_of_ble_eq_true rfl) ?_
  intro p e s m args below meth c A Q hx hb hml hts hown hc hA hret ls H locs hl hW
  have hown : s.vm.findClass RX10 = some m.cls := hown
  have hg : ∀ w ∈ GOODS, w.before _ s = true := fun w h => hts w (List.mem_cons_of_mem _ h)
  have hl : lv_has ls 5 [(0, .ref h_this), (1, .int x1), (2, .int x2)] := hl
  rw [F_X10_goOn] at hF
  refine lv_iconst (v := 0) hx hb dX10_goOn_0 (by decide) ?_
  refine lv_istore_n (lv' := [(3, .int 0), (0, .ref h_this), (1, .int x1), (2, .int x2)]) hx hb dX10_goOn_1 rfl hl (by decide) rfl (fun ls hl => ?_)
  obtain ⟨k_20, e_20, hF⟩ := jn_el hF
  have J_20 : ∀ (a_then_20 : Nat → Int64) (ls : Array Slot) (H : Heap) (locs : List Loc), k_20 a_then_20 = some out → lv_has ls 5 [(0, .ref h_this), (1, .int x1), (2, .int x2)] → Wd G A s.heap [(h_this, oX10 ad_this v_typed v_at v_isSo v_kept v_all v_sightAll v_aheadMany), ((ad_this 2), cI G 6 a_goes), ((ad_this 11), cI G 10 a_noise), ((ad_this 3), cI G 2 a_signs), ((ad_this 21), cJ G 3 a_then_20), ((ad_this 4), cI G 32 a_told), ((ad_this 20), cJ G 3 a_weight), ((ad_this 10), cI G 2 a_works)] H locs → W p l e ({ frames := 2, cells := 0, slots := 0, locals := 51 } : Room) s m args below meth c H locs 0 0 Q (F0 m 20 ls []) := by
    intro a_then_20 ls H locs hF hl hW
    rw [e_20] at hF
    dsimp only at hF
    refine lv_iconst (v := 0) hx hb dX10_goOn_20 (by decide) ?_
    refine lv_istore_n (lv' := [(3, .int 0), (0, .ref h_this), (1, .int x1), (2, .int x2)]) hx hb dX10_goOn_21 rfl hl (by decide) rfl (fun ls hl => ?_)
    obtain ⟨k_122, e_122, hF⟩ := jn_el hF
    have J_122 : ∀ (a_then_122 : Nat → Int64) (ls : Array Slot) (H : Heap) (locs : List Loc), k_122 a_then_122 = some out → lv_has ls 5 [(0, .ref h_this)] → Wd G A s.heap [(h_this, oX10 ad_this v_typed v_at v_isSo v_kept v_all v_sightAll v_aheadMany), ((ad_this 2), cI G 6 a_goes), ((ad_this 11), cI G 10 a_noise), ((ad_this 3), cI G 2 a_signs), ((ad_this 21), cJ G 3 a_then_122), ((ad_this 4), cI G 32 a_told), ((ad_this 20), cJ G 3 a_weight), ((ad_this 10), cI G 2 a_works)] H locs → W p l e ({ frames := 2, cells := 0, slots := 0, locals := 51 } : Room) s m args below meth c H locs 0 0 Q (F0 m 122 ls []) := by
      intro a_then_122 ls H locs hF hl hW
      rw [e_122] at hF
      dsimp only at hF
      refine lv_iconst (v := 0) hx hb dX10_goOn_122 (by decide) ?_
      refine lv_istore_n (lv' := [(3, .int 0), (0, .ref h_this)]) hx hb dX10_goOn_123 rfl hl (by decide) rfl (fun ls hl => ?_)
      have L_124 : ∀ (n : Nat) (x3_124 : Int32) (a_weight_124 : Nat → Int64) (ls : Array Slot) (H : Heap) (locs : List Loc), L_X10_goOn_124 a_then_122 n x3_124 a_weight_124 = some out → lv_has ls 5 [(0, .ref h_this), (3, .int x3_124)] → Wd G A s.heap [(h_this, oX10 ad_this v_typed v_at v_isSo v_kept v_all v_sightAll v_aheadMany), ((ad_this 2), cI G 6 a_goes), ((ad_this 11), cI G 10 a_noise), ((ad_this 3), cI G 2 a_signs), ((ad_this 21), cJ G 3 a_then_122), ((ad_this 4), cI G 32 a_told), ((ad_this 20), cJ G 3 a_weight_124), ((ad_this 10), cI G 2 a_works)] H locs → W p l e ({ frames := 2, cells := 0, slots := 0, locals := 51 } : Room) s m args below meth c H locs 0 0 Q (F0 m 124 ls []) := by
        intro n
        induction n with
        | zero => intro x3_124 a_weight_124 ls H locs hF hl hW; have h0 : none = some out := hF; cases h0
        | succ n ih =>
          intro x3_124 a_weight_124 ls H locs hF hl hW
          rw [L_X10_goOn_124] at hF
          refine lv_iload_n hx hb dX10_goOn_124 rfl (lv_at hl 1 rfl) ?_
          refine lv_iconst (v := 3) hx hb dX10_goOn_125 (by decide) ?_
          refine lv_icmp_ge (tgt := 147) hx hb dX10_goOn_126 (by decide) (fun c_126 => ?_) (fun c_126 => ?_)
          · have hF := ite_t hF c_126
            obtain rfl := Option.some.inj hF
            exact hret _ _ _ _ hW dX10_goOn_147
          · have hF := ite_f hF c_126
            refine lv_aload_n hx hb dX10_goOn_129 rfl (lv_at hl 0 rfl) ?_
            refine va_get (D := G.1) (ci := 9) (v := .ref ((ad_this 20))) (C := RX10) (T := TX10) (N := 31) hx hb hg hu_X10 hown hc.1 hW.1 0 rfl rfl 20 (by decide) (hg _ wd_4_58) (fun _ h9 => h9) rfl dX10_goOn_130 ?_
            refine lv_iload_n hx hb dX10_goOn_133 rfl (lv_at hl 1 rfl) ?_
            refine lv_aload_n hx hb dX10_goOn_134 rfl (lv_at hl 0 rfl) ?_
            refine va_get (D := G.1) (ci := 9) (v := .ref ((ad_this 21))) (C := RX10) (T := TX10) (N := 31) hx hb hg hu_X10 hown hc.1 hW.1 0 rfl rfl 21 (by decide) (hg _ wd_4_59) (fun _ h9 => h9) rfl dX10_goOn_135 ?_
            refine lv_iload_n hx hb dX10_goOn_138 rfl (lv_at hl 1 rfl) ?_
            obtain ⟨b_139, hF⟩ := inb_el hF
            refine va_lald hx hb hc.1 hW.1 4 1 rfl rfl b_139 dX10_goOn_139 ?_
            obtain ⟨b_140, hF⟩ := inb_el hF
            refine va_last hx hb hc.1 hW.1 hW.2.1 hW.2.2 6 1 rfl rfl b_140 dX10_goOn_140 (fun H locs hP hD hS => ?_)
            have hW : Wd G A s.heap [(h_this, oX10 ad_this v_typed v_at v_isSo v_kept v_all v_sightAll v_aheadMany), ((ad_this 2), cI G 6 a_goes), ((ad_this 11), cI G 10 a_noise), ((ad_this 3), cI G 2 a_signs), ((ad_this 21), cJ G 3 a_then_122), ((ad_this 4), cI G 32 a_told), ((ad_this 20), cJ G 3 ((vp_updL a_weight_124 (Int32.toNatClampNeg x3_124) ((a_then_122 (Int32.toNatClampNeg x3_124)))))), ((ad_this 10), cI G 2 a_works)] H locs := ⟨hP, hD, hS⟩
            refine lv_iinc (v := (x3_124 + 1)) (lv' := [(3, .int ((x3_124 + 1))), (0, .ref h_this)]) hx hb dX10_goOn_141 hl (k := 1) rfl rfl (by decide) rfl (fun ls hl => ?_)
            refine lv_goto (tgt := 124) hx hb dX10_goOn_144 (by decide) ?_
            exact ih ((x3_124 + 1)) ((vp_updL a_weight_124 (Int32.toNatClampNeg x3_124) ((a_then_122 (Int32.toNatClampNeg x3_124))))) _ _ _ hF (lv_sub hl [1, 0] rfl) hW
      exact L_124 5000 0 a_weight _ _ _ hF (lv_sub hl [1, 0] rfl) hW
    have L_22 : ∀ (n : Nat) (x3_22 : Int32) (a_then_22 : Nat → Int64) (ls : Array Slot) (H : Heap) (locs : List Loc), L_X10_goOn_22 x1 x2 a_goes a_noise a_signs a_told a_weight a_works k_122 n x3_22 a_then_22 = some out → lv_has ls 5 [(0, .ref h_this), (1, .int x1), (2, .int x2), (3, .int x3_22)] → Wd G A s.heap [(h_this, oX10 ad_this v_typed v_at v_isSo v_kept v_all v_sightAll v_aheadMany), ((ad_this 2), cI G 6 a_goes), ((ad_this 11), cI G 10 a_noise), ((ad_this 3), cI G 2 a_signs), ((ad_this 21), cJ G 3 a_then_22), ((ad_this 4), cI G 32 a_told), ((ad_this 20), cJ G 3 a_weight), ((ad_this 10), cI G 2 a_works)] H locs → W p l e ({ frames := 2, cells := 0, slots := 0, locals := 51 } : Room) s m args below meth c H locs 0 0 Q (F0 m 22 ls []) := by
      intro n
      induction n with
      | zero => intro x3_22 a_then_22 ls H locs hF hl hW; have h0 : none = some out := hF; cases h0
      | succ n ih =>
        intro x3_22 a_then_22 ls H locs hF hl hW
        rw [L_X10_goOn_22] at hF
        refine lv_iload_n hx hb dX10_goOn_22 rfl (lv_at hl 3 rfl) ?_
        refine lv_iconst (v := 3) hx hb dX10_goOn_23 (by decide) ?_
        refine lv_icmp_ge (tgt := 122) hx hb dX10_goOn_24 (by decide) (fun c_24 => ?_) (fun c_24 => ?_)
        · have hF := ite_t hF c_24
          exact J_122 a_then_22 _ _ _ hF (lv_sub hl [0] rfl) hW
        · have hF := ite_f hF c_24
          refine lv_aload_n hx hb dX10_goOn_27 rfl (lv_at hl 0 rfl) ?_
          refine lv_iload_n hx hb dX10_goOn_28 rfl (lv_at hl 3 rfl) ?_
          refine lv_iload_n hx hb dX10_goOn_29 rfl (lv_at hl 1 rfl) ?_
          obtain ⟨q30, c_30, hF⟩ := bd_el hF
          refine wcI (ws' := [(h_this, oX10 ad_this v_typed v_at v_isSo v_kept v_all v_sightAll v_aheadMany), ((ad_this 2), cI G 6 a_goes), ((ad_this 11), cI G 10 a_noise), ((ad_this 3), cI G 2 a_signs), ((ad_this 21), cJ G 3 a_then_22), ((ad_this 4), cI G 32 a_told), ((ad_this 20), cJ G 3 a_weight), ((ad_this 10), cI G 2 a_works)]) (wc := [(h_this, oX10 ad_this v_typed v_at v_isSo v_kept v_all v_sightAll v_aheadMany), ((ad_this 2), cI G 6 a_goes), ((ad_this 11), cI G 10 a_noise), ((ad_this 10), cI G 2 a_works)]) (wr := [((ad_this 3), cI G 2 a_signs), ((ad_this 21), cJ G 3 a_then_22), ((ad_this 4), cI G 32 a_told), ((ad_this 20), cJ G 3 a_weight)]) (w1 := [(h_this, oX10 ad_this v_typed v_at v_isSo v_kept v_all v_sightAll v_aheadMany), ((ad_this 2), cI G 6 a_goes), ((ad_this 11), cI G 10 a_noise), ((ad_this 10), cI G 2 a_works)]) (va_runV (As := [.int x3_22, .int x1]) (rest := []) ⟨hx, hb, hml, hown, hg⟩ (c_X10_chance l G x3_22 x1 h_this ad_this v_typed v_at v_isSo v_kept v_all v_sightAll v_aheadMany a_goes a_noise a_works q30 c_30 H.size) (cwV 2 hg (gV wd_4_217 wd_4_219 wd_0_37 wd_1_15 wd_4_220) rfl rfl rfl hdV_X10_chance ⟨(Nat.le_of_ble_eq_true rfl), (Nat.le_of_ble_eq_true rfl)⟩) (preV hc hW [0, 1, 2, 7] rfl (by decide) rfl rfl) rfl rfl hl.1 rfl (lv_room (Nat.le_of_ble_eq_true rfl)) dX10_goOn_30 ⟨Nat.zero_le _, Nat.zero_le _⟩) hA hW [0, 1, 2, 7] [3, 4, 5, 6] [4, 5, 6, 0, 1, 2, 3, 7] rfl rfl (by decide) (by decide) rfl (by decide) (fun H locs hW => ?_)
          refine lv_istore (lv' := [(4, .int q30), (0, .ref h_this), (1, .int x1), (2, .int x2), (3, .int x3_22)]) hx hb dX10_goOn_33 hl (by decide) rfl (fun ls hl => ?_)
          refine lv_aload_n hx hb dX10_goOn_35 rfl (lv_at hl 1 rfl) ?_
          refine va_get (D := G.1) (ci := 9) (v := .ref ((ad_this 21))) (C := RX10) (T := TX10) (N := 31) hx hb hg hu_X10 hown hc.1 hW.1 0 rfl rfl 21 (by decide) (hg _ wd_4_59) (fun _ h9 => h9) rfl dX10_goOn_36 ?_
          refine lv_iload_n hx hb dX10_goOn_39 rfl (lv_at hl 4 rfl) ?_
          refine lv_dup2_11 hx hb dX10_goOn_40 rfl rfl ?_
          obtain ⟨b_41, hF⟩ := inb_el hF
          refine va_lald hx hb hc.1 hW.1 4 1 rfl rfl b_41 dX10_goOn_41 ?_
          refine lv_aload_n hx hb dX10_goOn_42 rfl (lv_at hl 1 rfl) ?_
          refine va_get (D := G.1) (ci := 9) (v := .ref ((ad_this 20))) (C := RX10) (T := TX10) (N := 31) hx hb hg hu_X10 hown hc.1 hW.1 0 rfl rfl 20 (by decide) (hg _ wd_4_58) (fun _ h9 => h9) rfl dX10_goOn_43 ?_
          refine lv_iload_n hx hb dX10_goOn_46 rfl (lv_at hl 4 rfl) ?_
          obtain ⟨b_47, hF⟩ := inb_el hF
          refine va_lald hx hb hc.1 hW.1 6 1 rfl rfl b_47 dX10_goOn_47 ?_
          refine lv_iconst (v := 4) hx hb dX10_goOn_48 (by decide) ?_
          refine lv_iload hx hb dX10_goOn_49 (lv_at hl 0 rfl) ?_
          refine lv_isub hx hb dX10_goOn_51 ?_
          refine lv_i2l (v := (Int32.toInt64 ((4 - q30)))) hx hb dX10_goOn_52 rfl ?_
          refine lv_lmul hx hb dX10_goOn_53 ?_
          refine lv_iload_n hx hb dX10_goOn_54 rfl (lv_at hl 3 rfl) ?_
          obtain ⟨k_69, e_69, hF⟩ := jn_el hF
          have J_69 : ∀ (j0_69 : Int64) (ls : Array Slot) (H : Heap) (locs : List Loc), k_69 j0_69 = some out → lv_has ls 5 [(0, .ref h_this), (1, .int x1), (2, .int x2), (3, .int x3_22), (4, .int q30)] → Wd G A s.heap [(h_this, oX10 ad_this v_typed v_at v_isSo v_kept v_all v_sightAll v_aheadMany), ((ad_this 2), cI G 6 a_goes), ((ad_this 11), cI G 10 a_noise), ((ad_this 3), cI G 2 a_signs), ((ad_this 21), cJ G 3 a_then_22), ((ad_this 4), cI G 32 a_told), ((ad_this 20), cJ G 3 a_weight), ((ad_this 10), cI G 2 a_works)] H locs → W p l e ({ frames := 2, cells := 0, slots := 0, locals := 51 } : Room) s m args below meth c H locs 0 0 Q (F0 m 69 ls [.long j0_69, .long (((a_weight (Int32.toNatClampNeg x3_22)) * (Int32.toInt64 ((4 - q30))))), .long ((a_then_22 (Int32.toNatClampNeg x3_22))), .int x3_22, .ref ((ad_this 21))]) := by
            intro j0_69 ls H locs hF hl hW
            rw [e_69] at hF
            dsimp only at hF
            refine lv_lmul hx hb dX10_goOn_69 ?_
            refine lv_ladd hx hb dX10_goOn_70 ?_
            obtain ⟨b_71, hF⟩ := inb_el hF
            refine va_last hx hb hc.1 hW.1 hW.2.1 hW.2.2 4 1 rfl rfl b_71 dX10_goOn_71 (fun H locs hP hD hS => ?_)
            have hW : Wd G A s.heap [(h_this, oX10 ad_this v_typed v_at v_isSo v_kept v_all v_sightAll v_aheadMany), ((ad_this 2), cI G 6 a_goes), ((ad_this 11), cI G 10 a_noise), ((ad_this 3), cI G 2 a_signs), ((ad_this 21), cJ G 3 ((vp_updL a_then_22 (Int32.toNatClampNeg x3_22) (((a_then_22 (Int32.toNatClampNeg x3_22)) + (((a_weight (Int32.toNatClampNeg x3_22)) * (Int32.toInt64 ((4 - q30)))) * j0_69)))))), ((ad_this 4), cI G 32 a_told), ((ad_this 20), cJ G 3 a_weight), ((ad_this 10), cI G 2 a_works)] H locs := ⟨hP, hD, hS⟩
            refine lv_iload_n hx hb dX10_goOn_72 rfl (lv_at hl 3 rfl) ?_
            refine lv_iconst (v := 2) hx hb dX10_goOn_73 (by decide) ?_
            obtain ⟨k_116, e_116, hF⟩ := jn_el hF
            have J_116 : ∀ (a_then_116 : Nat → Int64) (ls : Array Slot) (H : Heap) (locs : List Loc), k_116 a_then_116 = some out → lv_has ls 5 [(0, .ref h_this), (1, .int x1), (2, .int x2), (3, .int x3_22)] → Wd G A s.heap [(h_this, oX10 ad_this v_typed v_at v_isSo v_kept v_all v_sightAll v_aheadMany), ((ad_this 2), cI G 6 a_goes), ((ad_this 11), cI G 10 a_noise), ((ad_this 3), cI G 2 a_signs), ((ad_this 21), cJ G 3 a_then_116), ((ad_this 4), cI G 32 a_told), ((ad_this 20), cJ G 3 a_weight), ((ad_this 10), cI G 2 a_works)] H locs → W p l e ({ frames := 2, cells := 0, slots := 0, locals := 51 } : Room) s m args below meth c H locs 0 0 Q (F0 m 116 ls []) := by
              intro a_then_116 ls H locs hF hl hW
              rw [e_116] at hF
              dsimp only at hF
              refine lv_iinc (v := (x3_22 + 1)) (lv' := [(3, .int ((x3_22 + 1))), (0, .ref h_this), (1, .int x1), (2, .int x2)]) hx hb dX10_goOn_116 hl (k := 3) rfl rfl (by decide) rfl (fun ls hl => ?_)
              refine lv_goto (tgt := 22) hx hb dX10_goOn_119 (by decide) ?_
              exact ih ((x3_22 + 1)) a_then_116 _ _ _ hF (lv_sub hl [1, 2, 3, 0] rfl) hW
            refine lv_icmp_ge (tgt := 116) hx hb dX10_goOn_74 (by decide) (fun c_74 => ?_) (fun c_74 => ?_)
            · have hF := ite_t hF c_74
              exact J_116 ((vp_updL a_then_22 (Int32.toNatClampNeg x3_22) (((a_then_22 (Int32.toNatClampNeg x3_22)) + (((a_weight (Int32.toNatClampNeg x3_22)) * (Int32.toInt64 ((4 - q30)))) * j0_69))))) _ _ _ hF (lv_sub hl [0, 1, 2, 3] rfl) hW
            · have hF := ite_f hF c_74
              refine lv_aload_n hx hb dX10_goOn_77 rfl (lv_at hl 0 rfl) ?_
              refine va_get (D := G.1) (ci := 9) (v := .ref ((ad_this 21))) (C := RX10) (T := TX10) (N := 31) hx hb hg hu_X10 hown hc.1 hW.1 0 rfl rfl 21 (by decide) (hg _ wd_4_59) (fun _ h9 => h9) rfl dX10_goOn_78 ?_
              refine lv_iload_n hx hb dX10_goOn_81 rfl (lv_at hl 3 rfl) ?_
              refine lv_iconst (v := 1) hx hb dX10_goOn_82 (by decide) ?_
              refine lv_iadd hx hb dX10_goOn_83 ?_
              refine lv_dup2_11 hx hb dX10_goOn_84 rfl rfl ?_
              obtain ⟨b_85, hF⟩ := inb_el hF
              refine va_lald hx hb hc.1 hW.1 4 1 rfl rfl b_85 dX10_goOn_85 ?_
              refine lv_aload_n hx hb dX10_goOn_86 rfl (lv_at hl 0 rfl) ?_
              refine va_get (D := G.1) (ci := 9) (v := .ref ((ad_this 20))) (C := RX10) (T := TX10) (N := 31) hx hb hg hu_X10 hown hc.1 hW.1 0 rfl rfl 20 (by decide) (hg _ wd_4_58) (fun _ h9 => h9) rfl dX10_goOn_87 ?_
              refine lv_iload_n hx hb dX10_goOn_90 rfl (lv_at hl 3 rfl) ?_
              obtain ⟨b_91, hF⟩ := inb_el hF
              refine va_lald hx hb hc.1 hW.1 6 1 rfl rfl b_91 dX10_goOn_91 ?_
              refine lv_iload hx hb dX10_goOn_92 (lv_at hl 4 rfl) ?_
              refine lv_i2l (v := (Int32.toInt64 q30)) hx hb dX10_goOn_94 rfl ?_
              refine lv_lmul hx hb dX10_goOn_95 ?_
              refine lv_iload_n hx hb dX10_goOn_96 rfl (lv_at hl 2 rfl) ?_
              obtain ⟨k_113, e_113, hF⟩ := jn_el hF
              have J_113 : ∀ (j0_113 : Int64) (ls : Array Slot) (H : Heap) (locs : List Loc), k_113 j0_113 = some out → lv_has ls 5 [(0, .ref h_this), (1, .int x1), (2, .int x2), (3, .int x3_22)] → Wd G A s.heap [(h_this, oX10 ad_this v_typed v_at v_isSo v_kept v_all v_sightAll v_aheadMany), ((ad_this 2), cI G 6 a_goes), ((ad_this 11), cI G 10 a_noise), ((ad_this 3), cI G 2 a_signs), ((ad_this 21), cJ G 3 ((vp_updL a_then_22 (Int32.toNatClampNeg x3_22) (((a_then_22 (Int32.toNatClampNeg x3_22)) + (((a_weight (Int32.toNatClampNeg x3_22)) * (Int32.toInt64 ((4 - q30)))) * j0_69)))))), ((ad_this 4), cI G 32 a_told), ((ad_this 20), cJ G 3 a_weight), ((ad_this 10), cI G 2 a_works)] H locs → W p l e ({ frames := 2, cells := 0, slots := 0, locals := 51 } : Room) s m args below meth c H locs 0 0 Q (F0 m 113 ls [.long j0_113, .long (((a_weight (Int32.toNatClampNeg x3_22)) * (Int32.toInt64 q30))), .long ((((vp_updL a_then_22 (Int32.toNatClampNeg x3_22) (((a_then_22 (Int32.toNatClampNeg x3_22)) + (((a_weight (Int32.toNatClampNeg x3_22)) * (Int32.toInt64 ((4 - q30)))) * j0_69))))) (Int32.toNatClampNeg ((x3_22 + 1))))), .int ((x3_22 + 1)), .ref ((ad_this 21))]) := by
                intro j0_113 ls H locs hF hl hW
                rw [e_113] at hF
                dsimp only at hF
                refine lv_lmul hx hb dX10_goOn_113 ?_
                refine lv_ladd hx hb dX10_goOn_114 ?_
                obtain ⟨b_115, hF⟩ := inb_el hF
                refine va_last hx hb hc.1 hW.1 hW.2.1 hW.2.2 4 1 rfl rfl b_115 dX10_goOn_115 (fun H locs hP hD hS => ?_)
                have hW : Wd G A s.heap [(h_this, oX10 ad_this v_typed v_at v_isSo v_kept v_all v_sightAll v_aheadMany), ((ad_this 2), cI G 6 a_goes), ((ad_this 11), cI G 10 a_noise), ((ad_this 3), cI G 2 a_signs), ((ad_this 21), cJ G 3 ((vp_updL ((vp_updL a_then_22 (Int32.toNatClampNeg x3_22) (((a_then_22 (Int32.toNatClampNeg x3_22)) + (((a_weight (Int32.toNatClampNeg x3_22)) * (Int32.toInt64 ((4 - q30)))) * j0_69))))) (Int32.toNatClampNeg ((x3_22 + 1))) (((((vp_updL a_then_22 (Int32.toNatClampNeg x3_22) (((a_then_22 (Int32.toNatClampNeg x3_22)) + (((a_weight (Int32.toNatClampNeg x3_22)) * (Int32.toInt64 ((4 - q30)))) * j0_69))))) (Int32.toNatClampNeg ((x3_22 + 1)))) + (((a_weight (Int32.toNatClampNeg x3_22)) * (Int32.toInt64 q30)) * j0_113)))))), ((ad_this 4), cI G 32 a_told), ((ad_this 20), cJ G 3 a_weight), ((ad_this 10), cI G 2 a_works)] H locs := ⟨hP, hD, hS⟩
                exact J_116 ((vp_updL ((vp_updL a_then_22 (Int32.toNatClampNeg x3_22) (((a_then_22 (Int32.toNatClampNeg x3_22)) + (((a_weight (Int32.toNatClampNeg x3_22)) * (Int32.toInt64 ((4 - q30)))) * j0_69))))) (Int32.toNatClampNeg ((x3_22 + 1))) (((((vp_updL a_then_22 (Int32.toNatClampNeg x3_22) (((a_then_22 (Int32.toNatClampNeg x3_22)) + (((a_weight (Int32.toNatClampNeg x3_22)) * (Int32.toInt64 ((4 - q30)))) * j0_69))))) (Int32.toNatClampNeg ((x3_22 + 1)))) + (((a_weight (Int32.toNatClampNeg x3_22)) * (Int32.toInt64 q30)) * j0_113))))) _ _ _ hF (lv_sub hl [0, 1, 2, 3] rfl) hW
              refine lv_if_ge (tgt := 104) hx hb dX10_goOn_97 (by decide) (fun c_97 => ?_) (fun c_97 => ?_)
              · have hF := ite_t hF c_97
                refine lv_aload_n hx hb dX10_goOn_104 rfl (lv_at hl 0 rfl) ?_
                refine lv_iload_n hx hb dX10_goOn_105 rfl (lv_at hl 2 rfl) ?_
                refine lv_iload_n hx hb dX10_goOn_106 rfl (lv_at hl 3 rfl) ?_
                refine lv_iload_n hx hb dX10_goOn_107 rfl (lv_at hl 3 rfl) ?_
                refine lv_iconst (v := 1) hx hb dX10_goOn_108 (by decide) ?_
                refine lv_iadd hx hb dX10_goOn_109 ?_
                obtain ⟨q110, c_110, hF⟩ := bd_el hF
                refine wcJ (ws' := [(h_this, oX10 ad_this v_typed v_at v_isSo v_kept v_all v_sightAll v_aheadMany), ((ad_this 2), cI G 6 a_goes), ((ad_this 11), cI G 10 a_noise), ((ad_this 3), cI G 2 a_signs), ((ad_this 21), cJ G 3 ((vp_updL a_then_22 (Int32.toNatClampNeg x3_22) (((a_then_22 (Int32.toNatClampNeg x3_22)) + (((a_weight (Int32.toNatClampNeg x3_22)) * (Int32.toInt64 ((4 - q30)))) * j0_69)))))), ((ad_this 4), cI G 32 a_told), ((ad_this 20), cJ G 3 a_weight), ((ad_this 10), cI G 2 a_works)]) (wc := [(h_this, oX10 ad_this v_typed v_at v_isSo v_kept v_all v_sightAll v_aheadMany), ((ad_this 3), cI G 2 a_signs), ((ad_this 4), cI G 32 a_told)]) (wr := [((ad_this 2), cI G 6 a_goes), ((ad_this 11), cI G 10 a_noise), ((ad_this 21), cJ G 3 ((vp_updL a_then_22 (Int32.toNatClampNeg x3_22) (((a_then_22 (Int32.toNatClampNeg x3_22)) + (((a_weight (Int32.toNatClampNeg x3_22)) * (Int32.toInt64 ((4 - q30)))) * j0_69)))))), ((ad_this 20), cJ G 3 a_weight), ((ad_this 10), cI G 2 a_works)]) (w1 := [(h_this, oX10 ad_this v_typed v_at v_isSo v_kept v_all v_sightAll v_aheadMany), ((ad_this 3), cI G 2 a_signs), ((ad_this 4), cI G 32 a_told)]) (va_runV (As := [.int x2, .int x3_22, .int ((x3_22 + 1))]) (rest := [.long (((a_weight (Int32.toNatClampNeg x3_22)) * (Int32.toInt64 q30))), .long ((((vp_updL a_then_22 (Int32.toNatClampNeg x3_22) (((a_then_22 (Int32.toNatClampNeg x3_22)) + (((a_weight (Int32.toNatClampNeg x3_22)) * (Int32.toInt64 ((4 - q30)))) * j0_69))))) (Int32.toNatClampNeg ((x3_22 + 1))))), .int ((x3_22 + 1)), .ref ((ad_this 21))]) ⟨hx, hb, hml, hown, hg⟩ (c_X10_likely l G x2 x3_22 ((x3_22 + 1)) h_this ad_this v_typed v_at v_isSo v_kept v_all v_sightAll v_aheadMany a_signs a_told q110 c_110 H.size) (cwV 3 hg (gV wd_4_221 wd_4_223 wd_0_38 wd_1_15 wd_4_224) rfl rfl rfl hdV_X10_likely ⟨(Nat.le_of_ble_eq_true rfl), (Nat.le_of_ble_eq_true rfl)⟩) (preV hc hW [0, 3, 5] rfl (by decide) rfl rfl) rfl rfl hl.1 rfl (lv_room (Nat.le_of_ble_eq_true rfl)) dX10_goOn_110 ⟨Nat.zero_le _, Nat.zero_le _⟩) hA hW [0, 3, 5] [1, 2, 4, 6, 7] [5, 0, 1, 6, 2, 7, 3, 4] rfl rfl (by decide) (by decide) rfl (by decide) (fun H locs hW => ?_)
                exact J_113 q110 _ _ _ hF (lv_sub hl [0, 1, 2, 3] rfl) hW
              · have hF := ite_f hF c_97
                refine lv_lconst (v := 1) hx hb dX10_goOn_100 (by decide) ?_
                refine lv_goto (tgt := 113) hx hb dX10_goOn_101 (by decide) ?_
                exact J_113 1 _ _ _ hF (lv_sub hl [0, 1, 2, 3] rfl) hW
          refine lv_if_ge (tgt := 62) hx hb dX10_goOn_55 (by decide) (fun c_55 => ?_) (fun c_55 => ?_)
          · have hF := ite_t hF c_55
            refine lv_aload_n hx hb dX10_goOn_62 rfl (lv_at hl 1 rfl) ?_
            refine lv_iload_n hx hb dX10_goOn_63 rfl (lv_at hl 3 rfl) ?_
            refine lv_iload_n hx hb dX10_goOn_64 rfl (lv_at hl 4 rfl) ?_
            refine lv_iload_n hx hb dX10_goOn_65 rfl (lv_at hl 4 rfl) ?_
            obtain ⟨q66, c_66, hF⟩ := bd_el hF
            refine wcJ (ws' := [(h_this, oX10 ad_this v_typed v_at v_isSo v_kept v_all v_sightAll v_aheadMany), ((ad_this 2), cI G 6 a_goes), ((ad_this 11), cI G 10 a_noise), ((ad_this 3), cI G 2 a_signs), ((ad_this 21), cJ G 3 a_then_22), ((ad_this 4), cI G 32 a_told), ((ad_this 20), cJ G 3 a_weight), ((ad_this 10), cI G 2 a_works)]) (wc := [(h_this, oX10 ad_this v_typed v_at v_isSo v_kept v_all v_sightAll v_aheadMany), ((ad_this 3), cI G 2 a_signs), ((ad_this 4), cI G 32 a_told)]) (wr := [((ad_this 2), cI G 6 a_goes), ((ad_this 11), cI G 10 a_noise), ((ad_this 21), cJ G 3 a_then_22), ((ad_this 20), cJ G 3 a_weight), ((ad_this 10), cI G 2 a_works)]) (w1 := [(h_this, oX10 ad_this v_typed v_at v_isSo v_kept v_all v_sightAll v_aheadMany), ((ad_this 3), cI G 2 a_signs), ((ad_this 4), cI G 32 a_told)]) (va_runV (As := [.int x2, .int x3_22, .int x3_22]) (rest := [.long (((a_weight (Int32.toNatClampNeg x3_22)) * (Int32.toInt64 ((4 - q30))))), .long ((a_then_22 (Int32.toNatClampNeg x3_22))), .int x3_22, .ref ((ad_this 21))]) ⟨hx, hb, hml, hown, hg⟩ (c_X10_likely l G x2 x3_22 x3_22 h_this ad_this v_typed v_at v_isSo v_kept v_all v_sightAll v_aheadMany a_signs a_told q66 c_66 H.size) (cwV 3 hg (gV wd_4_221 wd_4_223 wd_0_38 wd_1_15 wd_4_224) rfl rfl rfl hdV_X10_likely ⟨(Nat.le_of_ble_eq_true rfl), (Nat.le_of_ble_eq_true rfl)⟩) (preV hc hW [0, 3, 5] rfl (by decide) rfl rfl) rfl rfl hl.1 rfl (lv_room (Nat.le_of_ble_eq_true rfl)) dX10_goOn_66 ⟨Nat.zero_le _, Nat.zero_le _⟩) hA hW [0, 3, 5] [1, 2, 4, 6, 7] [5, 0, 1, 6, 2, 7, 3, 4] rfl rfl (by decide) (by decide) rfl (by decide) (fun H locs hW => ?_)
            exact J_69 q66 _ _ _ hF (lv_sub hl [1, 2, 3, 4, 0] rfl) hW
          · have hF := ite_f hF c_55
            refine lv_lconst (v := 1) hx hb dX10_goOn_58 (by decide) ?_
            refine lv_goto (tgt := 69) hx hb dX10_goOn_59 (by decide) ?_
            exact J_69 1 _ _ _ hF (lv_sub hl [1, 2, 3, 4, 0] rfl) hW
    exact L_22 5000 0 a_then_20 _ _ _ hF (lv_sub hl [1, 2, 3, 0] rfl) hW
  have L_2 : ∀ (n : Nat) (x3_2 : Int32) (a_then_2 : Nat → Int64) (ls : Array Slot) (H : Heap) (locs : List Loc), L_X10_goOn_2 k_20 n x3_2 a_then_2 = some out → lv_has ls 5 [(0, .ref h_this), (1, .int x1), (2, .int x2), (3, .int x3_2)] → Wd G A s.heap [(h_this, oX10 ad_this v_typed v_at v_isSo v_kept v_all v_sightAll v_aheadMany), ((ad_this 2), cI G 6 a_goes), ((ad_this 11), cI G 10 a_noise), ((ad_this 3), cI G 2 a_signs), ((ad_this 21), cJ G 3 a_then_2), ((ad_this 4), cI G 32 a_told), ((ad_this 20), cJ G 3 a_weight), ((ad_this 10), cI G 2 a_works)] H locs → W p l e ({ frames := 2, cells := 0, slots := 0, locals := 51 } : Room) s m args below meth c H locs 0 0 Q (F0 m 2 ls []) := by
    intro n
    induction n with
    | zero => intro x3_2 a_then_2 ls H locs hF hl hW; have h0 : none = some out := hF; cases h0
    | succ n ih =>
      intro x3_2 a_then_2 ls H locs hF hl hW
      rw [L_X10_goOn_2] at hF
      refine lv_iload_n hx hb dX10_goOn_2 rfl (lv_at hl 3 rfl) ?_
      refine lv_iconst (v := 3) hx hb dX10_goOn_3 (by decide) ?_
      refine lv_icmp_ge (tgt := 20) hx hb dX10_goOn_4 (by decide) (fun c_4 => ?_) (fun c_4 => ?_)
      · have hF := ite_t hF c_4
        exact J_20 a_then_2 _ _ _ hF (lv_sub hl [0, 1, 2] rfl) hW
      · have hF := ite_f hF c_4
        refine lv_aload_n hx hb dX10_goOn_7 rfl (lv_at hl 0 rfl) ?_
        refine va_get (D := G.1) (ci := 9) (v := .ref ((ad_this 21))) (C := RX10) (T := TX10) (N := 31) hx hb hg hu_X10 hown hc.1 hW.1 0 rfl rfl 21 (by decide) (hg _ wd_4_59) (fun _ h9 => h9) rfl dX10_goOn_8 ?_
        refine lv_iload_n hx hb dX10_goOn_11 rfl (lv_at hl 3 rfl) ?_
        refine lv_lconst (v := 0) hx hb dX10_goOn_12 (by decide) ?_
        obtain ⟨b_13, hF⟩ := inb_el hF
        refine va_last hx hb hc.1 hW.1 hW.2.1 hW.2.2 4 1 rfl rfl b_13 dX10_goOn_13 (fun H locs hP hD hS => ?_)
        have hW : Wd G A s.heap [(h_this, oX10 ad_this v_typed v_at v_isSo v_kept v_all v_sightAll v_aheadMany), ((ad_this 2), cI G 6 a_goes), ((ad_this 11), cI G 10 a_noise), ((ad_this 3), cI G 2 a_signs), ((ad_this 21), cJ G 3 ((vp_updL a_then_2 (Int32.toNatClampNeg x3_2) 0))), ((ad_this 4), cI G 32 a_told), ((ad_this 20), cJ G 3 a_weight), ((ad_this 10), cI G 2 a_works)] H locs := ⟨hP, hD, hS⟩
        refine lv_iinc (v := (x3_2 + 1)) (lv' := [(3, .int ((x3_2 + 1))), (0, .ref h_this), (1, .int x1), (2, .int x2)]) hx hb dX10_goOn_14 hl (k := 3) rfl rfl (by decide) rfl (fun ls hl => ?_)
        refine lv_goto (tgt := 2) hx hb dX10_goOn_17 (by decide) ?_
        exact ih ((x3_2 + 1)) ((vp_updL a_then_2 (Int32.toNatClampNeg x3_2) 0)) _ _ _ hF (lv_sub hl [1, 2, 3, 0] rfl) hW
  exact L_2 5000 0 a_then _ _ _ hF (lv_sub hl [1, 2, 3, 0] rfl) hW
theorem dX10_total_0 : decode cX10_total 0 = .ok (.aload_n 0, 1) := by decide +kernel
theorem dX10_total_1 : decode cX10_total 1 = .ok (.getfield 59, 3) := by decide +kernel
theorem dX10_total_4 : decode cX10_total 4 = .ok (.iconst 0, 1) := by decide +kernel
theorem dX10_total_5 : decode cX10_total 5 = .ok (.laload, 1) := by decide +kernel
theorem dX10_total_6 : decode cX10_total 6 = .ok (.aload_n 0, 1) := by decide +kernel
theorem dX10_total_7 : decode cX10_total 7 = .ok (.getfield 59, 3) := by decide +kernel
theorem dX10_total_10 : decode cX10_total 10 = .ok (.iconst 1, 1) := by decide +kernel
theorem dX10_total_11 : decode cX10_total 11 = .ok (.laload, 1) := by decide +kernel
theorem dX10_total_12 : decode cX10_total 12 = .ok (.ladd, 1) := by decide +kernel
theorem dX10_total_13 : decode cX10_total 13 = .ok (.aload_n 0, 1) := by decide +kernel
theorem dX10_total_14 : decode cX10_total 14 = .ok (.getfield 59, 3) := by decide +kernel
theorem dX10_total_17 : decode cX10_total 17 = .ok (.iconst 2, 1) := by decide +kernel
theorem dX10_total_18 : decode cX10_total 18 = .ok (.laload, 1) := by decide +kernel
theorem dX10_total_19 : decode cX10_total 19 = .ok (.ladd, 1) := by decide +kernel
theorem dX10_total_20 : decode cX10_total 20 = .ok (.lreturn, 1) := by decide +kernel
def F_X10_total (a_weight : Nat → Int64) : Option (Int64) := some ((((a_weight (Int32.toNatClampNeg 0)) + (a_weight (Int32.toNatClampNeg 1))) + (a_weight (Int32.toNatClampNeg 2))))
theorem hdV_X10_total : yX10_total.cls = RX10 ∧ yX10_total.cls ≠ "java/lang/invoke/MethodHandle" ∧ yX10_total.cls ≠ "java/lang/invoke/VarHandle" ∧ (parseMethodDescriptor yX10_total.desc).map (fun d => d.parameters.length) = some 0 := by decide +kernel
set_option maxHeartbeats 4000000 in
set_option maxRecDepth 100000 in
theorem c_X10_total (l : Launch) (G : GG) (h_this : Nat) (ad_this : Nat → Nat) (v_typed : Int32) (v_at : Int32) (v_isSo : Int32) (v_kept : Int32) (v_all : Int64) (v_sightAll : Int64) (v_aheadMany : Int32) (a_weight : Nat → Int64) (out : Int64) (hF : F_X10_total a_weight = some out) : CtrJ l yX10_total (WS yX10_total cX10_total 1 (some .long)) { frames := 0, cells := 0, slots := 0, locals := 0 } G [.ref h_this] [(h_this, oX10 ad_this v_typed v_at v_isSo v_kept v_all v_sightAll v_aheadMany), ((ad_this 20), cJ G 3 a_weight)] [(h_this, oX10 ad_this v_typed v_at v_isSo v_kept v_all v_sightAll v_aheadMany), ((ad_this 20), cJ G 3 a_weight)] out := by
  refine startJ (cc := cX10_total) (maxL := 1) (by decide) rfl (Nat.le_of_ble_eq_true rfl) ?_
  intro p e s m args below meth c A Q hx hb hml hts hown hc hA hret ls H locs hl hW
  have hown : s.vm.findClass RX10 = some m.cls := hown
  have hg : ∀ w ∈ GOODS, w.before _ s = true := fun w h => hts w (List.mem_cons_of_mem _ h)
  have hl : lv_has ls 1 [(0, .ref h_this)] := hl
  rw [F_X10_total] at hF
  refine lv_aload_n hx hb dX10_total_0 rfl (lv_at hl 0 rfl) ?_
  refine va_get (D := G.1) (ci := 9) (v := .ref ((ad_this 20))) (C := RX10) (T := TX10) (N := 31) hx hb hg hu_X10 hown hc.1 hW.1 0 rfl rfl 20 (by decide) (hg _ wd_4_58) (fun _ h9 => h9) rfl dX10_total_1 ?_
  refine lv_iconst (v := 0) hx hb dX10_total_4 (by decide) ?_
  have b_5 : vp_in 0 3 := inb_vp (by decide)
  refine va_lald hx hb hc.1 hW.1 1 1 rfl rfl b_5 dX10_total_5 ?_
  refine lv_aload_n hx hb dX10_total_6 rfl (lv_at hl 0 rfl) ?_
  refine va_get (D := G.1) (ci := 9) (v := .ref ((ad_this 20))) (C := RX10) (T := TX10) (N := 31) hx hb hg hu_X10 hown hc.1 hW.1 0 rfl rfl 20 (by decide) (hg _ wd_4_58) (fun _ h9 => h9) rfl dX10_total_7 ?_
  refine lv_iconst (v := 1) hx hb dX10_total_10 (by decide) ?_
  have b_11 : vp_in 1 3 := inb_vp (by decide)
  refine va_lald hx hb hc.1 hW.1 1 1 rfl rfl b_11 dX10_total_11 ?_
  refine lv_ladd hx hb dX10_total_12 ?_
  refine lv_aload_n hx hb dX10_total_13 rfl (lv_at hl 0 rfl) ?_
  refine va_get (D := G.1) (ci := 9) (v := .ref ((ad_this 20))) (C := RX10) (T := TX10) (N := 31) hx hb hg hu_X10 hown hc.1 hW.1 0 rfl rfl 20 (by decide) (hg _ wd_4_58) (fun _ h9 => h9) rfl dX10_total_14 ?_
  refine lv_iconst (v := 2) hx hb dX10_total_17 (by decide) ?_
  have b_18 : vp_in 2 3 := inb_vp (by decide)
  refine va_lald hx hb hc.1 hW.1 1 1 rfl rfl b_18 dX10_total_18 ?_
  refine lv_ladd hx hb dX10_total_19 ?_
  obtain rfl := Option.some.inj hF
  exact hret _ _ _ _ hW dX10_total_20
theorem dX10_common_0 : decode cX10_common 0 = .ok (.lload_n 0, 1) := by decide +kernel
theorem dX10_common_1 : decode cX10_common 1 = .ok (.lstore 4, 2) := by decide +kernel
theorem dX10_common_3 : decode cX10_common 3 = .ok (.lload_n 2, 1) := by decide +kernel
theorem dX10_common_4 : decode cX10_common 4 = .ok (.lstore 6, 2) := by decide +kernel
theorem dX10_common_6 : decode cX10_common 6 = .ok (.lload 6, 2) := by decide +kernel
theorem dX10_common_8 : decode cX10_common 8 = .ok (.lconst 0, 1) := by decide +kernel
theorem dX10_common_9 : decode cX10_common 9 = .ok (.lcmp, 1) := by decide +kernel
theorem dX10_common_10 : decode cX10_common 10 = .ok (.ifCond .eq 21, 3) := by decide +kernel
theorem dX10_common_13 : decode cX10_common 13 = .ok (.lload 4, 2) := by decide +kernel
theorem dX10_common_15 : decode cX10_common 15 = .ok (.lload 6, 2) := by decide +kernel
theorem dX10_common_17 : decode cX10_common 17 = .ok (.lrem, 1) := by decide +kernel
theorem dX10_common_18 : decode cX10_common 18 = .ok (.lstore 8, 2) := by decide +kernel
theorem dX10_common_20 : decode cX10_common 20 = .ok (.lload 6, 2) := by decide +kernel
theorem dX10_common_22 : decode cX10_common 22 = .ok (.lstore 4, 2) := by decide +kernel
theorem dX10_common_24 : decode cX10_common 24 = .ok (.lload 8, 2) := by decide +kernel
theorem dX10_common_26 : decode cX10_common 26 = .ok (.lstore 6, 2) := by decide +kernel
theorem dX10_common_28 : decode cX10_common 28 = .ok (.goto (-22), 3) := by decide +kernel
theorem dX10_common_31 : decode cX10_common 31 = .ok (.lload 4, 2) := by decide +kernel
theorem dX10_common_33 : decode cX10_common 33 = .ok (.lreturn, 1) := by decide +kernel
def L_X10_common_6  : Nat → Int64 → Int64 → Option (Int64)
  | 0, _, _ => none
  | n + 1, x4_6, x6_6 => (if (lg_cmp x6_6 0) = 0 then some (x4_6) else (if x6_6 = 0 then none else L_X10_common_6 n x6_6 ((x4_6 - x4_6 / x6_6 * x6_6))))
def F_X10_common (x0 : Int64) (x2 : Int64) : Option (Int64) := L_X10_common_6 5000 x0 x2
theorem hdS_X10_common : yX10_common.cls ≠ "java/lang/invoke/MethodHandle" ∧ yX10_common.cls ≠ "java/lang/invoke/VarHandle" ∧ (parseMethodDescriptor yX10_common.desc).map (fun d => d.parameters.length) = some 2 := by decide +kernel
set_option maxHeartbeats 4000000 in
set_option maxRecDepth 100000 in
theorem c_X10_common (l : Launch) (G : GG) (x0 : Int64) (x2 : Int64) (out : Int64) (hF : F_X10_common x0 x2 = some out) : CtrJ l yX10_common (WS yX10_common cX10_common 10 (some .long)) { frames := 0, cells := 0, slots := 0, locals := 0 } G [.long x0, .long x2] [] [] out := by
  refine startJ (cc := cX10_common) (maxL := 10) (by decide) rfl (Nat.le_of_ble_eq_true rfl) ?_
  intro p e s m args below meth c A Q hx hb hml hts hown hc hA hret ls H locs hl hW
  have hown : s.vm.findClass RX10 = some m.cls := hown
  have hg : ∀ w ∈ GOODS, w.before _ s = true := fun w h => hts w (List.mem_cons_of_mem _ h)
  have hl : lv_has ls 10 [(0, .long x0), (2, .long x2)] := hl
  rw [F_X10_common] at hF
  refine lv_lload_n hx hb dX10_common_0 rfl (lv_at hl 0 rfl) ?_
  refine lv_lstore (lv' := [(4, .long x0), (0, .long x0), (2, .long x2)]) hx hb dX10_common_1 hl (by decide) rfl (fun ls hl => ?_)
  refine lv_lload_n hx hb dX10_common_3 rfl (lv_at hl 2 rfl) ?_
  refine lv_lstore (lv' := [(6, .long x2), (4, .long x0), (0, .long x0), (2, .long x2)]) hx hb dX10_common_4 hl (by decide) rfl (fun ls hl => ?_)
  have L_6 : ∀ (n : Nat) (x4_6 : Int64) (x6_6 : Int64) (ls : Array Slot) (H : Heap) (locs : List Loc), L_X10_common_6 n x4_6 x6_6 = some out → lv_has ls 10 [(4, .long x4_6), (6, .long x6_6)] → Wd G A s.heap [] H locs → W p l e ({ frames := 0, cells := 0, slots := 0, locals := 0 } : Room) s m args below meth c H locs 0 0 Q (F0 m 6 ls []) := by
    intro n
    induction n with
    | zero => intro x4_6 x6_6 ls H locs hF hl hW; have h0 : none = some out := hF; cases h0
    | succ n ih =>
      intro x4_6 x6_6 ls H locs hF hl hW
      rw [L_X10_common_6] at hF
      refine lv_lload hx hb dX10_common_6 (lv_at hl 1 rfl) ?_
      refine lv_lconst (v := 0) hx hb dX10_common_8 (by decide) ?_
      refine W.lcmp hx hb dX10_common_9 ?_
      refine lv_if_eq (tgt := 31) hx hb dX10_common_10 (by decide) (fun c_10 => ?_) (fun c_10 => ?_)
      · have hF := ite_t hF c_10
        refine lv_lload hx hb dX10_common_31 (lv_at hl 0 rfl) ?_
        obtain rfl := Option.some.inj hF
        exact hret _ _ _ _ hW dX10_common_33
      · have hF := ite_f hF c_10
        refine lv_lload hx hb dX10_common_13 (lv_at hl 0 rfl) ?_
        refine lv_lload hx hb dX10_common_15 (lv_at hl 1 rfl) ?_
        obtain ⟨z_17, hF⟩ := nzl_el hF
        refine lv_lrem hx hb dX10_common_17 z_17 ?_
        refine lv_lstore (lv' := [(8, .long ((x4_6 - x4_6 / x6_6 * x6_6))), (4, .long x4_6), (6, .long x6_6)]) hx hb dX10_common_18 hl (by decide) rfl (fun ls hl => ?_)
        refine lv_lload hx hb dX10_common_20 (lv_at hl 2 rfl) ?_
        refine lv_lstore (lv' := [(4, .long x6_6), (8, .long ((x4_6 - x4_6 / x6_6 * x6_6))), (6, .long x6_6)]) hx hb dX10_common_22 hl (by decide) rfl (fun ls hl => ?_)
        refine lv_lload hx hb dX10_common_24 (lv_at hl 1 rfl) ?_
        refine lv_lstore (lv' := [(6, .long ((x4_6 - x4_6 / x6_6 * x6_6))), (4, .long x6_6), (8, .long ((x4_6 - x4_6 / x6_6 * x6_6)))]) hx hb dX10_common_26 hl (by decide) rfl (fun ls hl => ?_)
        refine lv_goto (tgt := 6) hx hb dX10_common_28 (by decide) ?_
        exact ih x6_6 ((x4_6 - x4_6 / x6_6 * x6_6)) _ _ _ hF (lv_sub hl [1, 0] rfl) hW
  exact L_6 5000 x0 x2 _ _ _ hF (lv_sub hl [1, 0] rfl) hW
theorem dX10_readDiary_0 : decode cX10_readDiary 0 = .ok (.aload_n 0, 1) := by decide +kernel
theorem dX10_readDiary_1 : decode cX10_readDiary 1 = .ok (.getfield 59, 3) := by decide +kernel
theorem dX10_readDiary_4 : decode cX10_readDiary 4 = .ok (.iconst 0, 1) := by decide +kernel
theorem dX10_readDiary_5 : decode cX10_readDiary 5 = .ok (.lconst 1, 1) := by decide +kernel
theorem dX10_readDiary_6 : decode cX10_readDiary 6 = .ok (.lastore, 1) := by decide +kernel
theorem dX10_readDiary_7 : decode cX10_readDiary 7 = .ok (.aload_n 0, 1) := by decide +kernel
theorem dX10_readDiary_8 : decode cX10_readDiary 8 = .ok (.getfield 59, 3) := by decide +kernel
theorem dX10_readDiary_11 : decode cX10_readDiary 11 = .ok (.iconst 1, 1) := by decide +kernel
theorem dX10_readDiary_12 : decode cX10_readDiary 12 = .ok (.lconst 0, 1) := by decide +kernel
theorem dX10_readDiary_13 : decode cX10_readDiary 13 = .ok (.lastore, 1) := by decide +kernel
theorem dX10_readDiary_14 : decode cX10_readDiary 14 = .ok (.aload_n 0, 1) := by decide +kernel
theorem dX10_readDiary_15 : decode cX10_readDiary 15 = .ok (.getfield 59, 3) := by decide +kernel
theorem dX10_readDiary_18 : decode cX10_readDiary 18 = .ok (.iconst 2, 1) := by decide +kernel
theorem dX10_readDiary_19 : decode cX10_readDiary 19 = .ok (.lconst 0, 1) := by decide +kernel
theorem dX10_readDiary_20 : decode cX10_readDiary 20 = .ok (.lastore, 1) := by decide +kernel
theorem dX10_readDiary_21 : decode cX10_readDiary 21 = .ok (.iconst 0, 1) := by decide +kernel
theorem dX10_readDiary_22 : decode cX10_readDiary 22 = .ok (.istore_n 2, 1) := by decide +kernel
theorem dX10_readDiary_23 : decode cX10_readDiary 23 = .ok (.iload_n 2, 1) := by decide +kernel
theorem dX10_readDiary_24 : decode cX10_readDiary 24 = .ok (.aload_n 0, 1) := by decide +kernel
theorem dX10_readDiary_25 : decode cX10_readDiary 25 = .ok (.getfield 50, 3) := by decide +kernel
theorem dX10_readDiary_28 : decode cX10_readDiary 28 = .ok (.iconst 0, 1) := by decide +kernel
theorem dX10_readDiary_29 : decode cX10_readDiary 29 = .ok (.iaload, 1) := by decide +kernel
theorem dX10_readDiary_30 : decode cX10_readDiary 30 = .ok (.if_icmp .ge 34, 3) := by decide +kernel
theorem dX10_readDiary_33 : decode cX10_readDiary 33 = .ok (.aload_n 0, 1) := by decide +kernel
theorem dX10_readDiary_34 : decode cX10_readDiary 34 = .ok (.aload_n 0, 1) := by decide +kernel
theorem dX10_readDiary_35 : decode cX10_readDiary 35 = .ok (.getfield 56, 3) := by decide +kernel
theorem dX10_readDiary_38 : decode cX10_readDiary 38 = .ok (.iload_n 2, 1) := by decide +kernel
theorem dX10_readDiary_39 : decode cX10_readDiary 39 = .ok (.iaload, 1) := by decide +kernel
theorem dX10_readDiary_40 : decode cX10_readDiary 40 = .ok (.iload_n 2, 1) := by decide +kernel
theorem dX10_readDiary_41 : decode cX10_readDiary 41 = .ok (.iload_n 1, 1) := by decide +kernel
theorem dX10_readDiary_42 : decode cX10_readDiary 42 = .ok (.if_icmp .ne 7, 3) := by decide +kernel
theorem dX10_readDiary_45 : decode cX10_readDiary 45 = .ok (.iconst (-1), 1) := by decide +kernel
theorem dX10_readDiary_46 : decode cX10_readDiary 46 = .ok (.goto 9, 3) := by decide +kernel
theorem dX10_readDiary_49 : decode cX10_readDiary 49 = .ok (.aload_n 0, 1) := by decide +kernel
theorem dX10_readDiary_50 : decode cX10_readDiary 50 = .ok (.getfield 53, 3) := by decide +kernel
theorem dX10_readDiary_53 : decode cX10_readDiary 53 = .ok (.iload_n 2, 1) := by decide +kernel
theorem dX10_readDiary_54 : decode cX10_readDiary 54 = .ok (.iaload, 1) := by decide +kernel
theorem dX10_readDiary_55 : decode cX10_readDiary 55 = .ok (.invokevirtual 162, 3) := by decide +kernel
theorem dX10_readDiary_58 : decode cX10_readDiary 58 = .ok (.iinc 2 1, 3) := by decide +kernel
theorem dX10_readDiary_61 : decode cX10_readDiary 61 = .ok (.goto (-38), 3) := by decide +kernel
theorem dX10_readDiary_64 : decode cX10_readDiary 64 = .ok (.return_, 1) := by decide +kernel
def L_X10_readDiary_23 (x1 : Int32) (a_days : Nat → Int32) (a_goes : Nat → Int32) (a_noise : Nat → Int32) (a_seenSigns : Nat → Int32) (a_signs : Nat → Int32) (a_told : Nat → Int32) (a_wentOn : Nat → Int32) (a_works : Nat → Int32)  : Nat → Int32 → (Nat → Int64) → (Nat → Int64) → Option ((Nat → Int64) × (Nat → Int64))
  | 0, _, _, _ => none
  | n + 1, x2_23, a_then_23, a_weight_23 => (if (a_days (Int32.toNatClampNeg 0)) ≤ x2_23 then some (a_then_23, a_weight_23) else (if inb x2_23 15 = true then jn (fun (j0_55 : Int32) => (F_X10_goOn ((a_wentOn (Int32.toNatClampNeg x2_23))) j0_55 a_goes a_noise a_signs a_then_23 a_told a_weight_23 a_works).bind (fun q55 => L_X10_readDiary_23 x1 a_days a_goes a_noise a_seenSigns a_signs a_told a_wentOn a_works n ((x2_23 + 1)) q55.1 q55.2)) (fun k_55 => (if x2_23 = x1 then k_55 ((-1)) else (if inb x2_23 15 = true then k_55 ((a_seenSigns (Int32.toNatClampNeg x2_23))) else none))) else none))
def F_X10_readDiary (x1 : Int32) (a_days : Nat → Int32) (a_goes : Nat → Int32) (a_noise : Nat → Int32) (a_seenSigns : Nat → Int32) (a_signs : Nat → Int32) (a_then : Nat → Int64) (a_told : Nat → Int32) (a_weight : Nat → Int64) (a_wentOn : Nat → Int32) (a_works : Nat → Int32) : Option ((Nat → Int64) × (Nat → Int64)) := L_X10_readDiary_23 x1 a_days a_goes a_noise a_seenSigns a_signs a_told a_wentOn a_works 5000 0 a_then ((vp_updL ((vp_updL ((vp_updL a_weight (Int32.toNatClampNeg 0) 1)) (Int32.toNatClampNeg 1) 0)) (Int32.toNatClampNeg 2) 0))
theorem hdV_X10_readDiary : yX10_readDiary.cls = RX10 ∧ yX10_readDiary.cls ≠ "java/lang/invoke/MethodHandle" ∧ yX10_readDiary.cls ≠ "java/lang/invoke/VarHandle" ∧ (parseMethodDescriptor yX10_readDiary.desc).map (fun d => d.parameters.length) = some 1 := by decide +kernel
set_option maxHeartbeats 4000000 in
set_option maxRecDepth 100000 in
theorem c_X10_readDiary (l : Launch) (G : GG) (x1 : Int32) (h_this : Nat) (ad_this : Nat → Nat) (v_typed : Int32) (v_at : Int32) (v_isSo : Int32) (v_kept : Int32) (v_all : Int64) (v_sightAll : Int64) (v_aheadMany : Int32) (a_days : Nat → Int32) (a_goes : Nat → Int32) (a_noise : Nat → Int32) (a_seenSigns : Nat → Int32) (a_signs : Nat → Int32) (a_then : Nat → Int64) (a_told : Nat → Int32) (a_weight : Nat → Int64) (a_wentOn : Nat → Int32) (a_works : Nat → Int32) (out : (Nat → Int64) × (Nat → Int64)) (hF : F_X10_readDiary x1 a_days a_goes a_noise a_seenSigns a_signs a_then a_told a_weight a_wentOn a_works = some out) : CtrV l yX10_readDiary (WS yX10_readDiary cX10_readDiary 3 none) { frames := 3, cells := 0, slots := 0, locals := 75 } G [.ref h_this, .int x1] [(h_this, oX10 ad_this v_typed v_at v_isSo v_kept v_all v_sightAll v_aheadMany), ((ad_this 16), cI G 3 a_days), ((ad_this 2), cI G 6 a_goes), ((ad_this 11), cI G 10 a_noise), ((ad_this 17), cI G 15 a_seenSigns), ((ad_this 3), cI G 2 a_signs), ((ad_this 21), cJ G 3 a_then), ((ad_this 4), cI G 32 a_told), ((ad_this 20), cJ G 3 a_weight), ((ad_this 18), cI G 15 a_wentOn), ((ad_this 10), cI G 2 a_works)] [(h_this, oX10 ad_this v_typed v_at v_isSo v_kept v_all v_sightAll v_aheadMany), ((ad_this 16), cI G 3 a_days), ((ad_this 2), cI G 6 a_goes), ((ad_this 11), cI G 10 a_noise), ((ad_this 17), cI G 15 a_seenSigns), ((ad_this 3), cI G 2 a_signs), ((ad_this 21), cJ G 3 out.1), ((ad_this 4), cI G 32 a_told), ((ad_this 20), cJ G 3 out.2), ((ad_this 18), cI G 15 a_wentOn), ((ad_this 10), cI G 2 a_works)] := by
  refine startV (cc := cX10_readDiary) (maxL := 3) (by decide) rfl (Nat.le_of_ble_eq_true rfl) ?_
  intro p e s m args below meth c A Q hx hb hml hts hown hc hA hret ls H locs hl hW
  have hown : s.vm.findClass RX10 = some m.cls := hown
  have hg : ∀ w ∈ GOODS, w.before _ s = true := fun w h => hts w (List.mem_cons_of_mem _ h)
  have hl : lv_has ls 3 [(0, .ref h_this), (1, .int x1)] := hl
  rw [F_X10_readDiary] at hF
  refine lv_aload_n hx hb dX10_readDiary_0 rfl (lv_at hl 0 rfl) ?_
  refine va_get (D := G.1) (ci := 9) (v := .ref ((ad_this 20))) (C := RX10) (T := TX10) (N := 31) hx hb hg hu_X10 hown hc.1 hW.1 0 rfl rfl 20 (by decide) (hg _ wd_4_58) (fun _ h9 => h9) rfl dX10_readDiary_1 ?_
  refine lv_iconst (v := 0) hx hb dX10_readDiary_4 (by decide) ?_
  refine lv_lconst (v := 1) hx hb dX10_readDiary_5 (by decide) ?_
  have b_6 : vp_in 0 3 := inb_vp (by decide)
  refine va_last hx hb hc.1 hW.1 hW.2.1 hW.2.2 8 1 rfl rfl b_6 dX10_readDiary_6 (fun H locs hP hD hS => ?_)
  have hW : Wd G A s.heap [(h_this, oX10 ad_this v_typed v_at v_isSo v_kept v_all v_sightAll v_aheadMany), ((ad_this 16), cI G 3 a_days), ((ad_this 2), cI G 6 a_goes), ((ad_this 11), cI G 10 a_noise), ((ad_this 17), cI G 15 a_seenSigns), ((ad_this 3), cI G 2 a_signs), ((ad_this 21), cJ G 3 a_then), ((ad_this 4), cI G 32 a_told), ((ad_this 20), cJ G 3 ((vp_updL a_weight (Int32.toNatClampNeg 0) 1))), ((ad_this 18), cI G 15 a_wentOn), ((ad_this 10), cI G 2 a_works)] H locs := ⟨hP, hD, hS⟩
  refine lv_aload_n hx hb dX10_readDiary_7 rfl (lv_at hl 0 rfl) ?_
  refine va_get (D := G.1) (ci := 9) (v := .ref ((ad_this 20))) (C := RX10) (T := TX10) (N := 31) hx hb hg hu_X10 hown hc.1 hW.1 0 rfl rfl 20 (by decide) (hg _ wd_4_58) (fun _ h9 => h9) rfl dX10_readDiary_8 ?_
  refine lv_iconst (v := 1) hx hb dX10_readDiary_11 (by decide) ?_
  refine lv_lconst (v := 0) hx hb dX10_readDiary_12 (by decide) ?_
  have b_13 : vp_in 1 3 := inb_vp (by decide)
  refine va_last hx hb hc.1 hW.1 hW.2.1 hW.2.2 8 1 rfl rfl b_13 dX10_readDiary_13 (fun H locs hP hD hS => ?_)
  have hW : Wd G A s.heap [(h_this, oX10 ad_this v_typed v_at v_isSo v_kept v_all v_sightAll v_aheadMany), ((ad_this 16), cI G 3 a_days), ((ad_this 2), cI G 6 a_goes), ((ad_this 11), cI G 10 a_noise), ((ad_this 17), cI G 15 a_seenSigns), ((ad_this 3), cI G 2 a_signs), ((ad_this 21), cJ G 3 a_then), ((ad_this 4), cI G 32 a_told), ((ad_this 20), cJ G 3 ((vp_updL ((vp_updL a_weight (Int32.toNatClampNeg 0) 1)) (Int32.toNatClampNeg 1) 0))), ((ad_this 18), cI G 15 a_wentOn), ((ad_this 10), cI G 2 a_works)] H locs := ⟨hP, hD, hS⟩
  refine lv_aload_n hx hb dX10_readDiary_14 rfl (lv_at hl 0 rfl) ?_
  refine va_get (D := G.1) (ci := 9) (v := .ref ((ad_this 20))) (C := RX10) (T := TX10) (N := 31) hx hb hg hu_X10 hown hc.1 hW.1 0 rfl rfl 20 (by decide) (hg _ wd_4_58) (fun _ h9 => h9) rfl dX10_readDiary_15 ?_
  refine lv_iconst (v := 2) hx hb dX10_readDiary_18 (by decide) ?_
  refine lv_lconst (v := 0) hx hb dX10_readDiary_19 (by decide) ?_
  have b_20 : vp_in 2 3 := inb_vp (by decide)
  refine va_last hx hb hc.1 hW.1 hW.2.1 hW.2.2 8 1 rfl rfl b_20 dX10_readDiary_20 (fun H locs hP hD hS => ?_)
  have hW : Wd G A s.heap [(h_this, oX10 ad_this v_typed v_at v_isSo v_kept v_all v_sightAll v_aheadMany), ((ad_this 16), cI G 3 a_days), ((ad_this 2), cI G 6 a_goes), ((ad_this 11), cI G 10 a_noise), ((ad_this 17), cI G 15 a_seenSigns), ((ad_this 3), cI G 2 a_signs), ((ad_this 21), cJ G 3 a_then), ((ad_this 4), cI G 32 a_told), ((ad_this 20), cJ G 3 ((vp_updL ((vp_updL ((vp_updL a_weight (Int32.toNatClampNeg 0) 1)) (Int32.toNatClampNeg 1) 0)) (Int32.toNatClampNeg 2) 0))), ((ad_this 18), cI G 15 a_wentOn), ((ad_this 10), cI G 2 a_works)] H locs := ⟨hP, hD, hS⟩
  refine lv_iconst (v := 0) hx hb dX10_readDiary_21 (by decide) ?_
  refine lv_istore_n (lv' := [(2, .int 0), (0, .ref h_this), (1, .int x1)]) hx hb dX10_readDiary_22 rfl hl (by decide) rfl (fun ls hl => ?_)
  have L_23 : ∀ (n : Nat) (x2_23 : Int32) (a_then_23 : Nat → Int64) (a_weight_23 : Nat → Int64) (ls : Array Slot) (H : Heap) (locs : List Loc), L_X10_readDiary_23 x1 a_days a_goes a_noise a_seenSigns a_signs a_told a_wentOn a_works n x2_23 a_then_23 a_weight_23 = some out → lv_has ls 3 [(0, .ref h_this), (1, .int x1), (2, .int x2_23)] → Wd G A s.heap [(h_this, oX10 ad_this v_typed v_at v_isSo v_kept v_all v_sightAll v_aheadMany), ((ad_this 16), cI G 3 a_days), ((ad_this 2), cI G 6 a_goes), ((ad_this 11), cI G 10 a_noise), ((ad_this 17), cI G 15 a_seenSigns), ((ad_this 3), cI G 2 a_signs), ((ad_this 21), cJ G 3 a_then_23), ((ad_this 4), cI G 32 a_told), ((ad_this 20), cJ G 3 a_weight_23), ((ad_this 18), cI G 15 a_wentOn), ((ad_this 10), cI G 2 a_works)] H locs → W p l e ({ frames := 3, cells := 0, slots := 0, locals := 75 } : Room) s m args below meth c H locs 0 0 Q (F0 m 23 ls []) := by
    intro n
    induction n with
    | zero => intro x2_23 a_then_23 a_weight_23 ls H locs hF hl hW; have h0 : none = some out := hF; cases h0
    | succ n ih =>
      intro x2_23 a_then_23 a_weight_23 ls H locs hF hl hW
      rw [L_X10_readDiary_23] at hF
      refine lv_iload_n hx hb dX10_readDiary_23 rfl (lv_at hl 2 rfl) ?_
      refine lv_aload_n hx hb dX10_readDiary_24 rfl (lv_at hl 0 rfl) ?_
      refine va_get (D := G.1) (ci := 9) (v := .ref ((ad_this 16))) (C := RX10) (T := TX10) (N := 31) hx hb hg hu_X10 hown hc.1 hW.1 0 rfl rfl 16 (by decide) (hg _ wd_4_54) (fun _ h9 => h9) rfl dX10_readDiary_25 ?_
      refine lv_iconst (v := 0) hx hb dX10_readDiary_28 (by decide) ?_
      have b_29 : vp_in 0 3 := inb_vp (by decide)
      refine va_iald hx hb hc.1 hW.1 1 0 rfl rfl b_29 dX10_readDiary_29 ?_
      refine lv_icmp_ge (tgt := 64) hx hb dX10_readDiary_30 (by decide) (fun c_30 => ?_) (fun c_30 => ?_)
      · have hF := ite_t hF c_30
        obtain rfl := Option.some.inj hF
        exact hret _ _ _ _ hW dX10_readDiary_64
      · have hF := ite_f hF c_30
        refine lv_aload_n hx hb dX10_readDiary_33 rfl (lv_at hl 0 rfl) ?_
        refine lv_aload_n hx hb dX10_readDiary_34 rfl (lv_at hl 0 rfl) ?_
        refine va_get (D := G.1) (ci := 9) (v := .ref ((ad_this 18))) (C := RX10) (T := TX10) (N := 31) hx hb hg hu_X10 hown hc.1 hW.1 0 rfl rfl 18 (by decide) (hg _ wd_4_56) (fun _ h9 => h9) rfl dX10_readDiary_35 ?_
        refine lv_iload_n hx hb dX10_readDiary_38 rfl (lv_at hl 2 rfl) ?_
        obtain ⟨b_39, hF⟩ := inb_el hF
        refine va_iald hx hb hc.1 hW.1 9 0 rfl rfl b_39 dX10_readDiary_39 ?_
        refine lv_iload_n hx hb dX10_readDiary_40 rfl (lv_at hl 2 rfl) ?_
        refine lv_iload_n hx hb dX10_readDiary_41 rfl (lv_at hl 1 rfl) ?_
        obtain ⟨k_55, e_55, hF⟩ := jn_el hF
        have J_55 : ∀ (j0_55 : Int32) (ls : Array Slot) (H : Heap) (locs : List Loc), k_55 j0_55 = some out → lv_has ls 3 [(0, .ref h_this), (1, .int x1), (2, .int x2_23)] → Wd G A s.heap [(h_this, oX10 ad_this v_typed v_at v_isSo v_kept v_all v_sightAll v_aheadMany), ((ad_this 16), cI G 3 a_days), ((ad_this 2), cI G 6 a_goes), ((ad_this 11), cI G 10 a_noise), ((ad_this 17), cI G 15 a_seenSigns), ((ad_this 3), cI G 2 a_signs), ((ad_this 21), cJ G 3 a_then_23), ((ad_this 4), cI G 32 a_told), ((ad_this 20), cJ G 3 a_weight_23), ((ad_this 18), cI G 15 a_wentOn), ((ad_this 10), cI G 2 a_works)] H locs → W p l e ({ frames := 3, cells := 0, slots := 0, locals := 75 } : Room) s m args below meth c H locs 0 0 Q (F0 m 55 ls [.int j0_55, .int ((a_wentOn (Int32.toNatClampNeg x2_23))), .ref h_this]) := by
          intro j0_55 ls H locs hF hl hW
          rw [e_55] at hF
          dsimp only at hF
          obtain ⟨q55, c_55, hF⟩ := bd_el hF
          refine wcV (ws' := [(h_this, oX10 ad_this v_typed v_at v_isSo v_kept v_all v_sightAll v_aheadMany), ((ad_this 16), cI G 3 a_days), ((ad_this 2), cI G 6 a_goes), ((ad_this 11), cI G 10 a_noise), ((ad_this 17), cI G 15 a_seenSigns), ((ad_this 3), cI G 2 a_signs), ((ad_this 21), cJ G 3 q55.1), ((ad_this 4), cI G 32 a_told), ((ad_this 20), cJ G 3 q55.2), ((ad_this 18), cI G 15 a_wentOn), ((ad_this 10), cI G 2 a_works)]) (wc := [(h_this, oX10 ad_this v_typed v_at v_isSo v_kept v_all v_sightAll v_aheadMany), ((ad_this 2), cI G 6 a_goes), ((ad_this 11), cI G 10 a_noise), ((ad_this 3), cI G 2 a_signs), ((ad_this 21), cJ G 3 a_then_23), ((ad_this 4), cI G 32 a_told), ((ad_this 20), cJ G 3 a_weight_23), ((ad_this 10), cI G 2 a_works)]) (wr := [((ad_this 16), cI G 3 a_days), ((ad_this 17), cI G 15 a_seenSigns), ((ad_this 18), cI G 15 a_wentOn)]) (w1 := [(h_this, oX10 ad_this v_typed v_at v_isSo v_kept v_all v_sightAll v_aheadMany), ((ad_this 2), cI G 6 a_goes), ((ad_this 11), cI G 10 a_noise), ((ad_this 3), cI G 2 a_signs), ((ad_this 21), cJ G 3 q55.1), ((ad_this 4), cI G 32 a_told), ((ad_this 20), cJ G 3 q55.2), ((ad_this 10), cI G 2 a_works)]) (va_runV (As := [.int ((a_wentOn (Int32.toNatClampNeg x2_23))), .int j0_55]) (rest := []) ⟨hx, hb, hml, hown, hg⟩ (c_X10_goOn l G ((a_wentOn (Int32.toNatClampNeg x2_23))) j0_55 h_this ad_this v_typed v_at v_isSo v_kept v_all v_sightAll v_aheadMany a_goes a_noise a_signs a_then_23 a_told a_weight_23 a_works q55 c_55 H.size) (cwV 2 hg (gV wd_4_213 wd_4_215 wd_0_36 wd_1_15 wd_4_216) rfl rfl rfl hdV_X10_goOn ⟨(Nat.le_of_ble_eq_true rfl), (Nat.le_of_ble_eq_true rfl)⟩) (preV hc hW [0, 2, 3, 5, 6, 7, 8, 10] rfl (by decide) rfl rfl) rfl rfl hl.1 rfl (lv_room (Nat.le_of_ble_eq_true rfl)) dX10_readDiary_55 ⟨Nat.zero_le _, Nat.zero_le _⟩) hA hW [0, 2, 3, 5, 6, 7, 8, 10] [1, 4, 9] [3, 0, 4, 5, 1, 6, 7, 8, 9, 2, 10] rfl rfl (by decide) (by decide) rfl (by decide) (fun H locs hW => ?_)
          refine lv_iinc (v := (x2_23 + 1)) (lv' := [(2, .int ((x2_23 + 1))), (0, .ref h_this), (1, .int x1)]) hx hb dX10_readDiary_58 hl (k := 2) rfl rfl (by decide) rfl (fun ls hl => ?_)
          refine lv_goto (tgt := 23) hx hb dX10_readDiary_61 (by decide) ?_
          exact ih ((x2_23 + 1)) q55.1 q55.2 _ _ _ hF (lv_sub hl [1, 2, 0] rfl) hW
        refine lv_icmp_ne (tgt := 49) hx hb dX10_readDiary_42 (by decide) (fun c_42 => ?_) (fun c_42 => ?_)
        · have hF := ite_f hF c_42
          refine lv_aload_n hx hb dX10_readDiary_49 rfl (lv_at hl 0 rfl) ?_
          refine va_get (D := G.1) (ci := 9) (v := .ref ((ad_this 17))) (C := RX10) (T := TX10) (N := 31) hx hb hg hu_X10 hown hc.1 hW.1 0 rfl rfl 17 (by decide) (hg _ wd_4_55) (fun _ h9 => h9) rfl dX10_readDiary_50 ?_
          refine lv_iload_n hx hb dX10_readDiary_53 rfl (lv_at hl 2 rfl) ?_
          obtain ⟨b_54, hF⟩ := inb_el hF
          refine va_iald hx hb hc.1 hW.1 4 0 rfl rfl b_54 dX10_readDiary_54 ?_
          exact J_55 ((a_seenSigns (Int32.toNatClampNeg x2_23))) _ _ _ hF (lv_sub hl [0, 1, 2] rfl) hW
        · have hF := ite_t hF c_42
          refine lv_iconst (v := (-1)) hx hb dX10_readDiary_45 (by decide) ?_
          refine lv_goto (tgt := 55) hx hb dX10_readDiary_46 (by decide) ?_
          exact J_55 ((-1)) _ _ _ hF (lv_sub hl [0, 1, 2] rfl) hW
  exact L_23 5000 0 a_then ((vp_updL ((vp_updL ((vp_updL a_weight (Int32.toNatClampNeg 0) 1)) (Int32.toNatClampNeg 1) 0)) (Int32.toNatClampNeg 2) 0)) _ _ _ hF (lv_sub hl [1, 2, 0] rfl) hW
theorem dX10_find_0 : decode cX10_find 0 = .ok (.aload_n 0, 1) := by decide +kernel
theorem dX10_find_1 : decode cX10_find 1 = .ok (.bipush (-4), 2) := by decide +kernel
theorem dX10_find_3 : decode cX10_find 3 = .ok (.invokevirtual 166, 3) := by decide +kernel
theorem dX10_find_6 : decode cX10_find 6 = .ok (.aload_n 0, 1) := by decide +kernel
theorem dX10_find_7 : decode cX10_find 7 = .ok (.getfield 59, 3) := by decide +kernel
theorem dX10_find_10 : decode cX10_find 10 = .ok (.iconst 0, 1) := by decide +kernel
theorem dX10_find_11 : decode cX10_find 11 = .ok (.laload, 1) := by decide +kernel
theorem dX10_find_12 : decode cX10_find 12 = .ok (.aload_n 0, 1) := by decide +kernel
theorem dX10_find_13 : decode cX10_find 13 = .ok (.getfield 59, 3) := by decide +kernel
theorem dX10_find_16 : decode cX10_find 16 = .ok (.iconst 1, 1) := by decide +kernel
theorem dX10_find_17 : decode cX10_find 17 = .ok (.laload, 1) := by decide +kernel
theorem dX10_find_18 : decode cX10_find 18 = .ok (.invokestatic 170, 3) := by decide +kernel
theorem dX10_find_21 : decode cX10_find 21 = .ok (.aload_n 0, 1) := by decide +kernel
theorem dX10_find_22 : decode cX10_find 22 = .ok (.getfield 59, 3) := by decide +kernel
theorem dX10_find_25 : decode cX10_find 25 = .ok (.iconst 2, 1) := by decide +kernel
theorem dX10_find_26 : decode cX10_find 26 = .ok (.laload, 1) := by decide +kernel
theorem dX10_find_27 : decode cX10_find 27 = .ok (.invokestatic 170, 3) := by decide +kernel
theorem dX10_find_30 : decode cX10_find 30 = .ok (.lstore_n 1, 1) := by decide +kernel
theorem dX10_find_31 : decode cX10_find 31 = .ok (.iconst 0, 1) := by decide +kernel
theorem dX10_find_32 : decode cX10_find 32 = .ok (.istore_n 3, 1) := by decide +kernel
theorem dX10_find_33 : decode cX10_find 33 = .ok (.iload_n 3, 1) := by decide +kernel
theorem dX10_find_34 : decode cX10_find 34 = .ok (.iconst 3, 1) := by decide +kernel
theorem dX10_find_35 : decode cX10_find 35 = .ok (.if_icmp .ge 25, 3) := by decide +kernel
theorem dX10_find_38 : decode cX10_find 38 = .ok (.lload_n 1, 1) := by decide +kernel
theorem dX10_find_39 : decode cX10_find 39 = .ok (.lconst 0, 1) := by decide +kernel
theorem dX10_find_40 : decode cX10_find 40 = .ok (.lcmp, 1) := by decide +kernel
theorem dX10_find_41 : decode cX10_find 41 = .ok (.ifCond .le 19, 3) := by decide +kernel
theorem dX10_find_44 : decode cX10_find 44 = .ok (.aload_n 0, 1) := by decide +kernel
theorem dX10_find_45 : decode cX10_find 45 = .ok (.getfield 59, 3) := by decide +kernel
theorem dX10_find_48 : decode cX10_find 48 = .ok (.iload_n 3, 1) := by decide +kernel
theorem dX10_find_49 : decode cX10_find 49 = .ok (.dup2, 1) := by decide +kernel
theorem dX10_find_50 : decode cX10_find 50 = .ok (.laload, 1) := by decide +kernel
theorem dX10_find_51 : decode cX10_find 51 = .ok (.lload_n 1, 1) := by decide +kernel
theorem dX10_find_52 : decode cX10_find 52 = .ok (.ldiv, 1) := by decide +kernel
theorem dX10_find_53 : decode cX10_find 53 = .ok (.lastore, 1) := by decide +kernel
theorem dX10_find_54 : decode cX10_find 54 = .ok (.iinc 3 1, 3) := by decide +kernel
theorem dX10_find_57 : decode cX10_find 57 = .ok (.goto (-24), 3) := by decide +kernel
theorem dX10_find_60 : decode cX10_find 60 = .ok (.lload_n 1, 1) := by decide +kernel
theorem dX10_find_61 : decode cX10_find 61 = .ok (.lconst 0, 1) := by decide +kernel
theorem dX10_find_62 : decode cX10_find 62 = .ok (.lcmp, 1) := by decide +kernel
theorem dX10_find_63 : decode cX10_find 63 = .ok (.ifCond .le 7, 3) := by decide +kernel
theorem dX10_find_66 : decode cX10_find 66 = .ok (.iconst 1, 1) := by decide +kernel
theorem dX10_find_67 : decode cX10_find 67 = .ok (.goto 4, 3) := by decide +kernel
theorem dX10_find_70 : decode cX10_find 70 = .ok (.iconst 0, 1) := by decide +kernel
theorem dX10_find_71 : decode cX10_find 71 = .ok (.ireturn, 1) := by decide +kernel
def L_X10_find_33 (q27 : Int64) (k_60 : (Nat → Int64) → Option (Int32 × (Nat → Int64) × (Nat → Int64))) : Nat → Int32 → (Nat → Int64) → Option (Int32 × (Nat → Int64) × (Nat → Int64))
  | 0, _, _ => none
  | n + 1, x3_33, a_weight_33 => (if 3 ≤ x3_33 then k_60 a_weight_33 else (if (lg_cmp q27 0) ≤ 0 then k_60 a_weight_33 else (if inb x3_33 3 = true then (if q27 = 0 then none else (if inb x3_33 3 = true then L_X10_find_33 q27 k_60 n ((x3_33 + 1)) ((vp_updL a_weight_33 (Int32.toNatClampNeg x3_33) (((a_weight_33 (Int32.toNatClampNeg x3_33)) / q27)))) else none)) else none)))
def F_X10_find (a_days : Nat → Int32) (a_goes : Nat → Int32) (a_noise : Nat → Int32) (a_seenSigns : Nat → Int32) (a_signs : Nat → Int32) (a_then : Nat → Int64) (a_told : Nat → Int32) (a_weight : Nat → Int64) (a_wentOn : Nat → Int32) (a_works : Nat → Int32) : Option (Int32 × (Nat → Int64) × (Nat → Int64)) := (F_X10_readDiary ((-4)) a_days a_goes a_noise a_seenSigns a_signs a_then a_told a_weight a_wentOn a_works).bind (fun q3 => (F_X10_common ((q3.2 (Int32.toNatClampNeg 0))) ((q3.2 (Int32.toNatClampNeg 1)))).bind (fun q18 => (F_X10_common q18 ((q3.2 (Int32.toNatClampNeg 2)))).bind (fun q27 => jn (fun (a_weight_60 : Nat → Int64) => (if (lg_cmp q27 0) ≤ 0 then some (0, q3.1, a_weight_60) else some (1, q3.1, a_weight_60))) (fun k_60 => L_X10_find_33 q27 k_60 5000 0 q3.2))))
theorem hdV_X10_find : yX10_find.cls = RX10 ∧ yX10_find.cls ≠ "java/lang/invoke/MethodHandle" ∧ yX10_find.cls ≠ "java/lang/invoke/VarHandle" ∧ (parseMethodDescriptor yX10_find.desc).map (fun d => d.parameters.length) = some 0 := by decide +kernel
set_option maxHeartbeats 4000000 in
set_option maxRecDepth 100000 in
theorem c_X10_find (l : Launch) (G : GG) (h_this : Nat) (ad_this : Nat → Nat) (v_typed : Int32) (v_at : Int32) (v_isSo : Int32) (v_kept : Int32) (v_all : Int64) (v_sightAll : Int64) (v_aheadMany : Int32) (a_days : Nat → Int32) (a_goes : Nat → Int32) (a_noise : Nat → Int32) (a_seenSigns : Nat → Int32) (a_signs : Nat → Int32) (a_then : Nat → Int64) (a_told : Nat → Int32) (a_weight : Nat → Int64) (a_wentOn : Nat → Int32) (a_works : Nat → Int32) (out : Int32 × (Nat → Int64) × (Nat → Int64)) (hF : F_X10_find a_days a_goes a_noise a_seenSigns a_signs a_then a_told a_weight a_wentOn a_works = some out) : CtrZ l yX10_find (WS yX10_find cX10_find 4 (some .boolean)) { frames := 4, cells := 0, slots := 0, locals := 97 } G [.ref h_this] [(h_this, oX10 ad_this v_typed v_at v_isSo v_kept v_all v_sightAll v_aheadMany), ((ad_this 16), cI G 3 a_days), ((ad_this 2), cI G 6 a_goes), ((ad_this 11), cI G 10 a_noise), ((ad_this 17), cI G 15 a_seenSigns), ((ad_this 3), cI G 2 a_signs), ((ad_this 21), cJ G 3 a_then), ((ad_this 4), cI G 32 a_told), ((ad_this 20), cJ G 3 a_weight), ((ad_this 18), cI G 15 a_wentOn), ((ad_this 10), cI G 2 a_works)] [(h_this, oX10 ad_this v_typed v_at v_isSo v_kept v_all v_sightAll v_aheadMany), ((ad_this 16), cI G 3 a_days), ((ad_this 2), cI G 6 a_goes), ((ad_this 11), cI G 10 a_noise), ((ad_this 17), cI G 15 a_seenSigns), ((ad_this 3), cI G 2 a_signs), ((ad_this 21), cJ G 3 out.2.1), ((ad_this 4), cI G 32 a_told), ((ad_this 20), cJ G 3 out.2.2), ((ad_this 18), cI G 15 a_wentOn), ((ad_this 10), cI G 2 a_works)] out.1 := by
  refine startZ (cc := cX10_find) (maxL := 4) (by decide) rfl (Nat.le_of_ble_eq_true rfl) ?_
  intro p e s m args below meth c A Q hx hb hml hts hown hc hA hret ls H locs hl hW
  have hown : s.vm.findClass RX10 = some m.cls := hown
  have hg : ∀ w ∈ GOODS, w.before _ s = true := fun w h => hts w (List.mem_cons_of_mem _ h)
  have hl : lv_has ls 4 [(0, .ref h_this)] := hl
  rw [F_X10_find] at hF
  refine lv_aload_n hx hb dX10_find_0 rfl (lv_at hl 0 rfl) ?_
  refine lv_bipush (v := (-4)) hx hb dX10_find_1 (by decide) ?_
  obtain ⟨q3, c_3, hF⟩ := bd_el hF
  refine wcV (ws' := [(h_this, oX10 ad_this v_typed v_at v_isSo v_kept v_all v_sightAll v_aheadMany), ((ad_this 16), cI G 3 a_days), ((ad_this 2), cI G 6 a_goes), ((ad_this 11), cI G 10 a_noise), ((ad_this 17), cI G 15 a_seenSigns), ((ad_this 3), cI G 2 a_signs), ((ad_this 21), cJ G 3 q3.1), ((ad_this 4), cI G 32 a_told), ((ad_this 20), cJ G 3 q3.2), ((ad_this 18), cI G 15 a_wentOn), ((ad_this 10), cI G 2 a_works)]) (wc := [(h_this, oX10 ad_this v_typed v_at v_isSo v_kept v_all v_sightAll v_aheadMany), ((ad_this 16), cI G 3 a_days), ((ad_this 2), cI G 6 a_goes), ((ad_this 11), cI G 10 a_noise), ((ad_this 17), cI G 15 a_seenSigns), ((ad_this 3), cI G 2 a_signs), ((ad_this 21), cJ G 3 a_then), ((ad_this 4), cI G 32 a_told), ((ad_this 20), cJ G 3 a_weight), ((ad_this 18), cI G 15 a_wentOn), ((ad_this 10), cI G 2 a_works)]) (wr := []) (w1 := [(h_this, oX10 ad_this v_typed v_at v_isSo v_kept v_all v_sightAll v_aheadMany), ((ad_this 16), cI G 3 a_days), ((ad_this 2), cI G 6 a_goes), ((ad_this 11), cI G 10 a_noise), ((ad_this 17), cI G 15 a_seenSigns), ((ad_this 3), cI G 2 a_signs), ((ad_this 21), cJ G 3 q3.1), ((ad_this 4), cI G 32 a_told), ((ad_this 20), cJ G 3 q3.2), ((ad_this 18), cI G 15 a_wentOn), ((ad_this 10), cI G 2 a_works)]) (va_runV (As := [.int ((-4))]) (rest := []) ⟨hx, hb, hml, hown, hg⟩ (c_X10_readDiary l G ((-4)) h_this ad_this v_typed v_at v_isSo v_kept v_all v_sightAll v_aheadMany a_days a_goes a_noise a_seenSigns a_signs a_then a_told a_weight a_wentOn a_works q3 c_3 H.size) (cwV 1 hg (gV wd_4_209 wd_4_211 wd_0_35 wd_1_15 wd_4_212) rfl rfl rfl hdV_X10_readDiary ⟨(Nat.le_of_ble_eq_true rfl), (Nat.le_of_ble_eq_true rfl)⟩) (preV hc hW [0, 1, 2, 3, 4, 5, 6, 7, 8, 9, 10] rfl (by decide) rfl rfl) rfl rfl hl.1 rfl (lv_room (Nat.le_of_ble_eq_true rfl)) dX10_find_3 ⟨Nat.zero_le _, Nat.zero_le _⟩) hA hW [0, 1, 2, 3, 4, 5, 6, 7, 8, 9, 10] [] [0, 1, 2, 3, 4, 5, 6, 7, 8, 9, 10] rfl rfl (by decide) (by decide) rfl (by decide) (fun H locs hW => ?_)
  refine lv_aload_n hx hb dX10_find_6 rfl (lv_at hl 0 rfl) ?_
  refine va_get (D := G.1) (ci := 9) (v := .ref ((ad_this 20))) (C := RX10) (T := TX10) (N := 31) hx hb hg hu_X10 hown hc.1 hW.1 0 rfl rfl 20 (by decide) (hg _ wd_4_58) (fun _ h9 => h9) rfl dX10_find_7 ?_
  refine lv_iconst (v := 0) hx hb dX10_find_10 (by decide) ?_
  have b_11 : vp_in 0 3 := inb_vp (by decide)
  refine va_lald hx hb hc.1 hW.1 8 1 rfl rfl b_11 dX10_find_11 ?_
  refine lv_aload_n hx hb dX10_find_12 rfl (lv_at hl 0 rfl) ?_
  refine va_get (D := G.1) (ci := 9) (v := .ref ((ad_this 20))) (C := RX10) (T := TX10) (N := 31) hx hb hg hu_X10 hown hc.1 hW.1 0 rfl rfl 20 (by decide) (hg _ wd_4_58) (fun _ h9 => h9) rfl dX10_find_13 ?_
  refine lv_iconst (v := 1) hx hb dX10_find_16 (by decide) ?_
  have b_17 : vp_in 1 3 := inb_vp (by decide)
  refine va_lald hx hb hc.1 hW.1 8 1 rfl rfl b_17 dX10_find_17 ?_
  obtain ⟨q18, c_18, hF⟩ := bd_el hF
  refine wcJ (ws' := [(h_this, oX10 ad_this v_typed v_at v_isSo v_kept v_all v_sightAll v_aheadMany), ((ad_this 16), cI G 3 a_days), ((ad_this 2), cI G 6 a_goes), ((ad_this 11), cI G 10 a_noise), ((ad_this 17), cI G 15 a_seenSigns), ((ad_this 3), cI G 2 a_signs), ((ad_this 21), cJ G 3 q3.1), ((ad_this 4), cI G 32 a_told), ((ad_this 20), cJ G 3 q3.2), ((ad_this 18), cI G 15 a_wentOn), ((ad_this 10), cI G 2 a_works)]) (wc := []) (wr := [(h_this, oX10 ad_this v_typed v_at v_isSo v_kept v_all v_sightAll v_aheadMany), ((ad_this 16), cI G 3 a_days), ((ad_this 2), cI G 6 a_goes), ((ad_this 11), cI G 10 a_noise), ((ad_this 17), cI G 15 a_seenSigns), ((ad_this 3), cI G 2 a_signs), ((ad_this 21), cJ G 3 q3.1), ((ad_this 4), cI G 32 a_told), ((ad_this 20), cJ G 3 q3.2), ((ad_this 18), cI G 15 a_wentOn), ((ad_this 10), cI G 2 a_works)]) (w1 := []) (va_runS (As := [.long ((q3.2 (Int32.toNatClampNeg 0))), .long ((q3.2 (Int32.toNatClampNeg 1)))]) (rest := []) ⟨hx, hb, hml, hown, hg⟩ (c_X10_common l G ((q3.2 (Int32.toNatClampNeg 0))) ((q3.2 (Int32.toNatClampNeg 1))) q18 c_18 H.size) (va_cwS 2 hg (gS wd_4_233 wd_4_234 wd_1_15 wd_4_235) rfl rfl rfl hdS_X10_common ⟨(Nat.le_of_ble_eq_true rfl), (Nat.le_of_ble_eq_true rfl)⟩) (preS hc hW [] rfl (by decide)) rfl rfl hl.1 rfl (lv_room (Nat.le_of_ble_eq_true rfl)) dX10_find_18 ⟨Nat.zero_le _, Nat.zero_le _⟩) hA hW [] [0, 1, 2, 3, 4, 5, 6, 7, 8, 9, 10] [0, 1, 2, 3, 4, 5, 6, 7, 8, 9, 10] rfl rfl (by decide) (by decide) rfl (by decide) (fun H locs hW => ?_)
  refine lv_aload_n hx hb dX10_find_21 rfl (lv_at hl 0 rfl) ?_
  refine va_get (D := G.1) (ci := 9) (v := .ref ((ad_this 20))) (C := RX10) (T := TX10) (N := 31) hx hb hg hu_X10 hown hc.1 hW.1 0 rfl rfl 20 (by decide) (hg _ wd_4_58) (fun _ h9 => h9) rfl dX10_find_22 ?_
  refine lv_iconst (v := 2) hx hb dX10_find_25 (by decide) ?_
  have b_26 : vp_in 2 3 := inb_vp (by decide)
  refine va_lald hx hb hc.1 hW.1 8 1 rfl rfl b_26 dX10_find_26 ?_
  obtain ⟨q27, c_27, hF⟩ := bd_el hF
  refine wcJ (ws' := [(h_this, oX10 ad_this v_typed v_at v_isSo v_kept v_all v_sightAll v_aheadMany), ((ad_this 16), cI G 3 a_days), ((ad_this 2), cI G 6 a_goes), ((ad_this 11), cI G 10 a_noise), ((ad_this 17), cI G 15 a_seenSigns), ((ad_this 3), cI G 2 a_signs), ((ad_this 21), cJ G 3 q3.1), ((ad_this 4), cI G 32 a_told), ((ad_this 20), cJ G 3 q3.2), ((ad_this 18), cI G 15 a_wentOn), ((ad_this 10), cI G 2 a_works)]) (wc := []) (wr := [(h_this, oX10 ad_this v_typed v_at v_isSo v_kept v_all v_sightAll v_aheadMany), ((ad_this 16), cI G 3 a_days), ((ad_this 2), cI G 6 a_goes), ((ad_this 11), cI G 10 a_noise), ((ad_this 17), cI G 15 a_seenSigns), ((ad_this 3), cI G 2 a_signs), ((ad_this 21), cJ G 3 q3.1), ((ad_this 4), cI G 32 a_told), ((ad_this 20), cJ G 3 q3.2), ((ad_this 18), cI G 15 a_wentOn), ((ad_this 10), cI G 2 a_works)]) (w1 := []) (va_runS (As := [.long q18, .long ((q3.2 (Int32.toNatClampNeg 2)))]) (rest := []) ⟨hx, hb, hml, hown, hg⟩ (c_X10_common l G q18 ((q3.2 (Int32.toNatClampNeg 2))) q27 c_27 H.size) (va_cwS 2 hg (gS wd_4_233 wd_4_234 wd_1_15 wd_4_235) rfl rfl rfl hdS_X10_common ⟨(Nat.le_of_ble_eq_true rfl), (Nat.le_of_ble_eq_true rfl)⟩) (preS hc hW [] rfl (by decide)) rfl rfl hl.1 rfl (lv_room (Nat.le_of_ble_eq_true rfl)) dX10_find_27 ⟨Nat.zero_le _, Nat.zero_le _⟩) hA hW [] [0, 1, 2, 3, 4, 5, 6, 7, 8, 9, 10] [0, 1, 2, 3, 4, 5, 6, 7, 8, 9, 10] rfl rfl (by decide) (by decide) rfl (by decide) (fun H locs hW => ?_)
  refine lv_lstore_n (lv' := [(1, .long q27), (0, .ref h_this)]) hx hb dX10_find_30 rfl hl (by decide) rfl (fun ls hl => ?_)
  refine lv_iconst (v := 0) hx hb dX10_find_31 (by decide) ?_
  refine lv_istore_n (lv' := [(3, .int 0), (1, .long q27), (0, .ref h_this)]) hx hb dX10_find_32 rfl hl (by decide) rfl (fun ls hl => ?_)
  obtain ⟨k_60, e_60, hF⟩ := jn_el hF
  have J_60 : ∀ (a_weight_60 : Nat → Int64) (ls : Array Slot) (H : Heap) (locs : List Loc), k_60 a_weight_60 = some out → lv_has ls 4 [(1, .long q27)] → Wd G A s.heap [(h_this, oX10 ad_this v_typed v_at v_isSo v_kept v_all v_sightAll v_aheadMany), ((ad_this 16), cI G 3 a_days), ((ad_this 2), cI G 6 a_goes), ((ad_this 11), cI G 10 a_noise), ((ad_this 17), cI G 15 a_seenSigns), ((ad_this 3), cI G 2 a_signs), ((ad_this 21), cJ G 3 q3.1), ((ad_this 4), cI G 32 a_told), ((ad_this 20), cJ G 3 a_weight_60), ((ad_this 18), cI G 15 a_wentOn), ((ad_this 10), cI G 2 a_works)] H locs → W p l e ({ frames := 4, cells := 0, slots := 0, locals := 97 } : Room) s m args below meth c H locs 0 0 Q (F0 m 60 ls []) := by
    intro a_weight_60 ls H locs hF hl hW
    rw [e_60] at hF
    dsimp only at hF
    refine lv_lload_n hx hb dX10_find_60 rfl (lv_at hl 0 rfl) ?_
    refine lv_lconst (v := 0) hx hb dX10_find_61 (by decide) ?_
    refine W.lcmp hx hb dX10_find_62 ?_
    refine lv_if_le (tgt := 70) hx hb dX10_find_63 (by decide) (fun c_63 => ?_) (fun c_63 => ?_)
    · have hF := ite_t hF c_63
      refine lv_iconst (v := 0) hx hb dX10_find_70 (by decide) ?_
      obtain rfl := Option.some.inj hF
      exact hret _ _ _ _ hW (Or.inl rfl) dX10_find_71
    · have hF := ite_f hF c_63
      refine lv_iconst (v := 1) hx hb dX10_find_66 (by decide) ?_
      refine lv_goto (tgt := 71) hx hb dX10_find_67 (by decide) ?_
      obtain rfl := Option.some.inj hF
      exact hret _ _ _ _ hW (Or.inr rfl) dX10_find_71
  have L_33 : ∀ (n : Nat) (x3_33 : Int32) (a_weight_33 : Nat → Int64) (ls : Array Slot) (H : Heap) (locs : List Loc), L_X10_find_33 q27 k_60 n x3_33 a_weight_33 = some out → lv_has ls 4 [(0, .ref h_this), (1, .long q27), (3, .int x3_33)] → Wd G A s.heap [(h_this, oX10 ad_this v_typed v_at v_isSo v_kept v_all v_sightAll v_aheadMany), ((ad_this 16), cI G 3 a_days), ((ad_this 2), cI G 6 a_goes), ((ad_this 11), cI G 10 a_noise), ((ad_this 17), cI G 15 a_seenSigns), ((ad_this 3), cI G 2 a_signs), ((ad_this 21), cJ G 3 q3.1), ((ad_this 4), cI G 32 a_told), ((ad_this 20), cJ G 3 a_weight_33), ((ad_this 18), cI G 15 a_wentOn), ((ad_this 10), cI G 2 a_works)] H locs → W p l e ({ frames := 4, cells := 0, slots := 0, locals := 97 } : Room) s m args below meth c H locs 0 0 Q (F0 m 33 ls []) := by
    intro n
    induction n with
    | zero => intro x3_33 a_weight_33 ls H locs hF hl hW; have h0 : none = some out := hF; cases h0
    | succ n ih =>
      intro x3_33 a_weight_33 ls H locs hF hl hW
      rw [L_X10_find_33] at hF
      refine lv_iload_n hx hb dX10_find_33 rfl (lv_at hl 2 rfl) ?_
      refine lv_iconst (v := 3) hx hb dX10_find_34 (by decide) ?_
      refine lv_icmp_ge (tgt := 60) hx hb dX10_find_35 (by decide) (fun c_35 => ?_) (fun c_35 => ?_)
      · have hF := ite_t hF c_35
        exact J_60 a_weight_33 _ _ _ hF (lv_sub hl [1] rfl) hW
      · have hF := ite_f hF c_35
        refine lv_lload_n hx hb dX10_find_38 rfl (lv_at hl 1 rfl) ?_
        refine lv_lconst (v := 0) hx hb dX10_find_39 (by decide) ?_
        refine W.lcmp hx hb dX10_find_40 ?_
        refine lv_if_le (tgt := 60) hx hb dX10_find_41 (by decide) (fun c_41 => ?_) (fun c_41 => ?_)
        · have hF := ite_t hF c_41
          exact J_60 a_weight_33 _ _ _ hF (lv_sub hl [1] rfl) hW
        · have hF := ite_f hF c_41
          refine lv_aload_n hx hb dX10_find_44 rfl (lv_at hl 0 rfl) ?_
          refine va_get (D := G.1) (ci := 9) (v := .ref ((ad_this 20))) (C := RX10) (T := TX10) (N := 31) hx hb hg hu_X10 hown hc.1 hW.1 0 rfl rfl 20 (by decide) (hg _ wd_4_58) (fun _ h9 => h9) rfl dX10_find_45 ?_
          refine lv_iload_n hx hb dX10_find_48 rfl (lv_at hl 2 rfl) ?_
          refine lv_dup2_11 hx hb dX10_find_49 rfl rfl ?_
          obtain ⟨b_50, hF⟩ := inb_el hF
          refine va_lald hx hb hc.1 hW.1 8 1 rfl rfl b_50 dX10_find_50 ?_
          refine lv_lload_n hx hb dX10_find_51 rfl (lv_at hl 1 rfl) ?_
          obtain ⟨z_52, hF⟩ := nzl_el hF
          refine lv_ldiv hx hb dX10_find_52 z_52 ?_
          obtain ⟨b_53, hF⟩ := inb_el hF
          refine va_last hx hb hc.1 hW.1 hW.2.1 hW.2.2 8 1 rfl rfl b_53 dX10_find_53 (fun H locs hP hD hS => ?_)
          have hW : Wd G A s.heap [(h_this, oX10 ad_this v_typed v_at v_isSo v_kept v_all v_sightAll v_aheadMany), ((ad_this 16), cI G 3 a_days), ((ad_this 2), cI G 6 a_goes), ((ad_this 11), cI G 10 a_noise), ((ad_this 17), cI G 15 a_seenSigns), ((ad_this 3), cI G 2 a_signs), ((ad_this 21), cJ G 3 q3.1), ((ad_this 4), cI G 32 a_told), ((ad_this 20), cJ G 3 ((vp_updL a_weight_33 (Int32.toNatClampNeg x3_33) (((a_weight_33 (Int32.toNatClampNeg x3_33)) / q27))))), ((ad_this 18), cI G 15 a_wentOn), ((ad_this 10), cI G 2 a_works)] H locs := ⟨hP, hD, hS⟩
          refine lv_iinc (v := (x3_33 + 1)) (lv' := [(3, .int ((x3_33 + 1))), (0, .ref h_this), (1, .long q27)]) hx hb dX10_find_54 hl (k := 2) rfl rfl (by decide) rfl (fun ls hl => ?_)
          refine lv_goto (tgt := 33) hx hb dX10_find_57 (by decide) ?_
          exact ih ((x3_33 + 1)) ((vp_updL a_weight_33 (Int32.toNatClampNeg x3_33) (((a_weight_33 (Int32.toNatClampNeg x3_33)) / q27)))) _ _ _ hF (lv_sub hl [1, 2, 0] rfl) hW
  exact L_33 5000 0 q3.2 _ _ _ hF (lv_sub hl [2, 1, 0] rfl) hW
theorem dX10_part_0 : decode cX10_part 0 = .ok (.lload_n 0, 1) := by decide +kernel
theorem dX10_part_1 : decode cX10_part 1 = .ok (.lload_n 2, 1) := by decide +kernel
theorem dX10_part_2 : decode cX10_part 2 = .ok (.invokestatic 170, 3) := by decide +kernel
theorem dX10_part_5 : decode cX10_part 5 = .ok (.lstore 5, 2) := by decide +kernel
theorem dX10_part_7 : decode cX10_part 7 = .ok (.iload 4, 2) := by decide +kernel
theorem dX10_part_9 : decode cX10_part 9 = .ok (.ifCond .ne 10, 3) := by decide +kernel
theorem dX10_part_12 : decode cX10_part 12 = .ok (.lload_n 0, 1) := by decide +kernel
theorem dX10_part_13 : decode cX10_part 13 = .ok (.lload 5, 2) := by decide +kernel
theorem dX10_part_15 : decode cX10_part 15 = .ok (.ldiv, 1) := by decide +kernel
theorem dX10_part_16 : decode cX10_part 16 = .ok (.goto 7, 3) := by decide +kernel
theorem dX10_part_19 : decode cX10_part 19 = .ok (.lload_n 2, 1) := by decide +kernel
theorem dX10_part_20 : decode cX10_part 20 = .ok (.lload 5, 2) := by decide +kernel
theorem dX10_part_22 : decode cX10_part 22 = .ok (.ldiv, 1) := by decide +kernel
theorem dX10_part_23 : decode cX10_part 23 = .ok (.lreturn, 1) := by decide +kernel
def F_X10_part (x0 : Int64) (x2 : Int64) (x4 : Int32) : Option (Int64) := (F_X10_common x0 x2).bind (fun q2 => (if x4 = 0 then (if q2 = 0 then none else some ((x0 / q2))) else (if q2 = 0 then none else some ((x2 / q2)))))
theorem hdS_X10_part : yX10_part.cls ≠ "java/lang/invoke/MethodHandle" ∧ yX10_part.cls ≠ "java/lang/invoke/VarHandle" ∧ (parseMethodDescriptor yX10_part.desc).map (fun d => d.parameters.length) = some 3 := by decide +kernel
set_option maxHeartbeats 4000000 in
set_option maxRecDepth 100000 in
theorem c_X10_part (l : Launch) (G : GG) (x0 : Int64) (x2 : Int64) (x4 : Int32) (out : Int64) (hF : F_X10_part x0 x2 x4 = some out) : CtrJ l yX10_part (WS yX10_part cX10_part 7 (some .long)) { frames := 1, cells := 0, slots := 0, locals := 29 } G [.long x0, .long x2, .int x4] [] [] out := by
  refine startJ (cc := cX10_part) (maxL := 7) (by decide) rfl (Nat.le_of_ble_eq_true rfl) ?_
  intro p e s m args below meth c A Q hx hb hml hts hown hc hA hret ls H locs hl hW
  have hown : s.vm.findClass RX10 = some m.cls := hown
  have hg : ∀ w ∈ GOODS, w.before _ s = true := fun w h => hts w (List.mem_cons_of_mem _ h)
  have hl : lv_has ls 7 [(0, .long x0), (2, .long x2), (4, .int x4)] := hl
  rw [F_X10_part] at hF
  refine lv_lload_n hx hb dX10_part_0 rfl (lv_at hl 0 rfl) ?_
  refine lv_lload_n hx hb dX10_part_1 rfl (lv_at hl 1 rfl) ?_
  obtain ⟨q2, c_2, hF⟩ := bd_el hF
  refine wcJ (ws' := []) (wc := []) (wr := []) (w1 := []) (va_runS (As := [.long x0, .long x2]) (rest := []) ⟨hx, hb, hml, hown, hg⟩ (c_X10_common l G x0 x2 q2 c_2 H.size) (va_cwS 2 hg (gS wd_4_233 wd_4_234 wd_1_15 wd_4_235) rfl rfl rfl hdS_X10_common ⟨(Nat.le_of_ble_eq_true rfl), (Nat.le_of_ble_eq_true rfl)⟩) (preS hc hW [] rfl (by decide)) rfl rfl hl.1 rfl (lv_room (Nat.le_of_ble_eq_true rfl)) dX10_part_2 ⟨Nat.zero_le _, Nat.zero_le _⟩) hA hW [] [] [] rfl rfl (by decide) (by decide) rfl (by decide) (fun H locs hW => ?_)
  refine lv_lstore (lv' := [(5, .long q2), (0, .long x0), (2, .long x2), (4, .int x4)]) hx hb dX10_part_5 hl (by decide) rfl (fun ls hl => ?_)
  refine lv_iload hx hb dX10_part_7 (lv_at hl 3 rfl) ?_
  refine lv_if_ne (tgt := 19) hx hb dX10_part_9 (by decide) (fun c_9 => ?_) (fun c_9 => ?_)
  · have hF := ite_f hF c_9
    refine lv_lload_n hx hb dX10_part_19 rfl (lv_at hl 2 rfl) ?_
    refine lv_lload hx hb dX10_part_20 (lv_at hl 0 rfl) ?_
    obtain ⟨z_22, hF⟩ := nzl_el hF
    refine lv_ldiv hx hb dX10_part_22 z_22 ?_
    obtain rfl := Option.some.inj hF
    exact hret _ _ _ _ hW dX10_part_23
  · have hF := ite_t hF c_9
    refine lv_lload_n hx hb dX10_part_12 rfl (lv_at hl 1 rfl) ?_
    refine lv_lload hx hb dX10_part_13 (lv_at hl 0 rfl) ?_
    obtain ⟨z_15, hF⟩ := nzl_el hF
    refine lv_ldiv hx hb dX10_part_15 z_15 ?_
    refine lv_goto (tgt := 23) hx hb dX10_part_16 (by decide) ?_
    obtain rfl := Option.some.inj hF
    exact hret _ _ _ _ hW dX10_part_23
theorem dX10_belief_0 : decode cX10_belief 0 = .ok (.iload_n 1, 1) := by decide +kernel
theorem dX10_belief_1 : decode cX10_belief 1 = .ok (.iconst 0, 1) := by decide +kernel
theorem dX10_belief_2 : decode cX10_belief 2 = .ok (.iconst 2, 1) := by decide +kernel
theorem dX10_belief_3 : decode cX10_belief 3 = .ok (.invokestatic 99, 3) := by decide +kernel
theorem dX10_belief_6 : decode cX10_belief 6 = .ok (.ifCond .eq 12, 3) := by decide +kernel
theorem dX10_belief_9 : decode cX10_belief 9 = .ok (.iload_n 2, 1) := by decide +kernel
theorem dX10_belief_10 : decode cX10_belief 10 = .ok (.iconst 0, 1) := by decide +kernel
theorem dX10_belief_11 : decode cX10_belief 11 = .ok (.iconst 1, 1) := by decide +kernel
theorem dX10_belief_12 : decode cX10_belief 12 = .ok (.invokestatic 99, 3) := by decide +kernel
theorem dX10_belief_15 : decode cX10_belief 15 = .ok (.ifCond .ne 7, 3) := by decide +kernel
theorem dX10_belief_18 : decode cX10_belief 18 = .ok (.ldc2_w 174, 3) := by decide +kernel
theorem dX10_belief_21 : decode cX10_belief 21 = .ok (.lreturn, 1) := by decide +kernel
theorem dX10_belief_22 : decode cX10_belief 22 = .ok (.aload_n 0, 1) := by decide +kernel
theorem dX10_belief_23 : decode cX10_belief 23 = .ok (.invokevirtual 176, 3) := by decide +kernel
theorem dX10_belief_26 : decode cX10_belief 26 = .ok (.ifCond .ne 7, 3) := by decide +kernel
theorem dX10_belief_29 : decode cX10_belief 29 = .ok (.ldc2_w 180, 3) := by decide +kernel
theorem dX10_belief_32 : decode cX10_belief 32 = .ok (.lreturn, 1) := by decide +kernel
theorem dX10_belief_33 : decode cX10_belief 33 = .ok (.aload_n 0, 1) := by decide +kernel
theorem dX10_belief_34 : decode cX10_belief 34 = .ok (.getfield 59, 3) := by decide +kernel
theorem dX10_belief_37 : decode cX10_belief 37 = .ok (.iload_n 1, 1) := by decide +kernel
theorem dX10_belief_38 : decode cX10_belief 38 = .ok (.laload, 1) := by decide +kernel
theorem dX10_belief_39 : decode cX10_belief 39 = .ok (.aload_n 0, 1) := by decide +kernel
theorem dX10_belief_40 : decode cX10_belief 40 = .ok (.invokevirtual 182, 3) := by decide +kernel
theorem dX10_belief_43 : decode cX10_belief 43 = .ok (.iload_n 2, 1) := by decide +kernel
theorem dX10_belief_44 : decode cX10_belief 44 = .ok (.invokestatic 186, 3) := by decide +kernel
theorem dX10_belief_47 : decode cX10_belief 47 = .ok (.lreturn, 1) := by decide +kernel
def F_X10_belief (x1 : Int32) (x2 : Int32) (a_days : Nat → Int32) (a_goes : Nat → Int32) (a_noise : Nat → Int32) (a_seenSigns : Nat → Int32) (a_signs : Nat → Int32) (a_then : Nat → Int64) (a_told : Nat → Int32) (a_weight : Nat → Int64) (a_wentOn : Nat → Int32) (a_works : Nat → Int32) : Option (Int64 × (Nat → Int64) × (Nat → Int64)) := (F_X10_in x1 0 2).bind (fun q3 => (if q3 = 0 then some ((-1), a_then, a_weight) else (F_X10_in x2 0 1).bind (fun q12 => (if q12 = 0 then some ((-1), a_then, a_weight) else (F_X10_find a_days a_goes a_noise a_seenSigns a_signs a_then a_told a_weight a_wentOn a_works).bind (fun q23 => (if q23.1 = 0 then some ((-4), q23.2.1, q23.2.2) else (if inb x1 3 = true then (F_X10_total q23.2.2).bind (fun q40 => (F_X10_part ((q23.2.2 (Int32.toNatClampNeg x1))) q40 x2).bind (fun q44 => some (q44, q23.2.1, q23.2.2))) else none)))))))
theorem hdV_X10_belief : yX10_belief.cls = RX10 ∧ yX10_belief.cls ≠ "java/lang/invoke/MethodHandle" ∧ yX10_belief.cls ≠ "java/lang/invoke/VarHandle" ∧ (parseMethodDescriptor yX10_belief.desc).map (fun d => d.parameters.length) = some 2 := by decide +kernel
set_option maxHeartbeats 4000000 in
set_option maxRecDepth 100000 in
theorem c_X10_belief (l : Launch) (G : GG) (x1 : Int32) (x2 : Int32) (h_this : Nat) (ad_this : Nat → Nat) (v_typed : Int32) (v_at : Int32) (v_isSo : Int32) (v_kept : Int32) (v_all : Int64) (v_sightAll : Int64) (v_aheadMany : Int32) (a_days : Nat → Int32) (a_goes : Nat → Int32) (a_noise : Nat → Int32) (a_seenSigns : Nat → Int32) (a_signs : Nat → Int32) (a_then : Nat → Int64) (a_told : Nat → Int32) (a_weight : Nat → Int64) (a_wentOn : Nat → Int32) (a_works : Nat → Int32) (out : Int64 × (Nat → Int64) × (Nat → Int64)) (hF : F_X10_belief x1 x2 a_days a_goes a_noise a_seenSigns a_signs a_then a_told a_weight a_wentOn a_works = some out) : CtrJ l yX10_belief (WS yX10_belief cX10_belief 3 (some .long)) { frames := 5, cells := 0, slots := 0, locals := 120 } G [.ref h_this, .int x1, .int x2] [(h_this, oX10 ad_this v_typed v_at v_isSo v_kept v_all v_sightAll v_aheadMany), ((ad_this 16), cI G 3 a_days), ((ad_this 2), cI G 6 a_goes), ((ad_this 11), cI G 10 a_noise), ((ad_this 17), cI G 15 a_seenSigns), ((ad_this 3), cI G 2 a_signs), ((ad_this 21), cJ G 3 a_then), ((ad_this 4), cI G 32 a_told), ((ad_this 20), cJ G 3 a_weight), ((ad_this 18), cI G 15 a_wentOn), ((ad_this 10), cI G 2 a_works)] [(h_this, oX10 ad_this v_typed v_at v_isSo v_kept v_all v_sightAll v_aheadMany), ((ad_this 16), cI G 3 a_days), ((ad_this 2), cI G 6 a_goes), ((ad_this 11), cI G 10 a_noise), ((ad_this 17), cI G 15 a_seenSigns), ((ad_this 3), cI G 2 a_signs), ((ad_this 21), cJ G 3 out.2.1), ((ad_this 4), cI G 32 a_told), ((ad_this 20), cJ G 3 out.2.2), ((ad_this 18), cI G 15 a_wentOn), ((ad_this 10), cI G 2 a_works)] out.1 := by
  refine startJ (cc := cX10_belief) (maxL := 3) (by decide) rfl (Nat.le_of_ble_eq_true rfl) ?_
  intro p e s m args below meth c A Q hx hb hml hts hown hc hA hret ls H locs hl hW
  have hown : s.vm.findClass RX10 = some m.cls := hown
  have hg : ∀ w ∈ GOODS, w.before _ s = true := fun w h => hts w (List.mem_cons_of_mem _ h)
  have hl : lv_has ls 3 [(0, .ref h_this), (1, .int x1), (2, .int x2)] := hl
  rw [F_X10_belief] at hF
  refine lv_iload_n hx hb dX10_belief_0 rfl (lv_at hl 1 rfl) ?_
  refine lv_iconst (v := 0) hx hb dX10_belief_1 (by decide) ?_
  refine lv_iconst (v := 2) hx hb dX10_belief_2 (by decide) ?_
  obtain ⟨q3, c_3, hF⟩ := bd_el hF
  refine wcZ (ws' := [(h_this, oX10 ad_this v_typed v_at v_isSo v_kept v_all v_sightAll v_aheadMany), ((ad_this 16), cI G 3 a_days), ((ad_this 2), cI G 6 a_goes), ((ad_this 11), cI G 10 a_noise), ((ad_this 17), cI G 15 a_seenSigns), ((ad_this 3), cI G 2 a_signs), ((ad_this 21), cJ G 3 a_then), ((ad_this 4), cI G 32 a_told), ((ad_this 20), cJ G 3 a_weight), ((ad_this 18), cI G 15 a_wentOn), ((ad_this 10), cI G 2 a_works)]) (wc := []) (wr := [(h_this, oX10 ad_this v_typed v_at v_isSo v_kept v_all v_sightAll v_aheadMany), ((ad_this 16), cI G 3 a_days), ((ad_this 2), cI G 6 a_goes), ((ad_this 11), cI G 10 a_noise), ((ad_this 17), cI G 15 a_seenSigns), ((ad_this 3), cI G 2 a_signs), ((ad_this 21), cJ G 3 a_then), ((ad_this 4), cI G 32 a_told), ((ad_this 20), cJ G 3 a_weight), ((ad_this 18), cI G 15 a_wentOn), ((ad_this 10), cI G 2 a_works)]) (w1 := []) (va_runS (As := [.int x1, .int 0, .int 2]) (rest := []) ⟨hx, hb, hml, hown, hg⟩ (c_X10_in l G x1 0 2 q3 c_3 H.size) (va_cwS 3 hg (gS wd_4_136 wd_4_137 wd_1_15 wd_4_138) rfl rfl rfl hdS_X10_in ⟨(Nat.le_of_ble_eq_true rfl), (Nat.le_of_ble_eq_true rfl)⟩) (preS hc hW [] rfl (by decide)) rfl rfl hl.1 rfl (lv_room (Nat.le_of_ble_eq_true rfl)) dX10_belief_3 ⟨Nat.zero_le _, Nat.zero_le _⟩) hA hW [] [0, 1, 2, 3, 4, 5, 6, 7, 8, 9, 10] [0, 1, 2, 3, 4, 5, 6, 7, 8, 9, 10] rfl rfl (by decide) (by decide) rfl (by decide) (fun z_3 H locs hW => ?_)
  refine lv_if_eq (tgt := 18) hx hb dX10_belief_6 (by decide) (fun c_6 => ?_) (fun c_6 => ?_)
  · have hF := ite_t hF c_6
    refine lv_ldc2 (v := (-1)) hx hb hown (hg _ wd_4_204) dX10_belief_18 ?_
    obtain rfl := Option.some.inj hF
    exact hret _ _ _ _ hW dX10_belief_21
  · have hF := ite_f hF c_6
    refine lv_iload_n hx hb dX10_belief_9 rfl (lv_at hl 2 rfl) ?_
    refine lv_iconst (v := 0) hx hb dX10_belief_10 (by decide) ?_
    refine lv_iconst (v := 1) hx hb dX10_belief_11 (by decide) ?_
    obtain ⟨q12, c_12, hF⟩ := bd_el hF
    refine wcZ (ws' := [(h_this, oX10 ad_this v_typed v_at v_isSo v_kept v_all v_sightAll v_aheadMany), ((ad_this 16), cI G 3 a_days), ((ad_this 2), cI G 6 a_goes), ((ad_this 11), cI G 10 a_noise), ((ad_this 17), cI G 15 a_seenSigns), ((ad_this 3), cI G 2 a_signs), ((ad_this 21), cJ G 3 a_then), ((ad_this 4), cI G 32 a_told), ((ad_this 20), cJ G 3 a_weight), ((ad_this 18), cI G 15 a_wentOn), ((ad_this 10), cI G 2 a_works)]) (wc := []) (wr := [(h_this, oX10 ad_this v_typed v_at v_isSo v_kept v_all v_sightAll v_aheadMany), ((ad_this 16), cI G 3 a_days), ((ad_this 2), cI G 6 a_goes), ((ad_this 11), cI G 10 a_noise), ((ad_this 17), cI G 15 a_seenSigns), ((ad_this 3), cI G 2 a_signs), ((ad_this 21), cJ G 3 a_then), ((ad_this 4), cI G 32 a_told), ((ad_this 20), cJ G 3 a_weight), ((ad_this 18), cI G 15 a_wentOn), ((ad_this 10), cI G 2 a_works)]) (w1 := []) (va_runS (As := [.int x2, .int 0, .int 1]) (rest := []) ⟨hx, hb, hml, hown, hg⟩ (c_X10_in l G x2 0 1 q12 c_12 H.size) (va_cwS 3 hg (gS wd_4_136 wd_4_137 wd_1_15 wd_4_138) rfl rfl rfl hdS_X10_in ⟨(Nat.le_of_ble_eq_true rfl), (Nat.le_of_ble_eq_true rfl)⟩) (preS hc hW [] rfl (by decide)) rfl rfl hl.1 rfl (lv_room (Nat.le_of_ble_eq_true rfl)) dX10_belief_12 ⟨Nat.zero_le _, Nat.zero_le _⟩) hA hW [] [0, 1, 2, 3, 4, 5, 6, 7, 8, 9, 10] [0, 1, 2, 3, 4, 5, 6, 7, 8, 9, 10] rfl rfl (by decide) (by decide) rfl (by decide) (fun z_12 H locs hW => ?_)
    refine lv_if_ne (tgt := 22) hx hb dX10_belief_15 (by decide) (fun c_15 => ?_) (fun c_15 => ?_)
    · have hF := ite_f hF c_15
      refine lv_aload_n hx hb dX10_belief_22 rfl (lv_at hl 0 rfl) ?_
      obtain ⟨q23, c_23, hF⟩ := bd_el hF
      refine wcZ (ws' := [(h_this, oX10 ad_this v_typed v_at v_isSo v_kept v_all v_sightAll v_aheadMany), ((ad_this 16), cI G 3 a_days), ((ad_this 2), cI G 6 a_goes), ((ad_this 11), cI G 10 a_noise), ((ad_this 17), cI G 15 a_seenSigns), ((ad_this 3), cI G 2 a_signs), ((ad_this 21), cJ G 3 q23.2.1), ((ad_this 4), cI G 32 a_told), ((ad_this 20), cJ G 3 q23.2.2), ((ad_this 18), cI G 15 a_wentOn), ((ad_this 10), cI G 2 a_works)]) (wc := [(h_this, oX10 ad_this v_typed v_at v_isSo v_kept v_all v_sightAll v_aheadMany), ((ad_this 16), cI G 3 a_days), ((ad_this 2), cI G 6 a_goes), ((ad_this 11), cI G 10 a_noise), ((ad_this 17), cI G 15 a_seenSigns), ((ad_this 3), cI G 2 a_signs), ((ad_this 21), cJ G 3 a_then), ((ad_this 4), cI G 32 a_told), ((ad_this 20), cJ G 3 a_weight), ((ad_this 18), cI G 15 a_wentOn), ((ad_this 10), cI G 2 a_works)]) (wr := []) (w1 := [(h_this, oX10 ad_this v_typed v_at v_isSo v_kept v_all v_sightAll v_aheadMany), ((ad_this 16), cI G 3 a_days), ((ad_this 2), cI G 6 a_goes), ((ad_this 11), cI G 10 a_noise), ((ad_this 17), cI G 15 a_seenSigns), ((ad_this 3), cI G 2 a_signs), ((ad_this 21), cJ G 3 q23.2.1), ((ad_this 4), cI G 32 a_told), ((ad_this 20), cJ G 3 q23.2.2), ((ad_this 18), cI G 15 a_wentOn), ((ad_this 10), cI G 2 a_works)]) (va_runV (As := []) (rest := []) ⟨hx, hb, hml, hown, hg⟩ (c_X10_find l G h_this ad_this v_typed v_at v_isSo v_kept v_all v_sightAll v_aheadMany a_days a_goes a_noise a_seenSigns a_signs a_then a_told a_weight a_wentOn a_works q23 c_23 H.size) (cwV 0 hg (gV wd_4_205 wd_4_207 wd_0_34 wd_1_15 wd_4_208) rfl rfl rfl hdV_X10_find ⟨(Nat.le_of_ble_eq_true rfl), (Nat.le_of_ble_eq_true rfl)⟩) (preV hc hW [0, 1, 2, 3, 4, 5, 6, 7, 8, 9, 10] rfl (by decide) rfl rfl) rfl rfl hl.1 rfl (lv_room (Nat.le_of_ble_eq_true rfl)) dX10_belief_23 ⟨Nat.zero_le _, Nat.zero_le _⟩) hA hW [0, 1, 2, 3, 4, 5, 6, 7, 8, 9, 10] [] [0, 1, 2, 3, 4, 5, 6, 7, 8, 9, 10] rfl rfl (by decide) (by decide) rfl (by decide) (fun z_23 H locs hW => ?_)
      refine lv_if_ne (tgt := 33) hx hb dX10_belief_26 (by decide) (fun c_26 => ?_) (fun c_26 => ?_)
      · have hF := ite_f hF c_26
        refine lv_aload_n hx hb dX10_belief_33 rfl (lv_at hl 0 rfl) ?_
        refine va_get (D := G.1) (ci := 9) (v := .ref ((ad_this 20))) (C := RX10) (T := TX10) (N := 31) hx hb hg hu_X10 hown hc.1 hW.1 0 rfl rfl 20 (by decide) (hg _ wd_4_58) (fun _ h9 => h9) rfl dX10_belief_34 ?_
        refine lv_iload_n hx hb dX10_belief_37 rfl (lv_at hl 1 rfl) ?_
        obtain ⟨b_38, hF⟩ := inb_el hF
        refine va_lald hx hb hc.1 hW.1 8 1 rfl rfl b_38 dX10_belief_38 ?_
        refine lv_aload_n hx hb dX10_belief_39 rfl (lv_at hl 0 rfl) ?_
        obtain ⟨q40, c_40, hF⟩ := bd_el hF
        refine wcJ (ws' := [(h_this, oX10 ad_this v_typed v_at v_isSo v_kept v_all v_sightAll v_aheadMany), ((ad_this 16), cI G 3 a_days), ((ad_this 2), cI G 6 a_goes), ((ad_this 11), cI G 10 a_noise), ((ad_this 17), cI G 15 a_seenSigns), ((ad_this 3), cI G 2 a_signs), ((ad_this 21), cJ G 3 q23.2.1), ((ad_this 4), cI G 32 a_told), ((ad_this 20), cJ G 3 q23.2.2), ((ad_this 18), cI G 15 a_wentOn), ((ad_this 10), cI G 2 a_works)]) (wc := [(h_this, oX10 ad_this v_typed v_at v_isSo v_kept v_all v_sightAll v_aheadMany), ((ad_this 20), cJ G 3 q23.2.2)]) (wr := [((ad_this 16), cI G 3 a_days), ((ad_this 2), cI G 6 a_goes), ((ad_this 11), cI G 10 a_noise), ((ad_this 17), cI G 15 a_seenSigns), ((ad_this 3), cI G 2 a_signs), ((ad_this 21), cJ G 3 q23.2.1), ((ad_this 4), cI G 32 a_told), ((ad_this 18), cI G 15 a_wentOn), ((ad_this 10), cI G 2 a_works)]) (w1 := [(h_this, oX10 ad_this v_typed v_at v_isSo v_kept v_all v_sightAll v_aheadMany), ((ad_this 20), cJ G 3 q23.2.2)]) (va_runV (As := []) (rest := [.long ((q23.2.2 (Int32.toNatClampNeg x1)))]) ⟨hx, hb, hml, hown, hg⟩ (c_X10_total l G h_this ad_this v_typed v_at v_isSo v_kept v_all v_sightAll v_aheadMany q23.2.2 q40 c_40 H.size) (cwV 0 hg (gV wd_4_237 wd_4_239 wd_0_41 wd_1_15 wd_5_0) rfl rfl rfl hdV_X10_total ⟨(Nat.le_of_ble_eq_true rfl), (Nat.le_of_ble_eq_true rfl)⟩) (preV hc hW [0, 8] rfl (by decide) rfl rfl) rfl rfl hl.1 rfl (lv_room (Nat.le_of_ble_eq_true rfl)) dX10_belief_40 ⟨Nat.zero_le _, Nat.zero_le _⟩) hA hW [0, 8] [1, 2, 3, 4, 5, 6, 7, 9, 10] [9, 0, 1, 2, 3, 4, 5, 6, 10, 7, 8] rfl rfl (by decide) (by decide) rfl (by decide) (fun H locs hW => ?_)
        refine lv_iload_n hx hb dX10_belief_43 rfl (lv_at hl 2 rfl) ?_
        obtain ⟨q44, c_44, hF⟩ := bd_el hF
        refine wcJ (ws' := [(h_this, oX10 ad_this v_typed v_at v_isSo v_kept v_all v_sightAll v_aheadMany), ((ad_this 16), cI G 3 a_days), ((ad_this 2), cI G 6 a_goes), ((ad_this 11), cI G 10 a_noise), ((ad_this 17), cI G 15 a_seenSigns), ((ad_this 3), cI G 2 a_signs), ((ad_this 21), cJ G 3 q23.2.1), ((ad_this 4), cI G 32 a_told), ((ad_this 20), cJ G 3 q23.2.2), ((ad_this 18), cI G 15 a_wentOn), ((ad_this 10), cI G 2 a_works)]) (wc := []) (wr := [(h_this, oX10 ad_this v_typed v_at v_isSo v_kept v_all v_sightAll v_aheadMany), ((ad_this 16), cI G 3 a_days), ((ad_this 2), cI G 6 a_goes), ((ad_this 11), cI G 10 a_noise), ((ad_this 17), cI G 15 a_seenSigns), ((ad_this 3), cI G 2 a_signs), ((ad_this 21), cJ G 3 q23.2.1), ((ad_this 4), cI G 32 a_told), ((ad_this 20), cJ G 3 q23.2.2), ((ad_this 18), cI G 15 a_wentOn), ((ad_this 10), cI G 2 a_works)]) (w1 := []) (va_runS (As := [.long ((q23.2.2 (Int32.toNatClampNeg x1))), .long q40, .int x2]) (rest := []) ⟨hx, hb, hml, hown, hg⟩ (c_X10_part l G ((q23.2.2 (Int32.toNatClampNeg x1))) q40 x2 q44 c_44 H.size) (va_cwS 3 hg (gS wd_5_1 wd_5_2 wd_1_15 wd_5_3) rfl rfl rfl hdS_X10_part ⟨(Nat.le_of_ble_eq_true rfl), (Nat.le_of_ble_eq_true rfl)⟩) (preS hc hW [] rfl (by decide)) rfl rfl hl.1 rfl (lv_room (Nat.le_of_ble_eq_true rfl)) dX10_belief_44 ⟨Nat.zero_le _, Nat.zero_le _⟩) hA hW [] [0, 1, 2, 3, 4, 5, 6, 7, 8, 9, 10] [0, 1, 2, 3, 4, 5, 6, 7, 8, 9, 10] rfl rfl (by decide) (by decide) rfl (by decide) (fun H locs hW => ?_)
        obtain rfl := Option.some.inj hF
        exact hret _ _ _ _ hW dX10_belief_47
      · have hF := ite_t hF c_26
        refine lv_ldc2 (v := (-4)) hx hb hown (hg _ wd_4_236) dX10_belief_29 ?_
        obtain rfl := Option.some.inj hF
        exact hret _ _ _ _ hW dX10_belief_32
    · have hF := ite_t hF c_15
      refine lv_ldc2 (v := (-1)) hx hb hown (hg _ wd_4_204) dX10_belief_18 ?_
      obtain rfl := Option.some.inj hF
      exact hret _ _ _ _ hW dX10_belief_21
theorem dX10_findTurns_0 : decode cX10_findTurns 0 = .ok (.aload_n 0, 1) := by decide +kernel
theorem dX10_findTurns_1 : decode cX10_findTurns 1 = .ok (.invokevirtual 176, 3) := by decide +kernel
theorem dX10_findTurns_4 : decode cX10_findTurns 4 = .ok (.ifCond .ne 5, 3) := by decide +kernel
theorem dX10_findTurns_7 : decode cX10_findTurns 7 = .ok (.iconst 0, 1) := by decide +kernel
theorem dX10_findTurns_8 : decode cX10_findTurns 8 = .ok (.ireturn, 1) := by decide +kernel
theorem dX10_findTurns_9 : decode cX10_findTurns 9 = .ok (.aload_n 0, 1) := by decide +kernel
theorem dX10_findTurns_10 : decode cX10_findTurns 10 = .ok (.ldc2_w 190, 3) := by decide +kernel
theorem dX10_findTurns_13 : decode cX10_findTurns 13 = .ok (.aload_n 0, 1) := by decide +kernel
theorem dX10_findTurns_14 : decode cX10_findTurns 14 = .ok (.invokevirtual 182, 3) := by decide +kernel
theorem dX10_findTurns_17 : decode cX10_findTurns 17 = .ok (.lmul, 1) := by decide +kernel
theorem dX10_findTurns_18 : decode cX10_findTurns 18 = .ok (.putfield 192, 3) := by decide +kernel
theorem dX10_findTurns_21 : decode cX10_findTurns 21 = .ok (.ldc2_w 190, 3) := by decide +kernel
theorem dX10_findTurns_24 : decode cX10_findTurns 24 = .ok (.lstore_n 2, 1) := by decide +kernel
theorem dX10_findTurns_25 : decode cX10_findTurns 25 = .ok (.aload_n 0, 1) := by decide +kernel
theorem dX10_findTurns_26 : decode cX10_findTurns 26 = .ok (.getfield 66, 3) := by decide +kernel
theorem dX10_findTurns_29 : decode cX10_findTurns 29 = .ok (.iconst 0, 1) := by decide +kernel
theorem dX10_findTurns_30 : decode cX10_findTurns 30 = .ok (.lconst 0, 1) := by decide +kernel
theorem dX10_findTurns_31 : decode cX10_findTurns 31 = .ok (.lastore, 1) := by decide +kernel
theorem dX10_findTurns_32 : decode cX10_findTurns 32 = .ok (.iconst 1, 1) := by decide +kernel
theorem dX10_findTurns_33 : decode cX10_findTurns 33 = .ok (.istore 4, 2) := by decide +kernel
theorem dX10_findTurns_35 : decode cX10_findTurns 35 = .ok (.iload 4, 2) := by decide +kernel
theorem dX10_findTurns_37 : decode cX10_findTurns 37 = .ok (.iconst 4, 1) := by decide +kernel
theorem dX10_findTurns_38 : decode cX10_findTurns 38 = .ok (.if_icmp .ge 39, 3) := by decide +kernel
theorem dX10_findTurns_41 : decode cX10_findTurns 41 = .ok (.aload_n 0, 1) := by decide +kernel
theorem dX10_findTurns_42 : decode cX10_findTurns 42 = .ok (.iload_n 1, 1) := by decide +kernel
theorem dX10_findTurns_43 : decode cX10_findTurns 43 = .ok (.iconst (-1), 1) := by decide +kernel
theorem dX10_findTurns_44 : decode cX10_findTurns 44 = .ok (.invokevirtual 162, 3) := by decide +kernel
theorem dX10_findTurns_47 : decode cX10_findTurns 47 = .ok (.lload_n 2, 1) := by decide +kernel
theorem dX10_findTurns_48 : decode cX10_findTurns 48 = .ok (.ldc2_w 196, 3) := by decide +kernel
theorem dX10_findTurns_51 : decode cX10_findTurns 51 = .ok (.ldiv, 1) := by decide +kernel
theorem dX10_findTurns_52 : decode cX10_findTurns 52 = .ok (.lstore_n 2, 1) := by decide +kernel
theorem dX10_findTurns_53 : decode cX10_findTurns 53 = .ok (.aload_n 0, 1) := by decide +kernel
theorem dX10_findTurns_54 : decode cX10_findTurns 54 = .ok (.getfield 66, 3) := by decide +kernel
theorem dX10_findTurns_57 : decode cX10_findTurns 57 = .ok (.iload 4, 2) := by decide +kernel
theorem dX10_findTurns_59 : decode cX10_findTurns 59 = .ok (.aload_n 0, 1) := by decide +kernel
theorem dX10_findTurns_60 : decode cX10_findTurns 60 = .ok (.getfield 192, 3) := by decide +kernel
theorem dX10_findTurns_63 : decode cX10_findTurns 63 = .ok (.lload_n 2, 1) := by decide +kernel
theorem dX10_findTurns_64 : decode cX10_findTurns 64 = .ok (.aload_n 0, 1) := by decide +kernel
theorem dX10_findTurns_65 : decode cX10_findTurns 65 = .ok (.invokevirtual 182, 3) := by decide +kernel
theorem dX10_findTurns_68 : decode cX10_findTurns 68 = .ok (.lmul, 1) := by decide +kernel
theorem dX10_findTurns_69 : decode cX10_findTurns 69 = .ok (.lsub, 1) := by decide +kernel
theorem dX10_findTurns_70 : decode cX10_findTurns 70 = .ok (.lastore, 1) := by decide +kernel
theorem dX10_findTurns_71 : decode cX10_findTurns 71 = .ok (.iinc 4 1, 3) := by decide +kernel
theorem dX10_findTurns_74 : decode cX10_findTurns 74 = .ok (.goto (-39), 3) := by decide +kernel
theorem dX10_findTurns_77 : decode cX10_findTurns 77 = .ok (.iconst 1, 1) := by decide +kernel
theorem dX10_findTurns_78 : decode cX10_findTurns 78 = .ok (.ireturn, 1) := by decide +kernel
def L_X10_findTurns_35 (x1 : Int32) (a_goes : Nat → Int32) (a_noise : Nat → Int32) (a_signs : Nat → Int32) (a_told : Nat → Int32) (a_works : Nat → Int32)  : Nat → Int64 → Int32 → Int64 → (Nat → Int64) → (Nat → Int64) → (Nat → Int64) → Option (Int32 × Int64 × (Nat → Int64) × (Nat → Int64) × (Nat → Int64))
  | 0, _, _, _, _, _, _ => none
  | n + 1, x2_35, x4_35, v_all_35, a_then_35, a_turns_35, a_weight_35 => (if 4 ≤ x4_35 then some (1, v_all_35, a_then_35, a_turns_35, a_weight_35) else (F_X10_goOn x1 ((-1)) a_goes a_noise a_signs a_then_35 a_told a_weight_35 a_works).bind (fun q44 => (F_X10_total q44.2).bind (fun q65 => (if inb x4_35 4 = true then L_X10_findTurns_35 x1 a_goes a_noise a_signs a_told a_works n ((x2_35 / 4)) ((x4_35 + 1)) v_all_35 q44.1 ((vp_updL a_turns_35 (Int32.toNatClampNeg x4_35) ((v_all_35 - ((x2_35 / 4) * q65))))) q44.2 else none))))
def F_X10_findTurns (x1 : Int32) (v_all : Int64) (a_days : Nat → Int32) (a_goes : Nat → Int32) (a_noise : Nat → Int32) (a_seenSigns : Nat → Int32) (a_signs : Nat → Int32) (a_then : Nat → Int64) (a_told : Nat → Int32) (a_turns : Nat → Int64) (a_weight : Nat → Int64) (a_wentOn : Nat → Int32) (a_works : Nat → Int32) : Option (Int32 × Int64 × (Nat → Int64) × (Nat → Int64) × (Nat → Int64)) := (F_X10_find a_days a_goes a_noise a_seenSigns a_signs a_then a_told a_weight a_wentOn a_works).bind (fun q1 => (if q1.1 = 0 then some (0, v_all, q1.2.1, a_turns, q1.2.2) else (F_X10_total q1.2.2).bind (fun q14 => L_X10_findTurns_35 x1 a_goes a_noise a_signs a_told a_works 5000 64 1 ((64 * q14)) q1.2.1 ((vp_updL a_turns (Int32.toNatClampNeg 0) 0)) q1.2.2)))
theorem hdV_X10_findTurns : yX10_findTurns.cls = RX10 ∧ yX10_findTurns.cls ≠ "java/lang/invoke/MethodHandle" ∧ yX10_findTurns.cls ≠ "java/lang/invoke/VarHandle" ∧ (parseMethodDescriptor yX10_findTurns.desc).map (fun d => d.parameters.length) = some 1 := by decide +kernel
set_option maxHeartbeats 4000000 in
set_option maxRecDepth 100000 in
theorem c_X10_findTurns (l : Launch) (G : GG) (x1 : Int32) (h_this : Nat) (ad_this : Nat → Nat) (v_typed : Int32) (v_at : Int32) (v_isSo : Int32) (v_kept : Int32) (v_all : Int64) (v_sightAll : Int64) (v_aheadMany : Int32) (a_days : Nat → Int32) (a_goes : Nat → Int32) (a_noise : Nat → Int32) (a_seenSigns : Nat → Int32) (a_signs : Nat → Int32) (a_then : Nat → Int64) (a_told : Nat → Int32) (a_turns : Nat → Int64) (a_weight : Nat → Int64) (a_wentOn : Nat → Int32) (a_works : Nat → Int32) (out : Int32 × Int64 × (Nat → Int64) × (Nat → Int64) × (Nat → Int64)) (hF : F_X10_findTurns x1 v_all a_days a_goes a_noise a_seenSigns a_signs a_then a_told a_turns a_weight a_wentOn a_works = some out) : CtrZ l yX10_findTurns (WS yX10_findTurns cX10_findTurns 5 (some .boolean)) { frames := 5, cells := 0, slots := 0, locals := 120 } G [.ref h_this, .int x1] [(h_this, oX10 ad_this v_typed v_at v_isSo v_kept v_all v_sightAll v_aheadMany), ((ad_this 16), cI G 3 a_days), ((ad_this 2), cI G 6 a_goes), ((ad_this 11), cI G 10 a_noise), ((ad_this 17), cI G 15 a_seenSigns), ((ad_this 3), cI G 2 a_signs), ((ad_this 21), cJ G 3 a_then), ((ad_this 4), cI G 32 a_told), ((ad_this 23), cJ G 4 a_turns), ((ad_this 20), cJ G 3 a_weight), ((ad_this 18), cI G 15 a_wentOn), ((ad_this 10), cI G 2 a_works)] [(h_this, oX10 ad_this v_typed v_at v_isSo v_kept out.2.1 v_sightAll v_aheadMany), ((ad_this 16), cI G 3 a_days), ((ad_this 2), cI G 6 a_goes), ((ad_this 11), cI G 10 a_noise), ((ad_this 17), cI G 15 a_seenSigns), ((ad_this 3), cI G 2 a_signs), ((ad_this 21), cJ G 3 out.2.2.1), ((ad_this 4), cI G 32 a_told), ((ad_this 23), cJ G 4 out.2.2.2.1), ((ad_this 20), cJ G 3 out.2.2.2.2), ((ad_this 18), cI G 15 a_wentOn), ((ad_this 10), cI G 2 a_works)] out.1 := by
  refine startZ (cc := cX10_findTurns) (maxL := 5) (by decide) rfl (Nat.le_of_ble_eq_true rfl) ?_
  intro p e s m args below meth c A Q hx hb hml hts hown hc hA hret ls H locs hl hW
  have hown : s.vm.findClass RX10 = some m.cls := hown
  have hg : ∀ w ∈ GOODS, w.before _ s = true := fun w h => hts w (List.mem_cons_of_mem _ h)
  have hl : lv_has ls 5 [(0, .ref h_this), (1, .int x1)] := hl
  rw [F_X10_findTurns] at hF
  refine lv_aload_n hx hb dX10_findTurns_0 rfl (lv_at hl 0 rfl) ?_
  obtain ⟨q1, c_1, hF⟩ := bd_el hF
  refine wcZ (ws' := [(h_this, oX10 ad_this v_typed v_at v_isSo v_kept v_all v_sightAll v_aheadMany), ((ad_this 16), cI G 3 a_days), ((ad_this 2), cI G 6 a_goes), ((ad_this 11), cI G 10 a_noise), ((ad_this 17), cI G 15 a_seenSigns), ((ad_this 3), cI G 2 a_signs), ((ad_this 21), cJ G 3 q1.2.1), ((ad_this 4), cI G 32 a_told), ((ad_this 23), cJ G 4 a_turns), ((ad_this 20), cJ G 3 q1.2.2), ((ad_this 18), cI G 15 a_wentOn), ((ad_this 10), cI G 2 a_works)]) (wc := [(h_this, oX10 ad_this v_typed v_at v_isSo v_kept v_all v_sightAll v_aheadMany), ((ad_this 16), cI G 3 a_days), ((ad_this 2), cI G 6 a_goes), ((ad_this 11), cI G 10 a_noise), ((ad_this 17), cI G 15 a_seenSigns), ((ad_this 3), cI G 2 a_signs), ((ad_this 21), cJ G 3 a_then), ((ad_this 4), cI G 32 a_told), ((ad_this 20), cJ G 3 a_weight), ((ad_this 18), cI G 15 a_wentOn), ((ad_this 10), cI G 2 a_works)]) (wr := [((ad_this 23), cJ G 4 a_turns)]) (w1 := [(h_this, oX10 ad_this v_typed v_at v_isSo v_kept v_all v_sightAll v_aheadMany), ((ad_this 16), cI G 3 a_days), ((ad_this 2), cI G 6 a_goes), ((ad_this 11), cI G 10 a_noise), ((ad_this 17), cI G 15 a_seenSigns), ((ad_this 3), cI G 2 a_signs), ((ad_this 21), cJ G 3 q1.2.1), ((ad_this 4), cI G 32 a_told), ((ad_this 20), cJ G 3 q1.2.2), ((ad_this 18), cI G 15 a_wentOn), ((ad_this 10), cI G 2 a_works)]) (va_runV (As := []) (rest := []) ⟨hx, hb, hml, hown, hg⟩ (c_X10_find l G h_this ad_this v_typed v_at v_isSo v_kept v_all v_sightAll v_aheadMany a_days a_goes a_noise a_seenSigns a_signs a_then a_told a_weight a_wentOn a_works q1 c_1 H.size) (cwV 0 hg (gV wd_4_205 wd_4_207 wd_0_34 wd_1_15 wd_4_208) rfl rfl rfl hdV_X10_find ⟨(Nat.le_of_ble_eq_true rfl), (Nat.le_of_ble_eq_true rfl)⟩) (preV hc hW [0, 1, 2, 3, 4, 5, 6, 7, 9, 10, 11] rfl (by decide) rfl rfl) rfl rfl hl.1 rfl (lv_room (Nat.le_of_ble_eq_true rfl)) dX10_findTurns_1 ⟨Nat.zero_le _, Nat.zero_le _⟩) hA hW [0, 1, 2, 3, 4, 5, 6, 7, 9, 10, 11] [8] [1, 2, 3, 4, 5, 6, 7, 8, 0, 9, 10, 11] rfl rfl (by decide) (by decide) rfl (by decide) (fun z_1 H locs hW => ?_)
  refine lv_if_ne (tgt := 9) hx hb dX10_findTurns_4 (by decide) (fun c_4 => ?_) (fun c_4 => ?_)
  · have hF := ite_f hF c_4
    refine lv_aload_n hx hb dX10_findTurns_9 rfl (lv_at hl 0 rfl) ?_
    refine lv_ldc2 (v := 64) hx hb hown (hg _ wd_5_12) dX10_findTurns_10 ?_
    refine lv_aload_n hx hb dX10_findTurns_13 rfl (lv_at hl 0 rfl) ?_
    obtain ⟨q14, c_14, hF⟩ := bd_el hF
    refine wcJ (ws' := [(h_this, oX10 ad_this v_typed v_at v_isSo v_kept v_all v_sightAll v_aheadMany), ((ad_this 16), cI G 3 a_days), ((ad_this 2), cI G 6 a_goes), ((ad_this 11), cI G 10 a_noise), ((ad_this 17), cI G 15 a_seenSigns), ((ad_this 3), cI G 2 a_signs), ((ad_this 21), cJ G 3 q1.2.1), ((ad_this 4), cI G 32 a_told), ((ad_this 23), cJ G 4 a_turns), ((ad_this 20), cJ G 3 q1.2.2), ((ad_this 18), cI G 15 a_wentOn), ((ad_this 10), cI G 2 a_works)]) (wc := [(h_this, oX10 ad_this v_typed v_at v_isSo v_kept v_all v_sightAll v_aheadMany), ((ad_this 20), cJ G 3 q1.2.2)]) (wr := [((ad_this 16), cI G 3 a_days), ((ad_this 2), cI G 6 a_goes), ((ad_this 11), cI G 10 a_noise), ((ad_this 17), cI G 15 a_seenSigns), ((ad_this 3), cI G 2 a_signs), ((ad_this 21), cJ G 3 q1.2.1), ((ad_this 4), cI G 32 a_told), ((ad_this 23), cJ G 4 a_turns), ((ad_this 18), cI G 15 a_wentOn), ((ad_this 10), cI G 2 a_works)]) (w1 := [(h_this, oX10 ad_this v_typed v_at v_isSo v_kept v_all v_sightAll v_aheadMany), ((ad_this 20), cJ G 3 q1.2.2)]) (va_runV (As := []) (rest := [.long 64, .ref h_this]) ⟨hx, hb, hml, hown, hg⟩ (c_X10_total l G h_this ad_this v_typed v_at v_isSo v_kept v_all v_sightAll v_aheadMany q1.2.2 q14 c_14 H.size) (cwV 0 hg (gV wd_4_237 wd_4_239 wd_0_41 wd_1_15 wd_5_0) rfl rfl rfl hdV_X10_total ⟨(Nat.le_of_ble_eq_true rfl), (Nat.le_of_ble_eq_true rfl)⟩) (preV hc hW [0, 9] rfl (by decide) rfl rfl) rfl rfl hl.1 rfl (lv_room (Nat.le_of_ble_eq_true rfl)) dX10_findTurns_14 ⟨Nat.zero_le _, Nat.zero_le _⟩) hA hW [0, 9] [1, 2, 3, 4, 5, 6, 7, 8, 10, 11] [10, 0, 1, 2, 3, 4, 5, 6, 7, 11, 8, 9] rfl rfl (by decide) (by decide) rfl (by decide) (fun H locs hW => ?_)
    refine lv_lmul hx hb dX10_findTurns_17 ?_
    refine va_put (D := G.1) (ci := 9) (v := .long ((64 * q14))) (ty := .long) (C := RX10) (T := TX10) (N := 31) hx hb hg hu_X10 tyX10 tyX10_ok nmX10 hown hc.1 hW.1 hW.2.1 hW.2.2 0 rfl rfl 22 (by decide) (hg _ wd_4_60) (fun _ h9 => h9) rfl (by decide +kernel) rfl rfl (Nat.le_of_ble_eq_true rfl) dX10_findTurns_18 (fun H locs hP hD hS => ?_)
    have hW : Wd G A s.heap [(h_this, oX10 ad_this v_typed v_at v_isSo v_kept ((64 * q14)) v_sightAll v_aheadMany), ((ad_this 16), cI G 3 a_days), ((ad_this 2), cI G 6 a_goes), ((ad_this 11), cI G 10 a_noise), ((ad_this 17), cI G 15 a_seenSigns), ((ad_this 3), cI G 2 a_signs), ((ad_this 21), cJ G 3 q1.2.1), ((ad_this 4), cI G 32 a_told), ((ad_this 23), cJ G 4 a_turns), ((ad_this 20), cJ G 3 q1.2.2), ((ad_this 18), cI G 15 a_wentOn), ((ad_this 10), cI G 2 a_works)] H locs := ⟨hP, hD, hS⟩
    refine lv_ldc2 (v := 64) hx hb hown (hg _ wd_5_12) dX10_findTurns_21 ?_
    refine lv_lstore_n (lv' := [(2, .long 64), (0, .ref h_this), (1, .int x1)]) hx hb dX10_findTurns_24 rfl hl (by decide) rfl (fun ls hl => ?_)
    refine lv_aload_n hx hb dX10_findTurns_25 rfl (lv_at hl 1 rfl) ?_
    refine va_get (D := G.1) (ci := 9) (v := .ref ((ad_this 23))) (C := RX10) (T := TX10) (N := 31) hx hb hg hu_X10 hown hc.1 hW.1 0 rfl rfl 23 (by decide) (hg _ wd_4_61) (fun _ h9 => h9) rfl dX10_findTurns_26 ?_
    refine lv_iconst (v := 0) hx hb dX10_findTurns_29 (by decide) ?_
    refine lv_lconst (v := 0) hx hb dX10_findTurns_30 (by decide) ?_
    have b_31 : vp_in 0 4 := inb_vp (by decide)
    refine va_last hx hb hc.1 hW.1 hW.2.1 hW.2.2 8 1 rfl rfl b_31 dX10_findTurns_31 (fun H locs hP hD hS => ?_)
    have hW : Wd G A s.heap [(h_this, oX10 ad_this v_typed v_at v_isSo v_kept ((64 * q14)) v_sightAll v_aheadMany), ((ad_this 16), cI G 3 a_days), ((ad_this 2), cI G 6 a_goes), ((ad_this 11), cI G 10 a_noise), ((ad_this 17), cI G 15 a_seenSigns), ((ad_this 3), cI G 2 a_signs), ((ad_this 21), cJ G 3 q1.2.1), ((ad_this 4), cI G 32 a_told), ((ad_this 23), cJ G 4 ((vp_updL a_turns (Int32.toNatClampNeg 0) 0))), ((ad_this 20), cJ G 3 q1.2.2), ((ad_this 18), cI G 15 a_wentOn), ((ad_this 10), cI G 2 a_works)] H locs := ⟨hP, hD, hS⟩
    refine lv_iconst (v := 1) hx hb dX10_findTurns_32 (by decide) ?_
    refine lv_istore (lv' := [(4, .int 1), (2, .long 64), (0, .ref h_this), (1, .int x1)]) hx hb dX10_findTurns_33 hl (by decide) rfl (fun ls hl => ?_)
    have L_35 : ∀ (n : Nat) (x2_35 : Int64) (x4_35 : Int32) (v_all_35 : Int64) (a_then_35 : Nat → Int64) (a_turns_35 : Nat → Int64) (a_weight_35 : Nat → Int64) (ls : Array Slot) (H : Heap) (locs : List Loc), L_X10_findTurns_35 x1 a_goes a_noise a_signs a_told a_works n x2_35 x4_35 v_all_35 a_then_35 a_turns_35 a_weight_35 = some out → lv_has ls 5 [(0, .ref h_this), (1, .int x1), (2, .long x2_35), (4, .int x4_35)] → Wd G A s.heap [(h_this, oX10 ad_this v_typed v_at v_isSo v_kept v_all_35 v_sightAll v_aheadMany), ((ad_this 16), cI G 3 a_days), ((ad_this 2), cI G 6 a_goes), ((ad_this 11), cI G 10 a_noise), ((ad_this 17), cI G 15 a_seenSigns), ((ad_this 3), cI G 2 a_signs), ((ad_this 21), cJ G 3 a_then_35), ((ad_this 4), cI G 32 a_told), ((ad_this 23), cJ G 4 a_turns_35), ((ad_this 20), cJ G 3 a_weight_35), ((ad_this 18), cI G 15 a_wentOn), ((ad_this 10), cI G 2 a_works)] H locs → W p l e ({ frames := 5, cells := 0, slots := 0, locals := 120 } : Room) s m args below meth c H locs 0 0 Q (F0 m 35 ls []) := by
      intro n
      induction n with
      | zero => intro x2_35 x4_35 v_all_35 a_then_35 a_turns_35 a_weight_35 ls H locs hF hl hW; have h0 : none = some out := hF; cases h0
      | succ n ih =>
        intro x2_35 x4_35 v_all_35 a_then_35 a_turns_35 a_weight_35 ls H locs hF hl hW
        rw [L_X10_findTurns_35] at hF
        refine lv_iload hx hb dX10_findTurns_35 (lv_at hl 3 rfl) ?_
        refine lv_iconst (v := 4) hx hb dX10_findTurns_37 (by decide) ?_
        refine lv_icmp_ge (tgt := 77) hx hb dX10_findTurns_38 (by decide) (fun c_38 => ?_) (fun c_38 => ?_)
        · have hF := ite_t hF c_38
          refine lv_iconst (v := 1) hx hb dX10_findTurns_77 (by decide) ?_
          obtain rfl := Option.some.inj hF
          exact hret _ _ _ _ hW (Or.inr rfl) dX10_findTurns_78
        · have hF := ite_f hF c_38
          refine lv_aload_n hx hb dX10_findTurns_41 rfl (lv_at hl 0 rfl) ?_
          refine lv_iload_n hx hb dX10_findTurns_42 rfl (lv_at hl 1 rfl) ?_
          refine lv_iconst (v := (-1)) hx hb dX10_findTurns_43 (by decide) ?_
          obtain ⟨q44, c_44, hF⟩ := bd_el hF
          refine wcV (ws' := [(h_this, oX10 ad_this v_typed v_at v_isSo v_kept v_all_35 v_sightAll v_aheadMany), ((ad_this 16), cI G 3 a_days), ((ad_this 2), cI G 6 a_goes), ((ad_this 11), cI G 10 a_noise), ((ad_this 17), cI G 15 a_seenSigns), ((ad_this 3), cI G 2 a_signs), ((ad_this 21), cJ G 3 q44.1), ((ad_this 4), cI G 32 a_told), ((ad_this 23), cJ G 4 a_turns_35), ((ad_this 20), cJ G 3 q44.2), ((ad_this 18), cI G 15 a_wentOn), ((ad_this 10), cI G 2 a_works)]) (wc := [(h_this, oX10 ad_this v_typed v_at v_isSo v_kept v_all_35 v_sightAll v_aheadMany), ((ad_this 2), cI G 6 a_goes), ((ad_this 11), cI G 10 a_noise), ((ad_this 3), cI G 2 a_signs), ((ad_this 21), cJ G 3 a_then_35), ((ad_this 4), cI G 32 a_told), ((ad_this 20), cJ G 3 a_weight_35), ((ad_this 10), cI G 2 a_works)]) (wr := [((ad_this 16), cI G 3 a_days), ((ad_this 17), cI G 15 a_seenSigns), ((ad_this 23), cJ G 4 a_turns_35), ((ad_this 18), cI G 15 a_wentOn)]) (w1 := [(h_this, oX10 ad_this v_typed v_at v_isSo v_kept v_all_35 v_sightAll v_aheadMany), ((ad_this 2), cI G 6 a_goes), ((ad_this 11), cI G 10 a_noise), ((ad_this 3), cI G 2 a_signs), ((ad_this 21), cJ G 3 q44.1), ((ad_this 4), cI G 32 a_told), ((ad_this 20), cJ G 3 q44.2), ((ad_this 10), cI G 2 a_works)]) (va_runV (As := [.int x1, .int ((-1))]) (rest := []) ⟨hx, hb, hml, hown, hg⟩ (c_X10_goOn l G x1 ((-1)) h_this ad_this v_typed v_at v_isSo v_kept v_all_35 v_sightAll v_aheadMany a_goes a_noise a_signs a_then_35 a_told a_weight_35 a_works q44 c_44 H.size) (cwV 2 hg (gV wd_4_213 wd_4_215 wd_0_36 wd_1_15 wd_4_216) rfl rfl rfl hdV_X10_goOn ⟨(Nat.le_of_ble_eq_true rfl), (Nat.le_of_ble_eq_true rfl)⟩) (preV hc hW [0, 2, 3, 5, 6, 7, 9, 11] rfl (by decide) rfl rfl) rfl rfl hl.1 rfl (lv_room (Nat.le_of_ble_eq_true rfl)) dX10_findTurns_44 ⟨Nat.zero_le _, Nat.zero_le _⟩) hA hW [0, 2, 3, 5, 6, 7, 9, 11] [1, 4, 8, 10] [4, 0, 5, 6, 1, 7, 8, 9, 2, 10, 3, 11] rfl rfl (by decide) (by decide) rfl (by decide) (fun H locs hW => ?_)
          refine lv_lload_n hx hb dX10_findTurns_47 rfl (lv_at hl 2 rfl) ?_
          refine lv_ldc2 (v := 4) hx hb hown (hg _ wd_5_13) dX10_findTurns_48 ?_
          refine lv_ldiv hx hb dX10_findTurns_51 (by decide) ?_
          refine lv_lstore_n (lv' := [(2, .long ((x2_35 / 4))), (0, .ref h_this), (1, .int x1), (4, .int x4_35)]) hx hb dX10_findTurns_52 rfl hl (by decide) rfl (fun ls hl => ?_)
          refine lv_aload_n hx hb dX10_findTurns_53 rfl (lv_at hl 1 rfl) ?_
          refine va_get (D := G.1) (ci := 9) (v := .ref ((ad_this 23))) (C := RX10) (T := TX10) (N := 31) hx hb hg hu_X10 hown hc.1 hW.1 0 rfl rfl 23 (by decide) (hg _ wd_4_61) (fun _ h9 => h9) rfl dX10_findTurns_54 ?_
          refine lv_iload hx hb dX10_findTurns_57 (lv_at hl 3 rfl) ?_
          refine lv_aload_n hx hb dX10_findTurns_59 rfl (lv_at hl 1 rfl) ?_
          refine va_get (D := G.1) (ci := 9) (v := .long v_all_35) (C := RX10) (T := TX10) (N := 31) hx hb hg hu_X10 hown hc.1 hW.1 0 rfl rfl 22 (by decide) (hg _ wd_4_60) (fun _ h9 => h9) rfl dX10_findTurns_60 ?_
          refine lv_lload_n hx hb dX10_findTurns_63 rfl (lv_at hl 0 rfl) ?_
          refine lv_aload_n hx hb dX10_findTurns_64 rfl (lv_at hl 1 rfl) ?_
          obtain ⟨q65, c_65, hF⟩ := bd_el hF
          refine wcJ (ws' := [(h_this, oX10 ad_this v_typed v_at v_isSo v_kept v_all_35 v_sightAll v_aheadMany), ((ad_this 16), cI G 3 a_days), ((ad_this 2), cI G 6 a_goes), ((ad_this 11), cI G 10 a_noise), ((ad_this 17), cI G 15 a_seenSigns), ((ad_this 3), cI G 2 a_signs), ((ad_this 21), cJ G 3 q44.1), ((ad_this 4), cI G 32 a_told), ((ad_this 23), cJ G 4 a_turns_35), ((ad_this 20), cJ G 3 q44.2), ((ad_this 18), cI G 15 a_wentOn), ((ad_this 10), cI G 2 a_works)]) (wc := [(h_this, oX10 ad_this v_typed v_at v_isSo v_kept v_all_35 v_sightAll v_aheadMany), ((ad_this 20), cJ G 3 q44.2)]) (wr := [((ad_this 16), cI G 3 a_days), ((ad_this 2), cI G 6 a_goes), ((ad_this 11), cI G 10 a_noise), ((ad_this 17), cI G 15 a_seenSigns), ((ad_this 3), cI G 2 a_signs), ((ad_this 21), cJ G 3 q44.1), ((ad_this 4), cI G 32 a_told), ((ad_this 23), cJ G 4 a_turns_35), ((ad_this 18), cI G 15 a_wentOn), ((ad_this 10), cI G 2 a_works)]) (w1 := [(h_this, oX10 ad_this v_typed v_at v_isSo v_kept v_all_35 v_sightAll v_aheadMany), ((ad_this 20), cJ G 3 q44.2)]) (va_runV (As := []) (rest := [.long ((x2_35 / 4)), .long v_all_35, .int x4_35, .ref ((ad_this 23))]) ⟨hx, hb, hml, hown, hg⟩ (c_X10_total l G h_this ad_this v_typed v_at v_isSo v_kept v_all_35 v_sightAll v_aheadMany q44.2 q65 c_65 H.size) (cwV 0 hg (gV wd_4_237 wd_4_239 wd_0_41 wd_1_15 wd_5_0) rfl rfl rfl hdV_X10_total ⟨(Nat.le_of_ble_eq_true rfl), (Nat.le_of_ble_eq_true rfl)⟩) (preV hc hW [0, 9] rfl (by decide) rfl rfl) rfl rfl hl.1 rfl (lv_room (Nat.le_of_ble_eq_true rfl)) dX10_findTurns_65 ⟨Nat.zero_le _, Nat.zero_le _⟩) hA hW [0, 9] [1, 2, 3, 4, 5, 6, 7, 8, 10, 11] [10, 0, 1, 2, 3, 4, 5, 6, 7, 11, 8, 9] rfl rfl (by decide) (by decide) rfl (by decide) (fun H locs hW => ?_)
          refine lv_lmul hx hb dX10_findTurns_68 ?_
          refine lv_lsub hx hb dX10_findTurns_69 ?_
          obtain ⟨b_70, hF⟩ := inb_el hF
          refine va_last hx hb hc.1 hW.1 hW.2.1 hW.2.2 8 1 rfl rfl b_70 dX10_findTurns_70 (fun H locs hP hD hS => ?_)
          have hW : Wd G A s.heap [(h_this, oX10 ad_this v_typed v_at v_isSo v_kept v_all_35 v_sightAll v_aheadMany), ((ad_this 16), cI G 3 a_days), ((ad_this 2), cI G 6 a_goes), ((ad_this 11), cI G 10 a_noise), ((ad_this 17), cI G 15 a_seenSigns), ((ad_this 3), cI G 2 a_signs), ((ad_this 21), cJ G 3 q44.1), ((ad_this 4), cI G 32 a_told), ((ad_this 23), cJ G 4 ((vp_updL a_turns_35 (Int32.toNatClampNeg x4_35) ((v_all_35 - ((x2_35 / 4) * q65)))))), ((ad_this 20), cJ G 3 q44.2), ((ad_this 18), cI G 15 a_wentOn), ((ad_this 10), cI G 2 a_works)] H locs := ⟨hP, hD, hS⟩
          refine lv_iinc (v := (x4_35 + 1)) (lv' := [(4, .int ((x4_35 + 1))), (2, .long ((x2_35 / 4))), (0, .ref h_this), (1, .int x1)]) hx hb dX10_findTurns_71 hl (k := 3) rfl rfl (by decide) rfl (fun ls hl => ?_)
          refine lv_goto (tgt := 35) hx hb dX10_findTurns_74 (by decide) ?_
          exact ih ((x2_35 / 4)) ((x4_35 + 1)) v_all_35 q44.1 ((vp_updL a_turns_35 (Int32.toNatClampNeg x4_35) ((v_all_35 - ((x2_35 / 4) * q65))))) q44.2 _ _ _ hF (lv_sub hl [2, 3, 1, 0] rfl) hW
    exact L_35 5000 64 1 ((64 * q14)) q1.2.1 ((vp_updL a_turns (Int32.toNatClampNeg 0) 0)) q1.2.2 _ _ _ hF (lv_sub hl [2, 3, 1, 0] rfl) hW
  · have hF := ite_t hF c_4
    refine lv_iconst (v := 0) hx hb dX10_findTurns_7 (by decide) ?_
    obtain rfl := Option.some.inj hF
    exact hret _ _ _ _ hW (Or.inl rfl) dX10_findTurns_8
theorem dX10_near_0 : decode cX10_near 0 = .ok (.iload_n 1, 1) := by decide +kernel
theorem dX10_near_1 : decode cX10_near 1 = .ok (.iconst 1, 1) := by decide +kernel
theorem dX10_near_2 : decode cX10_near 2 = .ok (.iconst 3, 1) := by decide +kernel
theorem dX10_near_3 : decode cX10_near 3 = .ok (.invokestatic 99, 3) := by decide +kernel
theorem dX10_near_6 : decode cX10_near 6 = .ok (.ifCond .eq 20, 3) := by decide +kernel
theorem dX10_near_9 : decode cX10_near 9 = .ok (.aload_n 0, 1) := by decide +kernel
theorem dX10_near_10 : decode cX10_near 10 = .ok (.iload_n 2, 1) := by decide +kernel
theorem dX10_near_11 : decode cX10_near 11 = .ok (.invokevirtual 138, 3) := by decide +kernel
theorem dX10_near_14 : decode cX10_near 14 = .ok (.ifCond .eq 12, 3) := by decide +kernel
theorem dX10_near_17 : decode cX10_near 17 = .ok (.iload_n 3, 1) := by decide +kernel
theorem dX10_near_18 : decode cX10_near 18 = .ok (.iconst 0, 1) := by decide +kernel
theorem dX10_near_19 : decode cX10_near 19 = .ok (.iconst 1, 1) := by decide +kernel
theorem dX10_near_20 : decode cX10_near 20 = .ok (.invokestatic 99, 3) := by decide +kernel
theorem dX10_near_23 : decode cX10_near 23 = .ok (.ifCond .ne 7, 3) := by decide +kernel
theorem dX10_near_26 : decode cX10_near 26 = .ok (.ldc2_w 174, 3) := by decide +kernel
theorem dX10_near_29 : decode cX10_near 29 = .ok (.lreturn, 1) := by decide +kernel
theorem dX10_near_30 : decode cX10_near 30 = .ok (.aload_n 0, 1) := by decide +kernel
theorem dX10_near_31 : decode cX10_near 31 = .ok (.iload_n 2, 1) := by decide +kernel
theorem dX10_near_32 : decode cX10_near 32 = .ok (.invokevirtual 198, 3) := by decide +kernel
theorem dX10_near_35 : decode cX10_near 35 = .ok (.ifCond .ne 7, 3) := by decide +kernel
theorem dX10_near_38 : decode cX10_near 38 = .ok (.ldc2_w 180, 3) := by decide +kernel
theorem dX10_near_41 : decode cX10_near 41 = .ok (.lreturn, 1) := by decide +kernel
theorem dX10_near_42 : decode cX10_near 42 = .ok (.aload_n 0, 1) := by decide +kernel
theorem dX10_near_43 : decode cX10_near 43 = .ok (.getfield 66, 3) := by decide +kernel
theorem dX10_near_46 : decode cX10_near 46 = .ok (.iload_n 1, 1) := by decide +kernel
theorem dX10_near_47 : decode cX10_near 47 = .ok (.laload, 1) := by decide +kernel
theorem dX10_near_48 : decode cX10_near 48 = .ok (.aload_n 0, 1) := by decide +kernel
theorem dX10_near_49 : decode cX10_near 49 = .ok (.getfield 192, 3) := by decide +kernel
theorem dX10_near_52 : decode cX10_near 52 = .ok (.iload_n 3, 1) := by decide +kernel
theorem dX10_near_53 : decode cX10_near 53 = .ok (.invokestatic 186, 3) := by decide +kernel
theorem dX10_near_56 : decode cX10_near 56 = .ok (.lreturn, 1) := by decide +kernel
def F_X10_near (x1 : Int32) (x2 : Int32) (x3 : Int32) (v_all : Int64) (a_days : Nat → Int32) (a_goes : Nat → Int32) (a_noise : Nat → Int32) (a_seenSigns : Nat → Int32) (a_signs : Nat → Int32) (a_then : Nat → Int64) (a_told : Nat → Int32) (a_turns : Nat → Int64) (a_weight : Nat → Int64) (a_wentOn : Nat → Int32) (a_works : Nat → Int32) : Option (Int64 × Int64 × (Nat → Int64) × (Nat → Int64) × (Nat → Int64)) := (F_X10_in x1 1 3).bind (fun q3 => (if q3 = 0 then some ((-1), v_all, a_then, a_turns, a_weight) else (F_X10_areWorks x2 a_works).bind (fun q11 => (if q11 = 0 then some ((-1), v_all, a_then, a_turns, a_weight) else (F_X10_in x3 0 1).bind (fun q20 => (if q20 = 0 then some ((-1), v_all, a_then, a_turns, a_weight) else (F_X10_findTurns x2 v_all a_days a_goes a_noise a_seenSigns a_signs a_then a_told a_turns a_weight a_wentOn a_works).bind (fun q32 => (if q32.1 = 0 then some ((-4), q32.2.1, q32.2.2.1, q32.2.2.2.1, q32.2.2.2.2) else (if inb x1 4 = true then (F_X10_part ((q32.2.2.2.1 (Int32.toNatClampNeg x1))) q32.2.1 x3).bind (fun q53 => some (q53, q32.2.1, q32.2.2.1, q32.2.2.2.1, q32.2.2.2.2)) else none)))))))))
theorem hdV_X10_near : yX10_near.cls = RX10 ∧ yX10_near.cls ≠ "java/lang/invoke/MethodHandle" ∧ yX10_near.cls ≠ "java/lang/invoke/VarHandle" ∧ (parseMethodDescriptor yX10_near.desc).map (fun d => d.parameters.length) = some 3 := by decide +kernel
set_option maxHeartbeats 4000000 in
set_option maxRecDepth 100000 in
theorem c_X10_near (l : Launch) (G : GG) (x1 : Int32) (x2 : Int32) (x3 : Int32) (h_this : Nat) (ad_this : Nat → Nat) (v_typed : Int32) (v_at : Int32) (v_isSo : Int32) (v_kept : Int32) (v_all : Int64) (v_sightAll : Int64) (v_aheadMany : Int32) (a_days : Nat → Int32) (a_goes : Nat → Int32) (a_noise : Nat → Int32) (a_seenSigns : Nat → Int32) (a_signs : Nat → Int32) (a_then : Nat → Int64) (a_told : Nat → Int32) (a_turns : Nat → Int64) (a_weight : Nat → Int64) (a_wentOn : Nat → Int32) (a_works : Nat → Int32) (out : Int64 × Int64 × (Nat → Int64) × (Nat → Int64) × (Nat → Int64)) (hF : F_X10_near x1 x2 x3 v_all a_days a_goes a_noise a_seenSigns a_signs a_then a_told a_turns a_weight a_wentOn a_works = some out) : CtrJ l yX10_near (WS yX10_near cX10_near 4 (some .long)) { frames := 6, cells := 0, slots := 0, locals := 144 } G [.ref h_this, .int x1, .int x2, .int x3] [(h_this, oX10 ad_this v_typed v_at v_isSo v_kept v_all v_sightAll v_aheadMany), ((ad_this 16), cI G 3 a_days), ((ad_this 2), cI G 6 a_goes), ((ad_this 11), cI G 10 a_noise), ((ad_this 17), cI G 15 a_seenSigns), ((ad_this 3), cI G 2 a_signs), ((ad_this 21), cJ G 3 a_then), ((ad_this 4), cI G 32 a_told), ((ad_this 23), cJ G 4 a_turns), ((ad_this 20), cJ G 3 a_weight), ((ad_this 18), cI G 15 a_wentOn), ((ad_this 10), cI G 2 a_works)] [(h_this, oX10 ad_this v_typed v_at v_isSo v_kept out.2.1 v_sightAll v_aheadMany), ((ad_this 16), cI G 3 a_days), ((ad_this 2), cI G 6 a_goes), ((ad_this 11), cI G 10 a_noise), ((ad_this 17), cI G 15 a_seenSigns), ((ad_this 3), cI G 2 a_signs), ((ad_this 21), cJ G 3 out.2.2.1), ((ad_this 4), cI G 32 a_told), ((ad_this 23), cJ G 4 out.2.2.2.1), ((ad_this 20), cJ G 3 out.2.2.2.2), ((ad_this 18), cI G 15 a_wentOn), ((ad_this 10), cI G 2 a_works)] out.1 := by
  refine startJ (cc := cX10_near) (maxL := 4) (by decide) rfl (Nat.le_of_ble_eq_true rfl) ?_
  intro p e s m args below meth c A Q hx hb hml hts hown hc hA hret ls H locs hl hW
  have hown : s.vm.findClass RX10 = some m.cls := hown
  have hg : ∀ w ∈ GOODS, w.before _ s = true := fun w h => hts w (List.mem_cons_of_mem _ h)
  have hl : lv_has ls 4 [(0, .ref h_this), (1, .int x1), (2, .int x2), (3, .int x3)] := hl
  rw [F_X10_near] at hF
  refine lv_iload_n hx hb dX10_near_0 rfl (lv_at hl 1 rfl) ?_
  refine lv_iconst (v := 1) hx hb dX10_near_1 (by decide) ?_
  refine lv_iconst (v := 3) hx hb dX10_near_2 (by decide) ?_
  obtain ⟨q3, c_3, hF⟩ := bd_el hF
  refine wcZ (ws' := [(h_this, oX10 ad_this v_typed v_at v_isSo v_kept v_all v_sightAll v_aheadMany), ((ad_this 16), cI G 3 a_days), ((ad_this 2), cI G 6 a_goes), ((ad_this 11), cI G 10 a_noise), ((ad_this 17), cI G 15 a_seenSigns), ((ad_this 3), cI G 2 a_signs), ((ad_this 21), cJ G 3 a_then), ((ad_this 4), cI G 32 a_told), ((ad_this 23), cJ G 4 a_turns), ((ad_this 20), cJ G 3 a_weight), ((ad_this 18), cI G 15 a_wentOn), ((ad_this 10), cI G 2 a_works)]) (wc := []) (wr := [(h_this, oX10 ad_this v_typed v_at v_isSo v_kept v_all v_sightAll v_aheadMany), ((ad_this 16), cI G 3 a_days), ((ad_this 2), cI G 6 a_goes), ((ad_this 11), cI G 10 a_noise), ((ad_this 17), cI G 15 a_seenSigns), ((ad_this 3), cI G 2 a_signs), ((ad_this 21), cJ G 3 a_then), ((ad_this 4), cI G 32 a_told), ((ad_this 23), cJ G 4 a_turns), ((ad_this 20), cJ G 3 a_weight), ((ad_this 18), cI G 15 a_wentOn), ((ad_this 10), cI G 2 a_works)]) (w1 := []) (va_runS (As := [.int x1, .int 1, .int 3]) (rest := []) ⟨hx, hb, hml, hown, hg⟩ (c_X10_in l G x1 1 3 q3 c_3 H.size) (va_cwS 3 hg (gS wd_4_136 wd_4_137 wd_1_15 wd_4_138) rfl rfl rfl hdS_X10_in ⟨(Nat.le_of_ble_eq_true rfl), (Nat.le_of_ble_eq_true rfl)⟩) (preS hc hW [] rfl (by decide)) rfl rfl hl.1 rfl (lv_room (Nat.le_of_ble_eq_true rfl)) dX10_near_3 ⟨Nat.zero_le _, Nat.zero_le _⟩) hA hW [] [0, 1, 2, 3, 4, 5, 6, 7, 8, 9, 10, 11] [0, 1, 2, 3, 4, 5, 6, 7, 8, 9, 10, 11] rfl rfl (by decide) (by decide) rfl (by decide) (fun z_3 H locs hW => ?_)
  refine lv_if_eq (tgt := 26) hx hb dX10_near_6 (by decide) (fun c_6 => ?_) (fun c_6 => ?_)
  · have hF := ite_t hF c_6
    refine lv_ldc2 (v := (-1)) hx hb hown (hg _ wd_4_204) dX10_near_26 ?_
    obtain rfl := Option.some.inj hF
    exact hret _ _ _ _ hW dX10_near_29
  · have hF := ite_f hF c_6
    refine lv_aload_n hx hb dX10_near_9 rfl (lv_at hl 0 rfl) ?_
    refine lv_iload_n hx hb dX10_near_10 rfl (lv_at hl 2 rfl) ?_
    obtain ⟨q11, c_11, hF⟩ := bd_el hF
    refine wcZ (ws' := [(h_this, oX10 ad_this v_typed v_at v_isSo v_kept v_all v_sightAll v_aheadMany), ((ad_this 16), cI G 3 a_days), ((ad_this 2), cI G 6 a_goes), ((ad_this 11), cI G 10 a_noise), ((ad_this 17), cI G 15 a_seenSigns), ((ad_this 3), cI G 2 a_signs), ((ad_this 21), cJ G 3 a_then), ((ad_this 4), cI G 32 a_told), ((ad_this 23), cJ G 4 a_turns), ((ad_this 20), cJ G 3 a_weight), ((ad_this 18), cI G 15 a_wentOn), ((ad_this 10), cI G 2 a_works)]) (wc := [(h_this, oX10 ad_this v_typed v_at v_isSo v_kept v_all v_sightAll v_aheadMany), ((ad_this 10), cI G 2 a_works)]) (wr := [((ad_this 16), cI G 3 a_days), ((ad_this 2), cI G 6 a_goes), ((ad_this 11), cI G 10 a_noise), ((ad_this 17), cI G 15 a_seenSigns), ((ad_this 3), cI G 2 a_signs), ((ad_this 21), cJ G 3 a_then), ((ad_this 4), cI G 32 a_told), ((ad_this 23), cJ G 4 a_turns), ((ad_this 20), cJ G 3 a_weight), ((ad_this 18), cI G 15 a_wentOn)]) (w1 := [(h_this, oX10 ad_this v_typed v_at v_isSo v_kept v_all v_sightAll v_aheadMany), ((ad_this 10), cI G 2 a_works)]) (va_runV (As := [.int x2]) (rest := []) ⟨hx, hb, hml, hown, hg⟩ (c_X10_areWorks l G x2 h_this ad_this v_typed v_at v_isSo v_kept v_all v_sightAll v_aheadMany a_works q11 c_11 H.size) (cwV 1 hg (gV wd_4_176 wd_4_178 wd_0_31 wd_1_15 wd_4_179) rfl rfl rfl hdV_X10_areWorks ⟨(Nat.le_of_ble_eq_true rfl), (Nat.le_of_ble_eq_true rfl)⟩) (preV hc hW [0, 11] rfl (by decide) rfl rfl) rfl rfl hl.1 rfl (lv_room (Nat.le_of_ble_eq_true rfl)) dX10_near_11 ⟨Nat.zero_le _, Nat.zero_le _⟩) hA hW [0, 11] [1, 2, 3, 4, 5, 6, 7, 8, 9, 10] [10, 0, 1, 2, 3, 4, 5, 6, 7, 8, 9, 11] rfl rfl (by decide) (by decide) rfl (by decide) (fun z_11 H locs hW => ?_)
    refine lv_if_eq (tgt := 26) hx hb dX10_near_14 (by decide) (fun c_14 => ?_) (fun c_14 => ?_)
    · have hF := ite_t hF c_14
      refine lv_ldc2 (v := (-1)) hx hb hown (hg _ wd_4_204) dX10_near_26 ?_
      obtain rfl := Option.some.inj hF
      exact hret _ _ _ _ hW dX10_near_29
    · have hF := ite_f hF c_14
      refine lv_iload_n hx hb dX10_near_17 rfl (lv_at hl 3 rfl) ?_
      refine lv_iconst (v := 0) hx hb dX10_near_18 (by decide) ?_
      refine lv_iconst (v := 1) hx hb dX10_near_19 (by decide) ?_
      obtain ⟨q20, c_20, hF⟩ := bd_el hF
      refine wcZ (ws' := [(h_this, oX10 ad_this v_typed v_at v_isSo v_kept v_all v_sightAll v_aheadMany), ((ad_this 16), cI G 3 a_days), ((ad_this 2), cI G 6 a_goes), ((ad_this 11), cI G 10 a_noise), ((ad_this 17), cI G 15 a_seenSigns), ((ad_this 3), cI G 2 a_signs), ((ad_this 21), cJ G 3 a_then), ((ad_this 4), cI G 32 a_told), ((ad_this 23), cJ G 4 a_turns), ((ad_this 20), cJ G 3 a_weight), ((ad_this 18), cI G 15 a_wentOn), ((ad_this 10), cI G 2 a_works)]) (wc := []) (wr := [(h_this, oX10 ad_this v_typed v_at v_isSo v_kept v_all v_sightAll v_aheadMany), ((ad_this 16), cI G 3 a_days), ((ad_this 2), cI G 6 a_goes), ((ad_this 11), cI G 10 a_noise), ((ad_this 17), cI G 15 a_seenSigns), ((ad_this 3), cI G 2 a_signs), ((ad_this 21), cJ G 3 a_then), ((ad_this 4), cI G 32 a_told), ((ad_this 23), cJ G 4 a_turns), ((ad_this 20), cJ G 3 a_weight), ((ad_this 18), cI G 15 a_wentOn), ((ad_this 10), cI G 2 a_works)]) (w1 := []) (va_runS (As := [.int x3, .int 0, .int 1]) (rest := []) ⟨hx, hb, hml, hown, hg⟩ (c_X10_in l G x3 0 1 q20 c_20 H.size) (va_cwS 3 hg (gS wd_4_136 wd_4_137 wd_1_15 wd_4_138) rfl rfl rfl hdS_X10_in ⟨(Nat.le_of_ble_eq_true rfl), (Nat.le_of_ble_eq_true rfl)⟩) (preS hc hW [] rfl (by decide)) rfl rfl hl.1 rfl (lv_room (Nat.le_of_ble_eq_true rfl)) dX10_near_20 ⟨Nat.zero_le _, Nat.zero_le _⟩) hA hW [] [0, 1, 2, 3, 4, 5, 6, 7, 8, 9, 10, 11] [0, 1, 2, 3, 4, 5, 6, 7, 8, 9, 10, 11] rfl rfl (by decide) (by decide) rfl (by decide) (fun z_20 H locs hW => ?_)
      refine lv_if_ne (tgt := 30) hx hb dX10_near_23 (by decide) (fun c_23 => ?_) (fun c_23 => ?_)
      · have hF := ite_f hF c_23
        refine lv_aload_n hx hb dX10_near_30 rfl (lv_at hl 0 rfl) ?_
        refine lv_iload_n hx hb dX10_near_31 rfl (lv_at hl 2 rfl) ?_
        obtain ⟨q32, c_32, hF⟩ := bd_el hF
        refine wcZ (ws' := [(h_this, oX10 ad_this v_typed v_at v_isSo v_kept q32.2.1 v_sightAll v_aheadMany), ((ad_this 16), cI G 3 a_days), ((ad_this 2), cI G 6 a_goes), ((ad_this 11), cI G 10 a_noise), ((ad_this 17), cI G 15 a_seenSigns), ((ad_this 3), cI G 2 a_signs), ((ad_this 21), cJ G 3 q32.2.2.1), ((ad_this 4), cI G 32 a_told), ((ad_this 23), cJ G 4 q32.2.2.2.1), ((ad_this 20), cJ G 3 q32.2.2.2.2), ((ad_this 18), cI G 15 a_wentOn), ((ad_this 10), cI G 2 a_works)]) (wc := [(h_this, oX10 ad_this v_typed v_at v_isSo v_kept v_all v_sightAll v_aheadMany), ((ad_this 16), cI G 3 a_days), ((ad_this 2), cI G 6 a_goes), ((ad_this 11), cI G 10 a_noise), ((ad_this 17), cI G 15 a_seenSigns), ((ad_this 3), cI G 2 a_signs), ((ad_this 21), cJ G 3 a_then), ((ad_this 4), cI G 32 a_told), ((ad_this 23), cJ G 4 a_turns), ((ad_this 20), cJ G 3 a_weight), ((ad_this 18), cI G 15 a_wentOn), ((ad_this 10), cI G 2 a_works)]) (wr := []) (w1 := [(h_this, oX10 ad_this v_typed v_at v_isSo v_kept q32.2.1 v_sightAll v_aheadMany), ((ad_this 16), cI G 3 a_days), ((ad_this 2), cI G 6 a_goes), ((ad_this 11), cI G 10 a_noise), ((ad_this 17), cI G 15 a_seenSigns), ((ad_this 3), cI G 2 a_signs), ((ad_this 21), cJ G 3 q32.2.2.1), ((ad_this 4), cI G 32 a_told), ((ad_this 23), cJ G 4 q32.2.2.2.1), ((ad_this 20), cJ G 3 q32.2.2.2.2), ((ad_this 18), cI G 15 a_wentOn), ((ad_this 10), cI G 2 a_works)]) (va_runV (As := [.int x2]) (rest := []) ⟨hx, hb, hml, hown, hg⟩ (c_X10_findTurns l G x2 h_this ad_this v_typed v_at v_isSo v_kept v_all v_sightAll v_aheadMany a_days a_goes a_noise a_seenSigns a_signs a_then a_told a_turns a_weight a_wentOn a_works q32 c_32 H.size) (cwV 1 hg (gV wd_5_8 wd_5_10 wd_0_42 wd_1_15 wd_5_11) rfl rfl rfl hdV_X10_findTurns ⟨(Nat.le_of_ble_eq_true rfl), (Nat.le_of_ble_eq_true rfl)⟩) (preV hc hW [0, 1, 2, 3, 4, 5, 6, 7, 8, 9, 10, 11] rfl (by decide) rfl rfl) rfl rfl hl.1 rfl (lv_room (Nat.le_of_ble_eq_true rfl)) dX10_near_32 ⟨Nat.zero_le _, Nat.zero_le _⟩) hA hW [0, 1, 2, 3, 4, 5, 6, 7, 8, 9, 10, 11] [] [0, 1, 2, 3, 4, 5, 6, 7, 8, 9, 10, 11] rfl rfl (by decide) (by decide) rfl (by decide) (fun z_32 H locs hW => ?_)
        refine lv_if_ne (tgt := 42) hx hb dX10_near_35 (by decide) (fun c_35 => ?_) (fun c_35 => ?_)
        · have hF := ite_f hF c_35
          refine lv_aload_n hx hb dX10_near_42 rfl (lv_at hl 0 rfl) ?_
          refine va_get (D := G.1) (ci := 9) (v := .ref ((ad_this 23))) (C := RX10) (T := TX10) (N := 31) hx hb hg hu_X10 hown hc.1 hW.1 0 rfl rfl 23 (by decide) (hg _ wd_4_61) (fun _ h9 => h9) rfl dX10_near_43 ?_
          refine lv_iload_n hx hb dX10_near_46 rfl (lv_at hl 1 rfl) ?_
          obtain ⟨b_47, hF⟩ := inb_el hF
          refine va_lald hx hb hc.1 hW.1 8 1 rfl rfl b_47 dX10_near_47 ?_
          refine lv_aload_n hx hb dX10_near_48 rfl (lv_at hl 0 rfl) ?_
          refine va_get (D := G.1) (ci := 9) (v := .long q32.2.1) (C := RX10) (T := TX10) (N := 31) hx hb hg hu_X10 hown hc.1 hW.1 0 rfl rfl 22 (by decide) (hg _ wd_4_60) (fun _ h9 => h9) rfl dX10_near_49 ?_
          refine lv_iload_n hx hb dX10_near_52 rfl (lv_at hl 3 rfl) ?_
          obtain ⟨q53, c_53, hF⟩ := bd_el hF
          refine wcJ (ws' := [(h_this, oX10 ad_this v_typed v_at v_isSo v_kept q32.2.1 v_sightAll v_aheadMany), ((ad_this 16), cI G 3 a_days), ((ad_this 2), cI G 6 a_goes), ((ad_this 11), cI G 10 a_noise), ((ad_this 17), cI G 15 a_seenSigns), ((ad_this 3), cI G 2 a_signs), ((ad_this 21), cJ G 3 q32.2.2.1), ((ad_this 4), cI G 32 a_told), ((ad_this 23), cJ G 4 q32.2.2.2.1), ((ad_this 20), cJ G 3 q32.2.2.2.2), ((ad_this 18), cI G 15 a_wentOn), ((ad_this 10), cI G 2 a_works)]) (wc := []) (wr := [(h_this, oX10 ad_this v_typed v_at v_isSo v_kept q32.2.1 v_sightAll v_aheadMany), ((ad_this 16), cI G 3 a_days), ((ad_this 2), cI G 6 a_goes), ((ad_this 11), cI G 10 a_noise), ((ad_this 17), cI G 15 a_seenSigns), ((ad_this 3), cI G 2 a_signs), ((ad_this 21), cJ G 3 q32.2.2.1), ((ad_this 4), cI G 32 a_told), ((ad_this 23), cJ G 4 q32.2.2.2.1), ((ad_this 20), cJ G 3 q32.2.2.2.2), ((ad_this 18), cI G 15 a_wentOn), ((ad_this 10), cI G 2 a_works)]) (w1 := []) (va_runS (As := [.long ((q32.2.2.2.1 (Int32.toNatClampNeg x1))), .long q32.2.1, .int x3]) (rest := []) ⟨hx, hb, hml, hown, hg⟩ (c_X10_part l G ((q32.2.2.2.1 (Int32.toNatClampNeg x1))) q32.2.1 x3 q53 c_53 H.size) (va_cwS 3 hg (gS wd_5_1 wd_5_2 wd_1_15 wd_5_3) rfl rfl rfl hdS_X10_part ⟨(Nat.le_of_ble_eq_true rfl), (Nat.le_of_ble_eq_true rfl)⟩) (preS hc hW [] rfl (by decide)) rfl rfl hl.1 rfl (lv_room (Nat.le_of_ble_eq_true rfl)) dX10_near_53 ⟨Nat.zero_le _, Nat.zero_le _⟩) hA hW [] [0, 1, 2, 3, 4, 5, 6, 7, 8, 9, 10, 11] [0, 1, 2, 3, 4, 5, 6, 7, 8, 9, 10, 11] rfl rfl (by decide) (by decide) rfl (by decide) (fun H locs hW => ?_)
          obtain rfl := Option.some.inj hF
          exact hret _ _ _ _ hW dX10_near_56
        · have hF := ite_t hF c_35
          refine lv_ldc2 (v := (-4)) hx hb hown (hg _ wd_4_236) dX10_near_38 ?_
          obtain rfl := Option.some.inj hF
          exact hret _ _ _ _ hW dX10_near_41
      · have hF := ite_t hF c_23
        refine lv_ldc2 (v := (-1)) hx hb hown (hg _ wd_4_204) dX10_near_26 ?_
        obtain rfl := Option.some.inj hF
        exact hret _ _ _ _ hW dX10_near_29
theorem dX10_sightOf_0 : decode cX10_sightOf 0 = .ok (.lconst 1, 1) := by decide +kernel
theorem dX10_sightOf_1 : decode cX10_sightOf 1 = .ok (.lstore 4, 2) := by decide +kernel
theorem dX10_sightOf_3 : decode cX10_sightOf 3 = .ok (.iconst 0, 1) := by decide +kernel
theorem dX10_sightOf_4 : decode cX10_sightOf 4 = .ok (.istore 6, 2) := by decide +kernel
theorem dX10_sightOf_6 : decode cX10_sightOf 6 = .ok (.iload_n 1, 1) := by decide +kernel
theorem dX10_sightOf_7 : decode cX10_sightOf 7 = .ok (.istore 7, 2) := by decide +kernel
theorem dX10_sightOf_9 : decode cX10_sightOf 9 = .ok (.iconst 1, 1) := by decide +kernel
theorem dX10_sightOf_10 : decode cX10_sightOf 10 = .ok (.istore 8, 2) := by decide +kernel
theorem dX10_sightOf_12 : decode cX10_sightOf 12 = .ok (.iload 8, 2) := by decide +kernel
theorem dX10_sightOf_14 : decode cX10_sightOf 14 = .ok (.ifCond .eq 34, 3) := by decide +kernel
theorem dX10_sightOf_17 : decode cX10_sightOf 17 = .ok (.lload 4, 2) := by decide +kernel
theorem dX10_sightOf_19 : decode cX10_sightOf 19 = .ok (.aload_n 0, 1) := by decide +kernel
theorem dX10_sightOf_20 : decode cX10_sightOf 20 = .ok (.iload 7, 2) := by decide +kernel
theorem dX10_sightOf_22 : decode cX10_sightOf 22 = .ok (.iload_n 2, 1) := by decide +kernel
theorem dX10_sightOf_23 : decode cX10_sightOf 23 = .ok (.iload_n 3, 1) := by decide +kernel
theorem dX10_sightOf_24 : decode cX10_sightOf 24 = .ok (.invokevirtual 151, 3) := by decide +kernel
theorem dX10_sightOf_27 : decode cX10_sightOf 27 = .ok (.i2l, 1) := by decide +kernel
theorem dX10_sightOf_28 : decode cX10_sightOf 28 = .ok (.lmul, 1) := by decide +kernel
theorem dX10_sightOf_29 : decode cX10_sightOf 29 = .ok (.lstore 4, 2) := by decide +kernel
theorem dX10_sightOf_31 : decode cX10_sightOf 31 = .ok (.iinc 6 1, 3) := by decide +kernel
theorem dX10_sightOf_34 : decode cX10_sightOf 34 = .ok (.aload_n 0, 1) := by decide +kernel
theorem dX10_sightOf_35 : decode cX10_sightOf 35 = .ok (.iload 7, 2) := by decide +kernel
theorem dX10_sightOf_37 : decode cX10_sightOf 37 = .ok (.invokevirtual 148, 3) := by decide +kernel
theorem dX10_sightOf_40 : decode cX10_sightOf 40 = .ok (.istore 8, 2) := by decide +kernel
theorem dX10_sightOf_42 : decode cX10_sightOf 42 = .ok (.iinc 7 (-1), 3) := by decide +kernel
theorem dX10_sightOf_45 : decode cX10_sightOf 45 = .ok (.goto (-33), 3) := by decide +kernel
theorem dX10_sightOf_48 : decode cX10_sightOf 48 = .ok (.iload 6, 2) := by decide +kernel
theorem dX10_sightOf_50 : decode cX10_sightOf 50 = .ok (.istore 9, 2) := by decide +kernel
theorem dX10_sightOf_52 : decode cX10_sightOf 52 = .ok (.iload 9, 2) := by decide +kernel
theorem dX10_sightOf_54 : decode cX10_sightOf 54 = .ok (.iconst 4, 1) := by decide +kernel
theorem dX10_sightOf_55 : decode cX10_sightOf 55 = .ok (.if_icmp .ge 17, 3) := by decide +kernel
theorem dX10_sightOf_58 : decode cX10_sightOf 58 = .ok (.lload 4, 2) := by decide +kernel
theorem dX10_sightOf_60 : decode cX10_sightOf 60 = .ok (.ldc2_w 196, 3) := by decide +kernel
theorem dX10_sightOf_63 : decode cX10_sightOf 63 = .ok (.lmul, 1) := by decide +kernel
theorem dX10_sightOf_64 : decode cX10_sightOf 64 = .ok (.lstore 4, 2) := by decide +kernel
theorem dX10_sightOf_66 : decode cX10_sightOf 66 = .ok (.iinc 9 1, 3) := by decide +kernel
theorem dX10_sightOf_69 : decode cX10_sightOf 69 = .ok (.goto (-17), 3) := by decide +kernel
theorem dX10_sightOf_72 : decode cX10_sightOf 72 = .ok (.lload 4, 2) := by decide +kernel
theorem dX10_sightOf_74 : decode cX10_sightOf 74 = .ok (.lreturn, 1) := by decide +kernel
def L_X10_sightOf_52  : Nat → Int64 → Int32 → Option (Int64)
  | 0, _, _ => none
  | n + 1, x4_52, x9_52 => (if 4 ≤ x9_52 then some (x4_52) else L_X10_sightOf_52 n ((x4_52 * 4)) ((x9_52 + 1)))
def L_X10_sightOf_12 (x2 : Int32) (x3 : Int32) (a_told : Nat → Int32) (k_48 : Int64 → Int32 → Option (Int64)) : Nat → Int64 → Int32 → Int32 → Int32 → Option (Int64)
  | 0, _, _, _, _ => none
  | n + 1, x4_12, x6_12, x7_12, x8_12 => (if x8_12 = 0 then k_48 x4_12 x6_12 else (F_X10_seenBy x7_12 x2 x3 a_told).bind (fun q24 => (F_X10_isPaired x7_12 a_told).bind (fun q37 => L_X10_sightOf_12 x2 x3 a_told k_48 n ((x4_12 * (Int32.toInt64 q24))) ((x6_12 + 1)) ((x7_12 + (-1))) q37)))
def F_X10_sightOf (x1 : Int32) (x2 : Int32) (x3 : Int32) (a_told : Nat → Int32) : Option (Int64) := jn (fun (x4_48 : Int64) (x6_48 : Int32) => L_X10_sightOf_52 5000 x4_48 x6_48) (fun k_48 => L_X10_sightOf_12 x2 x3 a_told k_48 5000 1 0 x1 1)
theorem hdV_X10_sightOf : yX10_sightOf.cls = RX10 ∧ yX10_sightOf.cls ≠ "java/lang/invoke/MethodHandle" ∧ yX10_sightOf.cls ≠ "java/lang/invoke/VarHandle" ∧ (parseMethodDescriptor yX10_sightOf.desc).map (fun d => d.parameters.length) = some 3 := by decide +kernel
set_option maxHeartbeats 4000000 in
set_option maxRecDepth 100000 in
theorem c_X10_sightOf (l : Launch) (G : GG) (x1 : Int32) (x2 : Int32) (x3 : Int32) (h_this : Nat) (ad_this : Nat → Nat) (v_typed : Int32) (v_at : Int32) (v_isSo : Int32) (v_kept : Int32) (v_all : Int64) (v_sightAll : Int64) (v_aheadMany : Int32) (a_told : Nat → Int32) (out : Int64) (hF : F_X10_sightOf x1 x2 x3 a_told = some out) : CtrJ l yX10_sightOf (WS yX10_sightOf cX10_sightOf 10 (some .long)) { frames := 1, cells := 0, slots := 0, locals := 24 } G [.ref h_this, .int x1, .int x2, .int x3] [(h_this, oX10 ad_this v_typed v_at v_isSo v_kept v_all v_sightAll v_aheadMany), ((ad_this 4), cI G 32 a_told)] [(h_this, oX10 ad_this v_typed v_at v_isSo v_kept v_all v_sightAll v_aheadMany), ((ad_this 4), cI G 32 a_told)] out := by
  refine startJ (cc := cX10_sightOf) (maxL := 10) (by decide) rfl (Nat.le_of_ble_eq_true rfl) ?_
  intro p e s m args below meth c A Q hx hb hml hts hown hc hA hret ls H locs hl hW
  have hown : s.vm.findClass RX10 = some m.cls := hown
  have hg : ∀ w ∈ GOODS, w.before _ s = true := fun w h => hts w (List.mem_cons_of_mem _ h)
  have hl : lv_has ls 10 [(0, .ref h_this), (1, .int x1), (2, .int x2), (3, .int x3)] := hl
  rw [F_X10_sightOf] at hF
  refine lv_lconst (v := 1) hx hb dX10_sightOf_0 (by decide) ?_
  refine lv_lstore (lv' := [(4, .long 1), (0, .ref h_this), (1, .int x1), (2, .int x2), (3, .int x3)]) hx hb dX10_sightOf_1 hl (by decide) rfl (fun ls hl => ?_)
  refine lv_iconst (v := 0) hx hb dX10_sightOf_3 (by decide) ?_
  refine lv_istore (lv' := [(6, .int 0), (4, .long 1), (0, .ref h_this), (1, .int x1), (2, .int x2), (3, .int x3)]) hx hb dX10_sightOf_4 hl (by decide) rfl (fun ls hl => ?_)
  refine lv_iload_n hx hb dX10_sightOf_6 rfl (lv_at hl 3 rfl) ?_
  refine lv_istore (lv' := [(7, .int x1), (6, .int 0), (4, .long 1), (0, .ref h_this), (1, .int x1), (2, .int x2), (3, .int x3)]) hx hb dX10_sightOf_7 hl (by decide) rfl (fun ls hl => ?_)
  refine lv_iconst (v := 1) hx hb dX10_sightOf_9 (by decide) ?_
  refine lv_istore (lv' := [(8, .int 1), (7, .int x1), (6, .int 0), (4, .long 1), (0, .ref h_this), (1, .int x1), (2, .int x2), (3, .int x3)]) hx hb dX10_sightOf_10 hl (by decide) rfl (fun ls hl => ?_)
  obtain ⟨k_48, e_48, hF⟩ := jn_el hF
  have J_48 : ∀ (x4_48 : Int64) (x6_48 : Int32) (ls : Array Slot) (H : Heap) (locs : List Loc), k_48 x4_48 x6_48 = some out → lv_has ls 10 [(4, .long x4_48), (6, .int x6_48)] → Wd G A s.heap [(h_this, oX10 ad_this v_typed v_at v_isSo v_kept v_all v_sightAll v_aheadMany), ((ad_this 4), cI G 32 a_told)] H locs → W p l e ({ frames := 1, cells := 0, slots := 0, locals := 24 } : Room) s m args below meth c H locs 0 0 Q (F0 m 48 ls []) := by
    intro x4_48 x6_48 ls H locs hF hl hW
    rw [e_48] at hF
    dsimp only at hF
    refine lv_iload hx hb dX10_sightOf_48 (lv_at hl 1 rfl) ?_
    refine lv_istore (lv' := [(9, .int x6_48), (4, .long x4_48), (6, .int x6_48)]) hx hb dX10_sightOf_50 hl (by decide) rfl (fun ls hl => ?_)
    have L_52 : ∀ (n : Nat) (x4_52 : Int64) (x9_52 : Int32) (ls : Array Slot) (H : Heap) (locs : List Loc), L_X10_sightOf_52 n x4_52 x9_52 = some out → lv_has ls 10 [(4, .long x4_52), (9, .int x9_52)] → Wd G A s.heap [(h_this, oX10 ad_this v_typed v_at v_isSo v_kept v_all v_sightAll v_aheadMany), ((ad_this 4), cI G 32 a_told)] H locs → W p l e ({ frames := 1, cells := 0, slots := 0, locals := 24 } : Room) s m args below meth c H locs 0 0 Q (F0 m 52 ls []) := by
      intro n
      induction n with
      | zero => intro x4_52 x9_52 ls H locs hF hl hW; have h0 : none = some out := hF; cases h0
      | succ n ih =>
        intro x4_52 x9_52 ls H locs hF hl hW
        rw [L_X10_sightOf_52] at hF
        refine lv_iload hx hb dX10_sightOf_52 (lv_at hl 1 rfl) ?_
        refine lv_iconst (v := 4) hx hb dX10_sightOf_54 (by decide) ?_
        refine lv_icmp_ge (tgt := 72) hx hb dX10_sightOf_55 (by decide) (fun c_55 => ?_) (fun c_55 => ?_)
        · have hF := ite_t hF c_55
          refine lv_lload hx hb dX10_sightOf_72 (lv_at hl 0 rfl) ?_
          obtain rfl := Option.some.inj hF
          exact hret _ _ _ _ hW dX10_sightOf_74
        · have hF := ite_f hF c_55
          refine lv_lload hx hb dX10_sightOf_58 (lv_at hl 0 rfl) ?_
          refine lv_ldc2 (v := 4) hx hb hown (hg _ wd_5_13) dX10_sightOf_60 ?_
          refine lv_lmul hx hb dX10_sightOf_63 ?_
          refine lv_lstore (lv' := [(4, .long ((x4_52 * 4))), (9, .int x9_52)]) hx hb dX10_sightOf_64 hl (by decide) rfl (fun ls hl => ?_)
          refine lv_iinc (v := (x9_52 + 1)) (lv' := [(9, .int ((x9_52 + 1))), (4, .long ((x4_52 * 4)))]) hx hb dX10_sightOf_66 hl (k := 1) rfl rfl (by decide) rfl (fun ls hl => ?_)
          refine lv_goto (tgt := 52) hx hb dX10_sightOf_69 (by decide) ?_
          exact ih ((x4_52 * 4)) ((x9_52 + 1)) _ _ _ hF (lv_sub hl [1, 0] rfl) hW
    exact L_52 5000 x4_48 x6_48 _ _ _ hF (lv_sub hl [1, 0] rfl) hW
  have L_12 : ∀ (n : Nat) (x4_12 : Int64) (x6_12 : Int32) (x7_12 : Int32) (x8_12 : Int32) (ls : Array Slot) (H : Heap) (locs : List Loc), L_X10_sightOf_12 x2 x3 a_told k_48 n x4_12 x6_12 x7_12 x8_12 = some out → lv_has ls 10 [(0, .ref h_this), (2, .int x2), (3, .int x3), (4, .long x4_12), (6, .int x6_12), (7, .int x7_12), (8, .int x8_12)] → Wd G A s.heap [(h_this, oX10 ad_this v_typed v_at v_isSo v_kept v_all v_sightAll v_aheadMany), ((ad_this 4), cI G 32 a_told)] H locs → W p l e ({ frames := 1, cells := 0, slots := 0, locals := 24 } : Room) s m args below meth c H locs 0 0 Q (F0 m 12 ls []) := by
    intro n
    induction n with
    | zero => intro x4_12 x6_12 x7_12 x8_12 ls H locs hF hl hW; have h0 : none = some out := hF; cases h0
    | succ n ih =>
      intro x4_12 x6_12 x7_12 x8_12 ls H locs hF hl hW
      rw [L_X10_sightOf_12] at hF
      refine lv_iload hx hb dX10_sightOf_12 (lv_at hl 6 rfl) ?_
      refine lv_if_eq (tgt := 48) hx hb dX10_sightOf_14 (by decide) (fun c_14 => ?_) (fun c_14 => ?_)
      · have hF := ite_t hF c_14
        exact J_48 x4_12 x6_12 _ _ _ hF (lv_sub hl [3, 4] rfl) hW
      · have hF := ite_f hF c_14
        refine lv_lload hx hb dX10_sightOf_17 (lv_at hl 3 rfl) ?_
        refine lv_aload_n hx hb dX10_sightOf_19 rfl (lv_at hl 0 rfl) ?_
        refine lv_iload hx hb dX10_sightOf_20 (lv_at hl 5 rfl) ?_
        refine lv_iload_n hx hb dX10_sightOf_22 rfl (lv_at hl 1 rfl) ?_
        refine lv_iload_n hx hb dX10_sightOf_23 rfl (lv_at hl 2 rfl) ?_
        obtain ⟨q24, c_24, hF⟩ := bd_el hF
        refine wcI (ws' := [(h_this, oX10 ad_this v_typed v_at v_isSo v_kept v_all v_sightAll v_aheadMany), ((ad_this 4), cI G 32 a_told)]) (wc := [(h_this, oX10 ad_this v_typed v_at v_isSo v_kept v_all v_sightAll v_aheadMany), ((ad_this 4), cI G 32 a_told)]) (wr := []) (w1 := [(h_this, oX10 ad_this v_typed v_at v_isSo v_kept v_all v_sightAll v_aheadMany), ((ad_this 4), cI G 32 a_told)]) (va_runV (As := [.int x7_12, .int x2, .int x3]) (rest := [.long x4_12]) ⟨hx, hb, hml, hown, hg⟩ (c_X10_seenBy l G x7_12 x2 x3 h_this ad_this v_typed v_at v_isSo v_kept v_all v_sightAll v_aheadMany a_told q24 c_24 H.size) (cwV 3 hg (gV wd_4_229 wd_4_231 wd_0_40 wd_1_15 wd_4_232) rfl rfl rfl hdV_X10_seenBy ⟨(Nat.le_of_ble_eq_true rfl), (Nat.le_of_ble_eq_true rfl)⟩) (preV hc hW [0, 1] rfl (by decide) rfl rfl) rfl rfl hl.1 rfl (lv_room (Nat.le_of_ble_eq_true rfl)) dX10_sightOf_24 ⟨Nat.zero_le _, Nat.zero_le _⟩) hA hW [0, 1] [] [0, 1] rfl rfl (by decide) (by decide) rfl (by decide) (fun H locs hW => ?_)
        refine lv_i2l (v := (Int32.toInt64 q24)) hx hb dX10_sightOf_27 rfl ?_
        refine lv_lmul hx hb dX10_sightOf_28 ?_
        refine lv_lstore (lv' := [(4, .long ((x4_12 * (Int32.toInt64 q24)))), (0, .ref h_this), (2, .int x2), (3, .int x3), (6, .int x6_12), (7, .int x7_12), (8, .int x8_12)]) hx hb dX10_sightOf_29 hl (by decide) rfl (fun ls hl => ?_)
        refine lv_iinc (v := (x6_12 + 1)) (lv' := [(6, .int ((x6_12 + 1))), (4, .long ((x4_12 * (Int32.toInt64 q24)))), (0, .ref h_this), (2, .int x2), (3, .int x3), (7, .int x7_12), (8, .int x8_12)]) hx hb dX10_sightOf_31 hl (k := 4) rfl rfl (by decide) rfl (fun ls hl => ?_)
        refine lv_aload_n hx hb dX10_sightOf_34 rfl (lv_at hl 2 rfl) ?_
        refine lv_iload hx hb dX10_sightOf_35 (lv_at hl 5 rfl) ?_
        obtain ⟨q37, c_37, hF⟩ := bd_el hF
        refine wcZ (ws' := [(h_this, oX10 ad_this v_typed v_at v_isSo v_kept v_all v_sightAll v_aheadMany), ((ad_this 4), cI G 32 a_told)]) (wc := [(h_this, oX10 ad_this v_typed v_at v_isSo v_kept v_all v_sightAll v_aheadMany), ((ad_this 4), cI G 32 a_told)]) (wr := []) (w1 := [(h_this, oX10 ad_this v_typed v_at v_isSo v_kept v_all v_sightAll v_aheadMany), ((ad_this 4), cI G 32 a_told)]) (va_runV (As := [.int x7_12]) (rest := []) ⟨hx, hb, hml, hown, hg⟩ (c_X10_isPaired l G x7_12 h_this ad_this v_typed v_at v_isSo v_kept v_all v_sightAll v_aheadMany a_told q37 c_37 H.size) (cwV 1 hg (gV wd_4_225 wd_4_227 wd_0_39 wd_1_15 wd_4_228) rfl rfl rfl hdV_X10_isPaired ⟨(Nat.le_of_ble_eq_true rfl), (Nat.le_of_ble_eq_true rfl)⟩) (preV hc hW [0, 1] rfl (by decide) rfl rfl) rfl rfl hl.1 rfl (lv_room (Nat.le_of_ble_eq_true rfl)) dX10_sightOf_37 ⟨Nat.zero_le _, Nat.zero_le _⟩) hA hW [0, 1] [] [0, 1] rfl rfl (by decide) (by decide) rfl (by decide) (fun z_37 H locs hW => ?_)
        refine lv_istore (lv' := [(8, .int q37), (6, .int ((x6_12 + 1))), (4, .long ((x4_12 * (Int32.toInt64 q24)))), (0, .ref h_this), (2, .int x2), (3, .int x3), (7, .int x7_12)]) hx hb dX10_sightOf_40 hl (by decide) rfl (fun ls hl => ?_)
        refine lv_iinc (v := (x7_12 + (-1))) (lv' := [(7, .int ((x7_12 + (-1)))), (8, .int q37), (6, .int ((x6_12 + 1))), (4, .long ((x4_12 * (Int32.toInt64 q24)))), (0, .ref h_this), (2, .int x2), (3, .int x3)]) hx hb dX10_sightOf_42 hl (k := 6) rfl rfl (by decide) rfl (fun ls hl => ?_)
        refine lv_goto (tgt := 12) hx hb dX10_sightOf_45 (by decide) ?_
        exact ih ((x4_12 * (Int32.toInt64 q24))) ((x6_12 + 1)) ((x7_12 + (-1))) q37 _ _ _ hF (lv_sub hl [4, 5, 6, 3, 2, 0, 1] rfl) hW
  exact L_12 5000 1 0 x1 1 _ _ _ hF (lv_sub hl [4, 6, 7, 3, 2, 1, 0] rfl) hW
theorem dX10_sightUp_0 : decode cX10_sightUp 0 = .ok (.lconst 0, 1) := by decide +kernel
theorem dX10_sightUp_1 : decode cX10_sightUp 1 = .ok (.lstore_n 3, 1) := by decide +kernel
theorem dX10_sightUp_2 : decode cX10_sightUp 2 = .ok (.aload_n 0, 1) := by decide +kernel
theorem dX10_sightUp_3 : decode cX10_sightUp 3 = .ok (.lconst 0, 1) := by decide +kernel
theorem dX10_sightUp_4 : decode cX10_sightUp 4 = .ok (.putfield 201, 3) := by decide +kernel
theorem dX10_sightUp_7 : decode cX10_sightUp 7 = .ok (.iconst 0, 1) := by decide +kernel
theorem dX10_sightUp_8 : decode cX10_sightUp 8 = .ok (.istore 5, 2) := by decide +kernel
theorem dX10_sightUp_10 : decode cX10_sightUp 10 = .ok (.iload 5, 2) := by decide +kernel
theorem dX10_sightUp_12 : decode cX10_sightUp 12 = .ok (.iconst 3, 1) := by decide +kernel
theorem dX10_sightUp_13 : decode cX10_sightUp 13 = .ok (.if_icmp .ge 126, 3) := by decide +kernel
theorem dX10_sightUp_16 : decode cX10_sightUp 16 = .ok (.aload_n 0, 1) := by decide +kernel
theorem dX10_sightUp_17 : decode cX10_sightUp 17 = .ok (.iload 5, 2) := by decide +kernel
theorem dX10_sightUp_19 : decode cX10_sightUp 19 = .ok (.iload_n 2, 1) := by decide +kernel
theorem dX10_sightUp_20 : decode cX10_sightUp 20 = .ok (.invokevirtual 154, 3) := by decide +kernel
theorem dX10_sightUp_23 : decode cX10_sightUp 23 = .ok (.istore 6, 2) := by decide +kernel
theorem dX10_sightUp_25 : decode cX10_sightUp 25 = .ok (.lload_n 3, 1) := by decide +kernel
theorem dX10_sightUp_26 : decode cX10_sightUp 26 = .ok (.aload_n 0, 1) := by decide +kernel
theorem dX10_sightUp_27 : decode cX10_sightUp 27 = .ok (.getfield 59, 3) := by decide +kernel
theorem dX10_sightUp_30 : decode cX10_sightUp 30 = .ok (.iload 5, 2) := by decide +kernel
theorem dX10_sightUp_32 : decode cX10_sightUp 32 = .ok (.laload, 1) := by decide +kernel
theorem dX10_sightUp_33 : decode cX10_sightUp 33 = .ok (.iconst 4, 1) := by decide +kernel
theorem dX10_sightUp_34 : decode cX10_sightUp 34 = .ok (.iload 6, 2) := by decide +kernel
theorem dX10_sightUp_36 : decode cX10_sightUp 36 = .ok (.isub, 1) := by decide +kernel
theorem dX10_sightUp_37 : decode cX10_sightUp 37 = .ok (.i2l, 1) := by decide +kernel
theorem dX10_sightUp_38 : decode cX10_sightUp 38 = .ok (.lmul, 1) := by decide +kernel
theorem dX10_sightUp_39 : decode cX10_sightUp 39 = .ok (.aload_n 0, 1) := by decide +kernel
theorem dX10_sightUp_40 : decode cX10_sightUp 40 = .ok (.iload_n 1, 1) := by decide +kernel
theorem dX10_sightUp_41 : decode cX10_sightUp 41 = .ok (.iload 5, 2) := by decide +kernel
theorem dX10_sightUp_43 : decode cX10_sightUp 43 = .ok (.iload 5, 2) := by decide +kernel
theorem dX10_sightUp_45 : decode cX10_sightUp 45 = .ok (.invokevirtual 204, 3) := by decide +kernel
theorem dX10_sightUp_48 : decode cX10_sightUp 48 = .ok (.lmul, 1) := by decide +kernel
theorem dX10_sightUp_49 : decode cX10_sightUp 49 = .ok (.ladd, 1) := by decide +kernel
theorem dX10_sightUp_50 : decode cX10_sightUp 50 = .ok (.lstore_n 3, 1) := by decide +kernel
theorem dX10_sightUp_51 : decode cX10_sightUp 51 = .ok (.aload_n 0, 1) := by decide +kernel
theorem dX10_sightUp_52 : decode cX10_sightUp 52 = .ok (.dup, 1) := by decide +kernel
theorem dX10_sightUp_53 : decode cX10_sightUp 53 = .ok (.getfield 201, 3) := by decide +kernel
theorem dX10_sightUp_56 : decode cX10_sightUp 56 = .ok (.ldc2_w 207, 3) := by decide +kernel
theorem dX10_sightUp_59 : decode cX10_sightUp 59 = .ok (.aload_n 0, 1) := by decide +kernel
theorem dX10_sightUp_60 : decode cX10_sightUp 60 = .ok (.getfield 59, 3) := by decide +kernel
theorem dX10_sightUp_63 : decode cX10_sightUp 63 = .ok (.iload 5, 2) := by decide +kernel
theorem dX10_sightUp_65 : decode cX10_sightUp 65 = .ok (.laload, 1) := by decide +kernel
theorem dX10_sightUp_66 : decode cX10_sightUp 66 = .ok (.lmul, 1) := by decide +kernel
theorem dX10_sightUp_67 : decode cX10_sightUp 67 = .ok (.iconst 4, 1) := by decide +kernel
theorem dX10_sightUp_68 : decode cX10_sightUp 68 = .ok (.iload 6, 2) := by decide +kernel
theorem dX10_sightUp_70 : decode cX10_sightUp 70 = .ok (.isub, 1) := by decide +kernel
theorem dX10_sightUp_71 : decode cX10_sightUp 71 = .ok (.i2l, 1) := by decide +kernel
theorem dX10_sightUp_72 : decode cX10_sightUp 72 = .ok (.lmul, 1) := by decide +kernel
theorem dX10_sightUp_73 : decode cX10_sightUp 73 = .ok (.ladd, 1) := by decide +kernel
theorem dX10_sightUp_74 : decode cX10_sightUp 74 = .ok (.putfield 201, 3) := by decide +kernel
theorem dX10_sightUp_77 : decode cX10_sightUp 77 = .ok (.iload 5, 2) := by decide +kernel
theorem dX10_sightUp_79 : decode cX10_sightUp 79 = .ok (.iconst 2, 1) := by decide +kernel
theorem dX10_sightUp_80 : decode cX10_sightUp 80 = .ok (.if_icmp .ge 53, 3) := by decide +kernel
theorem dX10_sightUp_83 : decode cX10_sightUp 83 = .ok (.lload_n 3, 1) := by decide +kernel
theorem dX10_sightUp_84 : decode cX10_sightUp 84 = .ok (.aload_n 0, 1) := by decide +kernel
theorem dX10_sightUp_85 : decode cX10_sightUp 85 = .ok (.getfield 59, 3) := by decide +kernel
theorem dX10_sightUp_88 : decode cX10_sightUp 88 = .ok (.iload 5, 2) := by decide +kernel
theorem dX10_sightUp_90 : decode cX10_sightUp 90 = .ok (.laload, 1) := by decide +kernel
theorem dX10_sightUp_91 : decode cX10_sightUp 91 = .ok (.iload 6, 2) := by decide +kernel
theorem dX10_sightUp_93 : decode cX10_sightUp 93 = .ok (.i2l, 1) := by decide +kernel
theorem dX10_sightUp_94 : decode cX10_sightUp 94 = .ok (.lmul, 1) := by decide +kernel
theorem dX10_sightUp_95 : decode cX10_sightUp 95 = .ok (.aload_n 0, 1) := by decide +kernel
theorem dX10_sightUp_96 : decode cX10_sightUp 96 = .ok (.iload_n 1, 1) := by decide +kernel
theorem dX10_sightUp_97 : decode cX10_sightUp 97 = .ok (.iload 5, 2) := by decide +kernel
theorem dX10_sightUp_99 : decode cX10_sightUp 99 = .ok (.iload 5, 2) := by decide +kernel
theorem dX10_sightUp_101 : decode cX10_sightUp 101 = .ok (.iconst 1, 1) := by decide +kernel
theorem dX10_sightUp_102 : decode cX10_sightUp 102 = .ok (.iadd, 1) := by decide +kernel
theorem dX10_sightUp_103 : decode cX10_sightUp 103 = .ok (.invokevirtual 204, 3) := by decide +kernel
theorem dX10_sightUp_106 : decode cX10_sightUp 106 = .ok (.lmul, 1) := by decide +kernel
theorem dX10_sightUp_107 : decode cX10_sightUp 107 = .ok (.ladd, 1) := by decide +kernel
theorem dX10_sightUp_108 : decode cX10_sightUp 108 = .ok (.lstore_n 3, 1) := by decide +kernel
theorem dX10_sightUp_109 : decode cX10_sightUp 109 = .ok (.aload_n 0, 1) := by decide +kernel
theorem dX10_sightUp_110 : decode cX10_sightUp 110 = .ok (.dup, 1) := by decide +kernel
theorem dX10_sightUp_111 : decode cX10_sightUp 111 = .ok (.getfield 201, 3) := by decide +kernel
theorem dX10_sightUp_114 : decode cX10_sightUp 114 = .ok (.ldc2_w 207, 3) := by decide +kernel
theorem dX10_sightUp_117 : decode cX10_sightUp 117 = .ok (.aload_n 0, 1) := by decide +kernel
theorem dX10_sightUp_118 : decode cX10_sightUp 118 = .ok (.getfield 59, 3) := by decide +kernel
theorem dX10_sightUp_121 : decode cX10_sightUp 121 = .ok (.iload 5, 2) := by decide +kernel
theorem dX10_sightUp_123 : decode cX10_sightUp 123 = .ok (.laload, 1) := by decide +kernel
theorem dX10_sightUp_124 : decode cX10_sightUp 124 = .ok (.lmul, 1) := by decide +kernel
theorem dX10_sightUp_125 : decode cX10_sightUp 125 = .ok (.iload 6, 2) := by decide +kernel
theorem dX10_sightUp_127 : decode cX10_sightUp 127 = .ok (.i2l, 1) := by decide +kernel
theorem dX10_sightUp_128 : decode cX10_sightUp 128 = .ok (.lmul, 1) := by decide +kernel
theorem dX10_sightUp_129 : decode cX10_sightUp 129 = .ok (.ladd, 1) := by decide +kernel
theorem dX10_sightUp_130 : decode cX10_sightUp 130 = .ok (.putfield 201, 3) := by decide +kernel
theorem dX10_sightUp_133 : decode cX10_sightUp 133 = .ok (.iinc 5 1, 3) := by decide +kernel
theorem dX10_sightUp_136 : decode cX10_sightUp 136 = .ok (.goto (-126), 3) := by decide +kernel
theorem dX10_sightUp_139 : decode cX10_sightUp 139 = .ok (.lload_n 3, 1) := by decide +kernel
theorem dX10_sightUp_140 : decode cX10_sightUp 140 = .ok (.lreturn, 1) := by decide +kernel
def L_X10_sightUp_10 (x1 : Int32) (x2 : Int32) (a_goes : Nat → Int32) (a_noise : Nat → Int32) (a_told : Nat → Int32) (a_weight : Nat → Int64) (a_works : Nat → Int32)  : Nat → Int64 → Int32 → Int64 → Option (Int64 × Int64)
  | 0, _, _, _ => none
  | n + 1, x3_10, x5_10, v_sightAll_10 => (if 3 ≤ x5_10 then some (x3_10, v_sightAll_10) else (F_X10_chance x5_10 x2 a_goes a_noise a_works).bind (fun q20 => (if inb x5_10 3 = true then (F_X10_sightOf x1 x5_10 x5_10 a_told).bind (fun q45 => (if inb x5_10 3 = true then jn (fun (x3_133 : Int64) (v_sightAll_133 : Int64) => L_X10_sightUp_10 x1 x2 a_goes a_noise a_told a_weight a_works n x3_133 ((x5_10 + 1)) v_sightAll_133) (fun k_133 => (if 2 ≤ x5_10 then k_133 ((x3_10 + (((a_weight (Int32.toNatClampNeg x5_10)) * (Int32.toInt64 ((4 - q20)))) * q45))) ((v_sightAll_10 + ((256 * (a_weight (Int32.toNatClampNeg x5_10))) * (Int32.toInt64 ((4 - q20)))))) else (if inb x5_10 3 = true then (F_X10_sightOf x1 x5_10 ((x5_10 + 1)) a_told).bind (fun q103 => (if inb x5_10 3 = true then k_133 (((x3_10 + (((a_weight (Int32.toNatClampNeg x5_10)) * (Int32.toInt64 ((4 - q20)))) * q45)) + (((a_weight (Int32.toNatClampNeg x5_10)) * (Int32.toInt64 q20)) * q103))) (((v_sightAll_10 + ((256 * (a_weight (Int32.toNatClampNeg x5_10))) * (Int32.toInt64 ((4 - q20))))) + ((256 * (a_weight (Int32.toNatClampNeg x5_10))) * (Int32.toInt64 q20)))) else none)) else none))) else none)) else none)))
def F_X10_sightUp (x1 : Int32) (x2 : Int32) (v_sightAll : Int64) (a_goes : Nat → Int32) (a_noise : Nat → Int32) (a_told : Nat → Int32) (a_weight : Nat → Int64) (a_works : Nat → Int32) : Option (Int64 × Int64) := L_X10_sightUp_10 x1 x2 a_goes a_noise a_told a_weight a_works 5000 0 0 0
theorem hdV_X10_sightUp : yX10_sightUp.cls = RX10 ∧ yX10_sightUp.cls ≠ "java/lang/invoke/MethodHandle" ∧ yX10_sightUp.cls ≠ "java/lang/invoke/VarHandle" ∧ (parseMethodDescriptor yX10_sightUp.desc).map (fun d => d.parameters.length) = some 2 := by decide +kernel
set_option maxHeartbeats 4000000 in
set_option maxRecDepth 100000 in
theorem c_X10_sightUp (l : Launch) (G : GG) (x1 : Int32) (x2 : Int32) (h_this : Nat) (ad_this : Nat → Nat) (v_typed : Int32) (v_at : Int32) (v_isSo : Int32) (v_kept : Int32) (v_all : Int64) (v_sightAll : Int64) (v_aheadMany : Int32) (a_goes : Nat → Int32) (a_noise : Nat → Int32) (a_told : Nat → Int32) (a_weight : Nat → Int64) (a_works : Nat → Int32) (out : Int64 × Int64) (hF : F_X10_sightUp x1 x2 v_sightAll a_goes a_noise a_told a_weight a_works = some out) : CtrJ l yX10_sightUp (WS yX10_sightUp cX10_sightUp 7 (some .long)) { frames := 2, cells := 0, slots := 0, locals := 53 } G [.ref h_this, .int x1, .int x2] [(h_this, oX10 ad_this v_typed v_at v_isSo v_kept v_all v_sightAll v_aheadMany), ((ad_this 2), cI G 6 a_goes), ((ad_this 11), cI G 10 a_noise), ((ad_this 4), cI G 32 a_told), ((ad_this 20), cJ G 3 a_weight), ((ad_this 10), cI G 2 a_works)] [(h_this, oX10 ad_this v_typed v_at v_isSo v_kept v_all out.2 v_aheadMany), ((ad_this 2), cI G 6 a_goes), ((ad_this 11), cI G 10 a_noise), ((ad_this 4), cI G 32 a_told), ((ad_this 20), cJ G 3 a_weight), ((ad_this 10), cI G 2 a_works)] out.1 := by
  refine startJ (cc := cX10_sightUp) (maxL := 7) (by decide) rfl (Nat.le_of_ble_eq_true rfl) ?_
  intro p e s m args below meth c A Q hx hb hml hts hown hc hA hret ls H locs hl hW
  have hown : s.vm.findClass RX10 = some m.cls := hown
  have hg : ∀ w ∈ GOODS, w.before _ s = true := fun w h => hts w (List.mem_cons_of_mem _ h)
  have hl : lv_has ls 7 [(0, .ref h_this), (1, .int x1), (2, .int x2)] := hl
  rw [F_X10_sightUp] at hF
  refine lv_lconst (v := 0) hx hb dX10_sightUp_0 (by decide) ?_
  refine lv_lstore_n (lv' := [(3, .long 0), (0, .ref h_this), (1, .int x1), (2, .int x2)]) hx hb dX10_sightUp_1 rfl hl (by decide) rfl (fun ls hl => ?_)
  refine lv_aload_n hx hb dX10_sightUp_2 rfl (lv_at hl 1 rfl) ?_
  refine lv_lconst (v := 0) hx hb dX10_sightUp_3 (by decide) ?_
  refine va_put (D := G.1) (ci := 9) (v := .long 0) (ty := .long) (C := RX10) (T := TX10) (N := 31) hx hb hg hu_X10 tyX10 tyX10_ok nmX10 hown hc.1 hW.1 hW.2.1 hW.2.2 0 rfl rfl 24 (by decide) (hg _ wd_4_62) (fun _ h9 => h9) rfl (by decide +kernel) rfl rfl (Nat.le_of_ble_eq_true rfl) dX10_sightUp_4 (fun H locs hP hD hS => ?_)
  have hW : Wd G A s.heap [(h_this, oX10 ad_this v_typed v_at v_isSo v_kept v_all 0 v_aheadMany), ((ad_this 2), cI G 6 a_goes), ((ad_this 11), cI G 10 a_noise), ((ad_this 4), cI G 32 a_told), ((ad_this 20), cJ G 3 a_weight), ((ad_this 10), cI G 2 a_works)] H locs := ⟨hP, hD, hS⟩
  refine lv_iconst (v := 0) hx hb dX10_sightUp_7 (by decide) ?_
  refine lv_istore (lv' := [(5, .int 0), (3, .long 0), (0, .ref h_this), (1, .int x1), (2, .int x2)]) hx hb dX10_sightUp_8 hl (by decide) rfl (fun ls hl => ?_)
  have L_10 : ∀ (n : Nat) (x3_10 : Int64) (x5_10 : Int32) (v_sightAll_10 : Int64) (ls : Array Slot) (H : Heap) (locs : List Loc), L_X10_sightUp_10 x1 x2 a_goes a_noise a_told a_weight a_works n x3_10 x5_10 v_sightAll_10 = some out → lv_has ls 7 [(0, .ref h_this), (1, .int x1), (2, .int x2), (3, .long x3_10), (5, .int x5_10)] → Wd G A s.heap [(h_this, oX10 ad_this v_typed v_at v_isSo v_kept v_all v_sightAll_10 v_aheadMany), ((ad_this 2), cI G 6 a_goes), ((ad_this 11), cI G 10 a_noise), ((ad_this 4), cI G 32 a_told), ((ad_this 20), cJ G 3 a_weight), ((ad_this 10), cI G 2 a_works)] H locs → W p l e ({ frames := 2, cells := 0, slots := 0, locals := 53 } : Room) s m args below meth c H locs 0 0 Q (F0 m 10 ls []) := by
    intro n
    induction n with
    | zero => intro x3_10 x5_10 v_sightAll_10 ls H locs hF hl hW; have h0 : none = some out := hF; cases h0
    | succ n ih =>
      intro x3_10 x5_10 v_sightAll_10 ls H locs hF hl hW
      rw [L_X10_sightUp_10] at hF
      refine lv_iload hx hb dX10_sightUp_10 (lv_at hl 4 rfl) ?_
      refine lv_iconst (v := 3) hx hb dX10_sightUp_12 (by decide) ?_
      refine lv_icmp_ge (tgt := 139) hx hb dX10_sightUp_13 (by decide) (fun c_13 => ?_) (fun c_13 => ?_)
      · have hF := ite_t hF c_13
        refine lv_lload_n hx hb dX10_sightUp_139 rfl (lv_at hl 3 rfl) ?_
        obtain rfl := Option.some.inj hF
        exact hret _ _ _ _ hW dX10_sightUp_140
      · have hF := ite_f hF c_13
        refine lv_aload_n hx hb dX10_sightUp_16 rfl (lv_at hl 0 rfl) ?_
        refine lv_iload hx hb dX10_sightUp_17 (lv_at hl 4 rfl) ?_
        refine lv_iload_n hx hb dX10_sightUp_19 rfl (lv_at hl 2 rfl) ?_
        obtain ⟨q20, c_20, hF⟩ := bd_el hF
        refine wcI (ws' := [(h_this, oX10 ad_this v_typed v_at v_isSo v_kept v_all v_sightAll_10 v_aheadMany), ((ad_this 2), cI G 6 a_goes), ((ad_this 11), cI G 10 a_noise), ((ad_this 4), cI G 32 a_told), ((ad_this 20), cJ G 3 a_weight), ((ad_this 10), cI G 2 a_works)]) (wc := [(h_this, oX10 ad_this v_typed v_at v_isSo v_kept v_all v_sightAll_10 v_aheadMany), ((ad_this 2), cI G 6 a_goes), ((ad_this 11), cI G 10 a_noise), ((ad_this 10), cI G 2 a_works)]) (wr := [((ad_this 4), cI G 32 a_told), ((ad_this 20), cJ G 3 a_weight)]) (w1 := [(h_this, oX10 ad_this v_typed v_at v_isSo v_kept v_all v_sightAll_10 v_aheadMany), ((ad_this 2), cI G 6 a_goes), ((ad_this 11), cI G 10 a_noise), ((ad_this 10), cI G 2 a_works)]) (va_runV (As := [.int x5_10, .int x2]) (rest := []) ⟨hx, hb, hml, hown, hg⟩ (c_X10_chance l G x5_10 x2 h_this ad_this v_typed v_at v_isSo v_kept v_all v_sightAll_10 v_aheadMany a_goes a_noise a_works q20 c_20 H.size) (cwV 2 hg (gV wd_4_217 wd_4_219 wd_0_37 wd_1_15 wd_4_220) rfl rfl rfl hdV_X10_chance ⟨(Nat.le_of_ble_eq_true rfl), (Nat.le_of_ble_eq_true rfl)⟩) (preV hc hW [0, 1, 2, 5] rfl (by decide) rfl rfl) rfl rfl hl.1 rfl (lv_room (Nat.le_of_ble_eq_true rfl)) dX10_sightUp_20 ⟨Nat.zero_le _, Nat.zero_le _⟩) hA hW [0, 1, 2, 5] [3, 4] [2, 3, 4, 0, 1, 5] rfl rfl (by decide) (by decide) rfl (by decide) (fun H locs hW => ?_)
        refine lv_istore (lv' := [(6, .int q20), (0, .ref h_this), (1, .int x1), (2, .int x2), (3, .long x3_10), (5, .int x5_10)]) hx hb dX10_sightUp_23 hl (by decide) rfl (fun ls hl => ?_)
        refine lv_lload_n hx hb dX10_sightUp_25 rfl (lv_at hl 4 rfl) ?_
        refine lv_aload_n hx hb dX10_sightUp_26 rfl (lv_at hl 1 rfl) ?_
        refine va_get (D := G.1) (ci := 9) (v := .ref ((ad_this 20))) (C := RX10) (T := TX10) (N := 31) hx hb hg hu_X10 hown hc.1 hW.1 0 rfl rfl 20 (by decide) (hg _ wd_4_58) (fun _ h9 => h9) rfl dX10_sightUp_27 ?_
        refine lv_iload hx hb dX10_sightUp_30 (lv_at hl 5 rfl) ?_
        obtain ⟨b_32, hF⟩ := inb_el hF
        refine va_lald hx hb hc.1 hW.1 4 1 rfl rfl b_32 dX10_sightUp_32 ?_
        refine lv_iconst (v := 4) hx hb dX10_sightUp_33 (by decide) ?_
        refine lv_iload hx hb dX10_sightUp_34 (lv_at hl 0 rfl) ?_
        refine lv_isub hx hb dX10_sightUp_36 ?_
        refine lv_i2l (v := (Int32.toInt64 ((4 - q20)))) hx hb dX10_sightUp_37 rfl ?_
        refine lv_lmul hx hb dX10_sightUp_38 ?_
        refine lv_aload_n hx hb dX10_sightUp_39 rfl (lv_at hl 1 rfl) ?_
        refine lv_iload_n hx hb dX10_sightUp_40 rfl (lv_at hl 2 rfl) ?_
        refine lv_iload hx hb dX10_sightUp_41 (lv_at hl 5 rfl) ?_
        refine lv_iload hx hb dX10_sightUp_43 (lv_at hl 5 rfl) ?_
        obtain ⟨q45, c_45, hF⟩ := bd_el hF
        refine wcJ (ws' := [(h_this, oX10 ad_this v_typed v_at v_isSo v_kept v_all v_sightAll_10 v_aheadMany), ((ad_this 2), cI G 6 a_goes), ((ad_this 11), cI G 10 a_noise), ((ad_this 4), cI G 32 a_told), ((ad_this 20), cJ G 3 a_weight), ((ad_this 10), cI G 2 a_works)]) (wc := [(h_this, oX10 ad_this v_typed v_at v_isSo v_kept v_all v_sightAll_10 v_aheadMany), ((ad_this 4), cI G 32 a_told)]) (wr := [((ad_this 2), cI G 6 a_goes), ((ad_this 11), cI G 10 a_noise), ((ad_this 20), cJ G 3 a_weight), ((ad_this 10), cI G 2 a_works)]) (w1 := [(h_this, oX10 ad_this v_typed v_at v_isSo v_kept v_all v_sightAll_10 v_aheadMany), ((ad_this 4), cI G 32 a_told)]) (va_runV (As := [.int x1, .int x5_10, .int x5_10]) (rest := [.long (((a_weight (Int32.toNatClampNeg x5_10)) * (Int32.toInt64 ((4 - q20))))), .long x3_10]) ⟨hx, hb, hml, hown, hg⟩ (c_X10_sightOf l G x1 x5_10 x5_10 h_this ad_this v_typed v_at v_isSo v_kept v_all v_sightAll_10 v_aheadMany a_told q45 c_45 H.size) (cwV 3 hg (gV wd_5_22 wd_5_24 wd_0_44 wd_1_15 wd_5_25) rfl rfl rfl hdV_X10_sightOf ⟨(Nat.le_of_ble_eq_true rfl), (Nat.le_of_ble_eq_true rfl)⟩) (preV hc hW [0, 3] rfl (by decide) rfl rfl) rfl rfl hl.1 rfl (lv_room (Nat.le_of_ble_eq_true rfl)) dX10_sightUp_45 ⟨Nat.zero_le _, Nat.zero_le _⟩) hA hW [0, 3] [1, 2, 4, 5] [4, 0, 1, 5, 2, 3] rfl rfl (by decide) (by decide) rfl (by decide) (fun H locs hW => ?_)
        refine lv_lmul hx hb dX10_sightUp_48 ?_
        refine lv_ladd hx hb dX10_sightUp_49 ?_
        refine lv_lstore_n (lv' := [(3, .long ((x3_10 + (((a_weight (Int32.toNatClampNeg x5_10)) * (Int32.toInt64 ((4 - q20)))) * q45)))), (6, .int q20), (0, .ref h_this), (1, .int x1), (2, .int x2), (5, .int x5_10)]) hx hb dX10_sightUp_50 rfl hl (by decide) rfl (fun ls hl => ?_)
        refine lv_aload_n hx hb dX10_sightUp_51 rfl (lv_at hl 2 rfl) ?_
        refine lv_dup hx hb dX10_sightUp_52 rfl ?_
        refine va_get (D := G.1) (ci := 9) (v := .long v_sightAll_10) (C := RX10) (T := TX10) (N := 31) hx hb hg hu_X10 hown hc.1 hW.1 0 rfl rfl 24 (by decide) (hg _ wd_4_62) (fun _ h9 => h9) rfl dX10_sightUp_53 ?_
        refine lv_ldc2 (v := 256) hx hb hown (hg _ wd_5_26) dX10_sightUp_56 ?_
        refine lv_aload_n hx hb dX10_sightUp_59 rfl (lv_at hl 2 rfl) ?_
        refine va_get (D := G.1) (ci := 9) (v := .ref ((ad_this 20))) (C := RX10) (T := TX10) (N := 31) hx hb hg hu_X10 hown hc.1 hW.1 0 rfl rfl 20 (by decide) (hg _ wd_4_58) (fun _ h9 => h9) rfl dX10_sightUp_60 ?_
        refine lv_iload hx hb dX10_sightUp_63 (lv_at hl 5 rfl) ?_
        obtain ⟨b_65, hF⟩ := inb_el hF
        refine va_lald hx hb hc.1 hW.1 4 1 rfl rfl b_65 dX10_sightUp_65 ?_
        refine lv_lmul hx hb dX10_sightUp_66 ?_
        refine lv_iconst (v := 4) hx hb dX10_sightUp_67 (by decide) ?_
        refine lv_iload hx hb dX10_sightUp_68 (lv_at hl 1 rfl) ?_
        refine lv_isub hx hb dX10_sightUp_70 ?_
        refine lv_i2l (v := (Int32.toInt64 ((4 - q20)))) hx hb dX10_sightUp_71 rfl ?_
        refine lv_lmul hx hb dX10_sightUp_72 ?_
        refine lv_ladd hx hb dX10_sightUp_73 ?_
        refine va_put (D := G.1) (ci := 9) (v := .long ((v_sightAll_10 + ((256 * (a_weight (Int32.toNatClampNeg x5_10))) * (Int32.toInt64 ((4 - q20))))))) (ty := .long) (C := RX10) (T := TX10) (N := 31) hx hb hg hu_X10 tyX10 tyX10_ok nmX10 hown hc.1 hW.1 hW.2.1 hW.2.2 0 rfl rfl 24 (by decide) (hg _ wd_4_62) (fun _ h9 => h9) rfl (by decide +kernel) rfl rfl (Nat.le_of_ble_eq_true rfl) dX10_sightUp_74 (fun H locs hP hD hS => ?_)
        have hW : Wd G A s.heap [(h_this, oX10 ad_this v_typed v_at v_isSo v_kept v_all ((v_sightAll_10 + ((256 * (a_weight (Int32.toNatClampNeg x5_10))) * (Int32.toInt64 ((4 - q20)))))) v_aheadMany), ((ad_this 2), cI G 6 a_goes), ((ad_this 11), cI G 10 a_noise), ((ad_this 4), cI G 32 a_told), ((ad_this 20), cJ G 3 a_weight), ((ad_this 10), cI G 2 a_works)] H locs := ⟨hP, hD, hS⟩
        refine lv_iload hx hb dX10_sightUp_77 (lv_at hl 5 rfl) ?_
        refine lv_iconst (v := 2) hx hb dX10_sightUp_79 (by decide) ?_
        obtain ⟨k_133, e_133, hF⟩ := jn_el hF
        have J_133 : ∀ (x3_133 : Int64) (v_sightAll_133 : Int64) (ls : Array Slot) (H : Heap) (locs : List Loc), k_133 x3_133 v_sightAll_133 = some out → lv_has ls 7 [(0, .ref h_this), (1, .int x1), (2, .int x2), (3, .long x3_133), (5, .int x5_10)] → Wd G A s.heap [(h_this, oX10 ad_this v_typed v_at v_isSo v_kept v_all v_sightAll_133 v_aheadMany), ((ad_this 2), cI G 6 a_goes), ((ad_this 11), cI G 10 a_noise), ((ad_this 4), cI G 32 a_told), ((ad_this 20), cJ G 3 a_weight), ((ad_this 10), cI G 2 a_works)] H locs → W p l e ({ frames := 2, cells := 0, slots := 0, locals := 53 } : Room) s m args below meth c H locs 0 0 Q (F0 m 133 ls []) := by
          intro x3_133 v_sightAll_133 ls H locs hF hl hW
          rw [e_133] at hF
          dsimp only at hF
          refine lv_iinc (v := (x5_10 + 1)) (lv' := [(5, .int ((x5_10 + 1))), (0, .ref h_this), (1, .int x1), (2, .int x2), (3, .long x3_133)]) hx hb dX10_sightUp_133 hl (k := 4) rfl rfl (by decide) rfl (fun ls hl => ?_)
          refine lv_goto (tgt := 10) hx hb dX10_sightUp_136 (by decide) ?_
          exact ih x3_133 ((x5_10 + 1)) v_sightAll_133 _ _ _ hF (lv_sub hl [1, 2, 3, 4, 0] rfl) hW
        refine lv_icmp_ge (tgt := 133) hx hb dX10_sightUp_80 (by decide) (fun c_80 => ?_) (fun c_80 => ?_)
        · have hF := ite_t hF c_80
          exact J_133 ((x3_10 + (((a_weight (Int32.toNatClampNeg x5_10)) * (Int32.toInt64 ((4 - q20)))) * q45))) ((v_sightAll_10 + ((256 * (a_weight (Int32.toNatClampNeg x5_10))) * (Int32.toInt64 ((4 - q20)))))) _ _ _ hF (lv_sub hl [2, 3, 4, 0, 5] rfl) hW
        · have hF := ite_f hF c_80
          refine lv_lload_n hx hb dX10_sightUp_83 rfl (lv_at hl 0 rfl) ?_
          refine lv_aload_n hx hb dX10_sightUp_84 rfl (lv_at hl 2 rfl) ?_
          refine va_get (D := G.1) (ci := 9) (v := .ref ((ad_this 20))) (C := RX10) (T := TX10) (N := 31) hx hb hg hu_X10 hown hc.1 hW.1 0 rfl rfl 20 (by decide) (hg _ wd_4_58) (fun _ h9 => h9) rfl dX10_sightUp_85 ?_
          refine lv_iload hx hb dX10_sightUp_88 (lv_at hl 5 rfl) ?_
          obtain ⟨b_90, hF⟩ := inb_el hF
          refine va_lald hx hb hc.1 hW.1 4 1 rfl rfl b_90 dX10_sightUp_90 ?_
          refine lv_iload hx hb dX10_sightUp_91 (lv_at hl 1 rfl) ?_
          refine lv_i2l (v := (Int32.toInt64 q20)) hx hb dX10_sightUp_93 rfl ?_
          refine lv_lmul hx hb dX10_sightUp_94 ?_
          refine lv_aload_n hx hb dX10_sightUp_95 rfl (lv_at hl 2 rfl) ?_
          refine lv_iload_n hx hb dX10_sightUp_96 rfl (lv_at hl 3 rfl) ?_
          refine lv_iload hx hb dX10_sightUp_97 (lv_at hl 5 rfl) ?_
          refine lv_iload hx hb dX10_sightUp_99 (lv_at hl 5 rfl) ?_
          refine lv_iconst (v := 1) hx hb dX10_sightUp_101 (by decide) ?_
          refine lv_iadd hx hb dX10_sightUp_102 ?_
          obtain ⟨q103, c_103, hF⟩ := bd_el hF
          refine wcJ (ws' := [(h_this, oX10 ad_this v_typed v_at v_isSo v_kept v_all ((v_sightAll_10 + ((256 * (a_weight (Int32.toNatClampNeg x5_10))) * (Int32.toInt64 ((4 - q20)))))) v_aheadMany), ((ad_this 2), cI G 6 a_goes), ((ad_this 11), cI G 10 a_noise), ((ad_this 4), cI G 32 a_told), ((ad_this 20), cJ G 3 a_weight), ((ad_this 10), cI G 2 a_works)]) (wc := [(h_this, oX10 ad_this v_typed v_at v_isSo v_kept v_all ((v_sightAll_10 + ((256 * (a_weight (Int32.toNatClampNeg x5_10))) * (Int32.toInt64 ((4 - q20)))))) v_aheadMany), ((ad_this 4), cI G 32 a_told)]) (wr := [((ad_this 2), cI G 6 a_goes), ((ad_this 11), cI G 10 a_noise), ((ad_this 20), cJ G 3 a_weight), ((ad_this 10), cI G 2 a_works)]) (w1 := [(h_this, oX10 ad_this v_typed v_at v_isSo v_kept v_all ((v_sightAll_10 + ((256 * (a_weight (Int32.toNatClampNeg x5_10))) * (Int32.toInt64 ((4 - q20)))))) v_aheadMany), ((ad_this 4), cI G 32 a_told)]) (va_runV (As := [.int x1, .int x5_10, .int ((x5_10 + 1))]) (rest := [.long (((a_weight (Int32.toNatClampNeg x5_10)) * (Int32.toInt64 q20))), .long ((x3_10 + (((a_weight (Int32.toNatClampNeg x5_10)) * (Int32.toInt64 ((4 - q20)))) * q45)))]) ⟨hx, hb, hml, hown, hg⟩ (c_X10_sightOf l G x1 x5_10 ((x5_10 + 1)) h_this ad_this v_typed v_at v_isSo v_kept v_all ((v_sightAll_10 + ((256 * (a_weight (Int32.toNatClampNeg x5_10))) * (Int32.toInt64 ((4 - q20)))))) v_aheadMany a_told q103 c_103 H.size) (cwV 3 hg (gV wd_5_22 wd_5_24 wd_0_44 wd_1_15 wd_5_25) rfl rfl rfl hdV_X10_sightOf ⟨(Nat.le_of_ble_eq_true rfl), (Nat.le_of_ble_eq_true rfl)⟩) (preV hc hW [0, 3] rfl (by decide) rfl rfl) rfl rfl hl.1 rfl (lv_room (Nat.le_of_ble_eq_true rfl)) dX10_sightUp_103 ⟨Nat.zero_le _, Nat.zero_le _⟩) hA hW [0, 3] [1, 2, 4, 5] [4, 0, 1, 5, 2, 3] rfl rfl (by decide) (by decide) rfl (by decide) (fun H locs hW => ?_)
          refine lv_lmul hx hb dX10_sightUp_106 ?_
          refine lv_ladd hx hb dX10_sightUp_107 ?_
          refine lv_lstore_n (lv' := [(3, .long (((x3_10 + (((a_weight (Int32.toNatClampNeg x5_10)) * (Int32.toInt64 ((4 - q20)))) * q45)) + (((a_weight (Int32.toNatClampNeg x5_10)) * (Int32.toInt64 q20)) * q103)))), (6, .int q20), (0, .ref h_this), (1, .int x1), (2, .int x2), (5, .int x5_10)]) hx hb dX10_sightUp_108 rfl hl (by decide) rfl (fun ls hl => ?_)
          refine lv_aload_n hx hb dX10_sightUp_109 rfl (lv_at hl 2 rfl) ?_
          refine lv_dup hx hb dX10_sightUp_110 rfl ?_
          refine va_get (D := G.1) (ci := 9) (v := .long ((v_sightAll_10 + ((256 * (a_weight (Int32.toNatClampNeg x5_10))) * (Int32.toInt64 ((4 - q20))))))) (C := RX10) (T := TX10) (N := 31) hx hb hg hu_X10 hown hc.1 hW.1 0 rfl rfl 24 (by decide) (hg _ wd_4_62) (fun _ h9 => h9) rfl dX10_sightUp_111 ?_
          refine lv_ldc2 (v := 256) hx hb hown (hg _ wd_5_26) dX10_sightUp_114 ?_
          refine lv_aload_n hx hb dX10_sightUp_117 rfl (lv_at hl 2 rfl) ?_
          refine va_get (D := G.1) (ci := 9) (v := .ref ((ad_this 20))) (C := RX10) (T := TX10) (N := 31) hx hb hg hu_X10 hown hc.1 hW.1 0 rfl rfl 20 (by decide) (hg _ wd_4_58) (fun _ h9 => h9) rfl dX10_sightUp_118 ?_
          refine lv_iload hx hb dX10_sightUp_121 (lv_at hl 5 rfl) ?_
          obtain ⟨b_123, hF⟩ := inb_el hF
          refine va_lald hx hb hc.1 hW.1 4 1 rfl rfl b_123 dX10_sightUp_123 ?_
          refine lv_lmul hx hb dX10_sightUp_124 ?_
          refine lv_iload hx hb dX10_sightUp_125 (lv_at hl 1 rfl) ?_
          refine lv_i2l (v := (Int32.toInt64 q20)) hx hb dX10_sightUp_127 rfl ?_
          refine lv_lmul hx hb dX10_sightUp_128 ?_
          refine lv_ladd hx hb dX10_sightUp_129 ?_
          refine va_put (D := G.1) (ci := 9) (v := .long (((v_sightAll_10 + ((256 * (a_weight (Int32.toNatClampNeg x5_10))) * (Int32.toInt64 ((4 - q20))))) + ((256 * (a_weight (Int32.toNatClampNeg x5_10))) * (Int32.toInt64 q20))))) (ty := .long) (C := RX10) (T := TX10) (N := 31) hx hb hg hu_X10 tyX10 tyX10_ok nmX10 hown hc.1 hW.1 hW.2.1 hW.2.2 0 rfl rfl 24 (by decide) (hg _ wd_4_62) (fun _ h9 => h9) rfl (by decide +kernel) rfl rfl (Nat.le_of_ble_eq_true rfl) dX10_sightUp_130 (fun H locs hP hD hS => ?_)
          have hW : Wd G A s.heap [(h_this, oX10 ad_this v_typed v_at v_isSo v_kept v_all (((v_sightAll_10 + ((256 * (a_weight (Int32.toNatClampNeg x5_10))) * (Int32.toInt64 ((4 - q20))))) + ((256 * (a_weight (Int32.toNatClampNeg x5_10))) * (Int32.toInt64 q20)))) v_aheadMany), ((ad_this 2), cI G 6 a_goes), ((ad_this 11), cI G 10 a_noise), ((ad_this 4), cI G 32 a_told), ((ad_this 20), cJ G 3 a_weight), ((ad_this 10), cI G 2 a_works)] H locs := ⟨hP, hD, hS⟩
          exact J_133 (((x3_10 + (((a_weight (Int32.toNatClampNeg x5_10)) * (Int32.toInt64 ((4 - q20)))) * q45)) + (((a_weight (Int32.toNatClampNeg x5_10)) * (Int32.toInt64 q20)) * q103))) (((v_sightAll_10 + ((256 * (a_weight (Int32.toNatClampNeg x5_10))) * (Int32.toInt64 ((4 - q20))))) + ((256 * (a_weight (Int32.toNatClampNeg x5_10))) * (Int32.toInt64 q20)))) _ _ _ hF (lv_sub hl [2, 3, 4, 0, 5] rfl) hW
  exact L_10 5000 0 0 0 _ _ _ hF (lv_sub hl [2, 3, 4, 1, 0] rfl) hW
theorem dX10_sight_0 : decode cX10_sight 0 = .ok (.aload_n 0, 1) := by decide +kernel
theorem dX10_sight_1 : decode cX10_sight 1 = .ok (.iload_n 1, 1) := by decide +kernel
theorem dX10_sight_2 : decode cX10_sight 2 = .ok (.invokevirtual 134, 3) := by decide +kernel
theorem dX10_sight_5 : decode cX10_sight 5 = .ok (.ifCond .eq 20, 3) := by decide +kernel
theorem dX10_sight_8 : decode cX10_sight 8 = .ok (.aload_n 0, 1) := by decide +kernel
theorem dX10_sight_9 : decode cX10_sight 9 = .ok (.iload_n 2, 1) := by decide +kernel
theorem dX10_sight_10 : decode cX10_sight 10 = .ok (.invokevirtual 138, 3) := by decide +kernel
theorem dX10_sight_13 : decode cX10_sight 13 = .ok (.ifCond .eq 12, 3) := by decide +kernel
theorem dX10_sight_16 : decode cX10_sight 16 = .ok (.iload_n 3, 1) := by decide +kernel
theorem dX10_sight_17 : decode cX10_sight 17 = .ok (.iconst 0, 1) := by decide +kernel
theorem dX10_sight_18 : decode cX10_sight 18 = .ok (.iconst 1, 1) := by decide +kernel
theorem dX10_sight_19 : decode cX10_sight 19 = .ok (.invokestatic 99, 3) := by decide +kernel
theorem dX10_sight_22 : decode cX10_sight 22 = .ok (.ifCond .ne 7, 3) := by decide +kernel
theorem dX10_sight_25 : decode cX10_sight 25 = .ok (.ldc2_w 174, 3) := by decide +kernel
theorem dX10_sight_28 : decode cX10_sight 28 = .ok (.lreturn, 1) := by decide +kernel
theorem dX10_sight_29 : decode cX10_sight 29 = .ok (.aload_n 0, 1) := by decide +kernel
theorem dX10_sight_30 : decode cX10_sight 30 = .ok (.invokevirtual 176, 3) := by decide +kernel
theorem dX10_sight_33 : decode cX10_sight 33 = .ok (.ifCond .ne 7, 3) := by decide +kernel
theorem dX10_sight_36 : decode cX10_sight 36 = .ok (.ldc2_w 180, 3) := by decide +kernel
theorem dX10_sight_39 : decode cX10_sight 39 = .ok (.lreturn, 1) := by decide +kernel
theorem dX10_sight_40 : decode cX10_sight 40 = .ok (.aload_n 0, 1) := by decide +kernel
theorem dX10_sight_41 : decode cX10_sight 41 = .ok (.iload_n 1, 1) := by decide +kernel
theorem dX10_sight_42 : decode cX10_sight 42 = .ok (.iload_n 2, 1) := by decide +kernel
theorem dX10_sight_43 : decode cX10_sight 43 = .ok (.invokevirtual 209, 3) := by decide +kernel
theorem dX10_sight_46 : decode cX10_sight 46 = .ok (.lstore 4, 2) := by decide +kernel
theorem dX10_sight_48 : decode cX10_sight 48 = .ok (.aload_n 0, 1) := by decide +kernel
theorem dX10_sight_49 : decode cX10_sight 49 = .ok (.getfield 201, 3) := by decide +kernel
theorem dX10_sight_52 : decode cX10_sight 52 = .ok (.lconst 0, 1) := by decide +kernel
theorem dX10_sight_53 : decode cX10_sight 53 = .ok (.lcmp, 1) := by decide +kernel
theorem dX10_sight_54 : decode cX10_sight 54 = .ok (.ifCond .ne 9, 3) := by decide +kernel
theorem dX10_sight_57 : decode cX10_sight 57 = .ok (.ldc2_w 180, 3) := by decide +kernel
theorem dX10_sight_60 : decode cX10_sight 60 = .ok (.goto 13, 3) := by decide +kernel
theorem dX10_sight_63 : decode cX10_sight 63 = .ok (.lload 4, 2) := by decide +kernel
theorem dX10_sight_65 : decode cX10_sight 65 = .ok (.aload_n 0, 1) := by decide +kernel
theorem dX10_sight_66 : decode cX10_sight 66 = .ok (.getfield 201, 3) := by decide +kernel
theorem dX10_sight_69 : decode cX10_sight 69 = .ok (.iload_n 3, 1) := by decide +kernel
theorem dX10_sight_70 : decode cX10_sight 70 = .ok (.invokestatic 186, 3) := by decide +kernel
theorem dX10_sight_73 : decode cX10_sight 73 = .ok (.lreturn, 1) := by decide +kernel
def F_X10_sight (x1 : Int32) (x2 : Int32) (x3 : Int32) (v_sightAll : Int64) (a_days : Nat → Int32) (a_goes : Nat → Int32) (a_noise : Nat → Int32) (a_seenSigns : Nat → Int32) (a_signs : Nat → Int32) (a_then : Nat → Int64) (a_told : Nat → Int32) (a_weight : Nat → Int64) (a_wentOn : Nat → Int32) (a_works : Nat → Int32) : Option (Int64 × Int64 × (Nat → Int64) × (Nat → Int64)) := (F_X10_isSign x1 a_signs).bind (fun q2 => (if q2 = 0 then some ((-1), v_sightAll, a_then, a_weight) else (F_X10_areWorks x2 a_works).bind (fun q10 => (if q10 = 0 then some ((-1), v_sightAll, a_then, a_weight) else (F_X10_in x3 0 1).bind (fun q19 => (if q19 = 0 then some ((-1), v_sightAll, a_then, a_weight) else (F_X10_find a_days a_goes a_noise a_seenSigns a_signs a_then a_told a_weight a_wentOn a_works).bind (fun q30 => (if q30.1 = 0 then some ((-4), v_sightAll, q30.2.1, q30.2.2) else (F_X10_sightUp x1 x2 v_sightAll a_goes a_noise a_told q30.2.2 a_works).bind (fun q43 => (if (lg_cmp q43.2 0) = 0 then some ((-4), q43.2, q30.2.1, q30.2.2) else (F_X10_part q43.1 q43.2 x3).bind (fun q70 => some (q70, q43.2, q30.2.1, q30.2.2))))))))))))
theorem hdV_X10_sight : yX10_sight.cls = RX10 ∧ yX10_sight.cls ≠ "java/lang/invoke/MethodHandle" ∧ yX10_sight.cls ≠ "java/lang/invoke/VarHandle" ∧ (parseMethodDescriptor yX10_sight.desc).map (fun d => d.parameters.length) = some 3 := by decide +kernel
set_option maxHeartbeats 4000000 in
set_option maxRecDepth 100000 in
theorem c_X10_sight (l : Launch) (G : GG) (x1 : Int32) (x2 : Int32) (x3 : Int32) (h_this : Nat) (ad_this : Nat → Nat) (v_typed : Int32) (v_at : Int32) (v_isSo : Int32) (v_kept : Int32) (v_all : Int64) (v_sightAll : Int64) (v_aheadMany : Int32) (a_days : Nat → Int32) (a_goes : Nat → Int32) (a_noise : Nat → Int32) (a_seenSigns : Nat → Int32) (a_signs : Nat → Int32) (a_then : Nat → Int64) (a_told : Nat → Int32) (a_weight : Nat → Int64) (a_wentOn : Nat → Int32) (a_works : Nat → Int32) (out : Int64 × Int64 × (Nat → Int64) × (Nat → Int64)) (hF : F_X10_sight x1 x2 x3 v_sightAll a_days a_goes a_noise a_seenSigns a_signs a_then a_told a_weight a_wentOn a_works = some out) : CtrJ l yX10_sight (WS yX10_sight cX10_sight 6 (some .long)) { frames := 5, cells := 0, slots := 0, locals := 120 } G [.ref h_this, .int x1, .int x2, .int x3] [(h_this, oX10 ad_this v_typed v_at v_isSo v_kept v_all v_sightAll v_aheadMany), ((ad_this 16), cI G 3 a_days), ((ad_this 2), cI G 6 a_goes), ((ad_this 11), cI G 10 a_noise), ((ad_this 17), cI G 15 a_seenSigns), ((ad_this 3), cI G 2 a_signs), ((ad_this 21), cJ G 3 a_then), ((ad_this 4), cI G 32 a_told), ((ad_this 20), cJ G 3 a_weight), ((ad_this 18), cI G 15 a_wentOn), ((ad_this 10), cI G 2 a_works)] [(h_this, oX10 ad_this v_typed v_at v_isSo v_kept v_all out.2.1 v_aheadMany), ((ad_this 16), cI G 3 a_days), ((ad_this 2), cI G 6 a_goes), ((ad_this 11), cI G 10 a_noise), ((ad_this 17), cI G 15 a_seenSigns), ((ad_this 3), cI G 2 a_signs), ((ad_this 21), cJ G 3 out.2.2.1), ((ad_this 4), cI G 32 a_told), ((ad_this 20), cJ G 3 out.2.2.2), ((ad_this 18), cI G 15 a_wentOn), ((ad_this 10), cI G 2 a_works)] out.1 := by
  refine startJ (cc := cX10_sight) (maxL := 6) (by decide) rfl (Nat.le_of_ble_eq_true rfl) ?_
  intro p e s m args below meth c A Q hx hb hml hts hown hc hA hret ls H locs hl hW
  have hown : s.vm.findClass RX10 = some m.cls := hown
  have hg : ∀ w ∈ GOODS, w.before _ s = true := fun w h => hts w (List.mem_cons_of_mem _ h)
  have hl : lv_has ls 6 [(0, .ref h_this), (1, .int x1), (2, .int x2), (3, .int x3)] := hl
  rw [F_X10_sight] at hF
  refine lv_aload_n hx hb dX10_sight_0 rfl (lv_at hl 0 rfl) ?_
  refine lv_iload_n hx hb dX10_sight_1 rfl (lv_at hl 1 rfl) ?_
  obtain ⟨q2, c_2, hF⟩ := bd_el hF
  refine wcZ (ws' := [(h_this, oX10 ad_this v_typed v_at v_isSo v_kept v_all v_sightAll v_aheadMany), ((ad_this 16), cI G 3 a_days), ((ad_this 2), cI G 6 a_goes), ((ad_this 11), cI G 10 a_noise), ((ad_this 17), cI G 15 a_seenSigns), ((ad_this 3), cI G 2 a_signs), ((ad_this 21), cJ G 3 a_then), ((ad_this 4), cI G 32 a_told), ((ad_this 20), cJ G 3 a_weight), ((ad_this 18), cI G 15 a_wentOn), ((ad_this 10), cI G 2 a_works)]) (wc := [(h_this, oX10 ad_this v_typed v_at v_isSo v_kept v_all v_sightAll v_aheadMany), ((ad_this 3), cI G 2 a_signs)]) (wr := [((ad_this 16), cI G 3 a_days), ((ad_this 2), cI G 6 a_goes), ((ad_this 11), cI G 10 a_noise), ((ad_this 17), cI G 15 a_seenSigns), ((ad_this 21), cJ G 3 a_then), ((ad_this 4), cI G 32 a_told), ((ad_this 20), cJ G 3 a_weight), ((ad_this 18), cI G 15 a_wentOn), ((ad_this 10), cI G 2 a_works)]) (w1 := [(h_this, oX10 ad_this v_typed v_at v_isSo v_kept v_all v_sightAll v_aheadMany), ((ad_this 3), cI G 2 a_signs)]) (va_runV (As := [.int x1]) (rest := []) ⟨hx, hb, hml, hown, hg⟩ (c_X10_isSign l G x1 h_this ad_this v_typed v_at v_isSo v_kept v_all v_sightAll v_aheadMany a_signs q2 c_2 H.size) (cwV 1 hg (gV wd_4_168 wd_4_170 wd_0_30 wd_1_15 wd_4_171) rfl rfl rfl hdV_X10_isSign ⟨(Nat.le_of_ble_eq_true rfl), (Nat.le_of_ble_eq_true rfl)⟩) (preV hc hW [0, 5] rfl (by decide) rfl rfl) rfl rfl hl.1 rfl (lv_room (Nat.le_of_ble_eq_true rfl)) dX10_sight_2 ⟨Nat.zero_le _, Nat.zero_le _⟩) hA hW [0, 5] [1, 2, 3, 4, 6, 7, 8, 9, 10] [9, 0, 1, 2, 3, 10, 4, 5, 6, 7, 8] rfl rfl (by decide) (by decide) rfl (by decide) (fun z_2 H locs hW => ?_)
  refine lv_if_eq (tgt := 25) hx hb dX10_sight_5 (by decide) (fun c_5 => ?_) (fun c_5 => ?_)
  · have hF := ite_t hF c_5
    refine lv_ldc2 (v := (-1)) hx hb hown (hg _ wd_4_204) dX10_sight_25 ?_
    obtain rfl := Option.some.inj hF
    exact hret _ _ _ _ hW dX10_sight_28
  · have hF := ite_f hF c_5
    refine lv_aload_n hx hb dX10_sight_8 rfl (lv_at hl 0 rfl) ?_
    refine lv_iload_n hx hb dX10_sight_9 rfl (lv_at hl 2 rfl) ?_
    obtain ⟨q10, c_10, hF⟩ := bd_el hF
    refine wcZ (ws' := [(h_this, oX10 ad_this v_typed v_at v_isSo v_kept v_all v_sightAll v_aheadMany), ((ad_this 16), cI G 3 a_days), ((ad_this 2), cI G 6 a_goes), ((ad_this 11), cI G 10 a_noise), ((ad_this 17), cI G 15 a_seenSigns), ((ad_this 3), cI G 2 a_signs), ((ad_this 21), cJ G 3 a_then), ((ad_this 4), cI G 32 a_told), ((ad_this 20), cJ G 3 a_weight), ((ad_this 18), cI G 15 a_wentOn), ((ad_this 10), cI G 2 a_works)]) (wc := [(h_this, oX10 ad_this v_typed v_at v_isSo v_kept v_all v_sightAll v_aheadMany), ((ad_this 10), cI G 2 a_works)]) (wr := [((ad_this 16), cI G 3 a_days), ((ad_this 2), cI G 6 a_goes), ((ad_this 11), cI G 10 a_noise), ((ad_this 17), cI G 15 a_seenSigns), ((ad_this 3), cI G 2 a_signs), ((ad_this 21), cJ G 3 a_then), ((ad_this 4), cI G 32 a_told), ((ad_this 20), cJ G 3 a_weight), ((ad_this 18), cI G 15 a_wentOn)]) (w1 := [(h_this, oX10 ad_this v_typed v_at v_isSo v_kept v_all v_sightAll v_aheadMany), ((ad_this 10), cI G 2 a_works)]) (va_runV (As := [.int x2]) (rest := []) ⟨hx, hb, hml, hown, hg⟩ (c_X10_areWorks l G x2 h_this ad_this v_typed v_at v_isSo v_kept v_all v_sightAll v_aheadMany a_works q10 c_10 H.size) (cwV 1 hg (gV wd_4_176 wd_4_178 wd_0_31 wd_1_15 wd_4_179) rfl rfl rfl hdV_X10_areWorks ⟨(Nat.le_of_ble_eq_true rfl), (Nat.le_of_ble_eq_true rfl)⟩) (preV hc hW [0, 10] rfl (by decide) rfl rfl) rfl rfl hl.1 rfl (lv_room (Nat.le_of_ble_eq_true rfl)) dX10_sight_10 ⟨Nat.zero_le _, Nat.zero_le _⟩) hA hW [0, 10] [1, 2, 3, 4, 5, 6, 7, 8, 9] [9, 0, 1, 2, 3, 4, 5, 6, 7, 8, 10] rfl rfl (by decide) (by decide) rfl (by decide) (fun z_10 H locs hW => ?_)
    refine lv_if_eq (tgt := 25) hx hb dX10_sight_13 (by decide) (fun c_13 => ?_) (fun c_13 => ?_)
    · have hF := ite_t hF c_13
      refine lv_ldc2 (v := (-1)) hx hb hown (hg _ wd_4_204) dX10_sight_25 ?_
      obtain rfl := Option.some.inj hF
      exact hret _ _ _ _ hW dX10_sight_28
    · have hF := ite_f hF c_13
      refine lv_iload_n hx hb dX10_sight_16 rfl (lv_at hl 3 rfl) ?_
      refine lv_iconst (v := 0) hx hb dX10_sight_17 (by decide) ?_
      refine lv_iconst (v := 1) hx hb dX10_sight_18 (by decide) ?_
      obtain ⟨q19, c_19, hF⟩ := bd_el hF
      refine wcZ (ws' := [(h_this, oX10 ad_this v_typed v_at v_isSo v_kept v_all v_sightAll v_aheadMany), ((ad_this 16), cI G 3 a_days), ((ad_this 2), cI G 6 a_goes), ((ad_this 11), cI G 10 a_noise), ((ad_this 17), cI G 15 a_seenSigns), ((ad_this 3), cI G 2 a_signs), ((ad_this 21), cJ G 3 a_then), ((ad_this 4), cI G 32 a_told), ((ad_this 20), cJ G 3 a_weight), ((ad_this 18), cI G 15 a_wentOn), ((ad_this 10), cI G 2 a_works)]) (wc := []) (wr := [(h_this, oX10 ad_this v_typed v_at v_isSo v_kept v_all v_sightAll v_aheadMany), ((ad_this 16), cI G 3 a_days), ((ad_this 2), cI G 6 a_goes), ((ad_this 11), cI G 10 a_noise), ((ad_this 17), cI G 15 a_seenSigns), ((ad_this 3), cI G 2 a_signs), ((ad_this 21), cJ G 3 a_then), ((ad_this 4), cI G 32 a_told), ((ad_this 20), cJ G 3 a_weight), ((ad_this 18), cI G 15 a_wentOn), ((ad_this 10), cI G 2 a_works)]) (w1 := []) (va_runS (As := [.int x3, .int 0, .int 1]) (rest := []) ⟨hx, hb, hml, hown, hg⟩ (c_X10_in l G x3 0 1 q19 c_19 H.size) (va_cwS 3 hg (gS wd_4_136 wd_4_137 wd_1_15 wd_4_138) rfl rfl rfl hdS_X10_in ⟨(Nat.le_of_ble_eq_true rfl), (Nat.le_of_ble_eq_true rfl)⟩) (preS hc hW [] rfl (by decide)) rfl rfl hl.1 rfl (lv_room (Nat.le_of_ble_eq_true rfl)) dX10_sight_19 ⟨Nat.zero_le _, Nat.zero_le _⟩) hA hW [] [0, 1, 2, 3, 4, 5, 6, 7, 8, 9, 10] [0, 1, 2, 3, 4, 5, 6, 7, 8, 9, 10] rfl rfl (by decide) (by decide) rfl (by decide) (fun z_19 H locs hW => ?_)
      refine lv_if_ne (tgt := 29) hx hb dX10_sight_22 (by decide) (fun c_22 => ?_) (fun c_22 => ?_)
      · have hF := ite_f hF c_22
        refine lv_aload_n hx hb dX10_sight_29 rfl (lv_at hl 0 rfl) ?_
        obtain ⟨q30, c_30, hF⟩ := bd_el hF
        refine wcZ (ws' := [(h_this, oX10 ad_this v_typed v_at v_isSo v_kept v_all v_sightAll v_aheadMany), ((ad_this 16), cI G 3 a_days), ((ad_this 2), cI G 6 a_goes), ((ad_this 11), cI G 10 a_noise), ((ad_this 17), cI G 15 a_seenSigns), ((ad_this 3), cI G 2 a_signs), ((ad_this 21), cJ G 3 q30.2.1), ((ad_this 4), cI G 32 a_told), ((ad_this 20), cJ G 3 q30.2.2), ((ad_this 18), cI G 15 a_wentOn), ((ad_this 10), cI G 2 a_works)]) (wc := [(h_this, oX10 ad_this v_typed v_at v_isSo v_kept v_all v_sightAll v_aheadMany), ((ad_this 16), cI G 3 a_days), ((ad_this 2), cI G 6 a_goes), ((ad_this 11), cI G 10 a_noise), ((ad_this 17), cI G 15 a_seenSigns), ((ad_this 3), cI G 2 a_signs), ((ad_this 21), cJ G 3 a_then), ((ad_this 4), cI G 32 a_told), ((ad_this 20), cJ G 3 a_weight), ((ad_this 18), cI G 15 a_wentOn), ((ad_this 10), cI G 2 a_works)]) (wr := []) (w1 := [(h_this, oX10 ad_this v_typed v_at v_isSo v_kept v_all v_sightAll v_aheadMany), ((ad_this 16), cI G 3 a_days), ((ad_this 2), cI G 6 a_goes), ((ad_this 11), cI G 10 a_noise), ((ad_this 17), cI G 15 a_seenSigns), ((ad_this 3), cI G 2 a_signs), ((ad_this 21), cJ G 3 q30.2.1), ((ad_this 4), cI G 32 a_told), ((ad_this 20), cJ G 3 q30.2.2), ((ad_this 18), cI G 15 a_wentOn), ((ad_this 10), cI G 2 a_works)]) (va_runV (As := []) (rest := []) ⟨hx, hb, hml, hown, hg⟩ (c_X10_find l G h_this ad_this v_typed v_at v_isSo v_kept v_all v_sightAll v_aheadMany a_days a_goes a_noise a_seenSigns a_signs a_then a_told a_weight a_wentOn a_works q30 c_30 H.size) (cwV 0 hg (gV wd_4_205 wd_4_207 wd_0_34 wd_1_15 wd_4_208) rfl rfl rfl hdV_X10_find ⟨(Nat.le_of_ble_eq_true rfl), (Nat.le_of_ble_eq_true rfl)⟩) (preV hc hW [0, 1, 2, 3, 4, 5, 6, 7, 8, 9, 10] rfl (by decide) rfl rfl) rfl rfl hl.1 rfl (lv_room (Nat.le_of_ble_eq_true rfl)) dX10_sight_30 ⟨Nat.zero_le _, Nat.zero_le _⟩) hA hW [0, 1, 2, 3, 4, 5, 6, 7, 8, 9, 10] [] [0, 1, 2, 3, 4, 5, 6, 7, 8, 9, 10] rfl rfl (by decide) (by decide) rfl (by decide) (fun z_30 H locs hW => ?_)
        refine lv_if_ne (tgt := 40) hx hb dX10_sight_33 (by decide) (fun c_33 => ?_) (fun c_33 => ?_)
        · have hF := ite_f hF c_33
          refine lv_aload_n hx hb dX10_sight_40 rfl (lv_at hl 0 rfl) ?_
          refine lv_iload_n hx hb dX10_sight_41 rfl (lv_at hl 1 rfl) ?_
          refine lv_iload_n hx hb dX10_sight_42 rfl (lv_at hl 2 rfl) ?_
          obtain ⟨q43, c_43, hF⟩ := bd_el hF
          refine wcJ (ws' := [(h_this, oX10 ad_this v_typed v_at v_isSo v_kept v_all q43.2 v_aheadMany), ((ad_this 16), cI G 3 a_days), ((ad_this 2), cI G 6 a_goes), ((ad_this 11), cI G 10 a_noise), ((ad_this 17), cI G 15 a_seenSigns), ((ad_this 3), cI G 2 a_signs), ((ad_this 21), cJ G 3 q30.2.1), ((ad_this 4), cI G 32 a_told), ((ad_this 20), cJ G 3 q30.2.2), ((ad_this 18), cI G 15 a_wentOn), ((ad_this 10), cI G 2 a_works)]) (wc := [(h_this, oX10 ad_this v_typed v_at v_isSo v_kept v_all v_sightAll v_aheadMany), ((ad_this 2), cI G 6 a_goes), ((ad_this 11), cI G 10 a_noise), ((ad_this 4), cI G 32 a_told), ((ad_this 20), cJ G 3 q30.2.2), ((ad_this 10), cI G 2 a_works)]) (wr := [((ad_this 16), cI G 3 a_days), ((ad_this 17), cI G 15 a_seenSigns), ((ad_this 3), cI G 2 a_signs), ((ad_this 21), cJ G 3 q30.2.1), ((ad_this 18), cI G 15 a_wentOn)]) (w1 := [(h_this, oX10 ad_this v_typed v_at v_isSo v_kept v_all q43.2 v_aheadMany), ((ad_this 2), cI G 6 a_goes), ((ad_this 11), cI G 10 a_noise), ((ad_this 4), cI G 32 a_told), ((ad_this 20), cJ G 3 q30.2.2), ((ad_this 10), cI G 2 a_works)]) (va_runV (As := [.int x1, .int x2]) (rest := []) ⟨hx, hb, hml, hown, hg⟩ (c_X10_sightUp l G x1 x2 h_this ad_this v_typed v_at v_isSo v_kept v_all v_sightAll v_aheadMany a_goes a_noise a_told q30.2.2 a_works q43 c_43 H.size) (cwV 2 hg (gV wd_5_18 wd_5_20 wd_0_43 wd_1_15 wd_5_21) rfl rfl rfl hdV_X10_sightUp ⟨(Nat.le_of_ble_eq_true rfl), (Nat.le_of_ble_eq_true rfl)⟩) (preV hc hW [0, 2, 3, 7, 8, 10] rfl (by decide) rfl rfl) rfl rfl hl.1 rfl (lv_room (Nat.le_of_ble_eq_true rfl)) dX10_sight_43 ⟨Nat.zero_le _, Nat.zero_le _⟩) hA hW [0, 2, 3, 7, 8, 10] [1, 4, 5, 6, 9] [5, 0, 6, 7, 1, 2, 3, 8, 9, 4, 10] rfl rfl (by decide) (by decide) rfl (by decide) (fun H locs hW => ?_)
          refine lv_lstore (lv' := [(4, .long q43.1), (0, .ref h_this), (1, .int x1), (2, .int x2), (3, .int x3)]) hx hb dX10_sight_46 hl (by decide) rfl (fun ls hl => ?_)
          refine lv_aload_n hx hb dX10_sight_48 rfl (lv_at hl 1 rfl) ?_
          refine va_get (D := G.1) (ci := 9) (v := .long q43.2) (C := RX10) (T := TX10) (N := 31) hx hb hg hu_X10 hown hc.1 hW.1 0 rfl rfl 24 (by decide) (hg _ wd_4_62) (fun _ h9 => h9) rfl dX10_sight_49 ?_
          refine lv_lconst (v := 0) hx hb dX10_sight_52 (by decide) ?_
          refine W.lcmp hx hb dX10_sight_53 ?_
          refine lv_if_ne (tgt := 63) hx hb dX10_sight_54 (by decide) (fun c_54 => ?_) (fun c_54 => ?_)
          · have hF := ite_f hF c_54
            refine lv_lload hx hb dX10_sight_63 (lv_at hl 0 rfl) ?_
            refine lv_aload_n hx hb dX10_sight_65 rfl (lv_at hl 1 rfl) ?_
            refine va_get (D := G.1) (ci := 9) (v := .long q43.2) (C := RX10) (T := TX10) (N := 31) hx hb hg hu_X10 hown hc.1 hW.1 0 rfl rfl 24 (by decide) (hg _ wd_4_62) (fun _ h9 => h9) rfl dX10_sight_66 ?_
            refine lv_iload_n hx hb dX10_sight_69 rfl (lv_at hl 4 rfl) ?_
            obtain ⟨q70, c_70, hF⟩ := bd_el hF
            refine wcJ (ws' := [(h_this, oX10 ad_this v_typed v_at v_isSo v_kept v_all q43.2 v_aheadMany), ((ad_this 16), cI G 3 a_days), ((ad_this 2), cI G 6 a_goes), ((ad_this 11), cI G 10 a_noise), ((ad_this 17), cI G 15 a_seenSigns), ((ad_this 3), cI G 2 a_signs), ((ad_this 21), cJ G 3 q30.2.1), ((ad_this 4), cI G 32 a_told), ((ad_this 20), cJ G 3 q30.2.2), ((ad_this 18), cI G 15 a_wentOn), ((ad_this 10), cI G 2 a_works)]) (wc := []) (wr := [(h_this, oX10 ad_this v_typed v_at v_isSo v_kept v_all q43.2 v_aheadMany), ((ad_this 16), cI G 3 a_days), ((ad_this 2), cI G 6 a_goes), ((ad_this 11), cI G 10 a_noise), ((ad_this 17), cI G 15 a_seenSigns), ((ad_this 3), cI G 2 a_signs), ((ad_this 21), cJ G 3 q30.2.1), ((ad_this 4), cI G 32 a_told), ((ad_this 20), cJ G 3 q30.2.2), ((ad_this 18), cI G 15 a_wentOn), ((ad_this 10), cI G 2 a_works)]) (w1 := []) (va_runS (As := [.long q43.1, .long q43.2, .int x3]) (rest := []) ⟨hx, hb, hml, hown, hg⟩ (c_X10_part l G q43.1 q43.2 x3 q70 c_70 H.size) (va_cwS 3 hg (gS wd_5_1 wd_5_2 wd_1_15 wd_5_3) rfl rfl rfl hdS_X10_part ⟨(Nat.le_of_ble_eq_true rfl), (Nat.le_of_ble_eq_true rfl)⟩) (preS hc hW [] rfl (by decide)) rfl rfl hl.1 rfl (lv_room (Nat.le_of_ble_eq_true rfl)) dX10_sight_70 ⟨Nat.zero_le _, Nat.zero_le _⟩) hA hW [] [0, 1, 2, 3, 4, 5, 6, 7, 8, 9, 10] [0, 1, 2, 3, 4, 5, 6, 7, 8, 9, 10] rfl rfl (by decide) (by decide) rfl (by decide) (fun H locs hW => ?_)
            obtain rfl := Option.some.inj hF
            exact hret _ _ _ _ hW dX10_sight_73
          · have hF := ite_t hF c_54
            refine lv_ldc2 (v := (-4)) hx hb hown (hg _ wd_4_236) dX10_sight_57 ?_
            refine lv_goto (tgt := 73) hx hb dX10_sight_60 (by decide) ?_
            obtain rfl := Option.some.inj hF
            exact hret _ _ _ _ hW dX10_sight_73
        · have hF := ite_t hF c_33
          refine lv_ldc2 (v := (-4)) hx hb hown (hg _ wd_4_236) dX10_sight_36 ?_
          obtain rfl := Option.some.inj hF
          exact hret _ _ _ _ hW dX10_sight_39
      · have hF := ite_t hF c_22
        refine lv_ldc2 (v := (-1)) hx hb hown (hg _ wd_4_204) dX10_sight_25 ?_
        obtain rfl := Option.some.inj hF
        exact hret _ _ _ _ hW dX10_sight_28
theorem dX10_tells_0 : decode cX10_tells 0 = .ok (.aload_n 0, 1) := by decide +kernel
theorem dX10_tells_1 : decode cX10_tells 1 = .ok (.iload_n 1, 1) := by decide +kernel
theorem dX10_tells_2 : decode cX10_tells 2 = .ok (.invokevirtual 138, 3) := by decide +kernel
theorem dX10_tells_5 : decode cX10_tells 5 = .ok (.ifCond .ne 5, 3) := by decide +kernel
theorem dX10_tells_8 : decode cX10_tells 8 = .ok (.iconst (-1), 1) := by decide +kernel
theorem dX10_tells_9 : decode cX10_tells 9 = .ok (.ireturn, 1) := by decide +kernel
theorem dX10_tells_10 : decode cX10_tells 10 = .ok (.aload_n 0, 1) := by decide +kernel
theorem dX10_tells_11 : decode cX10_tells 11 = .ok (.invokevirtual 176, 3) := by decide +kernel
theorem dX10_tells_14 : decode cX10_tells 14 = .ok (.ifCond .ne 6, 3) := by decide +kernel
theorem dX10_tells_17 : decode cX10_tells 17 = .ok (.bipush (-4), 2) := by decide +kernel
theorem dX10_tells_19 : decode cX10_tells 19 = .ok (.ireturn, 1) := by decide +kernel
theorem dX10_tells_20 : decode cX10_tells 20 = .ok (.bipush (-4), 2) := by decide +kernel
theorem dX10_tells_22 : decode cX10_tells 22 = .ok (.istore_n 2, 1) := by decide +kernel
theorem dX10_tells_23 : decode cX10_tells 23 = .ok (.lconst 0, 1) := by decide +kernel
theorem dX10_tells_24 : decode cX10_tells 24 = .ok (.lstore_n 3, 1) := by decide +kernel
theorem dX10_tells_25 : decode cX10_tells 25 = .ok (.iconst 0, 1) := by decide +kernel
theorem dX10_tells_26 : decode cX10_tells 26 = .ok (.istore 5, 2) := by decide +kernel
theorem dX10_tells_28 : decode cX10_tells 28 = .ok (.iload 5, 2) := by decide +kernel
theorem dX10_tells_30 : decode cX10_tells 30 = .ok (.aload_n 0, 1) := by decide +kernel
theorem dX10_tells_31 : decode cX10_tells 31 = .ok (.getfield 17, 3) := by decide +kernel
theorem dX10_tells_34 : decode cX10_tells 34 = .ok (.iconst 0, 1) := by decide +kernel
theorem dX10_tells_35 : decode cX10_tells 35 = .ok (.iaload, 1) := by decide +kernel
theorem dX10_tells_36 : decode cX10_tells 36 = .ok (.if_icmp .ge 72, 3) := by decide +kernel
theorem dX10_tells_39 : decode cX10_tells 39 = .ok (.ldc2_w 213, 3) := by decide +kernel
theorem dX10_tells_42 : decode cX10_tells 42 = .ok (.aload_n 0, 1) := by decide +kernel
theorem dX10_tells_43 : decode cX10_tells 43 = .ok (.iload 5, 2) := by decide +kernel
theorem dX10_tells_45 : decode cX10_tells 45 = .ok (.iload_n 1, 1) := by decide +kernel
theorem dX10_tells_46 : decode cX10_tells 46 = .ok (.invokevirtual 209, 3) := by decide +kernel
theorem dX10_tells_49 : decode cX10_tells 49 = .ok (.lmul, 1) := by decide +kernel
theorem dX10_tells_50 : decode cX10_tells 50 = .ok (.aload_n 0, 1) := by decide +kernel
theorem dX10_tells_51 : decode cX10_tells 51 = .ok (.getfield 201, 3) := by decide +kernel
theorem dX10_tells_54 : decode cX10_tells 54 = .ok (.lsub, 1) := by decide +kernel
theorem dX10_tells_55 : decode cX10_tells 55 = .ok (.lstore 6, 2) := by decide +kernel
theorem dX10_tells_57 : decode cX10_tells 57 = .ok (.lload 6, 2) := by decide +kernel
theorem dX10_tells_59 : decode cX10_tells 59 = .ok (.lconst 0, 1) := by decide +kernel
theorem dX10_tells_60 : decode cX10_tells 60 = .ok (.lcmp, 1) := by decide +kernel
theorem dX10_tells_61 : decode cX10_tells 61 = .ok (.ifCond .ge 9, 3) := by decide +kernel
theorem dX10_tells_64 : decode cX10_tells 64 = .ok (.lload 6, 2) := by decide +kernel
theorem dX10_tells_66 : decode cX10_tells 66 = .ok (.lneg, 1) := by decide +kernel
theorem dX10_tells_67 : decode cX10_tells 67 = .ok (.goto 5, 3) := by decide +kernel
theorem dX10_tells_70 : decode cX10_tells 70 = .ok (.lload 6, 2) := by decide +kernel
theorem dX10_tells_72 : decode cX10_tells 72 = .ok (.lstore 6, 2) := by decide +kernel
theorem dX10_tells_74 : decode cX10_tells 74 = .ok (.aload_n 0, 1) := by decide +kernel
theorem dX10_tells_75 : decode cX10_tells 75 = .ok (.getfield 201, 3) := by decide +kernel
theorem dX10_tells_78 : decode cX10_tells 78 = .ok (.lconst 0, 1) := by decide +kernel
theorem dX10_tells_79 : decode cX10_tells 79 = .ok (.lcmp, 1) := by decide +kernel
theorem dX10_tells_80 : decode cX10_tells 80 = .ok (.ifCond .le 22, 3) := by decide +kernel
theorem dX10_tells_83 : decode cX10_tells 83 = .ok (.iload_n 2, 1) := by decide +kernel
theorem dX10_tells_84 : decode cX10_tells 84 = .ok (.bipush (-4), 2) := by decide +kernel
theorem dX10_tells_86 : decode cX10_tells 86 = .ok (.if_icmp .eq 10, 3) := by decide +kernel
theorem dX10_tells_89 : decode cX10_tells 89 = .ok (.lload 6, 2) := by decide +kernel
theorem dX10_tells_91 : decode cX10_tells 91 = .ok (.lload_n 3, 1) := by decide +kernel
theorem dX10_tells_92 : decode cX10_tells 92 = .ok (.lcmp, 1) := by decide +kernel
theorem dX10_tells_93 : decode cX10_tells 93 = .ok (.ifCond .ge 9, 3) := by decide +kernel
theorem dX10_tells_96 : decode cX10_tells 96 = .ok (.iload 5, 2) := by decide +kernel
theorem dX10_tells_98 : decode cX10_tells 98 = .ok (.istore_n 2, 1) := by decide +kernel
theorem dX10_tells_99 : decode cX10_tells 99 = .ok (.lload 6, 2) := by decide +kernel
theorem dX10_tells_101 : decode cX10_tells 101 = .ok (.lstore_n 3, 1) := by decide +kernel
theorem dX10_tells_102 : decode cX10_tells 102 = .ok (.iinc 5 1, 3) := by decide +kernel
theorem dX10_tells_105 : decode cX10_tells 105 = .ok (.goto (-77), 3) := by decide +kernel
theorem dX10_tells_108 : decode cX10_tells 108 = .ok (.iload_n 2, 1) := by decide +kernel
theorem dX10_tells_109 : decode cX10_tells 109 = .ok (.ireturn, 1) := by decide +kernel
def L_X10_tells_28 (x1 : Int32) (a_goes : Nat → Int32) (a_noise : Nat → Int32) (a_signs : Nat → Int32) (a_told : Nat → Int32) (a_works : Nat → Int32) (q11 : Int32 × (Nat → Int64) × (Nat → Int64))  : Nat → Int32 → Int64 → Int32 → Int64 → (Nat → Int64) → Option (Int32 × Int64 × (Nat → Int64) × (Nat → Int64))
  | 0, _, _, _, _, _ => none
  | n + 1, x2_28, x3_28, x5_28, v_sightAll_28, a_weight_28 => (if (a_signs (Int32.toNatClampNeg 0)) ≤ x5_28 then some (x2_28, v_sightAll_28, q11.2.1, a_weight_28) else (F_X10_sightUp x5_28 x1 v_sightAll_28 a_goes a_noise a_told a_weight_28 a_works).bind (fun q46 => jn (fun (j0_72 : Int64) => jn (fun (x2_102 : Int32) (x3_102 : Int64) => L_X10_tells_28 x1 a_goes a_noise a_signs a_told a_works q11 n x2_102 x3_102 ((x5_28 + 1)) q46.2 a_weight_28) (fun k_102 => (if (lg_cmp q46.2 0) ≤ 0 then k_102 x2_28 x3_28 else jn (k_102 x5_28 j0_72) (fun k_96 => (if x2_28 = (-4) then k_96 else (if 0 ≤ (lg_cmp j0_72 x3_28) then k_102 x2_28 x3_28 else k_96)))))) (fun k_72 => (if 0 ≤ (lg_cmp (((2 * q46.1) - q46.2)) 0) then k_72 (((2 * q46.1) - q46.2)) else k_72 ((-((2 * q46.1) - q46.2)))))))
def F_X10_tells (x1 : Int32) (v_sightAll : Int64) (a_days : Nat → Int32) (a_goes : Nat → Int32) (a_noise : Nat → Int32) (a_seenSigns : Nat → Int32) (a_signs : Nat → Int32) (a_then : Nat → Int64) (a_told : Nat → Int32) (a_weight : Nat → Int64) (a_wentOn : Nat → Int32) (a_works : Nat → Int32) : Option (Int32 × Int64 × (Nat → Int64) × (Nat → Int64)) := (F_X10_areWorks x1 a_works).bind (fun q2 => (if q2 = 0 then some ((-1), v_sightAll, a_then, a_weight) else (F_X10_find a_days a_goes a_noise a_seenSigns a_signs a_then a_told a_weight a_wentOn a_works).bind (fun q11 => (if q11.1 = 0 then some ((-4), v_sightAll, q11.2.1, q11.2.2) else L_X10_tells_28 x1 a_goes a_noise a_signs a_told a_works q11 5000 ((-4)) 0 0 v_sightAll q11.2.2))))
theorem hdV_X10_tells : yX10_tells.cls = RX10 ∧ yX10_tells.cls ≠ "java/lang/invoke/MethodHandle" ∧ yX10_tells.cls ≠ "java/lang/invoke/VarHandle" ∧ (parseMethodDescriptor yX10_tells.desc).map (fun d => d.parameters.length) = some 1 := by decide +kernel
set_option maxHeartbeats 4000000 in
set_option maxRecDepth 100000 in
theorem c_X10_tells (l : Launch) (G : GG) (x1 : Int32) (h_this : Nat) (ad_this : Nat → Nat) (v_typed : Int32) (v_at : Int32) (v_isSo : Int32) (v_kept : Int32) (v_all : Int64) (v_sightAll : Int64) (v_aheadMany : Int32) (a_days : Nat → Int32) (a_goes : Nat → Int32) (a_noise : Nat → Int32) (a_seenSigns : Nat → Int32) (a_signs : Nat → Int32) (a_then : Nat → Int64) (a_told : Nat → Int32) (a_weight : Nat → Int64) (a_wentOn : Nat → Int32) (a_works : Nat → Int32) (out : Int32 × Int64 × (Nat → Int64) × (Nat → Int64)) (hF : F_X10_tells x1 v_sightAll a_days a_goes a_noise a_seenSigns a_signs a_then a_told a_weight a_wentOn a_works = some out) : CtrI l yX10_tells (WS yX10_tells cX10_tells 8 (some .int)) { frames := 5, cells := 0, slots := 0, locals := 120 } G [.ref h_this, .int x1] [(h_this, oX10 ad_this v_typed v_at v_isSo v_kept v_all v_sightAll v_aheadMany), ((ad_this 16), cI G 3 a_days), ((ad_this 2), cI G 6 a_goes), ((ad_this 11), cI G 10 a_noise), ((ad_this 17), cI G 15 a_seenSigns), ((ad_this 3), cI G 2 a_signs), ((ad_this 21), cJ G 3 a_then), ((ad_this 4), cI G 32 a_told), ((ad_this 20), cJ G 3 a_weight), ((ad_this 18), cI G 15 a_wentOn), ((ad_this 10), cI G 2 a_works)] [(h_this, oX10 ad_this v_typed v_at v_isSo v_kept v_all out.2.1 v_aheadMany), ((ad_this 16), cI G 3 a_days), ((ad_this 2), cI G 6 a_goes), ((ad_this 11), cI G 10 a_noise), ((ad_this 17), cI G 15 a_seenSigns), ((ad_this 3), cI G 2 a_signs), ((ad_this 21), cJ G 3 out.2.2.1), ((ad_this 4), cI G 32 a_told), ((ad_this 20), cJ G 3 out.2.2.2), ((ad_this 18), cI G 15 a_wentOn), ((ad_this 10), cI G 2 a_works)] out.1 := by
  refine startI (cc := cX10_tells) (maxL := 8) (by decide) rfl (Nat.le_of_ble_eq_true rfl) ?_
  intro p e s m args below meth c A Q hx hb hml hts hown hc hA hret ls H locs hl hW
  have hown : s.vm.findClass RX10 = some m.cls := hown
  have hg : ∀ w ∈ GOODS, w.before _ s = true := fun w h => hts w (List.mem_cons_of_mem _ h)
  have hl : lv_has ls 8 [(0, .ref h_this), (1, .int x1)] := hl
  rw [F_X10_tells] at hF
  refine lv_aload_n hx hb dX10_tells_0 rfl (lv_at hl 0 rfl) ?_
  refine lv_iload_n hx hb dX10_tells_1 rfl (lv_at hl 1 rfl) ?_
  obtain ⟨q2, c_2, hF⟩ := bd_el hF
  refine wcZ (ws' := [(h_this, oX10 ad_this v_typed v_at v_isSo v_kept v_all v_sightAll v_aheadMany), ((ad_this 16), cI G 3 a_days), ((ad_this 2), cI G 6 a_goes), ((ad_this 11), cI G 10 a_noise), ((ad_this 17), cI G 15 a_seenSigns), ((ad_this 3), cI G 2 a_signs), ((ad_this 21), cJ G 3 a_then), ((ad_this 4), cI G 32 a_told), ((ad_this 20), cJ G 3 a_weight), ((ad_this 18), cI G 15 a_wentOn), ((ad_this 10), cI G 2 a_works)]) (wc := [(h_this, oX10 ad_this v_typed v_at v_isSo v_kept v_all v_sightAll v_aheadMany), ((ad_this 10), cI G 2 a_works)]) (wr := [((ad_this 16), cI G 3 a_days), ((ad_this 2), cI G 6 a_goes), ((ad_this 11), cI G 10 a_noise), ((ad_this 17), cI G 15 a_seenSigns), ((ad_this 3), cI G 2 a_signs), ((ad_this 21), cJ G 3 a_then), ((ad_this 4), cI G 32 a_told), ((ad_this 20), cJ G 3 a_weight), ((ad_this 18), cI G 15 a_wentOn)]) (w1 := [(h_this, oX10 ad_this v_typed v_at v_isSo v_kept v_all v_sightAll v_aheadMany), ((ad_this 10), cI G 2 a_works)]) (va_runV (As := [.int x1]) (rest := []) ⟨hx, hb, hml, hown, hg⟩ (c_X10_areWorks l G x1 h_this ad_this v_typed v_at v_isSo v_kept v_all v_sightAll v_aheadMany a_works q2 c_2 H.size) (cwV 1 hg (gV wd_4_176 wd_4_178 wd_0_31 wd_1_15 wd_4_179) rfl rfl rfl hdV_X10_areWorks ⟨(Nat.le_of_ble_eq_true rfl), (Nat.le_of_ble_eq_true rfl)⟩) (preV hc hW [0, 10] rfl (by decide) rfl rfl) rfl rfl hl.1 rfl (lv_room (Nat.le_of_ble_eq_true rfl)) dX10_tells_2 ⟨Nat.zero_le _, Nat.zero_le _⟩) hA hW [0, 10] [1, 2, 3, 4, 5, 6, 7, 8, 9] [9, 0, 1, 2, 3, 4, 5, 6, 7, 8, 10] rfl rfl (by decide) (by decide) rfl (by decide) (fun z_2 H locs hW => ?_)
  refine lv_if_ne (tgt := 10) hx hb dX10_tells_5 (by decide) (fun c_5 => ?_) (fun c_5 => ?_)
  · have hF := ite_f hF c_5
    refine lv_aload_n hx hb dX10_tells_10 rfl (lv_at hl 0 rfl) ?_
    obtain ⟨q11, c_11, hF⟩ := bd_el hF
    refine wcZ (ws' := [(h_this, oX10 ad_this v_typed v_at v_isSo v_kept v_all v_sightAll v_aheadMany), ((ad_this 16), cI G 3 a_days), ((ad_this 2), cI G 6 a_goes), ((ad_this 11), cI G 10 a_noise), ((ad_this 17), cI G 15 a_seenSigns), ((ad_this 3), cI G 2 a_signs), ((ad_this 21), cJ G 3 q11.2.1), ((ad_this 4), cI G 32 a_told), ((ad_this 20), cJ G 3 q11.2.2), ((ad_this 18), cI G 15 a_wentOn), ((ad_this 10), cI G 2 a_works)]) (wc := [(h_this, oX10 ad_this v_typed v_at v_isSo v_kept v_all v_sightAll v_aheadMany), ((ad_this 16), cI G 3 a_days), ((ad_this 2), cI G 6 a_goes), ((ad_this 11), cI G 10 a_noise), ((ad_this 17), cI G 15 a_seenSigns), ((ad_this 3), cI G 2 a_signs), ((ad_this 21), cJ G 3 a_then), ((ad_this 4), cI G 32 a_told), ((ad_this 20), cJ G 3 a_weight), ((ad_this 18), cI G 15 a_wentOn), ((ad_this 10), cI G 2 a_works)]) (wr := []) (w1 := [(h_this, oX10 ad_this v_typed v_at v_isSo v_kept v_all v_sightAll v_aheadMany), ((ad_this 16), cI G 3 a_days), ((ad_this 2), cI G 6 a_goes), ((ad_this 11), cI G 10 a_noise), ((ad_this 17), cI G 15 a_seenSigns), ((ad_this 3), cI G 2 a_signs), ((ad_this 21), cJ G 3 q11.2.1), ((ad_this 4), cI G 32 a_told), ((ad_this 20), cJ G 3 q11.2.2), ((ad_this 18), cI G 15 a_wentOn), ((ad_this 10), cI G 2 a_works)]) (va_runV (As := []) (rest := []) ⟨hx, hb, hml, hown, hg⟩ (c_X10_find l G h_this ad_this v_typed v_at v_isSo v_kept v_all v_sightAll v_aheadMany a_days a_goes a_noise a_seenSigns a_signs a_then a_told a_weight a_wentOn a_works q11 c_11 H.size) (cwV 0 hg (gV wd_4_205 wd_4_207 wd_0_34 wd_1_15 wd_4_208) rfl rfl rfl hdV_X10_find ⟨(Nat.le_of_ble_eq_true rfl), (Nat.le_of_ble_eq_true rfl)⟩) (preV hc hW [0, 1, 2, 3, 4, 5, 6, 7, 8, 9, 10] rfl (by decide) rfl rfl) rfl rfl hl.1 rfl (lv_room (Nat.le_of_ble_eq_true rfl)) dX10_tells_11 ⟨Nat.zero_le _, Nat.zero_le _⟩) hA hW [0, 1, 2, 3, 4, 5, 6, 7, 8, 9, 10] [] [0, 1, 2, 3, 4, 5, 6, 7, 8, 9, 10] rfl rfl (by decide) (by decide) rfl (by decide) (fun z_11 H locs hW => ?_)
    refine lv_if_ne (tgt := 20) hx hb dX10_tells_14 (by decide) (fun c_14 => ?_) (fun c_14 => ?_)
    · have hF := ite_f hF c_14
      refine lv_bipush (v := (-4)) hx hb dX10_tells_20 (by decide) ?_
      refine lv_istore_n (lv' := [(2, .int ((-4))), (0, .ref h_this), (1, .int x1)]) hx hb dX10_tells_22 rfl hl (by decide) rfl (fun ls hl => ?_)
      refine lv_lconst (v := 0) hx hb dX10_tells_23 (by decide) ?_
      refine lv_lstore_n (lv' := [(3, .long 0), (2, .int ((-4))), (0, .ref h_this), (1, .int x1)]) hx hb dX10_tells_24 rfl hl (by decide) rfl (fun ls hl => ?_)
      refine lv_iconst (v := 0) hx hb dX10_tells_25 (by decide) ?_
      refine lv_istore (lv' := [(5, .int 0), (3, .long 0), (2, .int ((-4))), (0, .ref h_this), (1, .int x1)]) hx hb dX10_tells_26 hl (by decide) rfl (fun ls hl => ?_)
      have L_28 : ∀ (n : Nat) (x2_28 : Int32) (x3_28 : Int64) (x5_28 : Int32) (v_sightAll_28 : Int64) (a_weight_28 : Nat → Int64) (ls : Array Slot) (H : Heap) (locs : List Loc), L_X10_tells_28 x1 a_goes a_noise a_signs a_told a_works q11 n x2_28 x3_28 x5_28 v_sightAll_28 a_weight_28 = some out → lv_has ls 8 [(0, .ref h_this), (1, .int x1), (2, .int x2_28), (3, .long x3_28), (5, .int x5_28)] → Wd G A s.heap [(h_this, oX10 ad_this v_typed v_at v_isSo v_kept v_all v_sightAll_28 v_aheadMany), ((ad_this 16), cI G 3 a_days), ((ad_this 2), cI G 6 a_goes), ((ad_this 11), cI G 10 a_noise), ((ad_this 17), cI G 15 a_seenSigns), ((ad_this 3), cI G 2 a_signs), ((ad_this 21), cJ G 3 q11.2.1), ((ad_this 4), cI G 32 a_told), ((ad_this 20), cJ G 3 a_weight_28), ((ad_this 18), cI G 15 a_wentOn), ((ad_this 10), cI G 2 a_works)] H locs → W p l e ({ frames := 5, cells := 0, slots := 0, locals := 120 } : Room) s m args below meth c H locs 0 0 Q (F0 m 28 ls []) := by
        intro n
        induction n with
        | zero => intro x2_28 x3_28 x5_28 v_sightAll_28 a_weight_28 ls H locs hF hl hW; have h0 : none = some out := hF; cases h0
        | succ n ih =>
          intro x2_28 x3_28 x5_28 v_sightAll_28 a_weight_28 ls H locs hF hl hW
          rw [L_X10_tells_28] at hF
          refine lv_iload hx hb dX10_tells_28 (lv_at hl 4 rfl) ?_
          refine lv_aload_n hx hb dX10_tells_30 rfl (lv_at hl 0 rfl) ?_
          refine va_get (D := G.1) (ci := 9) (v := .ref ((ad_this 3))) (C := RX10) (T := TX10) (N := 31) hx hb hg hu_X10 hown hc.1 hW.1 0 rfl rfl 3 (by decide) (hg _ wd_4_41) (fun _ h9 => h9) rfl dX10_tells_31 ?_
          refine lv_iconst (v := 0) hx hb dX10_tells_34 (by decide) ?_
          have b_35 : vp_in 0 2 := inb_vp (by decide)
          refine va_iald hx hb hc.1 hW.1 5 0 rfl rfl b_35 dX10_tells_35 ?_
          refine lv_icmp_ge (tgt := 108) hx hb dX10_tells_36 (by decide) (fun c_36 => ?_) (fun c_36 => ?_)
          · have hF := ite_t hF c_36
            refine lv_iload_n hx hb dX10_tells_108 rfl (lv_at hl 2 rfl) ?_
            obtain rfl := Option.some.inj hF
            exact hret _ _ _ _ hW dX10_tells_109
          · have hF := ite_f hF c_36
            refine lv_ldc2 (v := 2) hx hb hown (hg _ wd_5_31) dX10_tells_39 ?_
            refine lv_aload_n hx hb dX10_tells_42 rfl (lv_at hl 0 rfl) ?_
            refine lv_iload hx hb dX10_tells_43 (lv_at hl 4 rfl) ?_
            refine lv_iload_n hx hb dX10_tells_45 rfl (lv_at hl 1 rfl) ?_
            obtain ⟨q46, c_46, hF⟩ := bd_el hF
            refine wcJ (ws' := [(h_this, oX10 ad_this v_typed v_at v_isSo v_kept v_all q46.2 v_aheadMany), ((ad_this 16), cI G 3 a_days), ((ad_this 2), cI G 6 a_goes), ((ad_this 11), cI G 10 a_noise), ((ad_this 17), cI G 15 a_seenSigns), ((ad_this 3), cI G 2 a_signs), ((ad_this 21), cJ G 3 q11.2.1), ((ad_this 4), cI G 32 a_told), ((ad_this 20), cJ G 3 a_weight_28), ((ad_this 18), cI G 15 a_wentOn), ((ad_this 10), cI G 2 a_works)]) (wc := [(h_this, oX10 ad_this v_typed v_at v_isSo v_kept v_all v_sightAll_28 v_aheadMany), ((ad_this 2), cI G 6 a_goes), ((ad_this 11), cI G 10 a_noise), ((ad_this 4), cI G 32 a_told), ((ad_this 20), cJ G 3 a_weight_28), ((ad_this 10), cI G 2 a_works)]) (wr := [((ad_this 16), cI G 3 a_days), ((ad_this 17), cI G 15 a_seenSigns), ((ad_this 3), cI G 2 a_signs), ((ad_this 21), cJ G 3 q11.2.1), ((ad_this 18), cI G 15 a_wentOn)]) (w1 := [(h_this, oX10 ad_this v_typed v_at v_isSo v_kept v_all q46.2 v_aheadMany), ((ad_this 2), cI G 6 a_goes), ((ad_this 11), cI G 10 a_noise), ((ad_this 4), cI G 32 a_told), ((ad_this 20), cJ G 3 a_weight_28), ((ad_this 10), cI G 2 a_works)]) (va_runV (As := [.int x5_28, .int x1]) (rest := [.long 2]) ⟨hx, hb, hml, hown, hg⟩ (c_X10_sightUp l G x5_28 x1 h_this ad_this v_typed v_at v_isSo v_kept v_all v_sightAll_28 v_aheadMany a_goes a_noise a_told a_weight_28 a_works q46 c_46 H.size) (cwV 2 hg (gV wd_5_18 wd_5_20 wd_0_43 wd_1_15 wd_5_21) rfl rfl rfl hdV_X10_sightUp ⟨(Nat.le_of_ble_eq_true rfl), (Nat.le_of_ble_eq_true rfl)⟩) (preV hc hW [0, 2, 3, 7, 8, 10] rfl (by decide) rfl rfl) rfl rfl hl.1 rfl (lv_room (Nat.le_of_ble_eq_true rfl)) dX10_tells_46 ⟨Nat.zero_le _, Nat.zero_le _⟩) hA hW [0, 2, 3, 7, 8, 10] [1, 4, 5, 6, 9] [5, 0, 6, 7, 1, 2, 3, 8, 9, 4, 10] rfl rfl (by decide) (by decide) rfl (by decide) (fun H locs hW => ?_)
            refine lv_lmul hx hb dX10_tells_49 ?_
            refine lv_aload_n hx hb dX10_tells_50 rfl (lv_at hl 0 rfl) ?_
            refine va_get (D := G.1) (ci := 9) (v := .long q46.2) (C := RX10) (T := TX10) (N := 31) hx hb hg hu_X10 hown hc.1 hW.1 0 rfl rfl 24 (by decide) (hg _ wd_4_62) (fun _ h9 => h9) rfl dX10_tells_51 ?_
            refine lv_lsub hx hb dX10_tells_54 ?_
            refine lv_lstore (lv' := [(6, .long (((2 * q46.1) - q46.2))), (0, .ref h_this), (1, .int x1), (2, .int x2_28), (3, .long x3_28), (5, .int x5_28)]) hx hb dX10_tells_55 hl (by decide) rfl (fun ls hl => ?_)
            refine lv_lload hx hb dX10_tells_57 (lv_at hl 0 rfl) ?_
            refine lv_lconst (v := 0) hx hb dX10_tells_59 (by decide) ?_
            refine W.lcmp hx hb dX10_tells_60 ?_
            obtain ⟨k_72, e_72, hF⟩ := jn_el hF
            have J_72 : ∀ (j0_72 : Int64) (ls : Array Slot) (H : Heap) (locs : List Loc), k_72 j0_72 = some out → lv_has ls 8 [(0, .ref h_this), (1, .int x1), (2, .int x2_28), (3, .long x3_28), (5, .int x5_28)] → Wd G A s.heap [(h_this, oX10 ad_this v_typed v_at v_isSo v_kept v_all q46.2 v_aheadMany), ((ad_this 16), cI G 3 a_days), ((ad_this 2), cI G 6 a_goes), ((ad_this 11), cI G 10 a_noise), ((ad_this 17), cI G 15 a_seenSigns), ((ad_this 3), cI G 2 a_signs), ((ad_this 21), cJ G 3 q11.2.1), ((ad_this 4), cI G 32 a_told), ((ad_this 20), cJ G 3 a_weight_28), ((ad_this 18), cI G 15 a_wentOn), ((ad_this 10), cI G 2 a_works)] H locs → W p l e ({ frames := 5, cells := 0, slots := 0, locals := 120 } : Room) s m args below meth c H locs 0 0 Q (F0 m 72 ls [.long j0_72]) := by
              intro j0_72 ls H locs hF hl hW
              rw [e_72] at hF
              dsimp only at hF
              refine lv_lstore (lv' := [(6, .long j0_72), (0, .ref h_this), (1, .int x1), (2, .int x2_28), (3, .long x3_28), (5, .int x5_28)]) hx hb dX10_tells_72 hl (by decide) rfl (fun ls hl => ?_)
              refine lv_aload_n hx hb dX10_tells_74 rfl (lv_at hl 1 rfl) ?_
              refine va_get (D := G.1) (ci := 9) (v := .long q46.2) (C := RX10) (T := TX10) (N := 31) hx hb hg hu_X10 hown hc.1 hW.1 0 rfl rfl 24 (by decide) (hg _ wd_4_62) (fun _ h9 => h9) rfl dX10_tells_75 ?_
              refine lv_lconst (v := 0) hx hb dX10_tells_78 (by decide) ?_
              refine W.lcmp hx hb dX10_tells_79 ?_
              obtain ⟨k_102, e_102, hF⟩ := jn_el hF
              have J_102 : ∀ (x2_102 : Int32) (x3_102 : Int64) (ls : Array Slot) (H : Heap) (locs : List Loc), k_102 x2_102 x3_102 = some out → lv_has ls 8 [(0, .ref h_this), (1, .int x1), (2, .int x2_102), (3, .long x3_102), (5, .int x5_28)] → Wd G A s.heap [(h_this, oX10 ad_this v_typed v_at v_isSo v_kept v_all q46.2 v_aheadMany), ((ad_this 16), cI G 3 a_days), ((ad_this 2), cI G 6 a_goes), ((ad_this 11), cI G 10 a_noise), ((ad_this 17), cI G 15 a_seenSigns), ((ad_this 3), cI G 2 a_signs), ((ad_this 21), cJ G 3 q11.2.1), ((ad_this 4), cI G 32 a_told), ((ad_this 20), cJ G 3 a_weight_28), ((ad_this 18), cI G 15 a_wentOn), ((ad_this 10), cI G 2 a_works)] H locs → W p l e ({ frames := 5, cells := 0, slots := 0, locals := 120 } : Room) s m args below meth c H locs 0 0 Q (F0 m 102 ls []) := by
                intro x2_102 x3_102 ls H locs hF hl hW
                rw [e_102] at hF
                dsimp only at hF
                refine lv_iinc (v := (x5_28 + 1)) (lv' := [(5, .int ((x5_28 + 1))), (0, .ref h_this), (1, .int x1), (2, .int x2_102), (3, .long x3_102)]) hx hb dX10_tells_102 hl (k := 4) rfl rfl (by decide) rfl (fun ls hl => ?_)
                refine lv_goto (tgt := 28) hx hb dX10_tells_105 (by decide) ?_
                exact ih x2_102 x3_102 ((x5_28 + 1)) q46.2 a_weight_28 _ _ _ hF (lv_sub hl [1, 2, 3, 4, 0] rfl) hW
              refine lv_if_le (tgt := 102) hx hb dX10_tells_80 (by decide) (fun c_80 => ?_) (fun c_80 => ?_)
              · have hF := ite_t hF c_80
                exact J_102 x2_28 x3_28 _ _ _ hF (lv_sub hl [1, 2, 3, 4, 5] rfl) hW
              · have hF := ite_f hF c_80
                refine lv_iload_n hx hb dX10_tells_83 rfl (lv_at hl 3 rfl) ?_
                refine lv_bipush (v := (-4)) hx hb dX10_tells_84 (by decide) ?_
                obtain ⟨k_96, e_96, hF⟩ := jn_el hF
                have J_96 : ∀ (ls : Array Slot) (H : Heap) (locs : List Loc), k_96 = some out → lv_has ls 8 [(0, .ref h_this), (1, .int x1), (5, .int x5_28), (6, .long j0_72)] → Wd G A s.heap [(h_this, oX10 ad_this v_typed v_at v_isSo v_kept v_all q46.2 v_aheadMany), ((ad_this 16), cI G 3 a_days), ((ad_this 2), cI G 6 a_goes), ((ad_this 11), cI G 10 a_noise), ((ad_this 17), cI G 15 a_seenSigns), ((ad_this 3), cI G 2 a_signs), ((ad_this 21), cJ G 3 q11.2.1), ((ad_this 4), cI G 32 a_told), ((ad_this 20), cJ G 3 a_weight_28), ((ad_this 18), cI G 15 a_wentOn), ((ad_this 10), cI G 2 a_works)] H locs → W p l e ({ frames := 5, cells := 0, slots := 0, locals := 120 } : Room) s m args below meth c H locs 0 0 Q (F0 m 96 ls []) := by
                  intro ls H locs hF hl hW
                  rw [e_96] at hF
                  refine lv_iload hx hb dX10_tells_96 (lv_at hl 2 rfl) ?_
                  refine lv_istore_n (lv' := [(2, .int x5_28), (0, .ref h_this), (1, .int x1), (5, .int x5_28), (6, .long j0_72)]) hx hb dX10_tells_98 rfl hl (by decide) rfl (fun ls hl => ?_)
                  refine lv_lload hx hb dX10_tells_99 (lv_at hl 4 rfl) ?_
                  refine lv_lstore_n (lv' := [(3, .long j0_72), (2, .int x5_28), (0, .ref h_this), (1, .int x1), (5, .int x5_28), (6, .long j0_72)]) hx hb dX10_tells_101 rfl hl (by decide) rfl (fun ls hl => ?_)
                  exact J_102 x5_28 j0_72 _ _ _ hF (lv_sub hl [2, 3, 1, 0, 4] rfl) hW
                refine lv_icmp_eq (tgt := 96) hx hb dX10_tells_86 (by decide) (fun c_86 => ?_) (fun c_86 => ?_)
                · have hF := ite_t hF c_86
                  exact J_96 _ _ _ hF (lv_sub hl [1, 2, 5, 0] rfl) hW
                · have hF := ite_f hF c_86
                  refine lv_lload hx hb dX10_tells_89 (lv_at hl 0 rfl) ?_
                  refine lv_lload_n hx hb dX10_tells_91 rfl (lv_at hl 4 rfl) ?_
                  refine W.lcmp hx hb dX10_tells_92 ?_
                  refine lv_if_ge (tgt := 102) hx hb dX10_tells_93 (by decide) (fun c_93 => ?_) (fun c_93 => ?_)
                  · have hF := ite_t hF c_93
                    exact J_102 x2_28 x3_28 _ _ _ hF (lv_sub hl [1, 2, 3, 4, 5] rfl) hW
                  · have hF := ite_f hF c_93
                    exact J_96 _ _ _ hF (lv_sub hl [1, 2, 5, 0] rfl) hW
            refine lv_if_ge (tgt := 70) hx hb dX10_tells_61 (by decide) (fun c_61 => ?_) (fun c_61 => ?_)
            · have hF := ite_t hF c_61
              refine lv_lload hx hb dX10_tells_70 (lv_at hl 0 rfl) ?_
              exact J_72 (((2 * q46.1) - q46.2)) _ _ _ hF (lv_sub hl [1, 2, 3, 4, 5] rfl) hW
            · have hF := ite_f hF c_61
              refine lv_lload hx hb dX10_tells_64 (lv_at hl 0 rfl) ?_
              refine lv_lneg hx hb dX10_tells_66 ?_
              refine lv_goto (tgt := 72) hx hb dX10_tells_67 (by decide) ?_
              exact J_72 ((-((2 * q46.1) - q46.2))) _ _ _ hF (lv_sub hl [1, 2, 3, 4, 5] rfl) hW
      exact L_28 5000 ((-4)) 0 0 v_sightAll q11.2.2 _ _ _ hF (lv_sub hl [3, 4, 2, 1, 0] rfl) hW
    · have hF := ite_t hF c_14
      refine lv_bipush (v := (-4)) hx hb dX10_tells_17 (by decide) ?_
      obtain rfl := Option.some.inj hF
      exact hret _ _ _ _ hW dX10_tells_19
  · have hF := ite_t hF c_5
    refine lv_iconst (v := (-1)) hx hb dX10_tells_8 (by decide) ?_
    obtain rfl := Option.some.inj hF
    exact hret _ _ _ _ hW dX10_tells_9
theorem dX10_costOf_0 : decode cX10_costOf 0 = .ok (.aload_n 0, 1) := by decide +kernel
theorem dX10_costOf_1 : decode cX10_costOf 1 = .ok (.getfield 47, 3) := by decide +kernel
theorem dX10_costOf_4 : decode cX10_costOf 4 = .ok (.iconst 0, 1) := by decide +kernel
theorem dX10_costOf_5 : decode cX10_costOf 5 = .ok (.iaload, 1) := by decide +kernel
theorem dX10_costOf_6 : decode cX10_costOf 6 = .ok (.i2l, 1) := by decide +kernel
theorem dX10_costOf_7 : decode cX10_costOf 7 = .ok (.aload_n 0, 1) := by decide +kernel
theorem dX10_costOf_8 : decode cX10_costOf 8 = .ok (.getfield 66, 3) := by decide +kernel
theorem dX10_costOf_11 : decode cX10_costOf 11 = .ok (.iload_n 1, 1) := by decide +kernel
theorem dX10_costOf_12 : decode cX10_costOf 12 = .ok (.laload, 1) := by decide +kernel
theorem dX10_costOf_13 : decode cX10_costOf 13 = .ok (.lmul, 1) := by decide +kernel
theorem dX10_costOf_14 : decode cX10_costOf 14 = .ok (.aload_n 0, 1) := by decide +kernel
theorem dX10_costOf_15 : decode cX10_costOf 15 = .ok (.getfield 47, 3) := by decide +kernel
theorem dX10_costOf_18 : decode cX10_costOf 18 = .ok (.iconst 1, 1) := by decide +kernel
theorem dX10_costOf_19 : decode cX10_costOf 19 = .ok (.iaload, 1) := by decide +kernel
theorem dX10_costOf_20 : decode cX10_costOf 20 = .ok (.iconst 3, 1) := by decide +kernel
theorem dX10_costOf_21 : decode cX10_costOf 21 = .ok (.iload_n 1, 1) := by decide +kernel
theorem dX10_costOf_22 : decode cX10_costOf 22 = .ok (.isub, 1) := by decide +kernel
theorem dX10_costOf_23 : decode cX10_costOf 23 = .ok (.imul, 1) := by decide +kernel
theorem dX10_costOf_24 : decode cX10_costOf 24 = .ok (.i2l, 1) := by decide +kernel
theorem dX10_costOf_25 : decode cX10_costOf 25 = .ok (.aload_n 0, 1) := by decide +kernel
theorem dX10_costOf_26 : decode cX10_costOf 26 = .ok (.getfield 192, 3) := by decide +kernel
theorem dX10_costOf_29 : decode cX10_costOf 29 = .ok (.lmul, 1) := by decide +kernel
theorem dX10_costOf_30 : decode cX10_costOf 30 = .ok (.ladd, 1) := by decide +kernel
theorem dX10_costOf_31 : decode cX10_costOf 31 = .ok (.lreturn, 1) := by decide +kernel
def F_X10_costOf (x1 : Int32) (v_all : Int64) (a_costs : Nat → Int32) (a_turns : Nat → Int64) : Option (Int64) := (if inb x1 4 = true then some ((((Int32.toInt64 ((a_costs (Int32.toNatClampNeg 0)))) * (a_turns (Int32.toNatClampNeg x1))) + ((Int32.toInt64 (((a_costs (Int32.toNatClampNeg 1)) * (3 - x1)))) * v_all))) else none)
theorem hdV_X10_costOf : yX10_costOf.cls = RX10 ∧ yX10_costOf.cls ≠ "java/lang/invoke/MethodHandle" ∧ yX10_costOf.cls ≠ "java/lang/invoke/VarHandle" ∧ (parseMethodDescriptor yX10_costOf.desc).map (fun d => d.parameters.length) = some 1 := by decide +kernel
set_option maxHeartbeats 4000000 in
set_option maxRecDepth 100000 in
theorem c_X10_costOf (l : Launch) (G : GG) (x1 : Int32) (h_this : Nat) (ad_this : Nat → Nat) (v_typed : Int32) (v_at : Int32) (v_isSo : Int32) (v_kept : Int32) (v_all : Int64) (v_sightAll : Int64) (v_aheadMany : Int32) (a_costs : Nat → Int32) (a_turns : Nat → Int64) (out : Int64) (hF : F_X10_costOf x1 v_all a_costs a_turns = some out) : CtrJ l yX10_costOf (WS yX10_costOf cX10_costOf 2 (some .long)) { frames := 0, cells := 0, slots := 0, locals := 0 } G [.ref h_this, .int x1] [(h_this, oX10 ad_this v_typed v_at v_isSo v_kept v_all v_sightAll v_aheadMany), ((ad_this 13), cI G 4 a_costs), ((ad_this 23), cJ G 4 a_turns)] [(h_this, oX10 ad_this v_typed v_at v_isSo v_kept v_all v_sightAll v_aheadMany), ((ad_this 13), cI G 4 a_costs), ((ad_this 23), cJ G 4 a_turns)] out := by
  refine startJ (cc := cX10_costOf) (maxL := 2) (by decide) rfl (Nat.le_of_ble_eq_true rfl) ?_
  intro p e s m args below meth c A Q hx hb hml hts hown hc hA hret ls H locs hl hW
  have hown : s.vm.findClass RX10 = some m.cls := hown
  have hg : ∀ w ∈ GOODS, w.before _ s = true := fun w h => hts w (List.mem_cons_of_mem _ h)
  have hl : lv_has ls 2 [(0, .ref h_this), (1, .int x1)] := hl
  rw [F_X10_costOf] at hF
  refine lv_aload_n hx hb dX10_costOf_0 rfl (lv_at hl 0 rfl) ?_
  refine va_get (D := G.1) (ci := 9) (v := .ref ((ad_this 13))) (C := RX10) (T := TX10) (N := 31) hx hb hg hu_X10 hown hc.1 hW.1 0 rfl rfl 13 (by decide) (hg _ wd_4_51) (fun _ h9 => h9) rfl dX10_costOf_1 ?_
  refine lv_iconst (v := 0) hx hb dX10_costOf_4 (by decide) ?_
  have b_5 : vp_in 0 4 := inb_vp (by decide)
  refine va_iald hx hb hc.1 hW.1 1 0 rfl rfl b_5 dX10_costOf_5 ?_
  refine lv_i2l (v := (Int32.toInt64 ((a_costs (Int32.toNatClampNeg 0))))) hx hb dX10_costOf_6 rfl ?_
  refine lv_aload_n hx hb dX10_costOf_7 rfl (lv_at hl 0 rfl) ?_
  refine va_get (D := G.1) (ci := 9) (v := .ref ((ad_this 23))) (C := RX10) (T := TX10) (N := 31) hx hb hg hu_X10 hown hc.1 hW.1 0 rfl rfl 23 (by decide) (hg _ wd_4_61) (fun _ h9 => h9) rfl dX10_costOf_8 ?_
  refine lv_iload_n hx hb dX10_costOf_11 rfl (lv_at hl 1 rfl) ?_
  obtain ⟨b_12, hF⟩ := inb_el hF
  refine va_lald hx hb hc.1 hW.1 2 1 rfl rfl b_12 dX10_costOf_12 ?_
  refine lv_lmul hx hb dX10_costOf_13 ?_
  refine lv_aload_n hx hb dX10_costOf_14 rfl (lv_at hl 0 rfl) ?_
  refine va_get (D := G.1) (ci := 9) (v := .ref ((ad_this 13))) (C := RX10) (T := TX10) (N := 31) hx hb hg hu_X10 hown hc.1 hW.1 0 rfl rfl 13 (by decide) (hg _ wd_4_51) (fun _ h9 => h9) rfl dX10_costOf_15 ?_
  refine lv_iconst (v := 1) hx hb dX10_costOf_18 (by decide) ?_
  have b_19 : vp_in 1 4 := inb_vp (by decide)
  refine va_iald hx hb hc.1 hW.1 1 0 rfl rfl b_19 dX10_costOf_19 ?_
  refine lv_iconst (v := 3) hx hb dX10_costOf_20 (by decide) ?_
  refine lv_iload_n hx hb dX10_costOf_21 rfl (lv_at hl 1 rfl) ?_
  refine lv_isub hx hb dX10_costOf_22 ?_
  refine lv_imul hx hb dX10_costOf_23 ?_
  refine lv_i2l (v := (Int32.toInt64 (((a_costs (Int32.toNatClampNeg 1)) * (3 - x1))))) hx hb dX10_costOf_24 rfl ?_
  refine lv_aload_n hx hb dX10_costOf_25 rfl (lv_at hl 0 rfl) ?_
  refine va_get (D := G.1) (ci := 9) (v := .long v_all) (C := RX10) (T := TX10) (N := 31) hx hb hg hu_X10 hown hc.1 hW.1 0 rfl rfl 22 (by decide) (hg _ wd_4_60) (fun _ h9 => h9) rfl dX10_costOf_26 ?_
  refine lv_lmul hx hb dX10_costOf_29 ?_
  refine lv_ladd hx hb dX10_costOf_30 ?_
  obtain rfl := Option.some.inj hF
  exact hret _ _ _ _ hW dX10_costOf_31
theorem dX10_board_0 : decode cX10_board 0 = .ok (.aload_n 0, 1) := by decide +kernel
theorem dX10_board_1 : decode cX10_board 1 = .ok (.iload_n 1, 1) := by decide +kernel
theorem dX10_board_2 : decode cX10_board 2 = .ok (.invokevirtual 138, 3) := by decide +kernel
theorem dX10_board_5 : decode cX10_board 5 = .ok (.ifCond .eq 12, 3) := by decide +kernel
theorem dX10_board_8 : decode cX10_board 8 = .ok (.iload_n 2, 1) := by decide +kernel
theorem dX10_board_9 : decode cX10_board 9 = .ok (.iconst 0, 1) := by decide +kernel
theorem dX10_board_10 : decode cX10_board 10 = .ok (.iconst 2, 1) := by decide +kernel
theorem dX10_board_11 : decode cX10_board 11 = .ok (.invokestatic 99, 3) := by decide +kernel
theorem dX10_board_14 : decode cX10_board 14 = .ok (.ifCond .ne 7, 3) := by decide +kernel
theorem dX10_board_17 : decode cX10_board 17 = .ok (.ldc2_w 174, 3) := by decide +kernel
theorem dX10_board_20 : decode cX10_board 20 = .ok (.lreturn, 1) := by decide +kernel
theorem dX10_board_21 : decode cX10_board 21 = .ok (.aload_n 0, 1) := by decide +kernel
theorem dX10_board_22 : decode cX10_board 22 = .ok (.iload_n 1, 1) := by decide +kernel
theorem dX10_board_23 : decode cX10_board 23 = .ok (.invokevirtual 198, 3) := by decide +kernel
theorem dX10_board_26 : decode cX10_board 26 = .ok (.ifCond .ne 7, 3) := by decide +kernel
theorem dX10_board_29 : decode cX10_board 29 = .ok (.ldc2_w 180, 3) := by decide +kernel
theorem dX10_board_32 : decode cX10_board 32 = .ok (.lreturn, 1) := by decide +kernel
theorem dX10_board_33 : decode cX10_board 33 = .ok (.iconst 0, 1) := by decide +kernel
theorem dX10_board_34 : decode cX10_board 34 = .ok (.istore_n 3, 1) := by decide +kernel
theorem dX10_board_35 : decode cX10_board 35 = .ok (.iconst 1, 1) := by decide +kernel
theorem dX10_board_36 : decode cX10_board 36 = .ok (.istore 4, 2) := by decide +kernel
theorem dX10_board_38 : decode cX10_board 38 = .ok (.iload 4, 2) := by decide +kernel
theorem dX10_board_40 : decode cX10_board 40 = .ok (.iconst 4, 1) := by decide +kernel
theorem dX10_board_41 : decode cX10_board 41 = .ok (.if_icmp .ge 31, 3) := by decide +kernel
theorem dX10_board_44 : decode cX10_board 44 = .ok (.aload_n 0, 1) := by decide +kernel
theorem dX10_board_45 : decode cX10_board 45 = .ok (.iload 4, 2) := by decide +kernel
theorem dX10_board_47 : decode cX10_board 47 = .ok (.invokevirtual 215, 3) := by decide +kernel
theorem dX10_board_50 : decode cX10_board 50 = .ok (.aload_n 0, 1) := by decide +kernel
theorem dX10_board_51 : decode cX10_board 51 = .ok (.iload_n 3, 1) := by decide +kernel
theorem dX10_board_52 : decode cX10_board 52 = .ok (.invokevirtual 215, 3) := by decide +kernel
theorem dX10_board_55 : decode cX10_board 55 = .ok (.lcmp, 1) := by decide +kernel
theorem dX10_board_56 : decode cX10_board 56 = .ok (.ifCond .ge 8, 3) := by decide +kernel
theorem dX10_board_59 : decode cX10_board 59 = .ok (.iload 4, 2) := by decide +kernel
theorem dX10_board_61 : decode cX10_board 61 = .ok (.goto 4, 3) := by decide +kernel
theorem dX10_board_64 : decode cX10_board 64 = .ok (.iload_n 3, 1) := by decide +kernel
theorem dX10_board_65 : decode cX10_board 65 = .ok (.istore_n 3, 1) := by decide +kernel
theorem dX10_board_66 : decode cX10_board 66 = .ok (.iinc 4 1, 3) := by decide +kernel
theorem dX10_board_69 : decode cX10_board 69 = .ok (.goto (-31), 3) := by decide +kernel
theorem dX10_board_72 : decode cX10_board 72 = .ok (.iload_n 2, 1) := by decide +kernel
theorem dX10_board_73 : decode cX10_board 73 = .ok (.ifCond .ne 8, 3) := by decide +kernel
theorem dX10_board_76 : decode cX10_board 76 = .ok (.iload_n 3, 1) := by decide +kernel
theorem dX10_board_77 : decode cX10_board 77 = .ok (.i2l, 1) := by decide +kernel
theorem dX10_board_78 : decode cX10_board 78 = .ok (.goto 18, 3) := by decide +kernel
theorem dX10_board_81 : decode cX10_board 81 = .ok (.aload_n 0, 1) := by decide +kernel
theorem dX10_board_82 : decode cX10_board 82 = .ok (.iload_n 3, 1) := by decide +kernel
theorem dX10_board_83 : decode cX10_board 83 = .ok (.invokevirtual 215, 3) := by decide +kernel
theorem dX10_board_86 : decode cX10_board 86 = .ok (.aload_n 0, 1) := by decide +kernel
theorem dX10_board_87 : decode cX10_board 87 = .ok (.getfield 192, 3) := by decide +kernel
theorem dX10_board_90 : decode cX10_board 90 = .ok (.iload_n 2, 1) := by decide +kernel
theorem dX10_board_91 : decode cX10_board 91 = .ok (.iconst 1, 1) := by decide +kernel
theorem dX10_board_92 : decode cX10_board 92 = .ok (.isub, 1) := by decide +kernel
theorem dX10_board_93 : decode cX10_board 93 = .ok (.invokestatic 186, 3) := by decide +kernel
theorem dX10_board_96 : decode cX10_board 96 = .ok (.lreturn, 1) := by decide +kernel
def L_X10_board_38 (a_costs : Nat → Int32) (k_72 : Int32 → Int64 → (Nat → Int64) → Option (Int64 × Int64 × (Nat → Int64) × (Nat → Int64) × (Nat → Int64))) : Nat → Int32 → Int32 → Int64 → (Nat → Int64) → Option (Int64 × Int64 × (Nat → Int64) × (Nat → Int64) × (Nat → Int64))
  | 0, _, _, _, _ => none
  | n + 1, x3_38, x4_38, v_all_38, a_turns_38 => (if 4 ≤ x4_38 then k_72 x3_38 v_all_38 a_turns_38 else (F_X10_costOf x4_38 v_all_38 a_costs a_turns_38).bind (fun q47 => (F_X10_costOf x3_38 v_all_38 a_costs a_turns_38).bind (fun q52 => jn (fun (j0_65 : Int32) => L_X10_board_38 a_costs k_72 n j0_65 ((x4_38 + 1)) v_all_38 a_turns_38) (fun k_65 => (if 0 ≤ (lg_cmp q47 q52) then k_65 x3_38 else k_65 x4_38)))))
def F_X10_board (x1 : Int32) (x2 : Int32) (v_all : Int64) (a_costs : Nat → Int32) (a_days : Nat → Int32) (a_goes : Nat → Int32) (a_noise : Nat → Int32) (a_seenSigns : Nat → Int32) (a_signs : Nat → Int32) (a_then : Nat → Int64) (a_told : Nat → Int32) (a_turns : Nat → Int64) (a_weight : Nat → Int64) (a_wentOn : Nat → Int32) (a_works : Nat → Int32) : Option (Int64 × Int64 × (Nat → Int64) × (Nat → Int64) × (Nat → Int64)) := (F_X10_areWorks x1 a_works).bind (fun q2 => (if q2 = 0 then some ((-1), v_all, a_then, a_turns, a_weight) else (F_X10_in x2 0 2).bind (fun q11 => (if q11 = 0 then some ((-1), v_all, a_then, a_turns, a_weight) else (F_X10_findTurns x1 v_all a_days a_goes a_noise a_seenSigns a_signs a_then a_told a_turns a_weight a_wentOn a_works).bind (fun q23 => (if q23.1 = 0 then some ((-4), q23.2.1, q23.2.2.1, q23.2.2.2.1, q23.2.2.2.2) else jn (fun (x3_72 : Int32) (v_all_72 : Int64) (a_turns_72 : Nat → Int64) => (if x2 = 0 then some ((Int32.toInt64 x3_72), v_all_72, q23.2.2.1, a_turns_72, q23.2.2.2.2) else (F_X10_costOf x3_72 v_all_72 a_costs a_turns_72).bind (fun q83 => (F_X10_part q83 v_all_72 ((x2 - 1))).bind (fun q93 => some (q93, v_all_72, q23.2.2.1, a_turns_72, q23.2.2.2.2))))) (fun k_72 => L_X10_board_38 a_costs k_72 5000 0 1 q23.2.1 q23.2.2.2.1)))))))
theorem hdV_X10_board : yX10_board.cls = RX10 ∧ yX10_board.cls ≠ "java/lang/invoke/MethodHandle" ∧ yX10_board.cls ≠ "java/lang/invoke/VarHandle" ∧ (parseMethodDescriptor yX10_board.desc).map (fun d => d.parameters.length) = some 2 := by decide +kernel
set_option maxHeartbeats 4000000 in
set_option maxRecDepth 100000 in
theorem c_X10_board (l : Launch) (G : GG) (x1 : Int32) (x2 : Int32) (h_this : Nat) (ad_this : Nat → Nat) (v_typed : Int32) (v_at : Int32) (v_isSo : Int32) (v_kept : Int32) (v_all : Int64) (v_sightAll : Int64) (v_aheadMany : Int32) (a_costs : Nat → Int32) (a_days : Nat → Int32) (a_goes : Nat → Int32) (a_noise : Nat → Int32) (a_seenSigns : Nat → Int32) (a_signs : Nat → Int32) (a_then : Nat → Int64) (a_told : Nat → Int32) (a_turns : Nat → Int64) (a_weight : Nat → Int64) (a_wentOn : Nat → Int32) (a_works : Nat → Int32) (out : Int64 × Int64 × (Nat → Int64) × (Nat → Int64) × (Nat → Int64)) (hF : F_X10_board x1 x2 v_all a_costs a_days a_goes a_noise a_seenSigns a_signs a_then a_told a_turns a_weight a_wentOn a_works = some out) : CtrJ l yX10_board (WS yX10_board cX10_board 5 (some .long)) { frames := 6, cells := 0, slots := 0, locals := 144 } G [.ref h_this, .int x1, .int x2] [(h_this, oX10 ad_this v_typed v_at v_isSo v_kept v_all v_sightAll v_aheadMany), ((ad_this 13), cI G 4 a_costs), ((ad_this 16), cI G 3 a_days), ((ad_this 2), cI G 6 a_goes), ((ad_this 11), cI G 10 a_noise), ((ad_this 17), cI G 15 a_seenSigns), ((ad_this 3), cI G 2 a_signs), ((ad_this 21), cJ G 3 a_then), ((ad_this 4), cI G 32 a_told), ((ad_this 23), cJ G 4 a_turns), ((ad_this 20), cJ G 3 a_weight), ((ad_this 18), cI G 15 a_wentOn), ((ad_this 10), cI G 2 a_works)] [(h_this, oX10 ad_this v_typed v_at v_isSo v_kept out.2.1 v_sightAll v_aheadMany), ((ad_this 13), cI G 4 a_costs), ((ad_this 16), cI G 3 a_days), ((ad_this 2), cI G 6 a_goes), ((ad_this 11), cI G 10 a_noise), ((ad_this 17), cI G 15 a_seenSigns), ((ad_this 3), cI G 2 a_signs), ((ad_this 21), cJ G 3 out.2.2.1), ((ad_this 4), cI G 32 a_told), ((ad_this 23), cJ G 4 out.2.2.2.1), ((ad_this 20), cJ G 3 out.2.2.2.2), ((ad_this 18), cI G 15 a_wentOn), ((ad_this 10), cI G 2 a_works)] out.1 := by
  refine startJ (cc := cX10_board) (maxL := 5) (by decide) rfl (Nat.le_of_ble_eq_true rfl) ?_
  intro p e s m args below meth c A Q hx hb hml hts hown hc hA hret ls H locs hl hW
  have hown : s.vm.findClass RX10 = some m.cls := hown
  have hg : ∀ w ∈ GOODS, w.before _ s = true := fun w h => hts w (List.mem_cons_of_mem _ h)
  have hl : lv_has ls 5 [(0, .ref h_this), (1, .int x1), (2, .int x2)] := hl
  rw [F_X10_board] at hF
  refine lv_aload_n hx hb dX10_board_0 rfl (lv_at hl 0 rfl) ?_
  refine lv_iload_n hx hb dX10_board_1 rfl (lv_at hl 1 rfl) ?_
  obtain ⟨q2, c_2, hF⟩ := bd_el hF
  refine wcZ (ws' := [(h_this, oX10 ad_this v_typed v_at v_isSo v_kept v_all v_sightAll v_aheadMany), ((ad_this 13), cI G 4 a_costs), ((ad_this 16), cI G 3 a_days), ((ad_this 2), cI G 6 a_goes), ((ad_this 11), cI G 10 a_noise), ((ad_this 17), cI G 15 a_seenSigns), ((ad_this 3), cI G 2 a_signs), ((ad_this 21), cJ G 3 a_then), ((ad_this 4), cI G 32 a_told), ((ad_this 23), cJ G 4 a_turns), ((ad_this 20), cJ G 3 a_weight), ((ad_this 18), cI G 15 a_wentOn), ((ad_this 10), cI G 2 a_works)]) (wc := [(h_this, oX10 ad_this v_typed v_at v_isSo v_kept v_all v_sightAll v_aheadMany), ((ad_this 10), cI G 2 a_works)]) (wr := [((ad_this 13), cI G 4 a_costs), ((ad_this 16), cI G 3 a_days), ((ad_this 2), cI G 6 a_goes), ((ad_this 11), cI G 10 a_noise), ((ad_this 17), cI G 15 a_seenSigns), ((ad_this 3), cI G 2 a_signs), ((ad_this 21), cJ G 3 a_then), ((ad_this 4), cI G 32 a_told), ((ad_this 23), cJ G 4 a_turns), ((ad_this 20), cJ G 3 a_weight), ((ad_this 18), cI G 15 a_wentOn)]) (w1 := [(h_this, oX10 ad_this v_typed v_at v_isSo v_kept v_all v_sightAll v_aheadMany), ((ad_this 10), cI G 2 a_works)]) (va_runV (As := [.int x1]) (rest := []) ⟨hx, hb, hml, hown, hg⟩ (c_X10_areWorks l G x1 h_this ad_this v_typed v_at v_isSo v_kept v_all v_sightAll v_aheadMany a_works q2 c_2 H.size) (cwV 1 hg (gV wd_4_176 wd_4_178 wd_0_31 wd_1_15 wd_4_179) rfl rfl rfl hdV_X10_areWorks ⟨(Nat.le_of_ble_eq_true rfl), (Nat.le_of_ble_eq_true rfl)⟩) (preV hc hW [0, 12] rfl (by decide) rfl rfl) rfl rfl hl.1 rfl (lv_room (Nat.le_of_ble_eq_true rfl)) dX10_board_2 ⟨Nat.zero_le _, Nat.zero_le _⟩) hA hW [0, 12] [1, 2, 3, 4, 5, 6, 7, 8, 9, 10, 11] [11, 0, 1, 2, 3, 4, 5, 6, 7, 8, 9, 10, 12] rfl rfl (by decide) (by decide) rfl (by decide) (fun z_2 H locs hW => ?_)
  refine lv_if_eq (tgt := 17) hx hb dX10_board_5 (by decide) (fun c_5 => ?_) (fun c_5 => ?_)
  · have hF := ite_t hF c_5
    refine lv_ldc2 (v := (-1)) hx hb hown (hg _ wd_4_204) dX10_board_17 ?_
    obtain rfl := Option.some.inj hF
    exact hret _ _ _ _ hW dX10_board_20
  · have hF := ite_f hF c_5
    refine lv_iload_n hx hb dX10_board_8 rfl (lv_at hl 2 rfl) ?_
    refine lv_iconst (v := 0) hx hb dX10_board_9 (by decide) ?_
    refine lv_iconst (v := 2) hx hb dX10_board_10 (by decide) ?_
    obtain ⟨q11, c_11, hF⟩ := bd_el hF
    refine wcZ (ws' := [(h_this, oX10 ad_this v_typed v_at v_isSo v_kept v_all v_sightAll v_aheadMany), ((ad_this 13), cI G 4 a_costs), ((ad_this 16), cI G 3 a_days), ((ad_this 2), cI G 6 a_goes), ((ad_this 11), cI G 10 a_noise), ((ad_this 17), cI G 15 a_seenSigns), ((ad_this 3), cI G 2 a_signs), ((ad_this 21), cJ G 3 a_then), ((ad_this 4), cI G 32 a_told), ((ad_this 23), cJ G 4 a_turns), ((ad_this 20), cJ G 3 a_weight), ((ad_this 18), cI G 15 a_wentOn), ((ad_this 10), cI G 2 a_works)]) (wc := []) (wr := [(h_this, oX10 ad_this v_typed v_at v_isSo v_kept v_all v_sightAll v_aheadMany), ((ad_this 13), cI G 4 a_costs), ((ad_this 16), cI G 3 a_days), ((ad_this 2), cI G 6 a_goes), ((ad_this 11), cI G 10 a_noise), ((ad_this 17), cI G 15 a_seenSigns), ((ad_this 3), cI G 2 a_signs), ((ad_this 21), cJ G 3 a_then), ((ad_this 4), cI G 32 a_told), ((ad_this 23), cJ G 4 a_turns), ((ad_this 20), cJ G 3 a_weight), ((ad_this 18), cI G 15 a_wentOn), ((ad_this 10), cI G 2 a_works)]) (w1 := []) (va_runS (As := [.int x2, .int 0, .int 2]) (rest := []) ⟨hx, hb, hml, hown, hg⟩ (c_X10_in l G x2 0 2 q11 c_11 H.size) (va_cwS 3 hg (gS wd_4_136 wd_4_137 wd_1_15 wd_4_138) rfl rfl rfl hdS_X10_in ⟨(Nat.le_of_ble_eq_true rfl), (Nat.le_of_ble_eq_true rfl)⟩) (preS hc hW [] rfl (by decide)) rfl rfl hl.1 rfl (lv_room (Nat.le_of_ble_eq_true rfl)) dX10_board_11 ⟨Nat.zero_le _, Nat.zero_le _⟩) hA hW [] [0, 1, 2, 3, 4, 5, 6, 7, 8, 9, 10, 11, 12] [0, 1, 2, 3, 4, 5, 6, 7, 8, 9, 10, 11, 12] rfl rfl (by decide) (by decide) rfl (by decide) (fun z_11 H locs hW => ?_)
    refine lv_if_ne (tgt := 21) hx hb dX10_board_14 (by decide) (fun c_14 => ?_) (fun c_14 => ?_)
    · have hF := ite_f hF c_14
      refine lv_aload_n hx hb dX10_board_21 rfl (lv_at hl 0 rfl) ?_
      refine lv_iload_n hx hb dX10_board_22 rfl (lv_at hl 1 rfl) ?_
      obtain ⟨q23, c_23, hF⟩ := bd_el hF
      refine wcZ (ws' := [(h_this, oX10 ad_this v_typed v_at v_isSo v_kept q23.2.1 v_sightAll v_aheadMany), ((ad_this 13), cI G 4 a_costs), ((ad_this 16), cI G 3 a_days), ((ad_this 2), cI G 6 a_goes), ((ad_this 11), cI G 10 a_noise), ((ad_this 17), cI G 15 a_seenSigns), ((ad_this 3), cI G 2 a_signs), ((ad_this 21), cJ G 3 q23.2.2.1), ((ad_this 4), cI G 32 a_told), ((ad_this 23), cJ G 4 q23.2.2.2.1), ((ad_this 20), cJ G 3 q23.2.2.2.2), ((ad_this 18), cI G 15 a_wentOn), ((ad_this 10), cI G 2 a_works)]) (wc := [(h_this, oX10 ad_this v_typed v_at v_isSo v_kept v_all v_sightAll v_aheadMany), ((ad_this 16), cI G 3 a_days), ((ad_this 2), cI G 6 a_goes), ((ad_this 11), cI G 10 a_noise), ((ad_this 17), cI G 15 a_seenSigns), ((ad_this 3), cI G 2 a_signs), ((ad_this 21), cJ G 3 a_then), ((ad_this 4), cI G 32 a_told), ((ad_this 23), cJ G 4 a_turns), ((ad_this 20), cJ G 3 a_weight), ((ad_this 18), cI G 15 a_wentOn), ((ad_this 10), cI G 2 a_works)]) (wr := [((ad_this 13), cI G 4 a_costs)]) (w1 := [(h_this, oX10 ad_this v_typed v_at v_isSo v_kept q23.2.1 v_sightAll v_aheadMany), ((ad_this 16), cI G 3 a_days), ((ad_this 2), cI G 6 a_goes), ((ad_this 11), cI G 10 a_noise), ((ad_this 17), cI G 15 a_seenSigns), ((ad_this 3), cI G 2 a_signs), ((ad_this 21), cJ G 3 q23.2.2.1), ((ad_this 4), cI G 32 a_told), ((ad_this 23), cJ G 4 q23.2.2.2.1), ((ad_this 20), cJ G 3 q23.2.2.2.2), ((ad_this 18), cI G 15 a_wentOn), ((ad_this 10), cI G 2 a_works)]) (va_runV (As := [.int x1]) (rest := []) ⟨hx, hb, hml, hown, hg⟩ (c_X10_findTurns l G x1 h_this ad_this v_typed v_at v_isSo v_kept v_all v_sightAll v_aheadMany a_days a_goes a_noise a_seenSigns a_signs a_then a_told a_turns a_weight a_wentOn a_works q23 c_23 H.size) (cwV 1 hg (gV wd_5_8 wd_5_10 wd_0_42 wd_1_15 wd_5_11) rfl rfl rfl hdV_X10_findTurns ⟨(Nat.le_of_ble_eq_true rfl), (Nat.le_of_ble_eq_true rfl)⟩) (preV hc hW [0, 2, 3, 4, 5, 6, 7, 8, 9, 10, 11, 12] rfl (by decide) rfl rfl) rfl rfl hl.1 rfl (lv_room (Nat.le_of_ble_eq_true rfl)) dX10_board_23 ⟨Nat.zero_le _, Nat.zero_le _⟩) hA hW [0, 2, 3, 4, 5, 6, 7, 8, 9, 10, 11, 12] [1] [1, 0, 2, 3, 4, 5, 6, 7, 8, 9, 10, 11, 12] rfl rfl (by decide) (by decide) rfl (by decide) (fun z_23 H locs hW => ?_)
      refine lv_if_ne (tgt := 33) hx hb dX10_board_26 (by decide) (fun c_26 => ?_) (fun c_26 => ?_)
      · have hF := ite_f hF c_26
        refine lv_iconst (v := 0) hx hb dX10_board_33 (by decide) ?_
        refine lv_istore_n (lv' := [(3, .int 0), (0, .ref h_this), (1, .int x1), (2, .int x2)]) hx hb dX10_board_34 rfl hl (by decide) rfl (fun ls hl => ?_)
        refine lv_iconst (v := 1) hx hb dX10_board_35 (by decide) ?_
        refine lv_istore (lv' := [(4, .int 1), (3, .int 0), (0, .ref h_this), (1, .int x1), (2, .int x2)]) hx hb dX10_board_36 hl (by decide) rfl (fun ls hl => ?_)
        obtain ⟨k_72, e_72, hF⟩ := jn_el hF
        have J_72 : ∀ (x3_72 : Int32) (v_all_72 : Int64) (a_turns_72 : Nat → Int64) (ls : Array Slot) (H : Heap) (locs : List Loc), k_72 x3_72 v_all_72 a_turns_72 = some out → lv_has ls 5 [(0, .ref h_this), (2, .int x2), (3, .int x3_72)] → Wd G A s.heap [(h_this, oX10 ad_this v_typed v_at v_isSo v_kept v_all_72 v_sightAll v_aheadMany), ((ad_this 13), cI G 4 a_costs), ((ad_this 16), cI G 3 a_days), ((ad_this 2), cI G 6 a_goes), ((ad_this 11), cI G 10 a_noise), ((ad_this 17), cI G 15 a_seenSigns), ((ad_this 3), cI G 2 a_signs), ((ad_this 21), cJ G 3 q23.2.2.1), ((ad_this 4), cI G 32 a_told), ((ad_this 23), cJ G 4 a_turns_72), ((ad_this 20), cJ G 3 q23.2.2.2.2), ((ad_this 18), cI G 15 a_wentOn), ((ad_this 10), cI G 2 a_works)] H locs → W p l e ({ frames := 6, cells := 0, slots := 0, locals := 144 } : Room) s m args below meth c H locs 0 0 Q (F0 m 72 ls []) := by
          intro x3_72 v_all_72 a_turns_72 ls H locs hF hl hW
          rw [e_72] at hF
          dsimp only at hF
          refine lv_iload_n hx hb dX10_board_72 rfl (lv_at hl 1 rfl) ?_
          refine lv_if_ne (tgt := 81) hx hb dX10_board_73 (by decide) (fun c_73 => ?_) (fun c_73 => ?_)
          · have hF := ite_f hF c_73
            refine lv_aload_n hx hb dX10_board_81 rfl (lv_at hl 0 rfl) ?_
            refine lv_iload_n hx hb dX10_board_82 rfl (lv_at hl 2 rfl) ?_
            obtain ⟨q83, c_83, hF⟩ := bd_el hF
            refine wcJ (ws' := [(h_this, oX10 ad_this v_typed v_at v_isSo v_kept v_all_72 v_sightAll v_aheadMany), ((ad_this 13), cI G 4 a_costs), ((ad_this 16), cI G 3 a_days), ((ad_this 2), cI G 6 a_goes), ((ad_this 11), cI G 10 a_noise), ((ad_this 17), cI G 15 a_seenSigns), ((ad_this 3), cI G 2 a_signs), ((ad_this 21), cJ G 3 q23.2.2.1), ((ad_this 4), cI G 32 a_told), ((ad_this 23), cJ G 4 a_turns_72), ((ad_this 20), cJ G 3 q23.2.2.2.2), ((ad_this 18), cI G 15 a_wentOn), ((ad_this 10), cI G 2 a_works)]) (wc := [(h_this, oX10 ad_this v_typed v_at v_isSo v_kept v_all_72 v_sightAll v_aheadMany), ((ad_this 13), cI G 4 a_costs), ((ad_this 23), cJ G 4 a_turns_72)]) (wr := [((ad_this 16), cI G 3 a_days), ((ad_this 2), cI G 6 a_goes), ((ad_this 11), cI G 10 a_noise), ((ad_this 17), cI G 15 a_seenSigns), ((ad_this 3), cI G 2 a_signs), ((ad_this 21), cJ G 3 q23.2.2.1), ((ad_this 4), cI G 32 a_told), ((ad_this 20), cJ G 3 q23.2.2.2.2), ((ad_this 18), cI G 15 a_wentOn), ((ad_this 10), cI G 2 a_works)]) (w1 := [(h_this, oX10 ad_this v_typed v_at v_isSo v_kept v_all_72 v_sightAll v_aheadMany), ((ad_this 13), cI G 4 a_costs), ((ad_this 23), cJ G 4 a_turns_72)]) (va_runV (As := [.int x3_72]) (rest := []) ⟨hx, hb, hml, hown, hg⟩ (c_X10_costOf l G x3_72 h_this ad_this v_typed v_at v_isSo v_kept v_all_72 v_sightAll v_aheadMany a_costs a_turns_72 q83 c_83 H.size) (cwV 1 hg (gV wd_5_36 wd_5_38 wd_0_45 wd_1_15 wd_5_39) rfl rfl rfl hdV_X10_costOf ⟨(Nat.le_of_ble_eq_true rfl), (Nat.le_of_ble_eq_true rfl)⟩) (preV hc hW [0, 1, 9] rfl (by decide) rfl rfl) rfl rfl hl.1 rfl (lv_room (Nat.le_of_ble_eq_true rfl)) dX10_board_83 ⟨Nat.zero_le _, Nat.zero_le _⟩) hA hW [0, 1, 9] [2, 3, 4, 5, 6, 7, 8, 10, 11, 12] [10, 11, 0, 1, 2, 3, 4, 5, 6, 12, 7, 8, 9] rfl rfl (by decide) (by decide) rfl (by decide) (fun H locs hW => ?_)
            refine lv_aload_n hx hb dX10_board_86 rfl (lv_at hl 0 rfl) ?_
            refine va_get (D := G.1) (ci := 9) (v := .long v_all_72) (C := RX10) (T := TX10) (N := 31) hx hb hg hu_X10 hown hc.1 hW.1 0 rfl rfl 22 (by decide) (hg _ wd_4_60) (fun _ h9 => h9) rfl dX10_board_87 ?_
            refine lv_iload_n hx hb dX10_board_90 rfl (lv_at hl 1 rfl) ?_
            refine lv_iconst (v := 1) hx hb dX10_board_91 (by decide) ?_
            refine lv_isub hx hb dX10_board_92 ?_
            obtain ⟨q93, c_93, hF⟩ := bd_el hF
            refine wcJ (ws' := [(h_this, oX10 ad_this v_typed v_at v_isSo v_kept v_all_72 v_sightAll v_aheadMany), ((ad_this 13), cI G 4 a_costs), ((ad_this 16), cI G 3 a_days), ((ad_this 2), cI G 6 a_goes), ((ad_this 11), cI G 10 a_noise), ((ad_this 17), cI G 15 a_seenSigns), ((ad_this 3), cI G 2 a_signs), ((ad_this 21), cJ G 3 q23.2.2.1), ((ad_this 4), cI G 32 a_told), ((ad_this 23), cJ G 4 a_turns_72), ((ad_this 20), cJ G 3 q23.2.2.2.2), ((ad_this 18), cI G 15 a_wentOn), ((ad_this 10), cI G 2 a_works)]) (wc := []) (wr := [(h_this, oX10 ad_this v_typed v_at v_isSo v_kept v_all_72 v_sightAll v_aheadMany), ((ad_this 13), cI G 4 a_costs), ((ad_this 16), cI G 3 a_days), ((ad_this 2), cI G 6 a_goes), ((ad_this 11), cI G 10 a_noise), ((ad_this 17), cI G 15 a_seenSigns), ((ad_this 3), cI G 2 a_signs), ((ad_this 21), cJ G 3 q23.2.2.1), ((ad_this 4), cI G 32 a_told), ((ad_this 23), cJ G 4 a_turns_72), ((ad_this 20), cJ G 3 q23.2.2.2.2), ((ad_this 18), cI G 15 a_wentOn), ((ad_this 10), cI G 2 a_works)]) (w1 := []) (va_runS (As := [.long q83, .long v_all_72, .int ((x2 - 1))]) (rest := []) ⟨hx, hb, hml, hown, hg⟩ (c_X10_part l G q83 v_all_72 ((x2 - 1)) q93 c_93 H.size) (va_cwS 3 hg (gS wd_5_1 wd_5_2 wd_1_15 wd_5_3) rfl rfl rfl hdS_X10_part ⟨(Nat.le_of_ble_eq_true rfl), (Nat.le_of_ble_eq_true rfl)⟩) (preS hc hW [] rfl (by decide)) rfl rfl hl.1 rfl (lv_room (Nat.le_of_ble_eq_true rfl)) dX10_board_93 ⟨Nat.zero_le _, Nat.zero_le _⟩) hA hW [] [0, 1, 2, 3, 4, 5, 6, 7, 8, 9, 10, 11, 12] [0, 1, 2, 3, 4, 5, 6, 7, 8, 9, 10, 11, 12] rfl rfl (by decide) (by decide) rfl (by decide) (fun H locs hW => ?_)
            obtain rfl := Option.some.inj hF
            exact hret _ _ _ _ hW dX10_board_96
          · have hF := ite_t hF c_73
            refine lv_iload_n hx hb dX10_board_76 rfl (lv_at hl 2 rfl) ?_
            refine lv_i2l (v := (Int32.toInt64 x3_72)) hx hb dX10_board_77 rfl ?_
            refine lv_goto (tgt := 96) hx hb dX10_board_78 (by decide) ?_
            obtain rfl := Option.some.inj hF
            exact hret _ _ _ _ hW dX10_board_96
        have L_38 : ∀ (n : Nat) (x3_38 : Int32) (x4_38 : Int32) (v_all_38 : Int64) (a_turns_38 : Nat → Int64) (ls : Array Slot) (H : Heap) (locs : List Loc), L_X10_board_38 a_costs k_72 n x3_38 x4_38 v_all_38 a_turns_38 = some out → lv_has ls 5 [(0, .ref h_this), (2, .int x2), (3, .int x3_38), (4, .int x4_38)] → Wd G A s.heap [(h_this, oX10 ad_this v_typed v_at v_isSo v_kept v_all_38 v_sightAll v_aheadMany), ((ad_this 13), cI G 4 a_costs), ((ad_this 16), cI G 3 a_days), ((ad_this 2), cI G 6 a_goes), ((ad_this 11), cI G 10 a_noise), ((ad_this 17), cI G 15 a_seenSigns), ((ad_this 3), cI G 2 a_signs), ((ad_this 21), cJ G 3 q23.2.2.1), ((ad_this 4), cI G 32 a_told), ((ad_this 23), cJ G 4 a_turns_38), ((ad_this 20), cJ G 3 q23.2.2.2.2), ((ad_this 18), cI G 15 a_wentOn), ((ad_this 10), cI G 2 a_works)] H locs → W p l e ({ frames := 6, cells := 0, slots := 0, locals := 144 } : Room) s m args below meth c H locs 0 0 Q (F0 m 38 ls []) := by
          intro n
          induction n with
          | zero => intro x3_38 x4_38 v_all_38 a_turns_38 ls H locs hF hl hW; have h0 : none = some out := hF; cases h0
          | succ n ih =>
            intro x3_38 x4_38 v_all_38 a_turns_38 ls H locs hF hl hW
            rw [L_X10_board_38] at hF
            refine lv_iload hx hb dX10_board_38 (lv_at hl 3 rfl) ?_
            refine lv_iconst (v := 4) hx hb dX10_board_40 (by decide) ?_
            refine lv_icmp_ge (tgt := 72) hx hb dX10_board_41 (by decide) (fun c_41 => ?_) (fun c_41 => ?_)
            · have hF := ite_t hF c_41
              exact J_72 x3_38 v_all_38 a_turns_38 _ _ _ hF (lv_sub hl [0, 1, 2] rfl) hW
            · have hF := ite_f hF c_41
              refine lv_aload_n hx hb dX10_board_44 rfl (lv_at hl 0 rfl) ?_
              refine lv_iload hx hb dX10_board_45 (lv_at hl 3 rfl) ?_
              obtain ⟨q47, c_47, hF⟩ := bd_el hF
              refine wcJ (ws' := [(h_this, oX10 ad_this v_typed v_at v_isSo v_kept v_all_38 v_sightAll v_aheadMany), ((ad_this 13), cI G 4 a_costs), ((ad_this 16), cI G 3 a_days), ((ad_this 2), cI G 6 a_goes), ((ad_this 11), cI G 10 a_noise), ((ad_this 17), cI G 15 a_seenSigns), ((ad_this 3), cI G 2 a_signs), ((ad_this 21), cJ G 3 q23.2.2.1), ((ad_this 4), cI G 32 a_told), ((ad_this 23), cJ G 4 a_turns_38), ((ad_this 20), cJ G 3 q23.2.2.2.2), ((ad_this 18), cI G 15 a_wentOn), ((ad_this 10), cI G 2 a_works)]) (wc := [(h_this, oX10 ad_this v_typed v_at v_isSo v_kept v_all_38 v_sightAll v_aheadMany), ((ad_this 13), cI G 4 a_costs), ((ad_this 23), cJ G 4 a_turns_38)]) (wr := [((ad_this 16), cI G 3 a_days), ((ad_this 2), cI G 6 a_goes), ((ad_this 11), cI G 10 a_noise), ((ad_this 17), cI G 15 a_seenSigns), ((ad_this 3), cI G 2 a_signs), ((ad_this 21), cJ G 3 q23.2.2.1), ((ad_this 4), cI G 32 a_told), ((ad_this 20), cJ G 3 q23.2.2.2.2), ((ad_this 18), cI G 15 a_wentOn), ((ad_this 10), cI G 2 a_works)]) (w1 := [(h_this, oX10 ad_this v_typed v_at v_isSo v_kept v_all_38 v_sightAll v_aheadMany), ((ad_this 13), cI G 4 a_costs), ((ad_this 23), cJ G 4 a_turns_38)]) (va_runV (As := [.int x4_38]) (rest := []) ⟨hx, hb, hml, hown, hg⟩ (c_X10_costOf l G x4_38 h_this ad_this v_typed v_at v_isSo v_kept v_all_38 v_sightAll v_aheadMany a_costs a_turns_38 q47 c_47 H.size) (cwV 1 hg (gV wd_5_36 wd_5_38 wd_0_45 wd_1_15 wd_5_39) rfl rfl rfl hdV_X10_costOf ⟨(Nat.le_of_ble_eq_true rfl), (Nat.le_of_ble_eq_true rfl)⟩) (preV hc hW [0, 1, 9] rfl (by decide) rfl rfl) rfl rfl hl.1 rfl (lv_room (Nat.le_of_ble_eq_true rfl)) dX10_board_47 ⟨Nat.zero_le _, Nat.zero_le _⟩) hA hW [0, 1, 9] [2, 3, 4, 5, 6, 7, 8, 10, 11, 12] [10, 11, 0, 1, 2, 3, 4, 5, 6, 12, 7, 8, 9] rfl rfl (by decide) (by decide) rfl (by decide) (fun H locs hW => ?_)
              refine lv_aload_n hx hb dX10_board_50 rfl (lv_at hl 0 rfl) ?_
              refine lv_iload_n hx hb dX10_board_51 rfl (lv_at hl 2 rfl) ?_
              obtain ⟨q52, c_52, hF⟩ := bd_el hF
              refine wcJ (ws' := [(h_this, oX10 ad_this v_typed v_at v_isSo v_kept v_all_38 v_sightAll v_aheadMany), ((ad_this 13), cI G 4 a_costs), ((ad_this 16), cI G 3 a_days), ((ad_this 2), cI G 6 a_goes), ((ad_this 11), cI G 10 a_noise), ((ad_this 17), cI G 15 a_seenSigns), ((ad_this 3), cI G 2 a_signs), ((ad_this 21), cJ G 3 q23.2.2.1), ((ad_this 4), cI G 32 a_told), ((ad_this 23), cJ G 4 a_turns_38), ((ad_this 20), cJ G 3 q23.2.2.2.2), ((ad_this 18), cI G 15 a_wentOn), ((ad_this 10), cI G 2 a_works)]) (wc := [(h_this, oX10 ad_this v_typed v_at v_isSo v_kept v_all_38 v_sightAll v_aheadMany), ((ad_this 13), cI G 4 a_costs), ((ad_this 23), cJ G 4 a_turns_38)]) (wr := [((ad_this 16), cI G 3 a_days), ((ad_this 2), cI G 6 a_goes), ((ad_this 11), cI G 10 a_noise), ((ad_this 17), cI G 15 a_seenSigns), ((ad_this 3), cI G 2 a_signs), ((ad_this 21), cJ G 3 q23.2.2.1), ((ad_this 4), cI G 32 a_told), ((ad_this 20), cJ G 3 q23.2.2.2.2), ((ad_this 18), cI G 15 a_wentOn), ((ad_this 10), cI G 2 a_works)]) (w1 := [(h_this, oX10 ad_this v_typed v_at v_isSo v_kept v_all_38 v_sightAll v_aheadMany), ((ad_this 13), cI G 4 a_costs), ((ad_this 23), cJ G 4 a_turns_38)]) (va_runV (As := [.int x3_38]) (rest := [.long q47]) ⟨hx, hb, hml, hown, hg⟩ (c_X10_costOf l G x3_38 h_this ad_this v_typed v_at v_isSo v_kept v_all_38 v_sightAll v_aheadMany a_costs a_turns_38 q52 c_52 H.size) (cwV 1 hg (gV wd_5_36 wd_5_38 wd_0_45 wd_1_15 wd_5_39) rfl rfl rfl hdV_X10_costOf ⟨(Nat.le_of_ble_eq_true rfl), (Nat.le_of_ble_eq_true rfl)⟩) (preV hc hW [0, 1, 9] rfl (by decide) rfl rfl) rfl rfl hl.1 rfl (lv_room (Nat.le_of_ble_eq_true rfl)) dX10_board_52 ⟨Nat.zero_le _, Nat.zero_le _⟩) hA hW [0, 1, 9] [2, 3, 4, 5, 6, 7, 8, 10, 11, 12] [10, 11, 0, 1, 2, 3, 4, 5, 6, 12, 7, 8, 9] rfl rfl (by decide) (by decide) rfl (by decide) (fun H locs hW => ?_)
              refine W.lcmp hx hb dX10_board_55 ?_
              obtain ⟨k_65, e_65, hF⟩ := jn_el hF
              have J_65 : ∀ (j0_65 : Int32) (ls : Array Slot) (H : Heap) (locs : List Loc), k_65 j0_65 = some out → lv_has ls 5 [(0, .ref h_this), (2, .int x2), (4, .int x4_38)] → Wd G A s.heap [(h_this, oX10 ad_this v_typed v_at v_isSo v_kept v_all_38 v_sightAll v_aheadMany), ((ad_this 13), cI G 4 a_costs), ((ad_this 16), cI G 3 a_days), ((ad_this 2), cI G 6 a_goes), ((ad_this 11), cI G 10 a_noise), ((ad_this 17), cI G 15 a_seenSigns), ((ad_this 3), cI G 2 a_signs), ((ad_this 21), cJ G 3 q23.2.2.1), ((ad_this 4), cI G 32 a_told), ((ad_this 23), cJ G 4 a_turns_38), ((ad_this 20), cJ G 3 q23.2.2.2.2), ((ad_this 18), cI G 15 a_wentOn), ((ad_this 10), cI G 2 a_works)] H locs → W p l e ({ frames := 6, cells := 0, slots := 0, locals := 144 } : Room) s m args below meth c H locs 0 0 Q (F0 m 65 ls [.int j0_65]) := by
                intro j0_65 ls H locs hF hl hW
                rw [e_65] at hF
                dsimp only at hF
                refine lv_istore_n (lv' := [(3, .int j0_65), (0, .ref h_this), (2, .int x2), (4, .int x4_38)]) hx hb dX10_board_65 rfl hl (by decide) rfl (fun ls hl => ?_)
                refine lv_iinc (v := (x4_38 + 1)) (lv' := [(4, .int ((x4_38 + 1))), (3, .int j0_65), (0, .ref h_this), (2, .int x2)]) hx hb dX10_board_66 hl (k := 3) rfl rfl (by decide) rfl (fun ls hl => ?_)
                refine lv_goto (tgt := 38) hx hb dX10_board_69 (by decide) ?_
                exact ih j0_65 ((x4_38 + 1)) v_all_38 a_turns_38 _ _ _ hF (lv_sub hl [2, 3, 1, 0] rfl) hW
              refine lv_if_ge (tgt := 64) hx hb dX10_board_56 (by decide) (fun c_56 => ?_) (fun c_56 => ?_)
              · have hF := ite_t hF c_56
                refine lv_iload_n hx hb dX10_board_64 rfl (lv_at hl 2 rfl) ?_
                exact J_65 x3_38 _ _ _ hF (lv_sub hl [0, 1, 3] rfl) hW
              · have hF := ite_f hF c_56
                refine lv_iload hx hb dX10_board_59 (lv_at hl 3 rfl) ?_
                refine lv_goto (tgt := 65) hx hb dX10_board_61 (by decide) ?_
                exact J_65 x4_38 _ _ _ hF (lv_sub hl [0, 1, 3] rfl) hW
        exact L_38 5000 0 1 q23.2.1 q23.2.2.2.1 _ _ _ hF (lv_sub hl [2, 4, 1, 0] rfl) hW
      · have hF := ite_t hF c_26
        refine lv_ldc2 (v := (-4)) hx hb hown (hg _ wd_4_236) dX10_board_29 ?_
        obtain rfl := Option.some.inj hF
        exact hret _ _ _ _ hW dX10_board_32
    · have hF := ite_t hF c_14
      refine lv_ldc2 (v := (-1)) hx hb hown (hg _ wd_4_204) dX10_board_17 ?_
      obtain rfl := Option.some.inj hF
      exact hret _ _ _ _ hW dX10_board_20
theorem dX10_quiet_0 : decode cX10_quiet 0 = .ok (.iload_n 1, 1) := by decide +kernel
theorem dX10_quiet_1 : decode cX10_quiet 1 = .ok (.iconst 0, 1) := by decide +kernel
theorem dX10_quiet_2 : decode cX10_quiet 2 = .ok (.bipush 100, 2) := by decide +kernel
theorem dX10_quiet_4 : decode cX10_quiet 4 = .ok (.invokestatic 99, 3) := by decide +kernel
theorem dX10_quiet_7 : decode cX10_quiet 7 = .ok (.ifCond .eq 12, 3) := by decide +kernel
theorem dX10_quiet_10 : decode cX10_quiet 10 = .ok (.iload_n 2, 1) := by decide +kernel
theorem dX10_quiet_11 : decode cX10_quiet 11 = .ok (.iconst 0, 1) := by decide +kernel
theorem dX10_quiet_12 : decode cX10_quiet 12 = .ok (.iconst 1, 1) := by decide +kernel
theorem dX10_quiet_13 : decode cX10_quiet 13 = .ok (.invokestatic 99, 3) := by decide +kernel
theorem dX10_quiet_16 : decode cX10_quiet 16 = .ok (.ifCond .ne 5, 3) := by decide +kernel
theorem dX10_quiet_19 : decode cX10_quiet 19 = .ok (.iconst (-1), 1) := by decide +kernel
theorem dX10_quiet_20 : decode cX10_quiet 20 = .ok (.ireturn, 1) := by decide +kernel
theorem dX10_quiet_21 : decode cX10_quiet 21 = .ok (.bipush (-4), 2) := by decide +kernel
theorem dX10_quiet_23 : decode cX10_quiet 23 = .ok (.istore_n 3, 1) := by decide +kernel
theorem dX10_quiet_24 : decode cX10_quiet 24 = .ok (.iconst 0, 1) := by decide +kernel
theorem dX10_quiet_25 : decode cX10_quiet 25 = .ok (.istore 4, 2) := by decide +kernel
theorem dX10_quiet_27 : decode cX10_quiet 27 = .ok (.iload 4, 2) := by decide +kernel
theorem dX10_quiet_29 : decode cX10_quiet 29 = .ok (.iconst 1, 1) := by decide +kernel
theorem dX10_quiet_30 : decode cX10_quiet 30 = .ok (.aload_n 0, 1) := by decide +kernel
theorem dX10_quiet_31 : decode cX10_quiet 31 = .ok (.getfield 38, 3) := by decide +kernel
theorem dX10_quiet_34 : decode cX10_quiet 34 = .ok (.iconst 0, 1) := by decide +kernel
theorem dX10_quiet_35 : decode cX10_quiet 35 = .ok (.iaload, 1) := by decide +kernel
theorem dX10_quiet_36 : decode cX10_quiet 36 = .ok (.ishl, 1) := by decide +kernel
theorem dX10_quiet_37 : decode cX10_quiet 37 = .ok (.if_icmp .ge 78, 3) := by decide +kernel
theorem dX10_quiet_40 : decode cX10_quiet 40 = .ok (.aload_n 0, 1) := by decide +kernel
theorem dX10_quiet_41 : decode cX10_quiet 41 = .ok (.iload 4, 2) := by decide +kernel
theorem dX10_quiet_43 : decode cX10_quiet 43 = .ok (.invokevirtual 198, 3) := by decide +kernel
theorem dX10_quiet_46 : decode cX10_quiet 46 = .ok (.ifCond .eq 28, 3) := by decide +kernel
theorem dX10_quiet_49 : decode cX10_quiet 49 = .ok (.ldc2_w 219, 3) := by decide +kernel
theorem dX10_quiet_52 : decode cX10_quiet 52 = .ok (.aload_n 0, 1) := by decide +kernel
theorem dX10_quiet_53 : decode cX10_quiet 53 = .ok (.getfield 66, 3) := by decide +kernel
theorem dX10_quiet_56 : decode cX10_quiet 56 = .ok (.iconst 3, 1) := by decide +kernel
theorem dX10_quiet_57 : decode cX10_quiet 57 = .ok (.laload, 1) := by decide +kernel
theorem dX10_quiet_58 : decode cX10_quiet 58 = .ok (.lmul, 1) := by decide +kernel
theorem dX10_quiet_59 : decode cX10_quiet 59 = .ok (.iload_n 1, 1) := by decide +kernel
theorem dX10_quiet_60 : decode cX10_quiet 60 = .ok (.i2l, 1) := by decide +kernel
theorem dX10_quiet_61 : decode cX10_quiet 61 = .ok (.aload_n 0, 1) := by decide +kernel
theorem dX10_quiet_62 : decode cX10_quiet 62 = .ok (.getfield 192, 3) := by decide +kernel
theorem dX10_quiet_65 : decode cX10_quiet 65 = .ok (.lmul, 1) := by decide +kernel
theorem dX10_quiet_66 : decode cX10_quiet 66 = .ok (.lcmp, 1) := by decide +kernel
theorem dX10_quiet_67 : decode cX10_quiet 67 = .ok (.ifCond .gt 7, 3) := by decide +kernel
theorem dX10_quiet_70 : decode cX10_quiet 70 = .ok (.iconst 1, 1) := by decide +kernel
theorem dX10_quiet_71 : decode cX10_quiet 71 = .ok (.goto 4, 3) := by decide +kernel
theorem dX10_quiet_74 : decode cX10_quiet 74 = .ok (.iconst 0, 1) := by decide +kernel
theorem dX10_quiet_75 : decode cX10_quiet 75 = .ok (.istore 5, 2) := by decide +kernel
theorem dX10_quiet_77 : decode cX10_quiet 77 = .ok (.iload 5, 2) := by decide +kernel
theorem dX10_quiet_79 : decode cX10_quiet 79 = .ok (.ifCond .eq 28, 3) := by decide +kernel
theorem dX10_quiet_82 : decode cX10_quiet 82 = .ok (.iload_n 3, 1) := by decide +kernel
theorem dX10_quiet_83 : decode cX10_quiet 83 = .ok (.bipush (-4), 2) := by decide +kernel
theorem dX10_quiet_85 : decode cX10_quiet 85 = .ok (.if_icmp .eq 17, 3) := by decide +kernel
theorem dX10_quiet_88 : decode cX10_quiet 88 = .ok (.aload_n 0, 1) := by decide +kernel
theorem dX10_quiet_89 : decode cX10_quiet 89 = .ok (.iload 4, 2) := by decide +kernel
theorem dX10_quiet_91 : decode cX10_quiet 91 = .ok (.invokevirtual 145, 3) := by decide +kernel
theorem dX10_quiet_94 : decode cX10_quiet 94 = .ok (.aload_n 0, 1) := by decide +kernel
theorem dX10_quiet_95 : decode cX10_quiet 95 = .ok (.iload_n 3, 1) := by decide +kernel
theorem dX10_quiet_96 : decode cX10_quiet 96 = .ok (.invokevirtual 145, 3) := by decide +kernel
theorem dX10_quiet_99 : decode cX10_quiet 99 = .ok (.if_icmp .le 8, 3) := by decide +kernel
theorem dX10_quiet_102 : decode cX10_quiet 102 = .ok (.iload 4, 2) := by decide +kernel
theorem dX10_quiet_104 : decode cX10_quiet 104 = .ok (.goto 4, 3) := by decide +kernel
theorem dX10_quiet_107 : decode cX10_quiet 107 = .ok (.iload_n 3, 1) := by decide +kernel
theorem dX10_quiet_108 : decode cX10_quiet 108 = .ok (.istore_n 3, 1) := by decide +kernel
theorem dX10_quiet_109 : decode cX10_quiet 109 = .ok (.iinc 4 1, 3) := by decide +kernel
theorem dX10_quiet_112 : decode cX10_quiet 112 = .ok (.goto (-85), 3) := by decide +kernel
theorem dX10_quiet_115 : decode cX10_quiet 115 = .ok (.iload_n 3, 1) := by decide +kernel
theorem dX10_quiet_116 : decode cX10_quiet 116 = .ok (.bipush (-4), 2) := by decide +kernel
theorem dX10_quiet_118 : decode cX10_quiet 118 = .ok (.if_icmp .eq 7, 3) := by decide +kernel
theorem dX10_quiet_121 : decode cX10_quiet 121 = .ok (.iload_n 2, 1) := by decide +kernel
theorem dX10_quiet_122 : decode cX10_quiet 122 = .ok (.ifCond .ne 7, 3) := by decide +kernel
theorem dX10_quiet_125 : decode cX10_quiet 125 = .ok (.iload_n 3, 1) := by decide +kernel
theorem dX10_quiet_126 : decode cX10_quiet 126 = .ok (.goto 8, 3) := by decide +kernel
theorem dX10_quiet_129 : decode cX10_quiet 129 = .ok (.aload_n 0, 1) := by decide +kernel
theorem dX10_quiet_130 : decode cX10_quiet 130 = .ok (.iload_n 3, 1) := by decide +kernel
theorem dX10_quiet_131 : decode cX10_quiet 131 = .ok (.invokevirtual 145, 3) := by decide +kernel
theorem dX10_quiet_134 : decode cX10_quiet 134 = .ok (.ireturn, 1) := by decide +kernel
def L_X10_quiet_27 (x1 : Int32) (a_brings : Nat → Int32) (a_days : Nat → Int32) (a_goes : Nat → Int32) (a_noise : Nat → Int32) (a_seenSigns : Nat → Int32) (a_signs : Nat → Int32) (a_told : Nat → Int32) (a_wentOn : Nat → Int32) (a_works : Nat → Int32) (k_115 : Int32 → Int64 → (Nat → Int64) → (Nat → Int64) → (Nat → Int64) → Option (Int32 × Int64 × (Nat → Int64) × (Nat → Int64) × (Nat → Int64))) : Nat → Int32 → Int32 → Int64 → (Nat → Int64) → (Nat → Int64) → (Nat → Int64) → Option (Int32 × Int64 × (Nat → Int64) × (Nat → Int64) × (Nat → Int64))
  | 0, _, _, _, _, _, _ => none
  | n + 1, x3_27, x4_27, v_all_27, a_then_27, a_turns_27, a_weight_27 => (if ((1 : Int32) <<< ((a_works (Int32.toNatClampNeg 0)) &&& 31)) ≤ x4_27 then k_115 x3_27 v_all_27 a_then_27 a_turns_27 a_weight_27 else (F_X10_findTurns x4_27 v_all_27 a_days a_goes a_noise a_seenSigns a_signs a_then_27 a_told a_turns_27 a_weight_27 a_wentOn a_works).bind (fun q43 => jn (fun (j0_75 : Int32) => jn (fun (j0_108 : Int32) => L_X10_quiet_27 x1 a_brings a_days a_goes a_noise a_seenSigns a_signs a_told a_wentOn a_works k_115 n j0_108 ((x4_27 + 1)) q43.2.1 q43.2.2.1 q43.2.2.2.1 q43.2.2.2.2) (fun k_108 => jn (k_108 x3_27) (fun k_107 => (if j0_75 = 0 then k_107 else jn (k_108 x4_27) (fun k_102 => (if x3_27 = (-4) then k_102 else (F_X10_sumBrings x4_27 a_brings a_works).bind (fun q91 => (F_X10_sumBrings x3_27 a_brings a_works).bind (fun q96 => (if q91 ≤ q96 then k_107 else k_102))))))))) (fun k_75 => jn (k_75 0) (fun k_74 => (if q43.1 = 0 then k_74 else (if 0 < (lg_cmp ((100 * (q43.2.2.2.1 (Int32.toNatClampNeg 3)))) (((Int32.toInt64 x1) * q43.2.1))) then k_74 else k_75 1))))))
def F_X10_quiet (x1 : Int32) (x2 : Int32) (v_all : Int64) (a_brings : Nat → Int32) (a_days : Nat → Int32) (a_goes : Nat → Int32) (a_noise : Nat → Int32) (a_seenSigns : Nat → Int32) (a_signs : Nat → Int32) (a_then : Nat → Int64) (a_told : Nat → Int32) (a_turns : Nat → Int64) (a_weight : Nat → Int64) (a_wentOn : Nat → Int32) (a_works : Nat → Int32) : Option (Int32 × Int64 × (Nat → Int64) × (Nat → Int64) × (Nat → Int64)) := (F_X10_in x1 0 100).bind (fun q4 => (if q4 = 0 then some ((-1), v_all, a_then, a_turns, a_weight) else (F_X10_in x2 0 1).bind (fun q13 => (if q13 = 0 then some ((-1), v_all, a_then, a_turns, a_weight) else jn (fun (x3_115 : Int32) (v_all_115 : Int64) (a_then_115 : Nat → Int64) (a_turns_115 : Nat → Int64) (a_weight_115 : Nat → Int64) => jn (some (x3_115, v_all_115, a_then_115, a_turns_115, a_weight_115)) (fun k_125 => (if x3_115 = (-4) then k_125 else (if x2 = 0 then k_125 else (F_X10_sumBrings x3_115 a_brings a_works).bind (fun q131 => some (q131, v_all_115, a_then_115, a_turns_115, a_weight_115)))))) (fun k_115 => L_X10_quiet_27 x1 a_brings a_days a_goes a_noise a_seenSigns a_signs a_told a_wentOn a_works k_115 5000 ((-4)) 0 v_all a_then a_turns a_weight)))))
theorem hdV_X10_quiet : yX10_quiet.cls = RX10 ∧ yX10_quiet.cls ≠ "java/lang/invoke/MethodHandle" ∧ yX10_quiet.cls ≠ "java/lang/invoke/VarHandle" ∧ (parseMethodDescriptor yX10_quiet.desc).map (fun d => d.parameters.length) = some 2 := by decide +kernel
set_option maxHeartbeats 4000000 in
set_option maxRecDepth 100000 in
theorem c_X10_quiet (l : Launch) (G : GG) (x1 : Int32) (x2 : Int32) (h_this : Nat) (ad_this : Nat → Nat) (v_typed : Int32) (v_at : Int32) (v_isSo : Int32) (v_kept : Int32) (v_all : Int64) (v_sightAll : Int64) (v_aheadMany : Int32) (a_brings : Nat → Int32) (a_days : Nat → Int32) (a_goes : Nat → Int32) (a_noise : Nat → Int32) (a_seenSigns : Nat → Int32) (a_signs : Nat → Int32) (a_then : Nat → Int64) (a_told : Nat → Int32) (a_turns : Nat → Int64) (a_weight : Nat → Int64) (a_wentOn : Nat → Int32) (a_works : Nat → Int32) (out : Int32 × Int64 × (Nat → Int64) × (Nat → Int64) × (Nat → Int64)) (hF : F_X10_quiet x1 x2 v_all a_brings a_days a_goes a_noise a_seenSigns a_signs a_then a_told a_turns a_weight a_wentOn a_works = some out) : CtrI l yX10_quiet (WS yX10_quiet cX10_quiet 6 (some .int)) { frames := 6, cells := 0, slots := 0, locals := 144 } G [.ref h_this, .int x1, .int x2] [(h_this, oX10 ad_this v_typed v_at v_isSo v_kept v_all v_sightAll v_aheadMany), ((ad_this 12), cI G 10 a_brings), ((ad_this 16), cI G 3 a_days), ((ad_this 2), cI G 6 a_goes), ((ad_this 11), cI G 10 a_noise), ((ad_this 17), cI G 15 a_seenSigns), ((ad_this 3), cI G 2 a_signs), ((ad_this 21), cJ G 3 a_then), ((ad_this 4), cI G 32 a_told), ((ad_this 23), cJ G 4 a_turns), ((ad_this 20), cJ G 3 a_weight), ((ad_this 18), cI G 15 a_wentOn), ((ad_this 10), cI G 2 a_works)] [(h_this, oX10 ad_this v_typed v_at v_isSo v_kept out.2.1 v_sightAll v_aheadMany), ((ad_this 12), cI G 10 a_brings), ((ad_this 16), cI G 3 a_days), ((ad_this 2), cI G 6 a_goes), ((ad_this 11), cI G 10 a_noise), ((ad_this 17), cI G 15 a_seenSigns), ((ad_this 3), cI G 2 a_signs), ((ad_this 21), cJ G 3 out.2.2.1), ((ad_this 4), cI G 32 a_told), ((ad_this 23), cJ G 4 out.2.2.2.1), ((ad_this 20), cJ G 3 out.2.2.2.2), ((ad_this 18), cI G 15 a_wentOn), ((ad_this 10), cI G 2 a_works)] out.1 := by
  refine startI (cc := cX10_quiet) (maxL := 6) (by decide) rfl (Nat.le_of_ble_eq_true rfl) ?_
  intro p e s m args below meth c A Q hx hb hml hts hown hc hA hret ls H locs hl hW
  have hown : s.vm.findClass RX10 = some m.cls := hown
  have hg : ∀ w ∈ GOODS, w.before _ s = true := fun w h => hts w (List.mem_cons_of_mem _ h)
  have hl : lv_has ls 6 [(0, .ref h_this), (1, .int x1), (2, .int x2)] := hl
  rw [F_X10_quiet] at hF
  refine lv_iload_n hx hb dX10_quiet_0 rfl (lv_at hl 1 rfl) ?_
  refine lv_iconst (v := 0) hx hb dX10_quiet_1 (by decide) ?_
  refine lv_bipush (v := 100) hx hb dX10_quiet_2 (by decide) ?_
  obtain ⟨q4, c_4, hF⟩ := bd_el hF
  refine wcZ (ws' := [(h_this, oX10 ad_this v_typed v_at v_isSo v_kept v_all v_sightAll v_aheadMany), ((ad_this 12), cI G 10 a_brings), ((ad_this 16), cI G 3 a_days), ((ad_this 2), cI G 6 a_goes), ((ad_this 11), cI G 10 a_noise), ((ad_this 17), cI G 15 a_seenSigns), ((ad_this 3), cI G 2 a_signs), ((ad_this 21), cJ G 3 a_then), ((ad_this 4), cI G 32 a_told), ((ad_this 23), cJ G 4 a_turns), ((ad_this 20), cJ G 3 a_weight), ((ad_this 18), cI G 15 a_wentOn), ((ad_this 10), cI G 2 a_works)]) (wc := []) (wr := [(h_this, oX10 ad_this v_typed v_at v_isSo v_kept v_all v_sightAll v_aheadMany), ((ad_this 12), cI G 10 a_brings), ((ad_this 16), cI G 3 a_days), ((ad_this 2), cI G 6 a_goes), ((ad_this 11), cI G 10 a_noise), ((ad_this 17), cI G 15 a_seenSigns), ((ad_this 3), cI G 2 a_signs), ((ad_this 21), cJ G 3 a_then), ((ad_this 4), cI G 32 a_told), ((ad_this 23), cJ G 4 a_turns), ((ad_this 20), cJ G 3 a_weight), ((ad_this 18), cI G 15 a_wentOn), ((ad_this 10), cI G 2 a_works)]) (w1 := []) (va_runS (As := [.int x1, .int 0, .int 100]) (rest := []) ⟨hx, hb, hml, hown, hg⟩ (c_X10_in l G x1 0 100 q4 c_4 H.size) (va_cwS 3 hg (gS wd_4_136 wd_4_137 wd_1_15 wd_4_138) rfl rfl rfl hdS_X10_in ⟨(Nat.le_of_ble_eq_true rfl), (Nat.le_of_ble_eq_true rfl)⟩) (preS hc hW [] rfl (by decide)) rfl rfl hl.1 rfl (lv_room (Nat.le_of_ble_eq_true rfl)) dX10_quiet_4 ⟨Nat.zero_le _, Nat.zero_le _⟩) hA hW [] [0, 1, 2, 3, 4, 5, 6, 7, 8, 9, 10, 11, 12] [0, 1, 2, 3, 4, 5, 6, 7, 8, 9, 10, 11, 12] rfl rfl (by decide) (by decide) rfl (by decide) (fun z_4 H locs hW => ?_)
  refine lv_if_eq (tgt := 19) hx hb dX10_quiet_7 (by decide) (fun c_7 => ?_) (fun c_7 => ?_)
  · have hF := ite_t hF c_7
    refine lv_iconst (v := (-1)) hx hb dX10_quiet_19 (by decide) ?_
    obtain rfl := Option.some.inj hF
    exact hret _ _ _ _ hW dX10_quiet_20
  · have hF := ite_f hF c_7
    refine lv_iload_n hx hb dX10_quiet_10 rfl (lv_at hl 2 rfl) ?_
    refine lv_iconst (v := 0) hx hb dX10_quiet_11 (by decide) ?_
    refine lv_iconst (v := 1) hx hb dX10_quiet_12 (by decide) ?_
    obtain ⟨q13, c_13, hF⟩ := bd_el hF
    refine wcZ (ws' := [(h_this, oX10 ad_this v_typed v_at v_isSo v_kept v_all v_sightAll v_aheadMany), ((ad_this 12), cI G 10 a_brings), ((ad_this 16), cI G 3 a_days), ((ad_this 2), cI G 6 a_goes), ((ad_this 11), cI G 10 a_noise), ((ad_this 17), cI G 15 a_seenSigns), ((ad_this 3), cI G 2 a_signs), ((ad_this 21), cJ G 3 a_then), ((ad_this 4), cI G 32 a_told), ((ad_this 23), cJ G 4 a_turns), ((ad_this 20), cJ G 3 a_weight), ((ad_this 18), cI G 15 a_wentOn), ((ad_this 10), cI G 2 a_works)]) (wc := []) (wr := [(h_this, oX10 ad_this v_typed v_at v_isSo v_kept v_all v_sightAll v_aheadMany), ((ad_this 12), cI G 10 a_brings), ((ad_this 16), cI G 3 a_days), ((ad_this 2), cI G 6 a_goes), ((ad_this 11), cI G 10 a_noise), ((ad_this 17), cI G 15 a_seenSigns), ((ad_this 3), cI G 2 a_signs), ((ad_this 21), cJ G 3 a_then), ((ad_this 4), cI G 32 a_told), ((ad_this 23), cJ G 4 a_turns), ((ad_this 20), cJ G 3 a_weight), ((ad_this 18), cI G 15 a_wentOn), ((ad_this 10), cI G 2 a_works)]) (w1 := []) (va_runS (As := [.int x2, .int 0, .int 1]) (rest := []) ⟨hx, hb, hml, hown, hg⟩ (c_X10_in l G x2 0 1 q13 c_13 H.size) (va_cwS 3 hg (gS wd_4_136 wd_4_137 wd_1_15 wd_4_138) rfl rfl rfl hdS_X10_in ⟨(Nat.le_of_ble_eq_true rfl), (Nat.le_of_ble_eq_true rfl)⟩) (preS hc hW [] rfl (by decide)) rfl rfl hl.1 rfl (lv_room (Nat.le_of_ble_eq_true rfl)) dX10_quiet_13 ⟨Nat.zero_le _, Nat.zero_le _⟩) hA hW [] [0, 1, 2, 3, 4, 5, 6, 7, 8, 9, 10, 11, 12] [0, 1, 2, 3, 4, 5, 6, 7, 8, 9, 10, 11, 12] rfl rfl (by decide) (by decide) rfl (by decide) (fun z_13 H locs hW => ?_)
    refine lv_if_ne (tgt := 21) hx hb dX10_quiet_16 (by decide) (fun c_16 => ?_) (fun c_16 => ?_)
    · have hF := ite_f hF c_16
      refine lv_bipush (v := (-4)) hx hb dX10_quiet_21 (by decide) ?_
      refine lv_istore_n (lv' := [(3, .int ((-4))), (0, .ref h_this), (1, .int x1), (2, .int x2)]) hx hb dX10_quiet_23 rfl hl (by decide) rfl (fun ls hl => ?_)
      refine lv_iconst (v := 0) hx hb dX10_quiet_24 (by decide) ?_
      refine lv_istore (lv' := [(4, .int 0), (3, .int ((-4))), (0, .ref h_this), (1, .int x1), (2, .int x2)]) hx hb dX10_quiet_25 hl (by decide) rfl (fun ls hl => ?_)
      obtain ⟨k_115, e_115, hF⟩ := jn_el hF
      have J_115 : ∀ (x3_115 : Int32) (v_all_115 : Int64) (a_then_115 : Nat → Int64) (a_turns_115 : Nat → Int64) (a_weight_115 : Nat → Int64) (ls : Array Slot) (H : Heap) (locs : List Loc), k_115 x3_115 v_all_115 a_then_115 a_turns_115 a_weight_115 = some out → lv_has ls 6 [(0, .ref h_this), (2, .int x2), (3, .int x3_115)] → Wd G A s.heap [(h_this, oX10 ad_this v_typed v_at v_isSo v_kept v_all_115 v_sightAll v_aheadMany), ((ad_this 12), cI G 10 a_brings), ((ad_this 16), cI G 3 a_days), ((ad_this 2), cI G 6 a_goes), ((ad_this 11), cI G 10 a_noise), ((ad_this 17), cI G 15 a_seenSigns), ((ad_this 3), cI G 2 a_signs), ((ad_this 21), cJ G 3 a_then_115), ((ad_this 4), cI G 32 a_told), ((ad_this 23), cJ G 4 a_turns_115), ((ad_this 20), cJ G 3 a_weight_115), ((ad_this 18), cI G 15 a_wentOn), ((ad_this 10), cI G 2 a_works)] H locs → W p l e ({ frames := 6, cells := 0, slots := 0, locals := 144 } : Room) s m args below meth c H locs 0 0 Q (F0 m 115 ls []) := by
        intro x3_115 v_all_115 a_then_115 a_turns_115 a_weight_115 ls H locs hF hl hW
        rw [e_115] at hF
        dsimp only at hF
        refine lv_iload_n hx hb dX10_quiet_115 rfl (lv_at hl 2 rfl) ?_
        refine lv_bipush (v := (-4)) hx hb dX10_quiet_116 (by decide) ?_
        obtain ⟨k_125, e_125, hF⟩ := jn_el hF
        have J_125 : ∀ (ls : Array Slot) (H : Heap) (locs : List Loc), k_125 = some out → lv_has ls 6 [(3, .int x3_115)] → Wd G A s.heap [(h_this, oX10 ad_this v_typed v_at v_isSo v_kept v_all_115 v_sightAll v_aheadMany), ((ad_this 12), cI G 10 a_brings), ((ad_this 16), cI G 3 a_days), ((ad_this 2), cI G 6 a_goes), ((ad_this 11), cI G 10 a_noise), ((ad_this 17), cI G 15 a_seenSigns), ((ad_this 3), cI G 2 a_signs), ((ad_this 21), cJ G 3 a_then_115), ((ad_this 4), cI G 32 a_told), ((ad_this 23), cJ G 4 a_turns_115), ((ad_this 20), cJ G 3 a_weight_115), ((ad_this 18), cI G 15 a_wentOn), ((ad_this 10), cI G 2 a_works)] H locs → W p l e ({ frames := 6, cells := 0, slots := 0, locals := 144 } : Room) s m args below meth c H locs 0 0 Q (F0 m 125 ls []) := by
          intro ls H locs hF hl hW
          rw [e_125] at hF
          refine lv_iload_n hx hb dX10_quiet_125 rfl (lv_at hl 0 rfl) ?_
          refine lv_goto (tgt := 134) hx hb dX10_quiet_126 (by decide) ?_
          obtain rfl := Option.some.inj hF
          exact hret _ _ _ _ hW dX10_quiet_134
        refine lv_icmp_eq (tgt := 125) hx hb dX10_quiet_118 (by decide) (fun c_118 => ?_) (fun c_118 => ?_)
        · have hF := ite_t hF c_118
          exact J_125 _ _ _ hF (lv_sub hl [2] rfl) hW
        · have hF := ite_f hF c_118
          refine lv_iload_n hx hb dX10_quiet_121 rfl (lv_at hl 1 rfl) ?_
          refine lv_if_ne (tgt := 129) hx hb dX10_quiet_122 (by decide) (fun c_122 => ?_) (fun c_122 => ?_)
          · have hF := ite_f hF c_122
            refine lv_aload_n hx hb dX10_quiet_129 rfl (lv_at hl 0 rfl) ?_
            refine lv_iload_n hx hb dX10_quiet_130 rfl (lv_at hl 2 rfl) ?_
            obtain ⟨q131, c_131, hF⟩ := bd_el hF
            refine wcI (ws' := [(h_this, oX10 ad_this v_typed v_at v_isSo v_kept v_all_115 v_sightAll v_aheadMany), ((ad_this 12), cI G 10 a_brings), ((ad_this 16), cI G 3 a_days), ((ad_this 2), cI G 6 a_goes), ((ad_this 11), cI G 10 a_noise), ((ad_this 17), cI G 15 a_seenSigns), ((ad_this 3), cI G 2 a_signs), ((ad_this 21), cJ G 3 a_then_115), ((ad_this 4), cI G 32 a_told), ((ad_this 23), cJ G 4 a_turns_115), ((ad_this 20), cJ G 3 a_weight_115), ((ad_this 18), cI G 15 a_wentOn), ((ad_this 10), cI G 2 a_works)]) (wc := [(h_this, oX10 ad_this v_typed v_at v_isSo v_kept v_all_115 v_sightAll v_aheadMany), ((ad_this 12), cI G 10 a_brings), ((ad_this 10), cI G 2 a_works)]) (wr := [((ad_this 16), cI G 3 a_days), ((ad_this 2), cI G 6 a_goes), ((ad_this 11), cI G 10 a_noise), ((ad_this 17), cI G 15 a_seenSigns), ((ad_this 3), cI G 2 a_signs), ((ad_this 21), cJ G 3 a_then_115), ((ad_this 4), cI G 32 a_told), ((ad_this 23), cJ G 4 a_turns_115), ((ad_this 20), cJ G 3 a_weight_115), ((ad_this 18), cI G 15 a_wentOn)]) (w1 := [(h_this, oX10 ad_this v_typed v_at v_isSo v_kept v_all_115 v_sightAll v_aheadMany), ((ad_this 12), cI G 10 a_brings), ((ad_this 10), cI G 2 a_works)]) (va_runV (As := [.int x3_115]) (rest := []) ⟨hx, hb, hml, hown, hg⟩ (c_X10_sumBrings l G x3_115 h_this ad_this v_typed v_at v_isSo v_kept v_all_115 v_sightAll v_aheadMany a_brings a_works q131 c_131 H.size) (cwV 1 hg (gV wd_4_184 wd_4_186 wd_0_33 wd_1_15 wd_4_187) rfl rfl rfl hdV_X10_sumBrings ⟨(Nat.le_of_ble_eq_true rfl), (Nat.le_of_ble_eq_true rfl)⟩) (preV hc hW [0, 1, 12] rfl (by decide) rfl rfl) rfl rfl hl.1 rfl (lv_room (Nat.le_of_ble_eq_true rfl)) dX10_quiet_131 ⟨Nat.zero_le _, Nat.zero_le _⟩) hA hW [0, 1, 12] [2, 3, 4, 5, 6, 7, 8, 9, 10, 11] [10, 11, 0, 1, 2, 3, 4, 5, 6, 7, 8, 9, 12] rfl rfl (by decide) (by decide) rfl (by decide) (fun H locs hW => ?_)
            obtain rfl := Option.some.inj hF
            exact hret _ _ _ _ hW dX10_quiet_134
          · have hF := ite_t hF c_122
            exact J_125 _ _ _ hF (lv_sub hl [2] rfl) hW
      have L_27 : ∀ (n : Nat) (x3_27 : Int32) (x4_27 : Int32) (v_all_27 : Int64) (a_then_27 : Nat → Int64) (a_turns_27 : Nat → Int64) (a_weight_27 : Nat → Int64) (ls : Array Slot) (H : Heap) (locs : List Loc), L_X10_quiet_27 x1 a_brings a_days a_goes a_noise a_seenSigns a_signs a_told a_wentOn a_works k_115 n x3_27 x4_27 v_all_27 a_then_27 a_turns_27 a_weight_27 = some out → lv_has ls 6 [(0, .ref h_this), (1, .int x1), (2, .int x2), (3, .int x3_27), (4, .int x4_27)] → Wd G A s.heap [(h_this, oX10 ad_this v_typed v_at v_isSo v_kept v_all_27 v_sightAll v_aheadMany), ((ad_this 12), cI G 10 a_brings), ((ad_this 16), cI G 3 a_days), ((ad_this 2), cI G 6 a_goes), ((ad_this 11), cI G 10 a_noise), ((ad_this 17), cI G 15 a_seenSigns), ((ad_this 3), cI G 2 a_signs), ((ad_this 21), cJ G 3 a_then_27), ((ad_this 4), cI G 32 a_told), ((ad_this 23), cJ G 4 a_turns_27), ((ad_this 20), cJ G 3 a_weight_27), ((ad_this 18), cI G 15 a_wentOn), ((ad_this 10), cI G 2 a_works)] H locs → W p l e ({ frames := 6, cells := 0, slots := 0, locals := 144 } : Room) s m args below meth c H locs 0 0 Q (F0 m 27 ls []) := by
        intro n
        induction n with
        | zero => intro x3_27 x4_27 v_all_27 a_then_27 a_turns_27 a_weight_27 ls H locs hF hl hW; have h0 : none = some out := hF; cases h0
        | succ n ih =>
          intro x3_27 x4_27 v_all_27 a_then_27 a_turns_27 a_weight_27 ls H locs hF hl hW
          rw [L_X10_quiet_27] at hF
          refine lv_iload hx hb dX10_quiet_27 (lv_at hl 4 rfl) ?_
          refine lv_iconst (v := 1) hx hb dX10_quiet_29 (by decide) ?_
          refine lv_aload_n hx hb dX10_quiet_30 rfl (lv_at hl 0 rfl) ?_
          refine va_get (D := G.1) (ci := 9) (v := .ref ((ad_this 10))) (C := RX10) (T := TX10) (N := 31) hx hb hg hu_X10 hown hc.1 hW.1 0 rfl rfl 10 (by decide) (hg _ wd_4_48) (fun _ h9 => h9) rfl dX10_quiet_31 ?_
          refine lv_iconst (v := 0) hx hb dX10_quiet_34 (by decide) ?_
          have b_35 : vp_in 0 2 := inb_vp (by decide)
          refine va_iald hx hb hc.1 hW.1 12 0 rfl rfl b_35 dX10_quiet_35 ?_
          refine lv_ishl hx hb dX10_quiet_36 ?_
          refine lv_icmp_ge (tgt := 115) hx hb dX10_quiet_37 (by decide) (fun c_37 => ?_) (fun c_37 => ?_)
          · have hF := ite_t hF c_37
            exact J_115 x3_27 v_all_27 a_then_27 a_turns_27 a_weight_27 _ _ _ hF (lv_sub hl [0, 2, 3] rfl) hW
          · have hF := ite_f hF c_37
            refine lv_aload_n hx hb dX10_quiet_40 rfl (lv_at hl 0 rfl) ?_
            refine lv_iload hx hb dX10_quiet_41 (lv_at hl 4 rfl) ?_
            obtain ⟨q43, c_43, hF⟩ := bd_el hF
            refine wcZ (ws' := [(h_this, oX10 ad_this v_typed v_at v_isSo v_kept q43.2.1 v_sightAll v_aheadMany), ((ad_this 12), cI G 10 a_brings), ((ad_this 16), cI G 3 a_days), ((ad_this 2), cI G 6 a_goes), ((ad_this 11), cI G 10 a_noise), ((ad_this 17), cI G 15 a_seenSigns), ((ad_this 3), cI G 2 a_signs), ((ad_this 21), cJ G 3 q43.2.2.1), ((ad_this 4), cI G 32 a_told), ((ad_this 23), cJ G 4 q43.2.2.2.1), ((ad_this 20), cJ G 3 q43.2.2.2.2), ((ad_this 18), cI G 15 a_wentOn), ((ad_this 10), cI G 2 a_works)]) (wc := [(h_this, oX10 ad_this v_typed v_at v_isSo v_kept v_all_27 v_sightAll v_aheadMany), ((ad_this 16), cI G 3 a_days), ((ad_this 2), cI G 6 a_goes), ((ad_this 11), cI G 10 a_noise), ((ad_this 17), cI G 15 a_seenSigns), ((ad_this 3), cI G 2 a_signs), ((ad_this 21), cJ G 3 a_then_27), ((ad_this 4), cI G 32 a_told), ((ad_this 23), cJ G 4 a_turns_27), ((ad_this 20), cJ G 3 a_weight_27), ((ad_this 18), cI G 15 a_wentOn), ((ad_this 10), cI G 2 a_works)]) (wr := [((ad_this 12), cI G 10 a_brings)]) (w1 := [(h_this, oX10 ad_this v_typed v_at v_isSo v_kept q43.2.1 v_sightAll v_aheadMany), ((ad_this 16), cI G 3 a_days), ((ad_this 2), cI G 6 a_goes), ((ad_this 11), cI G 10 a_noise), ((ad_this 17), cI G 15 a_seenSigns), ((ad_this 3), cI G 2 a_signs), ((ad_this 21), cJ G 3 q43.2.2.1), ((ad_this 4), cI G 32 a_told), ((ad_this 23), cJ G 4 q43.2.2.2.1), ((ad_this 20), cJ G 3 q43.2.2.2.2), ((ad_this 18), cI G 15 a_wentOn), ((ad_this 10), cI G 2 a_works)]) (va_runV (As := [.int x4_27]) (rest := []) ⟨hx, hb, hml, hown, hg⟩ (c_X10_findTurns l G x4_27 h_this ad_this v_typed v_at v_isSo v_kept v_all_27 v_sightAll v_aheadMany a_days a_goes a_noise a_seenSigns a_signs a_then_27 a_told a_turns_27 a_weight_27 a_wentOn a_works q43 c_43 H.size) (cwV 1 hg (gV wd_5_8 wd_5_10 wd_0_42 wd_1_15 wd_5_11) rfl rfl rfl hdV_X10_findTurns ⟨(Nat.le_of_ble_eq_true rfl), (Nat.le_of_ble_eq_true rfl)⟩) (preV hc hW [0, 2, 3, 4, 5, 6, 7, 8, 9, 10, 11, 12] rfl (by decide) rfl rfl) rfl rfl hl.1 rfl (lv_room (Nat.le_of_ble_eq_true rfl)) dX10_quiet_43 ⟨Nat.zero_le _, Nat.zero_le _⟩) hA hW [0, 2, 3, 4, 5, 6, 7, 8, 9, 10, 11, 12] [1] [1, 0, 2, 3, 4, 5, 6, 7, 8, 9, 10, 11, 12] rfl rfl (by decide) (by decide) rfl (by decide) (fun z_43 H locs hW => ?_)
            obtain ⟨k_75, e_75, hF⟩ := jn_el hF
            have J_75 : ∀ (j0_75 : Int32) (ls : Array Slot) (H : Heap) (locs : List Loc), k_75 j0_75 = some out → lv_has ls 6 [(0, .ref h_this), (1, .int x1), (2, .int x2), (3, .int x3_27), (4, .int x4_27)] → Wd G A s.heap [(h_this, oX10 ad_this v_typed v_at v_isSo v_kept q43.2.1 v_sightAll v_aheadMany), ((ad_this 12), cI G 10 a_brings), ((ad_this 16), cI G 3 a_days), ((ad_this 2), cI G 6 a_goes), ((ad_this 11), cI G 10 a_noise), ((ad_this 17), cI G 15 a_seenSigns), ((ad_this 3), cI G 2 a_signs), ((ad_this 21), cJ G 3 q43.2.2.1), ((ad_this 4), cI G 32 a_told), ((ad_this 23), cJ G 4 q43.2.2.2.1), ((ad_this 20), cJ G 3 q43.2.2.2.2), ((ad_this 18), cI G 15 a_wentOn), ((ad_this 10), cI G 2 a_works)] H locs → W p l e ({ frames := 6, cells := 0, slots := 0, locals := 144 } : Room) s m args below meth c H locs 0 0 Q (F0 m 75 ls [.int j0_75]) := by
              intro j0_75 ls H locs hF hl hW
              rw [e_75] at hF
              dsimp only at hF
              refine lv_istore (lv' := [(5, .int j0_75), (0, .ref h_this), (1, .int x1), (2, .int x2), (3, .int x3_27), (4, .int x4_27)]) hx hb dX10_quiet_75 hl (by decide) rfl (fun ls hl => ?_)
              refine lv_iload hx hb dX10_quiet_77 (lv_at hl 0 rfl) ?_
              obtain ⟨k_108, e_108, hF⟩ := jn_el hF
              have J_108 : ∀ (j0_108 : Int32) (ls : Array Slot) (H : Heap) (locs : List Loc), k_108 j0_108 = some out → lv_has ls 6 [(0, .ref h_this), (1, .int x1), (2, .int x2), (4, .int x4_27)] → Wd G A s.heap [(h_this, oX10 ad_this v_typed v_at v_isSo v_kept q43.2.1 v_sightAll v_aheadMany), ((ad_this 12), cI G 10 a_brings), ((ad_this 16), cI G 3 a_days), ((ad_this 2), cI G 6 a_goes), ((ad_this 11), cI G 10 a_noise), ((ad_this 17), cI G 15 a_seenSigns), ((ad_this 3), cI G 2 a_signs), ((ad_this 21), cJ G 3 q43.2.2.1), ((ad_this 4), cI G 32 a_told), ((ad_this 23), cJ G 4 q43.2.2.2.1), ((ad_this 20), cJ G 3 q43.2.2.2.2), ((ad_this 18), cI G 15 a_wentOn), ((ad_this 10), cI G 2 a_works)] H locs → W p l e ({ frames := 6, cells := 0, slots := 0, locals := 144 } : Room) s m args below meth c H locs 0 0 Q (F0 m 108 ls [.int j0_108]) := by
                intro j0_108 ls H locs hF hl hW
                rw [e_108] at hF
                dsimp only at hF
                refine lv_istore_n (lv' := [(3, .int j0_108), (0, .ref h_this), (1, .int x1), (2, .int x2), (4, .int x4_27)]) hx hb dX10_quiet_108 rfl hl (by decide) rfl (fun ls hl => ?_)
                refine lv_iinc (v := (x4_27 + 1)) (lv' := [(4, .int ((x4_27 + 1))), (3, .int j0_108), (0, .ref h_this), (1, .int x1), (2, .int x2)]) hx hb dX10_quiet_109 hl (k := 4) rfl rfl (by decide) rfl (fun ls hl => ?_)
                refine lv_goto (tgt := 27) hx hb dX10_quiet_112 (by decide) ?_
                exact ih j0_108 ((x4_27 + 1)) q43.2.1 q43.2.2.1 q43.2.2.2.1 q43.2.2.2.2 _ _ _ hF (lv_sub hl [2, 3, 4, 1, 0] rfl) hW
              obtain ⟨k_107, e_107, hF⟩ := jn_el hF
              have J_107 : ∀ (ls : Array Slot) (H : Heap) (locs : List Loc), k_107 = some out → lv_has ls 6 [(0, .ref h_this), (1, .int x1), (2, .int x2), (3, .int x3_27), (4, .int x4_27)] → Wd G A s.heap [(h_this, oX10 ad_this v_typed v_at v_isSo v_kept q43.2.1 v_sightAll v_aheadMany), ((ad_this 12), cI G 10 a_brings), ((ad_this 16), cI G 3 a_days), ((ad_this 2), cI G 6 a_goes), ((ad_this 11), cI G 10 a_noise), ((ad_this 17), cI G 15 a_seenSigns), ((ad_this 3), cI G 2 a_signs), ((ad_this 21), cJ G 3 q43.2.2.1), ((ad_this 4), cI G 32 a_told), ((ad_this 23), cJ G 4 q43.2.2.2.1), ((ad_this 20), cJ G 3 q43.2.2.2.2), ((ad_this 18), cI G 15 a_wentOn), ((ad_this 10), cI G 2 a_works)] H locs → W p l e ({ frames := 6, cells := 0, slots := 0, locals := 144 } : Room) s m args below meth c H locs 0 0 Q (F0 m 107 ls []) := by
                intro ls H locs hF hl hW
                rw [e_107] at hF
                refine lv_iload_n hx hb dX10_quiet_107 rfl (lv_at hl 3 rfl) ?_
                exact J_108 x3_27 _ _ _ hF (lv_sub hl [0, 1, 2, 4] rfl) hW
              refine lv_if_eq (tgt := 107) hx hb dX10_quiet_79 (by decide) (fun c_79 => ?_) (fun c_79 => ?_)
              · have hF := ite_t hF c_79
                exact J_107 _ _ _ hF (lv_sub hl [1, 2, 3, 4, 5] rfl) hW
              · have hF := ite_f hF c_79
                refine lv_iload_n hx hb dX10_quiet_82 rfl (lv_at hl 4 rfl) ?_
                refine lv_bipush (v := (-4)) hx hb dX10_quiet_83 (by decide) ?_
                obtain ⟨k_102, e_102, hF⟩ := jn_el hF
                have J_102 : ∀ (ls : Array Slot) (H : Heap) (locs : List Loc), k_102 = some out → lv_has ls 6 [(0, .ref h_this), (1, .int x1), (2, .int x2), (4, .int x4_27)] → Wd G A s.heap [(h_this, oX10 ad_this v_typed v_at v_isSo v_kept q43.2.1 v_sightAll v_aheadMany), ((ad_this 12), cI G 10 a_brings), ((ad_this 16), cI G 3 a_days), ((ad_this 2), cI G 6 a_goes), ((ad_this 11), cI G 10 a_noise), ((ad_this 17), cI G 15 a_seenSigns), ((ad_this 3), cI G 2 a_signs), ((ad_this 21), cJ G 3 q43.2.2.1), ((ad_this 4), cI G 32 a_told), ((ad_this 23), cJ G 4 q43.2.2.2.1), ((ad_this 20), cJ G 3 q43.2.2.2.2), ((ad_this 18), cI G 15 a_wentOn), ((ad_this 10), cI G 2 a_works)] H locs → W p l e ({ frames := 6, cells := 0, slots := 0, locals := 144 } : Room) s m args below meth c H locs 0 0 Q (F0 m 102 ls []) := by
                  intro ls H locs hF hl hW
                  rw [e_102] at hF
                  refine lv_iload hx hb dX10_quiet_102 (lv_at hl 3 rfl) ?_
                  refine lv_goto (tgt := 108) hx hb dX10_quiet_104 (by decide) ?_
                  exact J_108 x4_27 _ _ _ hF (lv_sub hl [0, 1, 2, 3] rfl) hW
                refine lv_icmp_eq (tgt := 102) hx hb dX10_quiet_85 (by decide) (fun c_85 => ?_) (fun c_85 => ?_)
                · have hF := ite_t hF c_85
                  exact J_102 _ _ _ hF (lv_sub hl [1, 2, 3, 5] rfl) hW
                · have hF := ite_f hF c_85
                  refine lv_aload_n hx hb dX10_quiet_88 rfl (lv_at hl 1 rfl) ?_
                  refine lv_iload hx hb dX10_quiet_89 (lv_at hl 5 rfl) ?_
                  obtain ⟨q91, c_91, hF⟩ := bd_el hF
                  refine wcI (ws' := [(h_this, oX10 ad_this v_typed v_at v_isSo v_kept q43.2.1 v_sightAll v_aheadMany), ((ad_this 12), cI G 10 a_brings), ((ad_this 16), cI G 3 a_days), ((ad_this 2), cI G 6 a_goes), ((ad_this 11), cI G 10 a_noise), ((ad_this 17), cI G 15 a_seenSigns), ((ad_this 3), cI G 2 a_signs), ((ad_this 21), cJ G 3 q43.2.2.1), ((ad_this 4), cI G 32 a_told), ((ad_this 23), cJ G 4 q43.2.2.2.1), ((ad_this 20), cJ G 3 q43.2.2.2.2), ((ad_this 18), cI G 15 a_wentOn), ((ad_this 10), cI G 2 a_works)]) (wc := [(h_this, oX10 ad_this v_typed v_at v_isSo v_kept q43.2.1 v_sightAll v_aheadMany), ((ad_this 12), cI G 10 a_brings), ((ad_this 10), cI G 2 a_works)]) (wr := [((ad_this 16), cI G 3 a_days), ((ad_this 2), cI G 6 a_goes), ((ad_this 11), cI G 10 a_noise), ((ad_this 17), cI G 15 a_seenSigns), ((ad_this 3), cI G 2 a_signs), ((ad_this 21), cJ G 3 q43.2.2.1), ((ad_this 4), cI G 32 a_told), ((ad_this 23), cJ G 4 q43.2.2.2.1), ((ad_this 20), cJ G 3 q43.2.2.2.2), ((ad_this 18), cI G 15 a_wentOn)]) (w1 := [(h_this, oX10 ad_this v_typed v_at v_isSo v_kept q43.2.1 v_sightAll v_aheadMany), ((ad_this 12), cI G 10 a_brings), ((ad_this 10), cI G 2 a_works)]) (va_runV (As := [.int x4_27]) (rest := []) ⟨hx, hb, hml, hown, hg⟩ (c_X10_sumBrings l G x4_27 h_this ad_this v_typed v_at v_isSo v_kept q43.2.1 v_sightAll v_aheadMany a_brings a_works q91 c_91 H.size) (cwV 1 hg (gV wd_4_184 wd_4_186 wd_0_33 wd_1_15 wd_4_187) rfl rfl rfl hdV_X10_sumBrings ⟨(Nat.le_of_ble_eq_true rfl), (Nat.le_of_ble_eq_true rfl)⟩) (preV hc hW [0, 1, 12] rfl (by decide) rfl rfl) rfl rfl hl.1 rfl (lv_room (Nat.le_of_ble_eq_true rfl)) dX10_quiet_91 ⟨Nat.zero_le _, Nat.zero_le _⟩) hA hW [0, 1, 12] [2, 3, 4, 5, 6, 7, 8, 9, 10, 11] [10, 11, 0, 1, 2, 3, 4, 5, 6, 7, 8, 9, 12] rfl rfl (by decide) (by decide) rfl (by decide) (fun H locs hW => ?_)
                  refine lv_aload_n hx hb dX10_quiet_94 rfl (lv_at hl 1 rfl) ?_
                  refine lv_iload_n hx hb dX10_quiet_95 rfl (lv_at hl 4 rfl) ?_
                  obtain ⟨q96, c_96, hF⟩ := bd_el hF
                  refine wcI (ws' := [(h_this, oX10 ad_this v_typed v_at v_isSo v_kept q43.2.1 v_sightAll v_aheadMany), ((ad_this 12), cI G 10 a_brings), ((ad_this 16), cI G 3 a_days), ((ad_this 2), cI G 6 a_goes), ((ad_this 11), cI G 10 a_noise), ((ad_this 17), cI G 15 a_seenSigns), ((ad_this 3), cI G 2 a_signs), ((ad_this 21), cJ G 3 q43.2.2.1), ((ad_this 4), cI G 32 a_told), ((ad_this 23), cJ G 4 q43.2.2.2.1), ((ad_this 20), cJ G 3 q43.2.2.2.2), ((ad_this 18), cI G 15 a_wentOn), ((ad_this 10), cI G 2 a_works)]) (wc := [(h_this, oX10 ad_this v_typed v_at v_isSo v_kept q43.2.1 v_sightAll v_aheadMany), ((ad_this 12), cI G 10 a_brings), ((ad_this 10), cI G 2 a_works)]) (wr := [((ad_this 16), cI G 3 a_days), ((ad_this 2), cI G 6 a_goes), ((ad_this 11), cI G 10 a_noise), ((ad_this 17), cI G 15 a_seenSigns), ((ad_this 3), cI G 2 a_signs), ((ad_this 21), cJ G 3 q43.2.2.1), ((ad_this 4), cI G 32 a_told), ((ad_this 23), cJ G 4 q43.2.2.2.1), ((ad_this 20), cJ G 3 q43.2.2.2.2), ((ad_this 18), cI G 15 a_wentOn)]) (w1 := [(h_this, oX10 ad_this v_typed v_at v_isSo v_kept q43.2.1 v_sightAll v_aheadMany), ((ad_this 12), cI G 10 a_brings), ((ad_this 10), cI G 2 a_works)]) (va_runV (As := [.int x3_27]) (rest := [.int q91]) ⟨hx, hb, hml, hown, hg⟩ (c_X10_sumBrings l G x3_27 h_this ad_this v_typed v_at v_isSo v_kept q43.2.1 v_sightAll v_aheadMany a_brings a_works q96 c_96 H.size) (cwV 1 hg (gV wd_4_184 wd_4_186 wd_0_33 wd_1_15 wd_4_187) rfl rfl rfl hdV_X10_sumBrings ⟨(Nat.le_of_ble_eq_true rfl), (Nat.le_of_ble_eq_true rfl)⟩) (preV hc hW [0, 1, 12] rfl (by decide) rfl rfl) rfl rfl hl.1 rfl (lv_room (Nat.le_of_ble_eq_true rfl)) dX10_quiet_96 ⟨Nat.zero_le _, Nat.zero_le _⟩) hA hW [0, 1, 12] [2, 3, 4, 5, 6, 7, 8, 9, 10, 11] [10, 11, 0, 1, 2, 3, 4, 5, 6, 7, 8, 9, 12] rfl rfl (by decide) (by decide) rfl (by decide) (fun H locs hW => ?_)
                  refine lv_icmp_le (tgt := 107) hx hb dX10_quiet_99 (by decide) (fun c_99 => ?_) (fun c_99 => ?_)
                  · have hF := ite_t hF c_99
                    exact J_107 _ _ _ hF (lv_sub hl [1, 2, 3, 4, 5] rfl) hW
                  · have hF := ite_f hF c_99
                    exact J_102 _ _ _ hF (lv_sub hl [1, 2, 3, 5] rfl) hW
            obtain ⟨k_74, e_74, hF⟩ := jn_el hF
            have J_74 : ∀ (ls : Array Slot) (H : Heap) (locs : List Loc), k_74 = some out → lv_has ls 6 [(0, .ref h_this), (1, .int x1), (2, .int x2), (3, .int x3_27), (4, .int x4_27)] → Wd G A s.heap [(h_this, oX10 ad_this v_typed v_at v_isSo v_kept q43.2.1 v_sightAll v_aheadMany), ((ad_this 12), cI G 10 a_brings), ((ad_this 16), cI G 3 a_days), ((ad_this 2), cI G 6 a_goes), ((ad_this 11), cI G 10 a_noise), ((ad_this 17), cI G 15 a_seenSigns), ((ad_this 3), cI G 2 a_signs), ((ad_this 21), cJ G 3 q43.2.2.1), ((ad_this 4), cI G 32 a_told), ((ad_this 23), cJ G 4 q43.2.2.2.1), ((ad_this 20), cJ G 3 q43.2.2.2.2), ((ad_this 18), cI G 15 a_wentOn), ((ad_this 10), cI G 2 a_works)] H locs → W p l e ({ frames := 6, cells := 0, slots := 0, locals := 144 } : Room) s m args below meth c H locs 0 0 Q (F0 m 74 ls []) := by
              intro ls H locs hF hl hW
              rw [e_74] at hF
              refine lv_iconst (v := 0) hx hb dX10_quiet_74 (by decide) ?_
              exact J_75 0 _ _ _ hF (lv_sub hl [0, 1, 2, 3, 4] rfl) hW
            refine lv_if_eq (tgt := 74) hx hb dX10_quiet_46 (by decide) (fun c_46 => ?_) (fun c_46 => ?_)
            · have hF := ite_t hF c_46
              exact J_74 _ _ _ hF (lv_sub hl [0, 1, 2, 3, 4] rfl) hW
            · have hF := ite_f hF c_46
              refine lv_ldc2 (v := 100) hx hb hown (hg _ wd_5_44) dX10_quiet_49 ?_
              refine lv_aload_n hx hb dX10_quiet_52 rfl (lv_at hl 0 rfl) ?_
              refine va_get (D := G.1) (ci := 9) (v := .ref ((ad_this 23))) (C := RX10) (T := TX10) (N := 31) hx hb hg hu_X10 hown hc.1 hW.1 0 rfl rfl 23 (by decide) (hg _ wd_4_61) (fun _ h9 => h9) rfl dX10_quiet_53 ?_
              refine lv_iconst (v := 3) hx hb dX10_quiet_56 (by decide) ?_
              have b_57 : vp_in 3 4 := inb_vp (by decide)
              refine va_lald hx hb hc.1 hW.1 9 1 rfl rfl b_57 dX10_quiet_57 ?_
              refine lv_lmul hx hb dX10_quiet_58 ?_
              refine lv_iload_n hx hb dX10_quiet_59 rfl (lv_at hl 1 rfl) ?_
              refine lv_i2l (v := (Int32.toInt64 x1)) hx hb dX10_quiet_60 rfl ?_
              refine lv_aload_n hx hb dX10_quiet_61 rfl (lv_at hl 0 rfl) ?_
              refine va_get (D := G.1) (ci := 9) (v := .long q43.2.1) (C := RX10) (T := TX10) (N := 31) hx hb hg hu_X10 hown hc.1 hW.1 0 rfl rfl 22 (by decide) (hg _ wd_4_60) (fun _ h9 => h9) rfl dX10_quiet_62 ?_
              refine lv_lmul hx hb dX10_quiet_65 ?_
              refine W.lcmp hx hb dX10_quiet_66 ?_
              refine lv_if_gt (tgt := 74) hx hb dX10_quiet_67 (by decide) (fun c_67 => ?_) (fun c_67 => ?_)
              · have hF := ite_t hF c_67
                exact J_74 _ _ _ hF (lv_sub hl [0, 1, 2, 3, 4] rfl) hW
              · have hF := ite_f hF c_67
                refine lv_iconst (v := 1) hx hb dX10_quiet_70 (by decide) ?_
                refine lv_goto (tgt := 75) hx hb dX10_quiet_71 (by decide) ?_
                exact J_75 1 _ _ _ hF (lv_sub hl [0, 1, 2, 3, 4] rfl) hW
      exact L_27 5000 ((-4)) 0 v_all a_then a_turns a_weight _ _ _ hF (lv_sub hl [2, 3, 4, 1, 0] rfl) hW
    · have hF := ite_t hF c_16
      refine lv_iconst (v := (-1)) hx hb dX10_quiet_19 (by decide) ?_
      obtain rfl := Option.some.inj hF
      exact hret _ _ _ _ hW dX10_quiet_20
