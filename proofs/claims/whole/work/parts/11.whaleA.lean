theorem dX9_write_0 : decode cX9_write 0 = .ok (.iload_n 1, 1) := by decide +kernel
theorem dX9_write_1 : decode cX9_write 1 = .ok (.bipush 32, 2) := by decide +kernel
theorem dX9_write_3 : decode cX9_write 3 = .ok (.bipush 126, 2) := by decide +kernel
theorem dX9_write_5 : decode cX9_write 5 = .ok (.invokestatic 104, 3) := by decide +kernel
theorem dX9_write_8 : decode cX9_write 8 = .ok (.ifCond .ne 5, 3) := by decide +kernel
theorem dX9_write_11 : decode cX9_write 11 = .ok (.iconst (-1), 1) := by decide +kernel
theorem dX9_write_12 : decode cX9_write 12 = .ok (.ireturn, 1) := by decide +kernel
theorem dX9_write_13 : decode cX9_write 13 = .ok (.aload_n 0, 1) := by decide +kernel
theorem dX9_write_14 : decode cX9_write 14 = .ok (.getfield 10, 3) := by decide +kernel
theorem dX9_write_17 : decode cX9_write 17 = .ok (.getfield 108, 3) := by decide +kernel
theorem dX9_write_20 : decode cX9_write 20 = .ok (.sipush 200, 3) := by decide +kernel
theorem dX9_write_23 : decode cX9_write 23 = .ok (.if_icmp .lt 6, 3) := by decide +kernel
theorem dX9_write_26 : decode cX9_write 26 = .ok (.bipush (-3), 2) := by decide +kernel
theorem dX9_write_28 : decode cX9_write 28 = .ok (.ireturn, 1) := by decide +kernel
theorem dX9_write_29 : decode cX9_write 29 = .ok (.aload_n 0, 1) := by decide +kernel
theorem dX9_write_30 : decode cX9_write 30 = .ok (.getfield 10, 3) := by decide +kernel
theorem dX9_write_33 : decode cX9_write 33 = .ok (.iload_n 1, 1) := by decide +kernel
theorem dX9_write_34 : decode cX9_write 34 = .ok (.invokevirtual 93, 3) := by decide +kernel
theorem dX9_write_37 : decode cX9_write 37 = .ok (.aload_n 0, 1) := by decide +kernel
theorem dX9_write_38 : decode cX9_write 38 = .ok (.getfield 10, 3) := by decide +kernel
theorem dX9_write_41 : decode cX9_write 41 = .ok (.getfield 108, 3) := by decide +kernel
theorem dX9_write_44 : decode cX9_write 44 = .ok (.ireturn, 1) := by decide +kernel
def F_X9_write (x1 : Int32) (v_text_length : Int32) (a_text_letters : Nat → Int32) : Option (Int32 × Int32 × (Nat → Int32)) := (F_X9_isWithin x1 32 126).bind (fun q5 => (if q5 = 0 then some ((-1), v_text_length, a_text_letters) else (if v_text_length < 200 then (F_X6_append x1 v_text_length a_text_letters).bind (fun q34 => some (q34.1, q34.1, q34.2)) else some ((-3), v_text_length, a_text_letters))))
theorem hdV_X9_write : yX9_write.cls = RX9 ∧ yX9_write.cls ≠ "java/lang/invoke/MethodHandle" ∧ yX9_write.cls ≠ "java/lang/invoke/VarHandle" ∧ (parseMethodDescriptor yX9_write.desc).map (fun d => d.parameters.length) = some 1 := by decide +kernel
set_option maxHeartbeats 4000000 in
set_option maxRecDepth 100000 in
theorem c_X9_write (l : Launch) (G : GG) (x1 : Int32) (h_this : Nat) (ad_this : Nat → Nat) (ad_this_text : Nat → Nat) (v_keptCount : Int32) (v_text_length : Int32) (a_text_letters : Nat → Int32) (out : Int32 × Int32 × (Nat → Int32)) (hF : F_X9_write x1 v_text_length a_text_letters = some out) : CtrI l yX9_write (WS yX9_write cX9_write 2 (some .int)) { frames := 2, cells := 0, slots := 0, locals := 43 } G [.ref h_this, .int x1] [(h_this, oX9 ad_this v_keptCount), ((ad_this 0), oX6 ad_this_text v_text_length), ((ad_this_text 0), cI G 200 a_text_letters)] [(h_this, oX9 ad_this v_keptCount), ((ad_this 0), oX6 ad_this_text out.2.1), ((ad_this_text 0), cI G 200 out.2.2)] out.1 := by
  refine startI (cc := cX9_write) (maxL := 2) (by decide) rfl (Nat.le_of_ble_eq_true rfl) ?_
  intro p e s m args below meth c A Q hx hb hml hts hown hc hA hret ls H locs hl hW
  have hown : s.vm.findClass RX9 = some m.cls := hown
  have hg : ∀ w ∈ GOODS, w.before _ s = true := fun w h => hts w (List.mem_cons_of_mem _ h)
  have hl : lv_has ls 2 [(0, .ref h_this), (1, .int x1)] := hl
  rw [F_X9_write] at hF
  refine lv_iload_n hx hb dX9_write_0 rfl (lv_at hl 1 rfl) ?_
  refine lv_bipush (v := 32) hx hb dX9_write_1 (by decide) ?_
  refine lv_bipush (v := 126) hx hb dX9_write_3 (by decide) ?_
  obtain ⟨q5, c_5, hF⟩ := bd_el hF
  refine wcZ (ws' := [(h_this, oX9 ad_this v_keptCount), ((ad_this 0), oX6 ad_this_text v_text_length), ((ad_this_text 0), cI G 200 a_text_letters)]) (wc := []) (wr := [(h_this, oX9 ad_this v_keptCount), ((ad_this 0), oX6 ad_this_text v_text_length), ((ad_this_text 0), cI G 200 a_text_letters)]) (w1 := []) (va_runS (As := [.int x1, .int 32, .int 126]) (rest := []) ⟨hx, hb, hml, hown, hg⟩ (c_X9_isWithin l G x1 32 126 q5 c_5 H.size) (va_cwS 3 hg (gS wd_2_140 wd_2_47 wd_1_1 wd_2_48) rfl rfl rfl hdS_X9_isWithin ⟨(Nat.le_of_ble_eq_true rfl), (Nat.le_of_ble_eq_true rfl)⟩) (preS hc hW [] rfl (by decide)) rfl rfl hl.1 rfl (lv_room (Nat.le_of_ble_eq_true rfl)) dX9_write_5 ⟨Nat.zero_le _, Nat.zero_le _⟩) hA hW [] [0, 1, 2] [0, 1, 2] rfl rfl (by decide) (by decide) rfl (by decide) (fun z_5 H locs hW => ?_)
  refine lv_if_ne (tgt := 13) hx hb dX9_write_8 (by decide) (fun c_8 => ?_) (fun c_8 => ?_)
  · have hF := ite_f hF c_8
    refine lv_aload_n hx hb dX9_write_13 rfl (lv_at hl 0 rfl) ?_
    refine va_get (D := G.1) (ci := 8) (v := .ref ((ad_this 0))) (C := RX9) (T := TX9) (N := 13) hx hb hg hu_X9 hown hc.1 hW.1 0 rfl rfl 0 (by decide) (hg _ wd_2_95) (fun _ h9 => h9) rfl dX9_write_14 ?_
    refine va_get (D := G.1) (ci := 5) (v := .int v_text_length) (C := RX6) (T := TX6) (N := 2) hx hb hg hu_X6 hown hc.1 hW.1 1 rfl rfl 1 (by decide) (hg _ wd_1_34) (fun _ h9 => h9) rfl dX9_write_17 ?_
    refine lv_sipush (v := 200) hx hb dX9_write_20 (by decide) ?_
    refine lv_icmp_lt (tgt := 29) hx hb dX9_write_23 (by decide) (fun c_23 => ?_) (fun c_23 => ?_)
    · have hF := ite_t hF c_23
      refine lv_aload_n hx hb dX9_write_29 rfl (lv_at hl 0 rfl) ?_
      refine va_get (D := G.1) (ci := 8) (v := .ref ((ad_this 0))) (C := RX9) (T := TX9) (N := 13) hx hb hg hu_X9 hown hc.1 hW.1 0 rfl rfl 0 (by decide) (hg _ wd_2_95) (fun _ h9 => h9) rfl dX9_write_30 ?_
      refine lv_iload_n hx hb dX9_write_33 rfl (lv_at hl 1 rfl) ?_
      obtain ⟨q34, c_34, hF⟩ := bd_el hF
      refine wcV (ws' := [(h_this, oX9 ad_this v_keptCount), ((ad_this 0), oX6 ad_this_text q34.1), ((ad_this_text 0), cI G 200 q34.2)]) (wc := [((ad_this 0), oX6 ad_this_text v_text_length), ((ad_this_text 0), cI G 200 a_text_letters)]) (wr := [(h_this, oX9 ad_this v_keptCount)]) (w1 := [((ad_this 0), oX6 ad_this_text q34.1), ((ad_this_text 0), cI G 200 q34.2)]) (va_runV (As := [.int x1]) (rest := []) ⟨hx, hb, hml, hown, hg⟩ (c_X6_append l G x1 ((ad_this 0)) ad_this_text v_text_length a_text_letters q34 c_34 H.size) (cwV 1 hg (gV wd_2_12 wd_2_13 wd_2_14 wd_1_2 wd_2_15) rfl rfl rfl hdV_X6_append ⟨(Nat.le_of_ble_eq_true rfl), (Nat.le_of_ble_eq_true rfl)⟩) (preV hc hW [1, 2] rfl (by decide) rfl rfl) rfl rfl hl.1 rfl (lv_room (Nat.le_of_ble_eq_true rfl)) dX9_write_34 ⟨Nat.zero_le _, Nat.zero_le _⟩) hA hW [1, 2] [0] [0, 1, 2] rfl rfl (by decide) (by decide) rfl (by decide) (fun H locs hW => ?_)
      refine lv_aload_n hx hb dX9_write_37 rfl (lv_at hl 0 rfl) ?_
      refine va_get (D := G.1) (ci := 8) (v := .ref ((ad_this 0))) (C := RX9) (T := TX9) (N := 13) hx hb hg hu_X9 hown hc.1 hW.1 0 rfl rfl 0 (by decide) (hg _ wd_2_95) (fun _ h9 => h9) rfl dX9_write_38 ?_
      refine va_get (D := G.1) (ci := 5) (v := .int q34.1) (C := RX6) (T := TX6) (N := 2) hx hb hg hu_X6 hown hc.1 hW.1 1 rfl rfl 1 (by decide) (hg _ wd_1_34) (fun _ h9 => h9) rfl dX9_write_41 ?_
      obtain rfl := Option.some.inj hF
      exact hret _ _ _ _ hW dX9_write_44
    · have hF := ite_f hF c_23
      refine lv_bipush (v := (-3)) hx hb dX9_write_26 (by decide) ?_
      obtain rfl := Option.some.inj hF
      exact hret _ _ _ _ hW dX9_write_28
  · have hF := ite_t hF c_8
    refine lv_iconst (v := (-1)) hx hb dX9_write_11 (by decide) ?_
    obtain rfl := Option.some.inj hF
    exact hret _ _ _ _ hW dX9_write_12
theorem dX9_wipe_0 : decode cX9_wipe 0 = .ok (.aload_n 0, 1) := by decide +kernel
theorem dX9_wipe_1 : decode cX9_wipe 1 = .ok (.getfield 10, 3) := by decide +kernel
theorem dX9_wipe_4 : decode cX9_wipe 4 = .ok (.getfield 108, 3) := by decide +kernel
theorem dX9_wipe_7 : decode cX9_wipe 7 = .ok (.istore_n 1, 1) := by decide +kernel
theorem dX9_wipe_8 : decode cX9_wipe 8 = .ok (.aload_n 0, 1) := by decide +kernel
theorem dX9_wipe_9 : decode cX9_wipe 9 = .ok (.getfield 10, 3) := by decide +kernel
theorem dX9_wipe_12 : decode cX9_wipe 12 = .ok (.invokevirtual 101, 3) := by decide +kernel
theorem dX9_wipe_15 : decode cX9_wipe 15 = .ok (.iload_n 1, 1) := by decide +kernel
theorem dX9_wipe_16 : decode cX9_wipe 16 = .ok (.ireturn, 1) := by decide +kernel
def F_X9_wipe (v_text_length : Int32) : Option (Int32 × Int32) := (F_X6_empty v_text_length).bind (fun q12 => some (v_text_length, q12))
theorem hdV_X9_wipe : yX9_wipe.cls = RX9 ∧ yX9_wipe.cls ≠ "java/lang/invoke/MethodHandle" ∧ yX9_wipe.cls ≠ "java/lang/invoke/VarHandle" ∧ (parseMethodDescriptor yX9_wipe.desc).map (fun d => d.parameters.length) = some 0 := by decide +kernel
set_option maxHeartbeats 4000000 in
set_option maxRecDepth 100000 in
theorem c_X9_wipe (l : Launch) (G : GG) (h_this : Nat) (ad_this : Nat → Nat) (ad_this_text : Nat → Nat) (v_keptCount : Int32) (v_text_length : Int32) (out : Int32 × Int32) (hF : F_X9_wipe v_text_length = some out) : CtrI l yX9_wipe (WS yX9_wipe cX9_wipe 2 (some .int)) { frames := 1, cells := 0, slots := 0, locals := 20 } G [.ref h_this] [(h_this, oX9 ad_this v_keptCount), ((ad_this 0), oX6 ad_this_text v_text_length)] [(h_this, oX9 ad_this v_keptCount), ((ad_this 0), oX6 ad_this_text out.2)] out.1 := by
  refine startI (cc := cX9_wipe) (maxL := 2) (by decide) rfl (Nat.le_of_ble_eq_true rfl) ?_
  intro p e s m args below meth c A Q hx hb hml hts hown hc hA hret ls H locs hl hW
  have hown : s.vm.findClass RX9 = some m.cls := hown
  have hg : ∀ w ∈ GOODS, w.before _ s = true := fun w h => hts w (List.mem_cons_of_mem _ h)
  have hl : lv_has ls 2 [(0, .ref h_this)] := hl
  rw [F_X9_wipe] at hF
  refine lv_aload_n hx hb dX9_wipe_0 rfl (lv_at hl 0 rfl) ?_
  refine va_get (D := G.1) (ci := 8) (v := .ref ((ad_this 0))) (C := RX9) (T := TX9) (N := 13) hx hb hg hu_X9 hown hc.1 hW.1 0 rfl rfl 0 (by decide) (hg _ wd_2_95) (fun _ h9 => h9) rfl dX9_wipe_1 ?_
  refine va_get (D := G.1) (ci := 5) (v := .int v_text_length) (C := RX6) (T := TX6) (N := 2) hx hb hg hu_X6 hown hc.1 hW.1 1 rfl rfl 1 (by decide) (hg _ wd_1_34) (fun _ h9 => h9) rfl dX9_wipe_4 ?_
  refine lv_istore_n (lv' := [(1, .int v_text_length), (0, .ref h_this)]) hx hb dX9_wipe_7 rfl hl (by decide) rfl (fun ls hl => ?_)
  refine lv_aload_n hx hb dX9_wipe_8 rfl (lv_at hl 1 rfl) ?_
  refine va_get (D := G.1) (ci := 8) (v := .ref ((ad_this 0))) (C := RX9) (T := TX9) (N := 13) hx hb hg hu_X9 hown hc.1 hW.1 0 rfl rfl 0 (by decide) (hg _ wd_2_95) (fun _ h9 => h9) rfl dX9_wipe_9 ?_
  obtain ⟨q12, c_12, hF⟩ := bd_el hF
  refine wcV (ws' := [(h_this, oX9 ad_this v_keptCount), ((ad_this 0), oX6 ad_this_text q12)]) (wc := [((ad_this 0), oX6 ad_this_text v_text_length)]) (wr := [(h_this, oX9 ad_this v_keptCount)]) (w1 := [((ad_this 0), oX6 ad_this_text q12)]) (va_runV (As := []) (rest := []) ⟨hx, hb, hml, hown, hg⟩ (c_X6_empty l G ((ad_this 0)) ad_this_text v_text_length q12 c_12 H.size) (cwV 0 hg (gV wd_2_91 wd_2_92 wd_2_93 wd_1_2 wd_2_94) rfl rfl rfl hdV_X6_empty ⟨(Nat.le_of_ble_eq_true rfl), (Nat.le_of_ble_eq_true rfl)⟩) (preV hc hW [1] rfl (by decide) rfl rfl) rfl rfl hl.1 rfl (lv_room (Nat.le_of_ble_eq_true rfl)) dX9_wipe_12 ⟨Nat.zero_le _, Nat.zero_le _⟩) hA hW [1] [0] [0, 1] rfl rfl (by decide) (by decide) rfl (by decide) (fun H locs hW => ?_)
  refine lv_iload_n hx hb dX9_wipe_15 rfl (lv_at hl 0 rfl) ?_
  obtain rfl := Option.some.inj hF
  exact hret _ _ _ _ hW dX9_wipe_16
theorem dX9_fault_0 : decode cX9_fault 0 = .ok (.aload_n 0, 1) := by decide +kernel
theorem dX9_fault_1 : decode cX9_fault 1 = .ok (.getfield 30, 3) := by decide +kernel
theorem dX9_fault_4 : decode cX9_fault 4 = .ok (.aload_n 0, 1) := by decide +kernel
theorem dX9_fault_5 : decode cX9_fault 5 = .ok (.getfield 10, 3) := by decide +kernel
theorem dX9_fault_8 : decode cX9_fault 8 = .ok (.aload_n 0, 1) := by decide +kernel
theorem dX9_fault_9 : decode cX9_fault 9 = .ok (.getfield 19, 3) := by decide +kernel
theorem dX9_fault_12 : decode cX9_fault 12 = .ok (.invokevirtual 97, 3) := by decide +kernel
theorem dX9_fault_15 : decode cX9_fault 15 = .ok (.ireturn, 1) := by decide +kernel
def F_X9_fault (v_draft_boatCount : Int32) (v_draft_boatDayCost : Int32) (v_draft_houseCount : Int32) (v_draft_signCount : Int32) (v_draft_turnCost : Int32) (v_draft_workCount : Int32) (a_draft_boatRoom : Nat → Int32) (a_draft_houseMinutes : Nat → Int32) (a_draft_housePeople : Nat → Int32) (a_draft_lighter : Nat → Int32) (a_draft_signNumbers : Nat → Int32) (a_draft_workGain : Nat → Int32) (a_draft_workNoise : Nat → Int32) (v_reader_end : Int32) (v_reader_letter : Int32) (v_reader_numberCount : Int32) (a_reader_numbers : Nat → Int32) (v_text_length : Int32) (a_text_letters : Nat → Int32) : Option (Int32 × Int32 × Int32 × Int32 × Int32 × Int32 × Int32 × (Nat → Int32) × (Nat → Int32) × (Nat → Int32) × (Nat → Int32) × (Nat → Int32) × (Nat → Int32) × (Nat → Int32) × Int32 × Int32 × Int32 × (Nat → Int32)) := (F_X8_readFrom v_draft_boatCount v_draft_boatDayCost v_draft_houseCount v_draft_signCount v_draft_turnCost v_draft_workCount v_text_length a_text_letters v_reader_end v_reader_letter v_reader_numberCount a_reader_numbers a_draft_boatRoom a_draft_houseMinutes a_draft_housePeople a_draft_lighter a_draft_signNumbers a_draft_workGain a_draft_workNoise).bind (fun q12 => some (q12.1, q12.2.1, q12.2.2.1, q12.2.2.2.1, q12.2.2.2.2.1, q12.2.2.2.2.2.1, q12.2.2.2.2.2.2.1, q12.2.2.2.2.2.2.2.2.2.2.2.1, q12.2.2.2.2.2.2.2.2.2.2.2.2.1, q12.2.2.2.2.2.2.2.2.2.2.2.2.2.1, q12.2.2.2.2.2.2.2.2.2.2.2.2.2.2.1, q12.2.2.2.2.2.2.2.2.2.2.2.2.2.2.2.1, q12.2.2.2.2.2.2.2.2.2.2.2.2.2.2.2.2.1, q12.2.2.2.2.2.2.2.2.2.2.2.2.2.2.2.2.2, q12.2.2.2.2.2.2.2.1, q12.2.2.2.2.2.2.2.2.1, q12.2.2.2.2.2.2.2.2.2.1, q12.2.2.2.2.2.2.2.2.2.2.1))
theorem hdV_X9_fault : yX9_fault.cls = RX9 ∧ yX9_fault.cls ≠ "java/lang/invoke/MethodHandle" ∧ yX9_fault.cls ≠ "java/lang/invoke/VarHandle" ∧ (parseMethodDescriptor yX9_fault.desc).map (fun d => d.parameters.length) = some 0 := by decide +kernel
set_option maxHeartbeats 4000000 in
set_option maxRecDepth 100000 in
theorem c_X9_fault (l : Launch) (G : GG) (h_this : Nat) (ad_this : Nat → Nat) (ad_this_draft : Nat → Nat) (ad_this_reader : Nat → Nat) (ad_this_text : Nat → Nat) (v_keptCount : Int32) (v_draft_signCount : Int32) (v_draft_houseCount : Int32) (v_draft_boatCount : Int32) (v_draft_workCount : Int32) (v_draft_turnCost : Int32) (v_draft_boatDayCost : Int32) (a_draft_boatRoom : Nat → Int32) (a_draft_houseMinutes : Nat → Int32) (a_draft_housePeople : Nat → Int32) (a_draft_lighter : Nat → Int32) (a_draft_signNumbers : Nat → Int32) (a_draft_workGain : Nat → Int32) (a_draft_workNoise : Nat → Int32) (v_reader_numberCount : Int32) (v_reader_letter : Int32) (v_reader_end : Int32) (a_reader_numbers : Nat → Int32) (v_text_length : Int32) (a_text_letters : Nat → Int32) (out : Int32 × Int32 × Int32 × Int32 × Int32 × Int32 × Int32 × (Nat → Int32) × (Nat → Int32) × (Nat → Int32) × (Nat → Int32) × (Nat → Int32) × (Nat → Int32) × (Nat → Int32) × Int32 × Int32 × Int32 × (Nat → Int32)) (hF : F_X9_fault v_draft_boatCount v_draft_boatDayCost v_draft_houseCount v_draft_signCount v_draft_turnCost v_draft_workCount a_draft_boatRoom a_draft_houseMinutes a_draft_housePeople a_draft_lighter a_draft_signNumbers a_draft_workGain a_draft_workNoise v_reader_end v_reader_letter v_reader_numberCount a_reader_numbers v_text_length a_text_letters = some out) : CtrI l yX9_fault (WS yX9_fault cX9_fault 1 (some .int)) { frames := 5, cells := 0, slots := 0, locals := 115 } G [.ref h_this] [(h_this, oX9 ad_this v_keptCount), ((ad_this 3), oX8 ad_this_draft v_draft_signCount v_draft_houseCount v_draft_boatCount v_draft_workCount v_draft_turnCost v_draft_boatDayCost), ((ad_this_draft 4), cI G 4 a_draft_boatRoom), ((ad_this_draft 3), cI G 6 a_draft_houseMinutes), ((ad_this_draft 2), cI G 6 a_draft_housePeople), ((ad_this_draft 0), cI G 3 a_draft_lighter), ((ad_this_draft 1), cI G 16 a_draft_signNumbers), ((ad_this_draft 6), cI G 5 a_draft_workGain), ((ad_this_draft 5), cI G 5 a_draft_workNoise), ((ad_this 1), oX3 ad_this_reader v_reader_numberCount v_reader_letter v_reader_end), ((ad_this_reader 0), cI G 4 a_reader_numbers), ((ad_this 0), oX6 ad_this_text v_text_length), ((ad_this_text 0), cI G 200 a_text_letters)] [(h_this, oX9 ad_this v_keptCount), ((ad_this 3), oX8 ad_this_draft out.2.2.2.2.1 out.2.2.2.1 out.2.1 out.2.2.2.2.2.2.1 out.2.2.2.2.2.1 out.2.2.1), ((ad_this_draft 4), cI G 4 out.2.2.2.2.2.2.2.1), ((ad_this_draft 3), cI G 6 out.2.2.2.2.2.2.2.2.1), ((ad_this_draft 2), cI G 6 out.2.2.2.2.2.2.2.2.2.1), ((ad_this_draft 0), cI G 3 out.2.2.2.2.2.2.2.2.2.2.1), ((ad_this_draft 1), cI G 16 out.2.2.2.2.2.2.2.2.2.2.2.1), ((ad_this_draft 6), cI G 5 out.2.2.2.2.2.2.2.2.2.2.2.2.1), ((ad_this_draft 5), cI G 5 out.2.2.2.2.2.2.2.2.2.2.2.2.2.1), ((ad_this 1), oX3 ad_this_reader out.2.2.2.2.2.2.2.2.2.2.2.2.2.2.2.2.1 out.2.2.2.2.2.2.2.2.2.2.2.2.2.2.2.1 out.2.2.2.2.2.2.2.2.2.2.2.2.2.2.1), ((ad_this_reader 0), cI G 4 out.2.2.2.2.2.2.2.2.2.2.2.2.2.2.2.2.2), ((ad_this 0), oX6 ad_this_text v_text_length), ((ad_this_text 0), cI G 200 a_text_letters)] out.1 := by
  refine startI (cc := cX9_fault) (maxL := 1) (by decide) rfl (Nat.le_of_ble_eq_true rfl) ?_
  intro p e s m args below meth c A Q hx hb hml hts hown hc hA hret ls H locs hl hW
  have hown : s.vm.findClass RX9 = some m.cls := hown
  have hg : ∀ w ∈ GOODS, w.before _ s = true := fun w h => hts w (List.mem_cons_of_mem _ h)
  have hl : lv_has ls 1 [(0, .ref h_this)] := hl
  rw [F_X9_fault] at hF
  refine lv_aload_n hx hb dX9_fault_0 rfl (lv_at hl 0 rfl) ?_
  refine va_get (D := G.1) (ci := 8) (v := .ref ((ad_this 3))) (C := RX9) (T := TX9) (N := 13) hx hb hg hu_X9 hown hc.1 hW.1 0 rfl rfl 3 (by decide) (hg _ wd_2_98) (fun _ h9 => h9) rfl dX9_fault_1 ?_
  refine lv_aload_n hx hb dX9_fault_4 rfl (lv_at hl 0 rfl) ?_
  refine va_get (D := G.1) (ci := 8) (v := .ref ((ad_this 0))) (C := RX9) (T := TX9) (N := 13) hx hb hg hu_X9 hown hc.1 hW.1 0 rfl rfl 0 (by decide) (hg _ wd_2_95) (fun _ h9 => h9) rfl dX9_fault_5 ?_
  refine lv_aload_n hx hb dX9_fault_8 rfl (lv_at hl 0 rfl) ?_
  refine va_get (D := G.1) (ci := 8) (v := .ref ((ad_this 1))) (C := RX9) (T := TX9) (N := 13) hx hb hg hu_X9 hown hc.1 hW.1 0 rfl rfl 1 (by decide) (hg _ wd_2_96) (fun _ h9 => h9) rfl dX9_fault_9 ?_
  obtain ⟨q12, c_12, hF⟩ := bd_el hF
  refine wcI (ws' := [(h_this, oX9 ad_this v_keptCount), ((ad_this 3), oX8 ad_this_draft q12.2.2.2.2.1 q12.2.2.2.1 q12.2.1 q12.2.2.2.2.2.2.1 q12.2.2.2.2.2.1 q12.2.2.1), ((ad_this_draft 4), cI G 4 q12.2.2.2.2.2.2.2.2.2.2.2.1), ((ad_this_draft 3), cI G 6 q12.2.2.2.2.2.2.2.2.2.2.2.2.1), ((ad_this_draft 2), cI G 6 q12.2.2.2.2.2.2.2.2.2.2.2.2.2.1), ((ad_this_draft 0), cI G 3 q12.2.2.2.2.2.2.2.2.2.2.2.2.2.2.1), ((ad_this_draft 1), cI G 16 q12.2.2.2.2.2.2.2.2.2.2.2.2.2.2.2.1), ((ad_this_draft 6), cI G 5 q12.2.2.2.2.2.2.2.2.2.2.2.2.2.2.2.2.1), ((ad_this_draft 5), cI G 5 q12.2.2.2.2.2.2.2.2.2.2.2.2.2.2.2.2.2), ((ad_this 1), oX3 ad_this_reader q12.2.2.2.2.2.2.2.2.2.1 q12.2.2.2.2.2.2.2.2.1 q12.2.2.2.2.2.2.2.1), ((ad_this_reader 0), cI G 4 q12.2.2.2.2.2.2.2.2.2.2.1), ((ad_this 0), oX6 ad_this_text v_text_length), ((ad_this_text 0), cI G 200 a_text_letters)]) (wc := [((ad_this 3), oX8 ad_this_draft v_draft_signCount v_draft_houseCount v_draft_boatCount v_draft_workCount v_draft_turnCost v_draft_boatDayCost), ((ad_this 0), oX6 ad_this_text v_text_length), ((ad_this_text 0), cI G 200 a_text_letters), ((ad_this 1), oX3 ad_this_reader v_reader_numberCount v_reader_letter v_reader_end), ((ad_this_reader 0), cI G 4 a_reader_numbers), ((ad_this_draft 4), cI G 4 a_draft_boatRoom), ((ad_this_draft 3), cI G 6 a_draft_houseMinutes), ((ad_this_draft 2), cI G 6 a_draft_housePeople), ((ad_this_draft 0), cI G 3 a_draft_lighter), ((ad_this_draft 1), cI G 16 a_draft_signNumbers), ((ad_this_draft 6), cI G 5 a_draft_workGain), ((ad_this_draft 5), cI G 5 a_draft_workNoise)]) (wr := [(h_this, oX9 ad_this v_keptCount)]) (w1 := [((ad_this 3), oX8 ad_this_draft q12.2.2.2.2.1 q12.2.2.2.1 q12.2.1 q12.2.2.2.2.2.2.1 q12.2.2.2.2.2.1 q12.2.2.1), ((ad_this 0), oX6 ad_this_text v_text_length), ((ad_this_text 0), cI G 200 a_text_letters), ((ad_this 1), oX3 ad_this_reader q12.2.2.2.2.2.2.2.2.2.1 q12.2.2.2.2.2.2.2.2.1 q12.2.2.2.2.2.2.2.1), ((ad_this_reader 0), cI G 4 q12.2.2.2.2.2.2.2.2.2.2.1), ((ad_this_draft 4), cI G 4 q12.2.2.2.2.2.2.2.2.2.2.2.1), ((ad_this_draft 3), cI G 6 q12.2.2.2.2.2.2.2.2.2.2.2.2.1), ((ad_this_draft 2), cI G 6 q12.2.2.2.2.2.2.2.2.2.2.2.2.2.1), ((ad_this_draft 0), cI G 3 q12.2.2.2.2.2.2.2.2.2.2.2.2.2.2.1), ((ad_this_draft 1), cI G 16 q12.2.2.2.2.2.2.2.2.2.2.2.2.2.2.2.1), ((ad_this_draft 6), cI G 5 q12.2.2.2.2.2.2.2.2.2.2.2.2.2.2.2.2.1), ((ad_this_draft 5), cI G 5 q12.2.2.2.2.2.2.2.2.2.2.2.2.2.2.2.2.2)]) (va_runV (As := [.ref ((ad_this 0)), .ref ((ad_this 1))]) (rest := []) ⟨hx, hb, hml, hown, hg⟩ (c_X8_readFrom l G ((ad_this 3)) ((ad_this 0)) ((ad_this 1)) ad_this_draft ad_this_text ad_this_reader v_draft_signCount v_draft_houseCount v_draft_boatCount v_draft_workCount v_draft_turnCost v_draft_boatDayCost v_text_length a_text_letters v_reader_numberCount v_reader_letter v_reader_end a_reader_numbers a_draft_boatRoom a_draft_houseMinutes a_draft_housePeople a_draft_lighter a_draft_signNumbers a_draft_workGain a_draft_workNoise q12 c_12 H.size) (cwV 2 hg (gV wd_2_19 wd_2_20 wd_2_21 wd_1_4 wd_2_22) rfl rfl rfl hdV_X8_readFrom ⟨(Nat.le_of_ble_eq_true rfl), (Nat.le_of_ble_eq_true rfl)⟩) (preV hc hW [1, 11, 12, 9, 10, 2, 3, 4, 5, 6, 7, 8] rfl (by decide) rfl rfl) rfl rfl hl.1 rfl (lv_room (Nat.le_of_ble_eq_true rfl)) dX9_fault_12 ⟨Nat.zero_le _, Nat.zero_le _⟩) hA hW [1, 11, 12, 9, 10, 2, 3, 4, 5, 6, 7, 8] [0] [0, 1, 6, 7, 8, 9, 10, 11, 12, 4, 5, 2, 3] rfl rfl (by decide) (by decide) rfl (by decide) (fun H locs hW => ?_)
  obtain rfl := Option.some.inj hF
  exact hret _ _ _ _ hW dX9_fault_15
theorem dX9_sign_0 : decode cX9_sign 0 = .ok (.iload_n 1, 1) := by decide +kernel
theorem dX9_sign_1 : decode cX9_sign 1 = .ok (.iconst 0, 1) := by decide +kernel
theorem dX9_sign_2 : decode cX9_sign 2 = .ok (.aload_n 0, 1) := by decide +kernel
theorem dX9_sign_3 : decode cX9_sign 3 = .ok (.getfield 26, 3) := by decide +kernel
theorem dX9_sign_6 : decode cX9_sign 6 = .ok (.getfield 110, 3) := by decide +kernel
theorem dX9_sign_9 : decode cX9_sign 9 = .ok (.iconst 1, 1) := by decide +kernel
theorem dX9_sign_10 : decode cX9_sign 10 = .ok (.isub, 1) := by decide +kernel
theorem dX9_sign_11 : decode cX9_sign 11 = .ok (.invokestatic 104, 3) := by decide +kernel
theorem dX9_sign_14 : decode cX9_sign 14 = .ok (.ifCond .eq 12, 3) := by decide +kernel
theorem dX9_sign_17 : decode cX9_sign 17 = .ok (.iload_n 2, 1) := by decide +kernel
theorem dX9_sign_18 : decode cX9_sign 18 = .ok (.iconst 0, 1) := by decide +kernel
theorem dX9_sign_19 : decode cX9_sign 19 = .ok (.iconst 3, 1) := by decide +kernel
theorem dX9_sign_20 : decode cX9_sign 20 = .ok (.invokestatic 104, 3) := by decide +kernel
theorem dX9_sign_23 : decode cX9_sign 23 = .ok (.ifCond .ne 5, 3) := by decide +kernel
theorem dX9_sign_26 : decode cX9_sign 26 = .ok (.iconst (-1), 1) := by decide +kernel
theorem dX9_sign_27 : decode cX9_sign 27 = .ok (.ireturn, 1) := by decide +kernel
theorem dX9_sign_28 : decode cX9_sign 28 = .ok (.aload_n 0, 1) := by decide +kernel
theorem dX9_sign_29 : decode cX9_sign 29 = .ok (.getfield 26, 3) := by decide +kernel
theorem dX9_sign_32 : decode cX9_sign 32 = .ok (.iload_n 1, 1) := by decide +kernel
theorem dX9_sign_33 : decode cX9_sign 33 = .ok (.iload_n 2, 1) := by decide +kernel
theorem dX9_sign_34 : decode cX9_sign 34 = .ok (.invokevirtual 119, 3) := by decide +kernel
theorem dX9_sign_37 : decode cX9_sign 37 = .ok (.ireturn, 1) := by decide +kernel
def F_X9_sign (x1 : Int32) (x2 : Int32) (v_town_signCount : Int32) (a_town_signNumbers : Nat → Int32) : Option (Int32) := (F_X9_isWithin x1 0 ((v_town_signCount - 1))).bind (fun q11 => (if q11 = 0 then some ((-1)) else (F_X9_isWithin x2 0 3).bind (fun q20 => (if q20 = 0 then some ((-1)) else (F_X8_signNumber x1 x2 a_town_signNumbers).bind (fun q34 => some (q34))))))
theorem hdV_X9_sign : yX9_sign.cls = RX9 ∧ yX9_sign.cls ≠ "java/lang/invoke/MethodHandle" ∧ yX9_sign.cls ≠ "java/lang/invoke/VarHandle" ∧ (parseMethodDescriptor yX9_sign.desc).map (fun d => d.parameters.length) = some 2 := by decide +kernel
set_option maxHeartbeats 4000000 in
set_option maxRecDepth 100000 in
theorem c_X9_sign (l : Launch) (G : GG) (x1 : Int32) (x2 : Int32) (h_this : Nat) (ad_this : Nat → Nat) (ad_this_town : Nat → Nat) (v_keptCount : Int32) (v_town_signCount : Int32) (v_town_houseCount : Int32) (v_town_boatCount : Int32) (v_town_workCount : Int32) (v_town_turnCost : Int32) (v_town_boatDayCost : Int32) (a_town_signNumbers : Nat → Int32) (out : Int32) (hF : F_X9_sign x1 x2 v_town_signCount a_town_signNumbers = some out) : CtrI l yX9_sign (WS yX9_sign cX9_sign 3 (some .int)) { frames := 2, cells := 0, slots := 0, locals := 43 } G [.ref h_this, .int x1, .int x2] [(h_this, oX9 ad_this v_keptCount), ((ad_this 2), oX8 ad_this_town v_town_signCount v_town_houseCount v_town_boatCount v_town_workCount v_town_turnCost v_town_boatDayCost), ((ad_this_town 1), cI G 16 a_town_signNumbers)] [(h_this, oX9 ad_this v_keptCount), ((ad_this 2), oX8 ad_this_town v_town_signCount v_town_houseCount v_town_boatCount v_town_workCount v_town_turnCost v_town_boatDayCost), ((ad_this_town 1), cI G 16 a_town_signNumbers)] out := by
  refine startI (cc := cX9_sign) (maxL := 3) (by decide) rfl (Nat.le_of_ble_eq_true rfl) ?_
  intro p e s m args below meth c A Q hx hb hml hts hown hc hA hret ls H locs hl hW
  have hown : s.vm.findClass RX9 = some m.cls := hown
  have hg : ∀ w ∈ GOODS, w.before _ s = true := fun w h => hts w (List.mem_cons_of_mem _ h)
  have hl : lv_has ls 3 [(0, .ref h_this), (1, .int x1), (2, .int x2)] := hl
  rw [F_X9_sign] at hF
  refine lv_iload_n hx hb dX9_sign_0 rfl (lv_at hl 1 rfl) ?_
  refine lv_iconst (v := 0) hx hb dX9_sign_1 (by decide) ?_
  refine lv_aload_n hx hb dX9_sign_2 rfl (lv_at hl 0 rfl) ?_
  refine va_get (D := G.1) (ci := 8) (v := .ref ((ad_this 2))) (C := RX9) (T := TX9) (N := 13) hx hb hg hu_X9 hown hc.1 hW.1 0 rfl rfl 2 (by decide) (hg _ wd_2_97) (fun _ h9 => h9) rfl dX9_sign_3 ?_
  refine va_get (D := G.1) (ci := 7) (v := .int v_town_signCount) (C := RX8) (T := TX8) (N := 13) hx hb hg hu_X8 hown hc.1 hW.1 1 rfl rfl 7 (by decide) (hg _ wd_1_77) (fun _ h9 => h9) rfl dX9_sign_6 ?_
  refine lv_iconst (v := 1) hx hb dX9_sign_9 (by decide) ?_
  refine lv_isub hx hb dX9_sign_10 ?_
  obtain ⟨q11, c_11, hF⟩ := bd_el hF
  refine wcZ (ws' := [(h_this, oX9 ad_this v_keptCount), ((ad_this 2), oX8 ad_this_town v_town_signCount v_town_houseCount v_town_boatCount v_town_workCount v_town_turnCost v_town_boatDayCost), ((ad_this_town 1), cI G 16 a_town_signNumbers)]) (wc := []) (wr := [(h_this, oX9 ad_this v_keptCount), ((ad_this 2), oX8 ad_this_town v_town_signCount v_town_houseCount v_town_boatCount v_town_workCount v_town_turnCost v_town_boatDayCost), ((ad_this_town 1), cI G 16 a_town_signNumbers)]) (w1 := []) (va_runS (As := [.int x1, .int 0, .int ((v_town_signCount - 1))]) (rest := []) ⟨hx, hb, hml, hown, hg⟩ (c_X9_isWithin l G x1 0 ((v_town_signCount - 1)) q11 c_11 H.size) (va_cwS 3 hg (gS wd_2_140 wd_2_47 wd_1_1 wd_2_48) rfl rfl rfl hdS_X9_isWithin ⟨(Nat.le_of_ble_eq_true rfl), (Nat.le_of_ble_eq_true rfl)⟩) (preS hc hW [] rfl (by decide)) rfl rfl hl.1 rfl (lv_room (Nat.le_of_ble_eq_true rfl)) dX9_sign_11 ⟨Nat.zero_le _, Nat.zero_le _⟩) hA hW [] [0, 1, 2] [0, 1, 2] rfl rfl (by decide) (by decide) rfl (by decide) (fun z_11 H locs hW => ?_)
  refine lv_if_eq (tgt := 26) hx hb dX9_sign_14 (by decide) (fun c_14 => ?_) (fun c_14 => ?_)
  · have hF := ite_t hF c_14
    refine lv_iconst (v := (-1)) hx hb dX9_sign_26 (by decide) ?_
    obtain rfl := Option.some.inj hF
    exact hret _ _ _ _ hW dX9_sign_27
  · have hF := ite_f hF c_14
    refine lv_iload_n hx hb dX9_sign_17 rfl (lv_at hl 2 rfl) ?_
    refine lv_iconst (v := 0) hx hb dX9_sign_18 (by decide) ?_
    refine lv_iconst (v := 3) hx hb dX9_sign_19 (by decide) ?_
    obtain ⟨q20, c_20, hF⟩ := bd_el hF
    refine wcZ (ws' := [(h_this, oX9 ad_this v_keptCount), ((ad_this 2), oX8 ad_this_town v_town_signCount v_town_houseCount v_town_boatCount v_town_workCount v_town_turnCost v_town_boatDayCost), ((ad_this_town 1), cI G 16 a_town_signNumbers)]) (wc := []) (wr := [(h_this, oX9 ad_this v_keptCount), ((ad_this 2), oX8 ad_this_town v_town_signCount v_town_houseCount v_town_boatCount v_town_workCount v_town_turnCost v_town_boatDayCost), ((ad_this_town 1), cI G 16 a_town_signNumbers)]) (w1 := []) (va_runS (As := [.int x2, .int 0, .int 3]) (rest := []) ⟨hx, hb, hml, hown, hg⟩ (c_X9_isWithin l G x2 0 3 q20 c_20 H.size) (va_cwS 3 hg (gS wd_2_140 wd_2_47 wd_1_1 wd_2_48) rfl rfl rfl hdS_X9_isWithin ⟨(Nat.le_of_ble_eq_true rfl), (Nat.le_of_ble_eq_true rfl)⟩) (preS hc hW [] rfl (by decide)) rfl rfl hl.1 rfl (lv_room (Nat.le_of_ble_eq_true rfl)) dX9_sign_20 ⟨Nat.zero_le _, Nat.zero_le _⟩) hA hW [] [0, 1, 2] [0, 1, 2] rfl rfl (by decide) (by decide) rfl (by decide) (fun z_20 H locs hW => ?_)
    refine lv_if_ne (tgt := 28) hx hb dX9_sign_23 (by decide) (fun c_23 => ?_) (fun c_23 => ?_)
    · have hF := ite_f hF c_23
      refine lv_aload_n hx hb dX9_sign_28 rfl (lv_at hl 0 rfl) ?_
      refine va_get (D := G.1) (ci := 8) (v := .ref ((ad_this 2))) (C := RX9) (T := TX9) (N := 13) hx hb hg hu_X9 hown hc.1 hW.1 0 rfl rfl 2 (by decide) (hg _ wd_2_97) (fun _ h9 => h9) rfl dX9_sign_29 ?_
      refine lv_iload_n hx hb dX9_sign_32 rfl (lv_at hl 1 rfl) ?_
      refine lv_iload_n hx hb dX9_sign_33 rfl (lv_at hl 2 rfl) ?_
      obtain ⟨q34, c_34, hF⟩ := bd_el hF
      refine wcI (ws' := [(h_this, oX9 ad_this v_keptCount), ((ad_this 2), oX8 ad_this_town v_town_signCount v_town_houseCount v_town_boatCount v_town_workCount v_town_turnCost v_town_boatDayCost), ((ad_this_town 1), cI G 16 a_town_signNumbers)]) (wc := [((ad_this 2), oX8 ad_this_town v_town_signCount v_town_houseCount v_town_boatCount v_town_workCount v_town_turnCost v_town_boatDayCost), ((ad_this_town 1), cI G 16 a_town_signNumbers)]) (wr := [(h_this, oX9 ad_this v_keptCount)]) (w1 := [((ad_this 2), oX8 ad_this_town v_town_signCount v_town_houseCount v_town_boatCount v_town_workCount v_town_turnCost v_town_boatDayCost), ((ad_this_town 1), cI G 16 a_town_signNumbers)]) (va_runV (As := [.int x1, .int x2]) (rest := []) ⟨hx, hb, hml, hown, hg⟩ (c_X8_signNumber l G x1 x2 ((ad_this 2)) ad_this_town v_town_signCount v_town_houseCount v_town_boatCount v_town_workCount v_town_turnCost v_town_boatDayCost a_town_signNumbers q34 c_34 H.size) (cwV 2 hg (gV wd_2_157 wd_2_158 wd_2_159 wd_1_4 wd_2_160) rfl rfl rfl hdV_X8_signNumber ⟨(Nat.le_of_ble_eq_true rfl), (Nat.le_of_ble_eq_true rfl)⟩) (preV hc hW [1, 2] rfl (by decide) rfl rfl) rfl rfl hl.1 rfl (lv_room (Nat.le_of_ble_eq_true rfl)) dX9_sign_34 ⟨Nat.zero_le _, Nat.zero_le _⟩) hA hW [1, 2] [0] [0, 1, 2] rfl rfl (by decide) (by decide) rfl (by decide) (fun H locs hW => ?_)
      obtain rfl := Option.some.inj hF
      exact hret _ _ _ _ hW dX9_sign_37
    · have hF := ite_t hF c_23
      refine lv_iconst (v := (-1)) hx hb dX9_sign_26 (by decide) ?_
      obtain rfl := Option.some.inj hF
      exact hret _ _ _ _ hW dX9_sign_27
theorem dX9_works_0 : decode cX9_works 0 = .ok (.iload_n 1, 1) := by decide +kernel
theorem dX9_works_1 : decode cX9_works 1 = .ok (.aload_n 0, 1) := by decide +kernel
theorem dX9_works_2 : decode cX9_works 2 = .ok (.getfield 26, 3) := by decide +kernel
theorem dX9_works_5 : decode cX9_works 5 = .ok (.getfield 123, 3) := by decide +kernel
theorem dX9_works_8 : decode cX9_works 8 = .ok (.invokestatic 126, 3) := by decide +kernel
theorem dX9_works_11 : decode cX9_works 11 = .ok (.ifCond .eq 12, 3) := by decide +kernel
theorem dX9_works_14 : decode cX9_works 14 = .ok (.iload_n 2, 1) := by decide +kernel
theorem dX9_works_15 : decode cX9_works 15 = .ok (.iconst 0, 1) := by decide +kernel
theorem dX9_works_16 : decode cX9_works 16 = .ok (.iconst 1, 1) := by decide +kernel
theorem dX9_works_17 : decode cX9_works 17 = .ok (.invokestatic 104, 3) := by decide +kernel
theorem dX9_works_20 : decode cX9_works 20 = .ok (.ifCond .ne 5, 3) := by decide +kernel
theorem dX9_works_23 : decode cX9_works 23 = .ok (.iconst (-1), 1) := by decide +kernel
theorem dX9_works_24 : decode cX9_works 24 = .ok (.ireturn, 1) := by decide +kernel
theorem dX9_works_25 : decode cX9_works 25 = .ok (.iload_n 2, 1) := by decide +kernel
theorem dX9_works_26 : decode cX9_works 26 = .ok (.ifCond .ne 14, 3) := by decide +kernel
theorem dX9_works_29 : decode cX9_works 29 = .ok (.aload_n 0, 1) := by decide +kernel
theorem dX9_works_30 : decode cX9_works 30 = .ok (.getfield 26, 3) := by decide +kernel
theorem dX9_works_33 : decode cX9_works 33 = .ok (.iload_n 1, 1) := by decide +kernel
theorem dX9_works_34 : decode cX9_works 34 = .ok (.invokevirtual 130, 3) := by decide +kernel
theorem dX9_works_37 : decode cX9_works 37 = .ok (.goto 11, 3) := by decide +kernel
theorem dX9_works_40 : decode cX9_works 40 = .ok (.aload_n 0, 1) := by decide +kernel
theorem dX9_works_41 : decode cX9_works 41 = .ok (.getfield 26, 3) := by decide +kernel
theorem dX9_works_44 : decode cX9_works 44 = .ok (.iload_n 1, 1) := by decide +kernel
theorem dX9_works_45 : decode cX9_works 45 = .ok (.invokevirtual 134, 3) := by decide +kernel
theorem dX9_works_48 : decode cX9_works 48 = .ok (.ireturn, 1) := by decide +kernel
def F_X9_works (x1 : Int32) (x2 : Int32) (v_town_workCount : Int32) (a_town_workGain : Nat → Int32) (a_town_workNoise : Nat → Int32) : Option (Int32) := (F_X9_isSet x1 v_town_workCount).bind (fun q8 => (if q8 = 0 then some ((-1)) else (F_X9_isWithin x2 0 1).bind (fun q17 => (if q17 = 0 then some ((-1)) else (if x2 = 0 then (F_X8_noiseOf x1 v_town_workCount a_town_workNoise).bind (fun q34 => some (q34)) else (F_X8_gainOf x1 v_town_workCount a_town_workGain).bind (fun q45 => some (q45)))))))
theorem hdV_X9_works : yX9_works.cls = RX9 ∧ yX9_works.cls ≠ "java/lang/invoke/MethodHandle" ∧ yX9_works.cls ≠ "java/lang/invoke/VarHandle" ∧ (parseMethodDescriptor yX9_works.desc).map (fun d => d.parameters.length) = some 2 := by decide +kernel
set_option maxHeartbeats 4000000 in
set_option maxRecDepth 100000 in
theorem c_X9_works (l : Launch) (G : GG) (x1 : Int32) (x2 : Int32) (h_this : Nat) (ad_this : Nat → Nat) (ad_this_town : Nat → Nat) (v_keptCount : Int32) (v_town_signCount : Int32) (v_town_houseCount : Int32) (v_town_boatCount : Int32) (v_town_workCount : Int32) (v_town_turnCost : Int32) (v_town_boatDayCost : Int32) (a_town_workGain : Nat → Int32) (a_town_workNoise : Nat → Int32) (out : Int32) (hF : F_X9_works x1 x2 v_town_workCount a_town_workGain a_town_workNoise = some out) : CtrI l yX9_works (WS yX9_works cX9_works 3 (some .int)) { frames := 3, cells := 0, slots := 0, locals := 66 } G [.ref h_this, .int x1, .int x2] [(h_this, oX9 ad_this v_keptCount), ((ad_this 2), oX8 ad_this_town v_town_signCount v_town_houseCount v_town_boatCount v_town_workCount v_town_turnCost v_town_boatDayCost), ((ad_this_town 6), cI G 5 a_town_workGain), ((ad_this_town 5), cI G 5 a_town_workNoise)] [(h_this, oX9 ad_this v_keptCount), ((ad_this 2), oX8 ad_this_town v_town_signCount v_town_houseCount v_town_boatCount v_town_workCount v_town_turnCost v_town_boatDayCost), ((ad_this_town 6), cI G 5 a_town_workGain), ((ad_this_town 5), cI G 5 a_town_workNoise)] out := by
  refine startI (cc := cX9_works) (maxL := 3) (by decide) rfl (Nat.le_of_ble_eq_true rfl) ?_
  intro p e s m args below meth c A Q hx hb hml hts hown hc hA hret ls H locs hl hW
  have hown : s.vm.findClass RX9 = some m.cls := hown
  have hg : ∀ w ∈ GOODS, w.before _ s = true := fun w h => hts w (List.mem_cons_of_mem _ h)
  have hl : lv_has ls 3 [(0, .ref h_this), (1, .int x1), (2, .int x2)] := hl
  rw [F_X9_works] at hF
  refine lv_iload_n hx hb dX9_works_0 rfl (lv_at hl 1 rfl) ?_
  refine lv_aload_n hx hb dX9_works_1 rfl (lv_at hl 0 rfl) ?_
  refine va_get (D := G.1) (ci := 8) (v := .ref ((ad_this 2))) (C := RX9) (T := TX9) (N := 13) hx hb hg hu_X9 hown hc.1 hW.1 0 rfl rfl 2 (by decide) (hg _ wd_2_97) (fun _ h9 => h9) rfl dX9_works_2 ?_
  refine va_get (D := G.1) (ci := 7) (v := .int v_town_workCount) (C := RX8) (T := TX8) (N := 13) hx hb hg hu_X8 hown hc.1 hW.1 1 rfl rfl 10 (by decide) (hg _ wd_1_85) (fun _ h9 => h9) rfl dX9_works_5 ?_
  obtain ⟨q8, c_8, hF⟩ := bd_el hF
  refine wcZ (ws' := [(h_this, oX9 ad_this v_keptCount), ((ad_this 2), oX8 ad_this_town v_town_signCount v_town_houseCount v_town_boatCount v_town_workCount v_town_turnCost v_town_boatDayCost), ((ad_this_town 6), cI G 5 a_town_workGain), ((ad_this_town 5), cI G 5 a_town_workNoise)]) (wc := []) (wr := [(h_this, oX9 ad_this v_keptCount), ((ad_this 2), oX8 ad_this_town v_town_signCount v_town_houseCount v_town_boatCount v_town_workCount v_town_turnCost v_town_boatDayCost), ((ad_this_town 6), cI G 5 a_town_workGain), ((ad_this_town 5), cI G 5 a_town_workNoise)]) (w1 := []) (va_runS (As := [.int x1, .int v_town_workCount]) (rest := []) ⟨hx, hb, hml, hown, hg⟩ (c_X9_isSet l G x1 v_town_workCount q8 c_8 H.size) (va_cwS 2 hg (gS wd_2_166 wd_2_167 wd_1_1 wd_2_168) rfl rfl rfl hdS_X9_isSet ⟨(Nat.le_of_ble_eq_true rfl), (Nat.le_of_ble_eq_true rfl)⟩) (preS hc hW [] rfl (by decide)) rfl rfl hl.1 rfl (lv_room (Nat.le_of_ble_eq_true rfl)) dX9_works_8 ⟨Nat.zero_le _, Nat.zero_le _⟩) hA hW [] [0, 1, 2, 3] [0, 1, 2, 3] rfl rfl (by decide) (by decide) rfl (by decide) (fun z_8 H locs hW => ?_)
  refine lv_if_eq (tgt := 23) hx hb dX9_works_11 (by decide) (fun c_11 => ?_) (fun c_11 => ?_)
  · have hF := ite_t hF c_11
    refine lv_iconst (v := (-1)) hx hb dX9_works_23 (by decide) ?_
    obtain rfl := Option.some.inj hF
    exact hret _ _ _ _ hW dX9_works_24
  · have hF := ite_f hF c_11
    refine lv_iload_n hx hb dX9_works_14 rfl (lv_at hl 2 rfl) ?_
    refine lv_iconst (v := 0) hx hb dX9_works_15 (by decide) ?_
    refine lv_iconst (v := 1) hx hb dX9_works_16 (by decide) ?_
    obtain ⟨q17, c_17, hF⟩ := bd_el hF
    refine wcZ (ws' := [(h_this, oX9 ad_this v_keptCount), ((ad_this 2), oX8 ad_this_town v_town_signCount v_town_houseCount v_town_boatCount v_town_workCount v_town_turnCost v_town_boatDayCost), ((ad_this_town 6), cI G 5 a_town_workGain), ((ad_this_town 5), cI G 5 a_town_workNoise)]) (wc := []) (wr := [(h_this, oX9 ad_this v_keptCount), ((ad_this 2), oX8 ad_this_town v_town_signCount v_town_houseCount v_town_boatCount v_town_workCount v_town_turnCost v_town_boatDayCost), ((ad_this_town 6), cI G 5 a_town_workGain), ((ad_this_town 5), cI G 5 a_town_workNoise)]) (w1 := []) (va_runS (As := [.int x2, .int 0, .int 1]) (rest := []) ⟨hx, hb, hml, hown, hg⟩ (c_X9_isWithin l G x2 0 1 q17 c_17 H.size) (va_cwS 3 hg (gS wd_2_140 wd_2_47 wd_1_1 wd_2_48) rfl rfl rfl hdS_X9_isWithin ⟨(Nat.le_of_ble_eq_true rfl), (Nat.le_of_ble_eq_true rfl)⟩) (preS hc hW [] rfl (by decide)) rfl rfl hl.1 rfl (lv_room (Nat.le_of_ble_eq_true rfl)) dX9_works_17 ⟨Nat.zero_le _, Nat.zero_le _⟩) hA hW [] [0, 1, 2, 3] [0, 1, 2, 3] rfl rfl (by decide) (by decide) rfl (by decide) (fun z_17 H locs hW => ?_)
    refine lv_if_ne (tgt := 25) hx hb dX9_works_20 (by decide) (fun c_20 => ?_) (fun c_20 => ?_)
    · have hF := ite_f hF c_20
      refine lv_iload_n hx hb dX9_works_25 rfl (lv_at hl 2 rfl) ?_
      refine lv_if_ne (tgt := 40) hx hb dX9_works_26 (by decide) (fun c_26 => ?_) (fun c_26 => ?_)
      · have hF := ite_f hF c_26
        refine lv_aload_n hx hb dX9_works_40 rfl (lv_at hl 0 rfl) ?_
        refine va_get (D := G.1) (ci := 8) (v := .ref ((ad_this 2))) (C := RX9) (T := TX9) (N := 13) hx hb hg hu_X9 hown hc.1 hW.1 0 rfl rfl 2 (by decide) (hg _ wd_2_97) (fun _ h9 => h9) rfl dX9_works_41 ?_
        refine lv_iload_n hx hb dX9_works_44 rfl (lv_at hl 1 rfl) ?_
        obtain ⟨q45, c_45, hF⟩ := bd_el hF
        refine wcI (ws' := [(h_this, oX9 ad_this v_keptCount), ((ad_this 2), oX8 ad_this_town v_town_signCount v_town_houseCount v_town_boatCount v_town_workCount v_town_turnCost v_town_boatDayCost), ((ad_this_town 6), cI G 5 a_town_workGain), ((ad_this_town 5), cI G 5 a_town_workNoise)]) (wc := [((ad_this 2), oX8 ad_this_town v_town_signCount v_town_houseCount v_town_boatCount v_town_workCount v_town_turnCost v_town_boatDayCost), ((ad_this_town 6), cI G 5 a_town_workGain)]) (wr := [(h_this, oX9 ad_this v_keptCount), ((ad_this_town 5), cI G 5 a_town_workNoise)]) (w1 := [((ad_this 2), oX8 ad_this_town v_town_signCount v_town_houseCount v_town_boatCount v_town_workCount v_town_turnCost v_town_boatDayCost), ((ad_this_town 6), cI G 5 a_town_workGain)]) (va_runV (As := [.int x1]) (rest := []) ⟨hx, hb, hml, hown, hg⟩ (c_X8_gainOf l G x1 ((ad_this 2)) ad_this_town v_town_signCount v_town_houseCount v_town_boatCount v_town_workCount v_town_turnCost v_town_boatDayCost a_town_workGain q45 c_45 H.size) (cwV 1 hg (gV wd_2_182 wd_2_183 wd_2_184 wd_1_4 wd_2_185) rfl rfl rfl hdV_X8_gainOf ⟨(Nat.le_of_ble_eq_true rfl), (Nat.le_of_ble_eq_true rfl)⟩) (preV hc hW [1, 2] rfl (by decide) rfl rfl) rfl rfl hl.1 rfl (lv_room (Nat.le_of_ble_eq_true rfl)) dX9_works_45 ⟨Nat.zero_le _, Nat.zero_le _⟩) hA hW [1, 2] [0, 3] [0, 2, 3, 1] rfl rfl (by decide) (by decide) rfl (by decide) (fun H locs hW => ?_)
        obtain rfl := Option.some.inj hF
        exact hret _ _ _ _ hW dX9_works_48
      · have hF := ite_t hF c_26
        refine lv_aload_n hx hb dX9_works_29 rfl (lv_at hl 0 rfl) ?_
        refine va_get (D := G.1) (ci := 8) (v := .ref ((ad_this 2))) (C := RX9) (T := TX9) (N := 13) hx hb hg hu_X9 hown hc.1 hW.1 0 rfl rfl 2 (by decide) (hg _ wd_2_97) (fun _ h9 => h9) rfl dX9_works_30 ?_
        refine lv_iload_n hx hb dX9_works_33 rfl (lv_at hl 1 rfl) ?_
        obtain ⟨q34, c_34, hF⟩ := bd_el hF
        refine wcI (ws' := [(h_this, oX9 ad_this v_keptCount), ((ad_this 2), oX8 ad_this_town v_town_signCount v_town_houseCount v_town_boatCount v_town_workCount v_town_turnCost v_town_boatDayCost), ((ad_this_town 6), cI G 5 a_town_workGain), ((ad_this_town 5), cI G 5 a_town_workNoise)]) (wc := [((ad_this 2), oX8 ad_this_town v_town_signCount v_town_houseCount v_town_boatCount v_town_workCount v_town_turnCost v_town_boatDayCost), ((ad_this_town 5), cI G 5 a_town_workNoise)]) (wr := [(h_this, oX9 ad_this v_keptCount), ((ad_this_town 6), cI G 5 a_town_workGain)]) (w1 := [((ad_this 2), oX8 ad_this_town v_town_signCount v_town_houseCount v_town_boatCount v_town_workCount v_town_turnCost v_town_boatDayCost), ((ad_this_town 5), cI G 5 a_town_workNoise)]) (va_runV (As := [.int x1]) (rest := []) ⟨hx, hb, hml, hown, hg⟩ (c_X8_noiseOf l G x1 ((ad_this 2)) ad_this_town v_town_signCount v_town_houseCount v_town_boatCount v_town_workCount v_town_turnCost v_town_boatDayCost a_town_workNoise q34 c_34 H.size) (cwV 1 hg (gV wd_2_172 wd_2_173 wd_2_174 wd_1_4 wd_2_175) rfl rfl rfl hdV_X8_noiseOf ⟨(Nat.le_of_ble_eq_true rfl), (Nat.le_of_ble_eq_true rfl)⟩) (preV hc hW [1, 3] rfl (by decide) rfl rfl) rfl rfl hl.1 rfl (lv_room (Nat.le_of_ble_eq_true rfl)) dX9_works_34 ⟨Nat.zero_le _, Nat.zero_le _⟩) hA hW [1, 3] [0, 2] [0, 2, 1, 3] rfl rfl (by decide) (by decide) rfl (by decide) (fun H locs hW => ?_)
        refine lv_goto (tgt := 48) hx hb dX9_works_37 (by decide) ?_
        obtain rfl := Option.some.inj hF
        exact hret _ _ _ _ hW dX9_works_48
    · have hF := ite_t hF c_20
      refine lv_iconst (v := (-1)) hx hb dX9_works_23 (by decide) ?_
      obtain rfl := Option.some.inj hF
      exact hret _ _ _ _ hW dX9_works_24
theorem dX9_day_0 : decode cX9_day 0 = .ok (.iload_n 1, 1) := by decide +kernel
theorem dX9_day_1 : decode cX9_day 1 = .ok (.aload_n 0, 1) := by decide +kernel
theorem dX9_day_2 : decode cX9_day 2 = .ok (.getfield 26, 3) := by decide +kernel
theorem dX9_day_5 : decode cX9_day 5 = .ok (.getfield 110, 3) := by decide +kernel
theorem dX9_day_8 : decode cX9_day 8 = .ok (.invokestatic 126, 3) := by decide +kernel
theorem dX9_day_11 : decode cX9_day 11 = .ok (.ifCond .eq 17, 3) := by decide +kernel
theorem dX9_day_14 : decode cX9_day 14 = .ok (.iload_n 2, 1) := by decide +kernel
theorem dX9_day_15 : decode cX9_day 15 = .ok (.aload_n 0, 1) := by decide +kernel
theorem dX9_day_16 : decode cX9_day 16 = .ok (.getfield 26, 3) := by decide +kernel
theorem dX9_day_19 : decode cX9_day 19 = .ok (.getfield 123, 3) := by decide +kernel
theorem dX9_day_22 : decode cX9_day 22 = .ok (.invokestatic 126, 3) := by decide +kernel
theorem dX9_day_25 : decode cX9_day 25 = .ok (.ifCond .ne 5, 3) := by decide +kernel
theorem dX9_day_28 : decode cX9_day 28 = .ok (.iconst (-1), 1) := by decide +kernel
theorem dX9_day_29 : decode cX9_day 29 = .ok (.ireturn, 1) := by decide +kernel
theorem dX9_day_30 : decode cX9_day 30 = .ok (.aload_n 0, 1) := by decide +kernel
theorem dX9_day_31 : decode cX9_day 31 = .ok (.getfield 36, 3) := by decide +kernel
theorem dX9_day_34 : decode cX9_day 34 = .ok (.getfield 113, 3) := by decide +kernel
theorem dX9_day_37 : decode cX9_day 37 = .ok (.iconst 5, 1) := by decide +kernel
theorem dX9_day_38 : decode cX9_day 38 = .ok (.if_icmp .lt 6, 3) := by decide +kernel
theorem dX9_day_41 : decode cX9_day 41 = .ok (.bipush (-3), 2) := by decide +kernel
theorem dX9_day_43 : decode cX9_day 43 = .ok (.ireturn, 1) := by decide +kernel
theorem dX9_day_44 : decode cX9_day 44 = .ok (.aload_n 0, 1) := by decide +kernel
theorem dX9_day_45 : decode cX9_day 45 = .ok (.getfield 36, 3) := by decide +kernel
theorem dX9_day_48 : decode cX9_day 48 = .ok (.iload_n 1, 1) := by decide +kernel
theorem dX9_day_49 : decode cX9_day 49 = .ok (.iload_n 2, 1) := by decide +kernel
theorem dX9_day_50 : decode cX9_day 50 = .ok (.invokevirtual 137, 3) := by decide +kernel
theorem dX9_day_53 : decode cX9_day 53 = .ok (.aload_n 0, 1) := by decide +kernel
theorem dX9_day_54 : decode cX9_day 54 = .ok (.getfield 36, 3) := by decide +kernel
theorem dX9_day_57 : decode cX9_day 57 = .ok (.getfield 113, 3) := by decide +kernel
theorem dX9_day_60 : decode cX9_day 60 = .ok (.ireturn, 1) := by decide +kernel
def F_X9_day (x1 : Int32) (x2 : Int32) (v_book_days : Int32) (a_book_signs : Nat → Int32) (a_book_works : Nat → Int32) (v_town_signCount : Int32) (v_town_workCount : Int32) : Option (Int32 × Int32 × (Nat → Int32) × (Nat → Int32)) := (F_X9_isSet x1 v_town_signCount).bind (fun q8 => (if q8 = 0 then some ((-1), v_book_days, a_book_signs, a_book_works) else (F_X9_isSet x2 v_town_workCount).bind (fun q22 => (if q22 = 0 then some ((-1), v_book_days, a_book_signs, a_book_works) else (if v_book_days < 5 then (F_X1_append x1 x2 v_book_days a_book_signs a_book_works).bind (fun q50 => some (q50.1, q50.1, q50.2.1, q50.2.2)) else some ((-3), v_book_days, a_book_signs, a_book_works))))))
theorem hdV_X9_day : yX9_day.cls = RX9 ∧ yX9_day.cls ≠ "java/lang/invoke/MethodHandle" ∧ yX9_day.cls ≠ "java/lang/invoke/VarHandle" ∧ (parseMethodDescriptor yX9_day.desc).map (fun d => d.parameters.length) = some 2 := by decide +kernel
set_option maxHeartbeats 4000000 in
set_option maxRecDepth 100000 in
theorem c_X9_day (l : Launch) (G : GG) (x1 : Int32) (x2 : Int32) (h_this : Nat) (ad_this : Nat → Nat) (ad_this_book : Nat → Nat) (ad_this_town : Nat → Nat) (v_keptCount : Int32) (v_book_days : Int32) (a_book_signs : Nat → Int32) (a_book_works : Nat → Int32) (v_town_signCount : Int32) (v_town_houseCount : Int32) (v_town_boatCount : Int32) (v_town_workCount : Int32) (v_town_turnCost : Int32) (v_town_boatDayCost : Int32) (out : Int32 × Int32 × (Nat → Int32) × (Nat → Int32)) (hF : F_X9_day x1 x2 v_book_days a_book_signs a_book_works v_town_signCount v_town_workCount = some out) : CtrI l yX9_day (WS yX9_day cX9_day 3 (some .int)) { frames := 2, cells := 0, slots := 0, locals := 44 } G [.ref h_this, .int x1, .int x2] [(h_this, oX9 ad_this v_keptCount), ((ad_this 4), oX1 ad_this_book v_book_days), ((ad_this_book 0), cI G 5 a_book_signs), ((ad_this_book 1), cI G 5 a_book_works), ((ad_this 2), oX8 ad_this_town v_town_signCount v_town_houseCount v_town_boatCount v_town_workCount v_town_turnCost v_town_boatDayCost)] [(h_this, oX9 ad_this v_keptCount), ((ad_this 4), oX1 ad_this_book out.2.1), ((ad_this_book 0), cI G 5 out.2.2.1), ((ad_this_book 1), cI G 5 out.2.2.2), ((ad_this 2), oX8 ad_this_town v_town_signCount v_town_houseCount v_town_boatCount v_town_workCount v_town_turnCost v_town_boatDayCost)] out.1 := by
  refine startI (cc := cX9_day) (maxL := 3) (by decide) rfl (Nat.le_of_ble_eq_true rfl) ?_
  intro p e s m args below meth c A Q hx hb hml hts hown hc hA hret ls H locs hl hW
  have hown : s.vm.findClass RX9 = some m.cls := hown
  have hg : ∀ w ∈ GOODS, w.before _ s = true := fun w h => hts w (List.mem_cons_of_mem _ h)
  have hl : lv_has ls 3 [(0, .ref h_this), (1, .int x1), (2, .int x2)] := hl
  rw [F_X9_day] at hF
  refine lv_iload_n hx hb dX9_day_0 rfl (lv_at hl 1 rfl) ?_
  refine lv_aload_n hx hb dX9_day_1 rfl (lv_at hl 0 rfl) ?_
  refine va_get (D := G.1) (ci := 8) (v := .ref ((ad_this 2))) (C := RX9) (T := TX9) (N := 13) hx hb hg hu_X9 hown hc.1 hW.1 0 rfl rfl 2 (by decide) (hg _ wd_2_97) (fun _ h9 => h9) rfl dX9_day_2 ?_
  refine va_get (D := G.1) (ci := 7) (v := .int v_town_signCount) (C := RX8) (T := TX8) (N := 13) hx hb hg hu_X8 hown hc.1 hW.1 4 rfl rfl 7 (by decide) (hg _ wd_1_77) (fun _ h9 => h9) rfl dX9_day_5 ?_
  obtain ⟨q8, c_8, hF⟩ := bd_el hF
  refine wcZ (ws' := [(h_this, oX9 ad_this v_keptCount), ((ad_this 4), oX1 ad_this_book v_book_days), ((ad_this_book 0), cI G 5 a_book_signs), ((ad_this_book 1), cI G 5 a_book_works), ((ad_this 2), oX8 ad_this_town v_town_signCount v_town_houseCount v_town_boatCount v_town_workCount v_town_turnCost v_town_boatDayCost)]) (wc := []) (wr := [(h_this, oX9 ad_this v_keptCount), ((ad_this 4), oX1 ad_this_book v_book_days), ((ad_this_book 0), cI G 5 a_book_signs), ((ad_this_book 1), cI G 5 a_book_works), ((ad_this 2), oX8 ad_this_town v_town_signCount v_town_houseCount v_town_boatCount v_town_workCount v_town_turnCost v_town_boatDayCost)]) (w1 := []) (va_runS (As := [.int x1, .int v_town_signCount]) (rest := []) ⟨hx, hb, hml, hown, hg⟩ (c_X9_isSet l G x1 v_town_signCount q8 c_8 H.size) (va_cwS 2 hg (gS wd_2_166 wd_2_167 wd_1_1 wd_2_168) rfl rfl rfl hdS_X9_isSet ⟨(Nat.le_of_ble_eq_true rfl), (Nat.le_of_ble_eq_true rfl)⟩) (preS hc hW [] rfl (by decide)) rfl rfl hl.1 rfl (lv_room (Nat.le_of_ble_eq_true rfl)) dX9_day_8 ⟨Nat.zero_le _, Nat.zero_le _⟩) hA hW [] [0, 1, 2, 3, 4] [0, 1, 2, 3, 4] rfl rfl (by decide) (by decide) rfl (by decide) (fun z_8 H locs hW => ?_)
  refine lv_if_eq (tgt := 28) hx hb dX9_day_11 (by decide) (fun c_11 => ?_) (fun c_11 => ?_)
  · have hF := ite_t hF c_11
    refine lv_iconst (v := (-1)) hx hb dX9_day_28 (by decide) ?_
    obtain rfl := Option.some.inj hF
    exact hret _ _ _ _ hW dX9_day_29
  · have hF := ite_f hF c_11
    refine lv_iload_n hx hb dX9_day_14 rfl (lv_at hl 2 rfl) ?_
    refine lv_aload_n hx hb dX9_day_15 rfl (lv_at hl 0 rfl) ?_
    refine va_get (D := G.1) (ci := 8) (v := .ref ((ad_this 2))) (C := RX9) (T := TX9) (N := 13) hx hb hg hu_X9 hown hc.1 hW.1 0 rfl rfl 2 (by decide) (hg _ wd_2_97) (fun _ h9 => h9) rfl dX9_day_16 ?_
    refine va_get (D := G.1) (ci := 7) (v := .int v_town_workCount) (C := RX8) (T := TX8) (N := 13) hx hb hg hu_X8 hown hc.1 hW.1 4 rfl rfl 10 (by decide) (hg _ wd_1_85) (fun _ h9 => h9) rfl dX9_day_19 ?_
    obtain ⟨q22, c_22, hF⟩ := bd_el hF
    refine wcZ (ws' := [(h_this, oX9 ad_this v_keptCount), ((ad_this 4), oX1 ad_this_book v_book_days), ((ad_this_book 0), cI G 5 a_book_signs), ((ad_this_book 1), cI G 5 a_book_works), ((ad_this 2), oX8 ad_this_town v_town_signCount v_town_houseCount v_town_boatCount v_town_workCount v_town_turnCost v_town_boatDayCost)]) (wc := []) (wr := [(h_this, oX9 ad_this v_keptCount), ((ad_this 4), oX1 ad_this_book v_book_days), ((ad_this_book 0), cI G 5 a_book_signs), ((ad_this_book 1), cI G 5 a_book_works), ((ad_this 2), oX8 ad_this_town v_town_signCount v_town_houseCount v_town_boatCount v_town_workCount v_town_turnCost v_town_boatDayCost)]) (w1 := []) (va_runS (As := [.int x2, .int v_town_workCount]) (rest := []) ⟨hx, hb, hml, hown, hg⟩ (c_X9_isSet l G x2 v_town_workCount q22 c_22 H.size) (va_cwS 2 hg (gS wd_2_166 wd_2_167 wd_1_1 wd_2_168) rfl rfl rfl hdS_X9_isSet ⟨(Nat.le_of_ble_eq_true rfl), (Nat.le_of_ble_eq_true rfl)⟩) (preS hc hW [] rfl (by decide)) rfl rfl hl.1 rfl (lv_room (Nat.le_of_ble_eq_true rfl)) dX9_day_22 ⟨Nat.zero_le _, Nat.zero_le _⟩) hA hW [] [0, 1, 2, 3, 4] [0, 1, 2, 3, 4] rfl rfl (by decide) (by decide) rfl (by decide) (fun z_22 H locs hW => ?_)
    refine lv_if_ne (tgt := 30) hx hb dX9_day_25 (by decide) (fun c_25 => ?_) (fun c_25 => ?_)
    · have hF := ite_f hF c_25
      refine lv_aload_n hx hb dX9_day_30 rfl (lv_at hl 0 rfl) ?_
      refine va_get (D := G.1) (ci := 8) (v := .ref ((ad_this 4))) (C := RX9) (T := TX9) (N := 13) hx hb hg hu_X9 hown hc.1 hW.1 0 rfl rfl 4 (by decide) (hg _ wd_2_99) (fun _ h9 => h9) rfl dX9_day_31 ?_
      refine va_get (D := G.1) (ci := 1) (v := .int v_book_days) (C := RX1) (T := TX1) (N := 3) hx hb hg hu_X1 hown hc.1 hW.1 1 rfl rfl 2 (by decide) (hg _ wd_1_126) (fun _ h9 => h9) rfl dX9_day_34 ?_
      refine lv_iconst (v := 5) hx hb dX9_day_37 (by decide) ?_
      refine lv_icmp_lt (tgt := 44) hx hb dX9_day_38 (by decide) (fun c_38 => ?_) (fun c_38 => ?_)
      · have hF := ite_t hF c_38
        refine lv_aload_n hx hb dX9_day_44 rfl (lv_at hl 0 rfl) ?_
        refine va_get (D := G.1) (ci := 8) (v := .ref ((ad_this 4))) (C := RX9) (T := TX9) (N := 13) hx hb hg hu_X9 hown hc.1 hW.1 0 rfl rfl 4 (by decide) (hg _ wd_2_99) (fun _ h9 => h9) rfl dX9_day_45 ?_
        refine lv_iload_n hx hb dX9_day_48 rfl (lv_at hl 1 rfl) ?_
        refine lv_iload_n hx hb dX9_day_49 rfl (lv_at hl 2 rfl) ?_
        obtain ⟨q50, c_50, hF⟩ := bd_el hF
        refine wcV (ws' := [(h_this, oX9 ad_this v_keptCount), ((ad_this 4), oX1 ad_this_book q50.1), ((ad_this_book 0), cI G 5 q50.2.1), ((ad_this_book 1), cI G 5 q50.2.2), ((ad_this 2), oX8 ad_this_town v_town_signCount v_town_houseCount v_town_boatCount v_town_workCount v_town_turnCost v_town_boatDayCost)]) (wc := [((ad_this 4), oX1 ad_this_book v_book_days), ((ad_this_book 0), cI G 5 a_book_signs), ((ad_this_book 1), cI G 5 a_book_works)]) (wr := [(h_this, oX9 ad_this v_keptCount), ((ad_this 2), oX8 ad_this_town v_town_signCount v_town_houseCount v_town_boatCount v_town_workCount v_town_turnCost v_town_boatDayCost)]) (w1 := [((ad_this 4), oX1 ad_this_book q50.1), ((ad_this_book 0), cI G 5 q50.2.1), ((ad_this_book 1), cI G 5 q50.2.2)]) (va_runV (As := [.int x1, .int x2]) (rest := []) ⟨hx, hb, hml, hown, hg⟩ (c_X1_append l G x1 x2 ((ad_this 4)) ad_this_book v_book_days a_book_signs a_book_works q50 c_50 H.size) (cwV 2 hg (gV wd_2_190 wd_2_191 wd_2_192 wd_1_5 wd_2_193) rfl rfl rfl hdV_X1_append ⟨(Nat.le_of_ble_eq_true rfl), (Nat.le_of_ble_eq_true rfl)⟩) (preV hc hW [1, 2, 3] rfl (by decide) rfl rfl) rfl rfl hl.1 rfl (lv_room (Nat.le_of_ble_eq_true rfl)) dX9_day_50 ⟨Nat.zero_le _, Nat.zero_le _⟩) hA hW [1, 2, 3] [0, 4] [0, 2, 3, 4, 1] rfl rfl (by decide) (by decide) rfl (by decide) (fun H locs hW => ?_)
        refine lv_aload_n hx hb dX9_day_53 rfl (lv_at hl 0 rfl) ?_
        refine va_get (D := G.1) (ci := 8) (v := .ref ((ad_this 4))) (C := RX9) (T := TX9) (N := 13) hx hb hg hu_X9 hown hc.1 hW.1 0 rfl rfl 4 (by decide) (hg _ wd_2_99) (fun _ h9 => h9) rfl dX9_day_54 ?_
        refine va_get (D := G.1) (ci := 1) (v := .int q50.1) (C := RX1) (T := TX1) (N := 3) hx hb hg hu_X1 hown hc.1 hW.1 1 rfl rfl 2 (by decide) (hg _ wd_1_126) (fun _ h9 => h9) rfl dX9_day_57 ?_
        obtain rfl := Option.some.inj hF
        exact hret _ _ _ _ hW dX9_day_60
      · have hF := ite_f hF c_38
        refine lv_bipush (v := (-3)) hx hb dX9_day_41 (by decide) ?_
        obtain rfl := Option.some.inj hF
        exact hret _ _ _ _ hW dX9_day_43
    · have hF := ite_t hF c_25
      refine lv_iconst (v := (-1)) hx hb dX9_day_28 (by decide) ?_
      obtain rfl := Option.some.inj hF
      exact hret _ _ _ _ hW dX9_day_29
theorem dX9_diary_0 : decode cX9_diary 0 = .ok (.iload_n 1, 1) := by decide +kernel
theorem dX9_diary_1 : decode cX9_diary 1 = .ok (.iconst 0, 1) := by decide +kernel
theorem dX9_diary_2 : decode cX9_diary 2 = .ok (.aload_n 0, 1) := by decide +kernel
theorem dX9_diary_3 : decode cX9_diary 3 = .ok (.getfield 36, 3) := by decide +kernel
theorem dX9_diary_6 : decode cX9_diary 6 = .ok (.getfield 113, 3) := by decide +kernel
theorem dX9_diary_9 : decode cX9_diary 9 = .ok (.iconst 1, 1) := by decide +kernel
theorem dX9_diary_10 : decode cX9_diary 10 = .ok (.isub, 1) := by decide +kernel
theorem dX9_diary_11 : decode cX9_diary 11 = .ok (.invokestatic 104, 3) := by decide +kernel
theorem dX9_diary_14 : decode cX9_diary 14 = .ok (.ifCond .eq 12, 3) := by decide +kernel
theorem dX9_diary_17 : decode cX9_diary 17 = .ok (.iload_n 2, 1) := by decide +kernel
theorem dX9_diary_18 : decode cX9_diary 18 = .ok (.iconst 0, 1) := by decide +kernel
theorem dX9_diary_19 : decode cX9_diary 19 = .ok (.iconst 1, 1) := by decide +kernel
theorem dX9_diary_20 : decode cX9_diary 20 = .ok (.invokestatic 104, 3) := by decide +kernel
theorem dX9_diary_23 : decode cX9_diary 23 = .ok (.ifCond .ne 5, 3) := by decide +kernel
theorem dX9_diary_26 : decode cX9_diary 26 = .ok (.iconst (-1), 1) := by decide +kernel
theorem dX9_diary_27 : decode cX9_diary 27 = .ok (.ireturn, 1) := by decide +kernel
theorem dX9_diary_28 : decode cX9_diary 28 = .ok (.iload_n 2, 1) := by decide +kernel
theorem dX9_diary_29 : decode cX9_diary 29 = .ok (.ifCond .ne 14, 3) := by decide +kernel
theorem dX9_diary_32 : decode cX9_diary 32 = .ok (.aload_n 0, 1) := by decide +kernel
theorem dX9_diary_33 : decode cX9_diary 33 = .ok (.getfield 36, 3) := by decide +kernel
theorem dX9_diary_36 : decode cX9_diary 36 = .ok (.iload_n 1, 1) := by decide +kernel
theorem dX9_diary_37 : decode cX9_diary 37 = .ok (.invokevirtual 140, 3) := by decide +kernel
theorem dX9_diary_40 : decode cX9_diary 40 = .ok (.goto 11, 3) := by decide +kernel
theorem dX9_diary_43 : decode cX9_diary 43 = .ok (.aload_n 0, 1) := by decide +kernel
theorem dX9_diary_44 : decode cX9_diary 44 = .ok (.getfield 36, 3) := by decide +kernel
theorem dX9_diary_47 : decode cX9_diary 47 = .ok (.iload_n 1, 1) := by decide +kernel
theorem dX9_diary_48 : decode cX9_diary 48 = .ok (.invokevirtual 143, 3) := by decide +kernel
theorem dX9_diary_51 : decode cX9_diary 51 = .ok (.ireturn, 1) := by decide +kernel
def F_X9_diary (x1 : Int32) (x2 : Int32) (v_book_days : Int32) (a_book_signs : Nat → Int32) (a_book_works : Nat → Int32) : Option (Int32) := (F_X9_isWithin x1 0 ((v_book_days - 1))).bind (fun q11 => (if q11 = 0 then some ((-1)) else (F_X9_isWithin x2 0 1).bind (fun q20 => (if q20 = 0 then some ((-1)) else (if x2 = 0 then (F_X1_signsOn x1 a_book_signs).bind (fun q37 => some (q37)) else (F_X1_worksOn x1 a_book_works).bind (fun q48 => some (q48)))))))
theorem hdV_X9_diary : yX9_diary.cls = RX9 ∧ yX9_diary.cls ≠ "java/lang/invoke/MethodHandle" ∧ yX9_diary.cls ≠ "java/lang/invoke/VarHandle" ∧ (parseMethodDescriptor yX9_diary.desc).map (fun d => d.parameters.length) = some 2 := by decide +kernel
set_option maxHeartbeats 4000000 in
set_option maxRecDepth 100000 in
theorem c_X9_diary (l : Launch) (G : GG) (x1 : Int32) (x2 : Int32) (h_this : Nat) (ad_this : Nat → Nat) (ad_this_book : Nat → Nat) (v_keptCount : Int32) (v_book_days : Int32) (a_book_signs : Nat → Int32) (a_book_works : Nat → Int32) (out : Int32) (hF : F_X9_diary x1 x2 v_book_days a_book_signs a_book_works = some out) : CtrI l yX9_diary (WS yX9_diary cX9_diary 3 (some .int)) { frames := 2, cells := 0, slots := 0, locals := 42 } G [.ref h_this, .int x1, .int x2] [(h_this, oX9 ad_this v_keptCount), ((ad_this 4), oX1 ad_this_book v_book_days), ((ad_this_book 0), cI G 5 a_book_signs), ((ad_this_book 1), cI G 5 a_book_works)] [(h_this, oX9 ad_this v_keptCount), ((ad_this 4), oX1 ad_this_book v_book_days), ((ad_this_book 0), cI G 5 a_book_signs), ((ad_this_book 1), cI G 5 a_book_works)] out := by
  refine startI (cc := cX9_diary) (maxL := 3) (by decide) rfl (Nat.le_of_ble_eq_true rfl) ?_
  intro p e s m args below meth c A Q hx hb hml hts hown hc hA hret ls H locs hl hW
  have hown : s.vm.findClass RX9 = some m.cls := hown
  have hg : ∀ w ∈ GOODS, w.before _ s = true := fun w h => hts w (List.mem_cons_of_mem _ h)
  have hl : lv_has ls 3 [(0, .ref h_this), (1, .int x1), (2, .int x2)] := hl
  rw [F_X9_diary] at hF
  refine lv_iload_n hx hb dX9_diary_0 rfl (lv_at hl 1 rfl) ?_
  refine lv_iconst (v := 0) hx hb dX9_diary_1 (by decide) ?_
  refine lv_aload_n hx hb dX9_diary_2 rfl (lv_at hl 0 rfl) ?_
  refine va_get (D := G.1) (ci := 8) (v := .ref ((ad_this 4))) (C := RX9) (T := TX9) (N := 13) hx hb hg hu_X9 hown hc.1 hW.1 0 rfl rfl 4 (by decide) (hg _ wd_2_99) (fun _ h9 => h9) rfl dX9_diary_3 ?_
  refine va_get (D := G.1) (ci := 1) (v := .int v_book_days) (C := RX1) (T := TX1) (N := 3) hx hb hg hu_X1 hown hc.1 hW.1 1 rfl rfl 2 (by decide) (hg _ wd_1_126) (fun _ h9 => h9) rfl dX9_diary_6 ?_
  refine lv_iconst (v := 1) hx hb dX9_diary_9 (by decide) ?_
  refine lv_isub hx hb dX9_diary_10 ?_
  obtain ⟨q11, c_11, hF⟩ := bd_el hF
  refine wcZ (ws' := [(h_this, oX9 ad_this v_keptCount), ((ad_this 4), oX1 ad_this_book v_book_days), ((ad_this_book 0), cI G 5 a_book_signs), ((ad_this_book 1), cI G 5 a_book_works)]) (wc := []) (wr := [(h_this, oX9 ad_this v_keptCount), ((ad_this 4), oX1 ad_this_book v_book_days), ((ad_this_book 0), cI G 5 a_book_signs), ((ad_this_book 1), cI G 5 a_book_works)]) (w1 := []) (va_runS (As := [.int x1, .int 0, .int ((v_book_days - 1))]) (rest := []) ⟨hx, hb, hml, hown, hg⟩ (c_X9_isWithin l G x1 0 ((v_book_days - 1)) q11 c_11 H.size) (va_cwS 3 hg (gS wd_2_140 wd_2_47 wd_1_1 wd_2_48) rfl rfl rfl hdS_X9_isWithin ⟨(Nat.le_of_ble_eq_true rfl), (Nat.le_of_ble_eq_true rfl)⟩) (preS hc hW [] rfl (by decide)) rfl rfl hl.1 rfl (lv_room (Nat.le_of_ble_eq_true rfl)) dX9_diary_11 ⟨Nat.zero_le _, Nat.zero_le _⟩) hA hW [] [0, 1, 2, 3] [0, 1, 2, 3] rfl rfl (by decide) (by decide) rfl (by decide) (fun z_11 H locs hW => ?_)
  refine lv_if_eq (tgt := 26) hx hb dX9_diary_14 (by decide) (fun c_14 => ?_) (fun c_14 => ?_)
  · have hF := ite_t hF c_14
    refine lv_iconst (v := (-1)) hx hb dX9_diary_26 (by decide) ?_
    obtain rfl := Option.some.inj hF
    exact hret _ _ _ _ hW dX9_diary_27
  · have hF := ite_f hF c_14
    refine lv_iload_n hx hb dX9_diary_17 rfl (lv_at hl 2 rfl) ?_
    refine lv_iconst (v := 0) hx hb dX9_diary_18 (by decide) ?_
    refine lv_iconst (v := 1) hx hb dX9_diary_19 (by decide) ?_
    obtain ⟨q20, c_20, hF⟩ := bd_el hF
    refine wcZ (ws' := [(h_this, oX9 ad_this v_keptCount), ((ad_this 4), oX1 ad_this_book v_book_days), ((ad_this_book 0), cI G 5 a_book_signs), ((ad_this_book 1), cI G 5 a_book_works)]) (wc := []) (wr := [(h_this, oX9 ad_this v_keptCount), ((ad_this 4), oX1 ad_this_book v_book_days), ((ad_this_book 0), cI G 5 a_book_signs), ((ad_this_book 1), cI G 5 a_book_works)]) (w1 := []) (va_runS (As := [.int x2, .int 0, .int 1]) (rest := []) ⟨hx, hb, hml, hown, hg⟩ (c_X9_isWithin l G x2 0 1 q20 c_20 H.size) (va_cwS 3 hg (gS wd_2_140 wd_2_47 wd_1_1 wd_2_48) rfl rfl rfl hdS_X9_isWithin ⟨(Nat.le_of_ble_eq_true rfl), (Nat.le_of_ble_eq_true rfl)⟩) (preS hc hW [] rfl (by decide)) rfl rfl hl.1 rfl (lv_room (Nat.le_of_ble_eq_true rfl)) dX9_diary_20 ⟨Nat.zero_le _, Nat.zero_le _⟩) hA hW [] [0, 1, 2, 3] [0, 1, 2, 3] rfl rfl (by decide) (by decide) rfl (by decide) (fun z_20 H locs hW => ?_)
    refine lv_if_ne (tgt := 28) hx hb dX9_diary_23 (by decide) (fun c_23 => ?_) (fun c_23 => ?_)
    · have hF := ite_f hF c_23
      refine lv_iload_n hx hb dX9_diary_28 rfl (lv_at hl 2 rfl) ?_
      refine lv_if_ne (tgt := 43) hx hb dX9_diary_29 (by decide) (fun c_29 => ?_) (fun c_29 => ?_)
      · have hF := ite_f hF c_29
        refine lv_aload_n hx hb dX9_diary_43 rfl (lv_at hl 0 rfl) ?_
        refine va_get (D := G.1) (ci := 8) (v := .ref ((ad_this 4))) (C := RX9) (T := TX9) (N := 13) hx hb hg hu_X9 hown hc.1 hW.1 0 rfl rfl 4 (by decide) (hg _ wd_2_99) (fun _ h9 => h9) rfl dX9_diary_44 ?_
        refine lv_iload_n hx hb dX9_diary_47 rfl (lv_at hl 1 rfl) ?_
        obtain ⟨q48, c_48, hF⟩ := bd_el hF
        refine wcI (ws' := [(h_this, oX9 ad_this v_keptCount), ((ad_this 4), oX1 ad_this_book v_book_days), ((ad_this_book 0), cI G 5 a_book_signs), ((ad_this_book 1), cI G 5 a_book_works)]) (wc := [((ad_this 4), oX1 ad_this_book v_book_days), ((ad_this_book 1), cI G 5 a_book_works)]) (wr := [(h_this, oX9 ad_this v_keptCount), ((ad_this_book 0), cI G 5 a_book_signs)]) (w1 := [((ad_this 4), oX1 ad_this_book v_book_days), ((ad_this_book 1), cI G 5 a_book_works)]) (va_runV (As := [.int x1]) (rest := []) ⟨hx, hb, hml, hown, hg⟩ (c_X1_worksOn l G x1 ((ad_this 4)) ad_this_book v_book_days a_book_works q48 c_48 H.size) (cwV 1 hg (gV wd_2_204 wd_2_205 wd_2_206 wd_1_5 wd_2_207) rfl rfl rfl hdV_X1_worksOn ⟨(Nat.le_of_ble_eq_true rfl), (Nat.le_of_ble_eq_true rfl)⟩) (preV hc hW [1, 3] rfl (by decide) rfl rfl) rfl rfl hl.1 rfl (lv_room (Nat.le_of_ble_eq_true rfl)) dX9_diary_48 ⟨Nat.zero_le _, Nat.zero_le _⟩) hA hW [1, 3] [0, 2] [0, 2, 1, 3] rfl rfl (by decide) (by decide) rfl (by decide) (fun H locs hW => ?_)
        obtain rfl := Option.some.inj hF
        exact hret _ _ _ _ hW dX9_diary_51
      · have hF := ite_t hF c_29
        refine lv_aload_n hx hb dX9_diary_32 rfl (lv_at hl 0 rfl) ?_
        refine va_get (D := G.1) (ci := 8) (v := .ref ((ad_this 4))) (C := RX9) (T := TX9) (N := 13) hx hb hg hu_X9 hown hc.1 hW.1 0 rfl rfl 4 (by decide) (hg _ wd_2_99) (fun _ h9 => h9) rfl dX9_diary_33 ?_
        refine lv_iload_n hx hb dX9_diary_36 rfl (lv_at hl 1 rfl) ?_
        obtain ⟨q37, c_37, hF⟩ := bd_el hF
        refine wcI (ws' := [(h_this, oX9 ad_this v_keptCount), ((ad_this 4), oX1 ad_this_book v_book_days), ((ad_this_book 0), cI G 5 a_book_signs), ((ad_this_book 1), cI G 5 a_book_works)]) (wc := [((ad_this 4), oX1 ad_this_book v_book_days), ((ad_this_book 0), cI G 5 a_book_signs)]) (wr := [(h_this, oX9 ad_this v_keptCount), ((ad_this_book 1), cI G 5 a_book_works)]) (w1 := [((ad_this 4), oX1 ad_this_book v_book_days), ((ad_this_book 0), cI G 5 a_book_signs)]) (va_runV (As := [.int x1]) (rest := []) ⟨hx, hb, hml, hown, hg⟩ (c_X1_signsOn l G x1 ((ad_this 4)) ad_this_book v_book_days a_book_signs q37 c_37 H.size) (cwV 1 hg (gV wd_2_199 wd_2_200 wd_2_201 wd_1_5 wd_2_202) rfl rfl rfl hdV_X1_signsOn ⟨(Nat.le_of_ble_eq_true rfl), (Nat.le_of_ble_eq_true rfl)⟩) (preV hc hW [1, 2] rfl (by decide) rfl rfl) rfl rfl hl.1 rfl (lv_room (Nat.le_of_ble_eq_true rfl)) dX9_diary_37 ⟨Nat.zero_le _, Nat.zero_le _⟩) hA hW [1, 2] [0, 3] [0, 2, 3, 1] rfl rfl (by decide) (by decide) rfl (by decide) (fun H locs hW => ?_)
        refine lv_goto (tgt := 51) hx hb dX9_diary_40 (by decide) ?_
        obtain rfl := Option.some.inj hF
        exact hret _ _ _ _ hW dX9_diary_51
    · have hF := ite_t hF c_23
      refine lv_iconst (v := (-1)) hx hb dX9_diary_26 (by decide) ?_
      obtain rfl := Option.some.inj hF
      exact hret _ _ _ _ hW dX9_diary_27
theorem dX9_undo_0 : decode cX9_undo 0 = .ok (.aload_n 0, 1) := by decide +kernel
theorem dX9_undo_1 : decode cX9_undo 1 = .ok (.getfield 36, 3) := by decide +kernel
theorem dX9_undo_4 : decode cX9_undo 4 = .ok (.getfield 113, 3) := by decide +kernel
theorem dX9_undo_7 : decode cX9_undo 7 = .ok (.iconst 1, 1) := by decide +kernel
theorem dX9_undo_8 : decode cX9_undo 8 = .ok (.if_icmp .ge 6, 3) := by decide +kernel
theorem dX9_undo_11 : decode cX9_undo 11 = .ok (.bipush (-2), 2) := by decide +kernel
theorem dX9_undo_13 : decode cX9_undo 13 = .ok (.ireturn, 1) := by decide +kernel
theorem dX9_undo_14 : decode cX9_undo 14 = .ok (.aload_n 0, 1) := by decide +kernel
theorem dX9_undo_15 : decode cX9_undo 15 = .ok (.getfield 36, 3) := by decide +kernel
theorem dX9_undo_18 : decode cX9_undo 18 = .ok (.dup, 1) := by decide +kernel
theorem dX9_undo_19 : decode cX9_undo 19 = .ok (.getfield 113, 3) := by decide +kernel
theorem dX9_undo_22 : decode cX9_undo 22 = .ok (.iconst 1, 1) := by decide +kernel
theorem dX9_undo_23 : decode cX9_undo 23 = .ok (.isub, 1) := by decide +kernel
theorem dX9_undo_24 : decode cX9_undo 24 = .ok (.putfield 113, 3) := by decide +kernel
theorem dX9_undo_27 : decode cX9_undo 27 = .ok (.aload_n 0, 1) := by decide +kernel
theorem dX9_undo_28 : decode cX9_undo 28 = .ok (.getfield 36, 3) := by decide +kernel
theorem dX9_undo_31 : decode cX9_undo 31 = .ok (.getfield 113, 3) := by decide +kernel
theorem dX9_undo_34 : decode cX9_undo 34 = .ok (.ireturn, 1) := by decide +kernel
def F_X9_undo (v_book_days : Int32) : Option (Int32 × Int32) := (if 1 ≤ v_book_days then some ((v_book_days - 1), (v_book_days - 1)) else some ((-2), v_book_days))
theorem hdV_X9_undo : yX9_undo.cls = RX9 ∧ yX9_undo.cls ≠ "java/lang/invoke/MethodHandle" ∧ yX9_undo.cls ≠ "java/lang/invoke/VarHandle" ∧ (parseMethodDescriptor yX9_undo.desc).map (fun d => d.parameters.length) = some 0 := by decide +kernel
set_option maxHeartbeats 4000000 in
set_option maxRecDepth 100000 in
theorem c_X9_undo (l : Launch) (G : GG) (h_this : Nat) (ad_this : Nat → Nat) (ad_this_book : Nat → Nat) (v_keptCount : Int32) (v_book_days : Int32) (out : Int32 × Int32) (hF : F_X9_undo v_book_days = some out) : CtrI l yX9_undo (WS yX9_undo cX9_undo 1 (some .int)) { frames := 0, cells := 0, slots := 0, locals := 0 } G [.ref h_this] [(h_this, oX9 ad_this v_keptCount), ((ad_this 4), oX1 ad_this_book v_book_days)] [(h_this, oX9 ad_this v_keptCount), ((ad_this 4), oX1 ad_this_book out.2)] out.1 := by
  refine startI (cc := cX9_undo) (maxL := 1) (by decide) rfl (Nat.le_of_ble_eq_true rfl) ?_
  intro p e s m args below meth c A Q hx hb hml hts hown hc hA hret ls H locs hl hW
  have hown : s.vm.findClass RX9 = some m.cls := hown
  have hg : ∀ w ∈ GOODS, w.before _ s = true := fun w h => hts w (List.mem_cons_of_mem _ h)
  have hl : lv_has ls 1 [(0, .ref h_this)] := hl
  rw [F_X9_undo] at hF
  refine lv_aload_n hx hb dX9_undo_0 rfl (lv_at hl 0 rfl) ?_
  refine va_get (D := G.1) (ci := 8) (v := .ref ((ad_this 4))) (C := RX9) (T := TX9) (N := 13) hx hb hg hu_X9 hown hc.1 hW.1 0 rfl rfl 4 (by decide) (hg _ wd_2_99) (fun _ h9 => h9) rfl dX9_undo_1 ?_
  refine va_get (D := G.1) (ci := 1) (v := .int v_book_days) (C := RX1) (T := TX1) (N := 3) hx hb hg hu_X1 hown hc.1 hW.1 1 rfl rfl 2 (by decide) (hg _ wd_1_126) (fun _ h9 => h9) rfl dX9_undo_4 ?_
  refine lv_iconst (v := 1) hx hb dX9_undo_7 (by decide) ?_
  refine lv_icmp_ge (tgt := 14) hx hb dX9_undo_8 (by decide) (fun c_8 => ?_) (fun c_8 => ?_)
  · have hF := ite_t hF c_8
    refine lv_aload_n hx hb dX9_undo_14 rfl (lv_at hl 0 rfl) ?_
    refine va_get (D := G.1) (ci := 8) (v := .ref ((ad_this 4))) (C := RX9) (T := TX9) (N := 13) hx hb hg hu_X9 hown hc.1 hW.1 0 rfl rfl 4 (by decide) (hg _ wd_2_99) (fun _ h9 => h9) rfl dX9_undo_15 ?_
    refine lv_dup hx hb dX9_undo_18 rfl ?_
    refine va_get (D := G.1) (ci := 1) (v := .int v_book_days) (C := RX1) (T := TX1) (N := 3) hx hb hg hu_X1 hown hc.1 hW.1 1 rfl rfl 2 (by decide) (hg _ wd_1_126) (fun _ h9 => h9) rfl dX9_undo_19 ?_
    refine lv_iconst (v := 1) hx hb dX9_undo_22 (by decide) ?_
    refine lv_isub hx hb dX9_undo_23 ?_
    refine va_put (D := G.1) (ci := 1) (v := .int ((v_book_days - 1))) (ty := .int) (C := RX1) (T := TX1) (N := 3) hx hb hg hu_X1 tyX1 tyX1_ok nmX1 hown hc.1 hW.1 hW.2.1 hW.2.2 1 rfl rfl 2 (by decide) (hg _ wd_1_126) (fun _ h9 => h9) rfl (by decide +kernel) rfl rfl (Nat.le_of_ble_eq_true rfl) dX9_undo_24 (fun H locs hP hD hS => ?_)
    have hW : Wd G A s.heap [(h_this, oX9 ad_this v_keptCount), ((ad_this 4), oX1 ad_this_book ((v_book_days - 1)))] H locs := ⟨hP, hD, hS⟩
    refine lv_aload_n hx hb dX9_undo_27 rfl (lv_at hl 0 rfl) ?_
    refine va_get (D := G.1) (ci := 8) (v := .ref ((ad_this 4))) (C := RX9) (T := TX9) (N := 13) hx hb hg hu_X9 hown hc.1 hW.1 0 rfl rfl 4 (by decide) (hg _ wd_2_99) (fun _ h9 => h9) rfl dX9_undo_28 ?_
    refine va_get (D := G.1) (ci := 1) (v := .int ((v_book_days - 1))) (C := RX1) (T := TX1) (N := 3) hx hb hg hu_X1 hown hc.1 hW.1 1 rfl rfl 2 (by decide) (hg _ wd_1_126) (fun _ h9 => h9) rfl dX9_undo_31 ?_
    obtain rfl := Option.some.inj hF
    exact hret _ _ _ _ hW dX9_undo_34
  · have hF := ite_f hF c_8
    refine lv_bipush (v := (-2)) hx hb dX9_undo_11 (by decide) ?_
    obtain rfl := Option.some.inj hF
    exact hret _ _ _ _ hW dX9_undo_13
theorem dX9_saved_0 : decode cX9_saved 0 = .ok (.iload_n 1, 1) := by decide +kernel
theorem dX9_saved_1 : decode cX9_saved 1 = .ok (.iconst 0, 1) := by decide +kernel
theorem dX9_saved_2 : decode cX9_saved 2 = .ok (.bipush 99, 2) := by decide +kernel
theorem dX9_saved_4 : decode cX9_saved 4 = .ok (.invokestatic 104, 3) := by decide +kernel
theorem dX9_saved_7 : decode cX9_saved 7 = .ok (.ifCond .ne 5, 3) := by decide +kernel
theorem dX9_saved_10 : decode cX9_saved 10 = .ok (.iconst (-1), 1) := by decide +kernel
theorem dX9_saved_11 : decode cX9_saved 11 = .ok (.ireturn, 1) := by decide +kernel
theorem dX9_saved_12 : decode cX9_saved 12 = .ok (.aload_n 0, 1) := by decide +kernel
theorem dX9_saved_13 : decode cX9_saved 13 = .ok (.getfield 26, 3) := by decide +kernel
theorem dX9_saved_16 : decode cX9_saved 16 = .ok (.iload_n 1, 1) := by decide +kernel
theorem dX9_saved_17 : decode cX9_saved 17 = .ok (.invokevirtual 202, 3) := by decide +kernel
theorem dX9_saved_20 : decode cX9_saved 20 = .ok (.aload_n 0, 1) := by decide +kernel
theorem dX9_saved_21 : decode cX9_saved 21 = .ok (.getfield 26, 3) := by decide +kernel
theorem dX9_saved_24 : decode cX9_saved 24 = .ok (.invokevirtual 205, 3) := by decide +kernel
theorem dX9_saved_27 : decode cX9_saved 27 = .ok (.invokestatic 208, 3) := by decide +kernel
theorem dX9_saved_30 : decode cX9_saved 30 = .ok (.ireturn, 1) := by decide +kernel
def F_X9_saved (x1 : Int32) (v_town_boatCount : Int32) (v_town_houseCount : Int32) (a_town_boatRoom : Nat → Int32) (a_town_houseMinutes : Nat → Int32) (a_town_housePeople : Nat → Int32) : Option (Int32) := (F_X9_isWithin x1 0 99).bind (fun q4 => (if q4 = 0 then some ((-1)) else (F_X8_peopleWithin x1 v_town_houseCount a_town_houseMinutes a_town_housePeople).bind (fun q17 => (F_X8_roomInAll v_town_boatCount a_town_boatRoom).bind (fun q24 => some ((if q24 < q17 then q24 else q17))))))
theorem hdV_X9_saved : yX9_saved.cls = RX9 ∧ yX9_saved.cls ≠ "java/lang/invoke/MethodHandle" ∧ yX9_saved.cls ≠ "java/lang/invoke/VarHandle" ∧ (parseMethodDescriptor yX9_saved.desc).map (fun d => d.parameters.length) = some 1 := by decide +kernel
set_option maxHeartbeats 4000000 in
set_option maxRecDepth 100000 in
theorem c_X9_saved (l : Launch) (G : GG) (x1 : Int32) (h_this : Nat) (ad_this : Nat → Nat) (ad_this_town : Nat → Nat) (v_keptCount : Int32) (v_town_signCount : Int32) (v_town_houseCount : Int32) (v_town_boatCount : Int32) (v_town_workCount : Int32) (v_town_turnCost : Int32) (v_town_boatDayCost : Int32) (a_town_boatRoom : Nat → Int32) (a_town_houseMinutes : Nat → Int32) (a_town_housePeople : Nat → Int32) (out : Int32) (hF : F_X9_saved x1 v_town_boatCount v_town_houseCount a_town_boatRoom a_town_houseMinutes a_town_housePeople = some out) : CtrI l yX9_saved (WS yX9_saved cX9_saved 2 (some .int)) { frames := 3, cells := 0, slots := 0, locals := 65 } G [.ref h_this, .int x1] [(h_this, oX9 ad_this v_keptCount), ((ad_this 2), oX8 ad_this_town v_town_signCount v_town_houseCount v_town_boatCount v_town_workCount v_town_turnCost v_town_boatDayCost), ((ad_this_town 4), cI G 4 a_town_boatRoom), ((ad_this_town 3), cI G 6 a_town_houseMinutes), ((ad_this_town 2), cI G 6 a_town_housePeople)] [(h_this, oX9 ad_this v_keptCount), ((ad_this 2), oX8 ad_this_town v_town_signCount v_town_houseCount v_town_boatCount v_town_workCount v_town_turnCost v_town_boatDayCost), ((ad_this_town 4), cI G 4 a_town_boatRoom), ((ad_this_town 3), cI G 6 a_town_houseMinutes), ((ad_this_town 2), cI G 6 a_town_housePeople)] out := by
  refine startI (cc := cX9_saved) (maxL := 2) (by decide) rfl (Nat.le_of_ble_eq_true rfl) ?_
  intro p e s m args below meth c A Q hx hb hml hts hown hc hA hret ls H locs hl hW
  have hown : s.vm.findClass RX9 = some m.cls := hown
  have hg : ∀ w ∈ GOODS, w.before _ s = true := fun w h => hts w (List.mem_cons_of_mem _ h)
  have hl : lv_has ls 2 [(0, .ref h_this), (1, .int x1)] := hl
  rw [F_X9_saved] at hF
  refine lv_iload_n hx hb dX9_saved_0 rfl (lv_at hl 1 rfl) ?_
  refine lv_iconst (v := 0) hx hb dX9_saved_1 (by decide) ?_
  refine lv_bipush (v := 99) hx hb dX9_saved_2 (by decide) ?_
  obtain ⟨q4, c_4, hF⟩ := bd_el hF
  refine wcZ (ws' := [(h_this, oX9 ad_this v_keptCount), ((ad_this 2), oX8 ad_this_town v_town_signCount v_town_houseCount v_town_boatCount v_town_workCount v_town_turnCost v_town_boatDayCost), ((ad_this_town 4), cI G 4 a_town_boatRoom), ((ad_this_town 3), cI G 6 a_town_houseMinutes), ((ad_this_town 2), cI G 6 a_town_housePeople)]) (wc := []) (wr := [(h_this, oX9 ad_this v_keptCount), ((ad_this 2), oX8 ad_this_town v_town_signCount v_town_houseCount v_town_boatCount v_town_workCount v_town_turnCost v_town_boatDayCost), ((ad_this_town 4), cI G 4 a_town_boatRoom), ((ad_this_town 3), cI G 6 a_town_houseMinutes), ((ad_this_town 2), cI G 6 a_town_housePeople)]) (w1 := []) (va_runS (As := [.int x1, .int 0, .int 99]) (rest := []) ⟨hx, hb, hml, hown, hg⟩ (c_X9_isWithin l G x1 0 99 q4 c_4 H.size) (va_cwS 3 hg (gS wd_2_140 wd_2_47 wd_1_1 wd_2_48) rfl rfl rfl hdS_X9_isWithin ⟨(Nat.le_of_ble_eq_true rfl), (Nat.le_of_ble_eq_true rfl)⟩) (preS hc hW [] rfl (by decide)) rfl rfl hl.1 rfl (lv_room (Nat.le_of_ble_eq_true rfl)) dX9_saved_4 ⟨Nat.zero_le _, Nat.zero_le _⟩) hA hW [] [0, 1, 2, 3, 4] [0, 1, 2, 3, 4] rfl rfl (by decide) (by decide) rfl (by decide) (fun z_4 H locs hW => ?_)
  refine lv_if_ne (tgt := 12) hx hb dX9_saved_7 (by decide) (fun c_7 => ?_) (fun c_7 => ?_)
  · have hF := ite_f hF c_7
    refine lv_aload_n hx hb dX9_saved_12 rfl (lv_at hl 0 rfl) ?_
    refine va_get (D := G.1) (ci := 8) (v := .ref ((ad_this 2))) (C := RX9) (T := TX9) (N := 13) hx hb hg hu_X9 hown hc.1 hW.1 0 rfl rfl 2 (by decide) (hg _ wd_2_97) (fun _ h9 => h9) rfl dX9_saved_13 ?_
    refine lv_iload_n hx hb dX9_saved_16 rfl (lv_at hl 1 rfl) ?_
    obtain ⟨q17, c_17, hF⟩ := bd_el hF
    refine wcI (ws' := [(h_this, oX9 ad_this v_keptCount), ((ad_this 2), oX8 ad_this_town v_town_signCount v_town_houseCount v_town_boatCount v_town_workCount v_town_turnCost v_town_boatDayCost), ((ad_this_town 4), cI G 4 a_town_boatRoom), ((ad_this_town 3), cI G 6 a_town_houseMinutes), ((ad_this_town 2), cI G 6 a_town_housePeople)]) (wc := [((ad_this 2), oX8 ad_this_town v_town_signCount v_town_houseCount v_town_boatCount v_town_workCount v_town_turnCost v_town_boatDayCost), ((ad_this_town 3), cI G 6 a_town_houseMinutes), ((ad_this_town 2), cI G 6 a_town_housePeople)]) (wr := [(h_this, oX9 ad_this v_keptCount), ((ad_this_town 4), cI G 4 a_town_boatRoom)]) (w1 := [((ad_this 2), oX8 ad_this_town v_town_signCount v_town_houseCount v_town_boatCount v_town_workCount v_town_turnCost v_town_boatDayCost), ((ad_this_town 3), cI G 6 a_town_houseMinutes), ((ad_this_town 2), cI G 6 a_town_housePeople)]) (va_runV (As := [.int x1]) (rest := []) ⟨hx, hb, hml, hown, hg⟩ (c_X8_peopleWithin l G x1 ((ad_this 2)) ad_this_town v_town_signCount v_town_houseCount v_town_boatCount v_town_workCount v_town_turnCost v_town_boatDayCost a_town_houseMinutes a_town_housePeople q17 c_17 H.size) (cwV 1 hg (gV wd_3_113 wd_3_114 wd_3_115 wd_1_4 wd_3_116) rfl rfl rfl hdV_X8_peopleWithin ⟨(Nat.le_of_ble_eq_true rfl), (Nat.le_of_ble_eq_true rfl)⟩) (preV hc hW [1, 3, 4] rfl (by decide) rfl rfl) rfl rfl hl.1 rfl (lv_room (Nat.le_of_ble_eq_true rfl)) dX9_saved_17 ⟨Nat.zero_le _, Nat.zero_le _⟩) hA hW [1, 3, 4] [0, 2] [0, 2, 1, 3, 4] rfl rfl (by decide) (by decide) rfl (by decide) (fun H locs hW => ?_)
    refine lv_aload_n hx hb dX9_saved_20 rfl (lv_at hl 0 rfl) ?_
    refine va_get (D := G.1) (ci := 8) (v := .ref ((ad_this 2))) (C := RX9) (T := TX9) (N := 13) hx hb hg hu_X9 hown hc.1 hW.1 0 rfl rfl 2 (by decide) (hg _ wd_2_97) (fun _ h9 => h9) rfl dX9_saved_21 ?_
    obtain ⟨q24, c_24, hF⟩ := bd_el hF
    refine wcI (ws' := [(h_this, oX9 ad_this v_keptCount), ((ad_this 2), oX8 ad_this_town v_town_signCount v_town_houseCount v_town_boatCount v_town_workCount v_town_turnCost v_town_boatDayCost), ((ad_this_town 4), cI G 4 a_town_boatRoom), ((ad_this_town 3), cI G 6 a_town_houseMinutes), ((ad_this_town 2), cI G 6 a_town_housePeople)]) (wc := [((ad_this 2), oX8 ad_this_town v_town_signCount v_town_houseCount v_town_boatCount v_town_workCount v_town_turnCost v_town_boatDayCost), ((ad_this_town 4), cI G 4 a_town_boatRoom)]) (wr := [(h_this, oX9 ad_this v_keptCount), ((ad_this_town 3), cI G 6 a_town_houseMinutes), ((ad_this_town 2), cI G 6 a_town_housePeople)]) (w1 := [((ad_this 2), oX8 ad_this_town v_town_signCount v_town_houseCount v_town_boatCount v_town_workCount v_town_turnCost v_town_boatDayCost), ((ad_this_town 4), cI G 4 a_town_boatRoom)]) (va_runV (As := []) (rest := [.int q17]) ⟨hx, hb, hml, hown, hg⟩ (c_X8_roomInAll l G ((ad_this 2)) ad_this_town v_town_signCount v_town_houseCount v_town_boatCount v_town_workCount v_town_turnCost v_town_boatDayCost a_town_boatRoom q24 c_24 H.size) (cwV 0 hg (gV wd_3_121 wd_3_122 wd_3_123 wd_1_4 wd_3_124) rfl rfl rfl hdV_X8_roomInAll ⟨(Nat.le_of_ble_eq_true rfl), (Nat.le_of_ble_eq_true rfl)⟩) (preV hc hW [1, 2] rfl (by decide) rfl rfl) rfl rfl hl.1 rfl (lv_room (Nat.le_of_ble_eq_true rfl)) dX9_saved_24 ⟨Nat.zero_le _, Nat.zero_le _⟩) hA hW [1, 2] [0, 3, 4] [0, 3, 4, 1, 2] rfl rfl (by decide) (by decide) rfl (by decide) (fun H locs hW => ?_)
    refine va_mmin hx hb (hml.trans hl.1.symm) hown (hg _ wd_3_129) (hg _ wd_3_0) (hg _ wd_1_16) (hg _ wd_3_1) (Nat.le_of_ble_eq_true rfl) (Nat.le_of_ble_eq_true rfl) (Nat.zero_le _) (Nat.zero_le _) dX9_saved_27 ?_
    obtain rfl := Option.some.inj hF
    exact hret _ _ _ _ hW dX9_saved_30
  · have hF := ite_t hF c_7
    refine lv_iconst (v := (-1)) hx hb dX9_saved_10 (by decide) ?_
    obtain rfl := Option.some.inj hF
    exact hret _ _ _ _ hW dX9_saved_11
theorem dX9_drift_0 : decode cX9_drift 0 = .ok (.iload_n 3, 1) := by decide +kernel
theorem dX9_drift_1 : decode cX9_drift 1 = .ok (.iconst 0, 1) := by decide +kernel
theorem dX9_drift_2 : decode cX9_drift 2 = .ok (.iconst 4, 1) := by decide +kernel
theorem dX9_drift_3 : decode cX9_drift 3 = .ok (.invokestatic 104, 3) := by decide +kernel
theorem dX9_drift_6 : decode cX9_drift 6 = .ok (.ifCond .eq 29, 3) := by decide +kernel
theorem dX9_drift_9 : decode cX9_drift 9 = .ok (.iload 4, 2) := by decide +kernel
theorem dX9_drift_11 : decode cX9_drift 11 = .ok (.iconst 0, 1) := by decide +kernel
theorem dX9_drift_12 : decode cX9_drift 12 = .ok (.iconst 4, 1) := by decide +kernel
theorem dX9_drift_13 : decode cX9_drift 13 = .ok (.invokestatic 104, 3) := by decide +kernel
theorem dX9_drift_16 : decode cX9_drift 16 = .ok (.ifCond .eq 19, 3) := by decide +kernel
theorem dX9_drift_19 : decode cX9_drift 19 = .ok (.iload_n 3, 1) := by decide +kernel
theorem dX9_drift_20 : decode cX9_drift 20 = .ok (.iload 4, 2) := by decide +kernel
theorem dX9_drift_22 : decode cX9_drift 22 = .ok (.iadd, 1) := by decide +kernel
theorem dX9_drift_23 : decode cX9_drift 23 = .ok (.iconst 0, 1) := by decide +kernel
theorem dX9_drift_24 : decode cX9_drift 24 = .ok (.iconst 4, 1) := by decide +kernel
theorem dX9_drift_25 : decode cX9_drift 25 = .ok (.invokestatic 104, 3) := by decide +kernel
theorem dX9_drift_28 : decode cX9_drift 28 = .ok (.ifCond .eq 7, 3) := by decide +kernel
theorem dX9_drift_31 : decode cX9_drift 31 = .ok (.iconst 1, 1) := by decide +kernel
theorem dX9_drift_32 : decode cX9_drift 32 = .ok (.goto 4, 3) := by decide +kernel
theorem dX9_drift_35 : decode cX9_drift 35 = .ok (.iconst 0, 1) := by decide +kernel
theorem dX9_drift_36 : decode cX9_drift 36 = .ok (.istore 6, 2) := by decide +kernel
theorem dX9_drift_38 : decode cX9_drift 38 = .ok (.iload_n 1, 1) := by decide +kernel
theorem dX9_drift_39 : decode cX9_drift 39 = .ok (.iconst 0, 1) := by decide +kernel
theorem dX9_drift_40 : decode cX9_drift 40 = .ok (.bipush 12, 2) := by decide +kernel
theorem dX9_drift_42 : decode cX9_drift 42 = .ok (.invokestatic 104, 3) := by decide +kernel
theorem dX9_drift_45 : decode cX9_drift 45 = .ok (.ifCond .eq 28, 3) := by decide +kernel
theorem dX9_drift_48 : decode cX9_drift 48 = .ok (.iload_n 2, 1) := by decide +kernel
theorem dX9_drift_49 : decode cX9_drift 49 = .ok (.iconst 0, 1) := by decide +kernel
theorem dX9_drift_50 : decode cX9_drift 50 = .ok (.bipush 6, 2) := by decide +kernel
theorem dX9_drift_52 : decode cX9_drift 52 = .ok (.invokestatic 104, 3) := by decide +kernel
theorem dX9_drift_55 : decode cX9_drift 55 = .ok (.ifCond .eq 18, 3) := by decide +kernel
theorem dX9_drift_58 : decode cX9_drift 58 = .ok (.iload 6, 2) := by decide +kernel
theorem dX9_drift_60 : decode cX9_drift 60 = .ok (.ifCond .eq 13, 3) := by decide +kernel
theorem dX9_drift_63 : decode cX9_drift 63 = .ok (.iload 5, 2) := by decide +kernel
theorem dX9_drift_65 : decode cX9_drift 65 = .ok (.iconst 0, 1) := by decide +kernel
theorem dX9_drift_66 : decode cX9_drift 66 = .ok (.iconst 1, 1) := by decide +kernel
theorem dX9_drift_67 : decode cX9_drift 67 = .ok (.invokestatic 104, 3) := by decide +kernel
theorem dX9_drift_70 : decode cX9_drift 70 = .ok (.ifCond .ne 5, 3) := by decide +kernel
theorem dX9_drift_73 : decode cX9_drift 73 = .ok (.iconst (-1), 1) := by decide +kernel
theorem dX9_drift_74 : decode cX9_drift 74 = .ok (.ireturn, 1) := by decide +kernel
theorem dX9_drift_75 : decode cX9_drift 75 = .ok (.aload_n 0, 1) := by decide +kernel
theorem dX9_drift_76 : decode cX9_drift 76 = .ok (.getfield 77, 3) := by decide +kernel
theorem dX9_drift_79 : decode cX9_drift 79 = .ok (.iload_n 2, 1) := by decide +kernel
theorem dX9_drift_80 : decode cX9_drift 80 = .ok (.iload_n 3, 1) := by decide +kernel
theorem dX9_drift_81 : decode cX9_drift 81 = .ok (.iload 4, 2) := by decide +kernel
theorem dX9_drift_83 : decode cX9_drift 83 = .ok (.invokevirtual 226, 3) := by decide +kernel
theorem dX9_drift_86 : decode cX9_drift 86 = .ok (.aload_n 0, 1) := by decide +kernel
theorem dX9_drift_87 : decode cX9_drift 87 = .ok (.getfield 77, 3) := by decide +kernel
theorem dX9_drift_90 : decode cX9_drift 90 = .ok (.iload_n 1, 1) := by decide +kernel
theorem dX9_drift_91 : decode cX9_drift 91 = .ok (.invokevirtual 230, 3) := by decide +kernel
theorem dX9_drift_94 : decode cX9_drift 94 = .ok (.i2l, 1) := by decide +kernel
theorem dX9_drift_95 : decode cX9_drift 95 = .ok (.iload_n 2, 1) := by decide +kernel
theorem dX9_drift_96 : decode cX9_drift 96 = .ok (.invokestatic 193, 3) := by decide +kernel
theorem dX9_drift_99 : decode cX9_drift 99 = .ok (.iload 5, 2) := by decide +kernel
theorem dX9_drift_101 : decode cX9_drift 101 = .ok (.invokestatic 162, 3) := by decide +kernel
theorem dX9_drift_104 : decode cX9_drift 104 = .ok (.l2i, 1) := by decide +kernel
theorem dX9_drift_105 : decode cX9_drift 105 = .ok (.ireturn, 1) := by decide +kernel
def F_X9_drift (x1 : Int32) (x2 : Int32) (x3 : Int32) (x4 : Int32) (x5 : Int32) (a_drifting_ways : Nat → Int32) (a_drifting_waysLater : Nat → Int32) : Option (Int32 × (Nat → Int32) × (Nat → Int32)) := (F_X9_isWithin x3 0 4).bind (fun q3 => jn (fun (j0_36 : Int32) => (F_X9_isWithin x1 0 12).bind (fun q42 => (if q42 = 0 then some ((-1), a_drifting_ways, a_drifting_waysLater) else (F_X9_isWithin x2 0 6).bind (fun q52 => (if q52 = 0 then some ((-1), a_drifting_ways, a_drifting_waysLater) else (if j0_36 = 0 then some ((-1), a_drifting_ways, a_drifting_waysLater) else (F_X9_isWithin x5 0 1).bind (fun q67 => (if q67 = 0 then some ((-1), a_drifting_ways, a_drifting_waysLater) else (F_X2_pass x2 x3 x4 a_drifting_ways a_drifting_waysLater).bind (fun q83 => (F_X2_waysTo x1 q83.1).bind (fun q91 => (F_X9_fourTo x2).bind (fun q96 => (F_X9_inLowestTerms ((Int32.toInt64 q91)) q96 x5).bind (fun q101 => some ((Int64.toInt32 q101), q83.1, q83.2))))))))))))) (fun k_36 => jn (k_36 0) (fun k_35 => (if q3 = 0 then k_35 else (F_X9_isWithin x4 0 4).bind (fun q13 => (if q13 = 0 then k_35 else (F_X9_isWithin ((x3 + x4)) 0 4).bind (fun q25 => (if q25 = 0 then k_35 else k_36 1))))))))
theorem hdV_X9_drift : yX9_drift.cls = RX9 ∧ yX9_drift.cls ≠ "java/lang/invoke/MethodHandle" ∧ yX9_drift.cls ≠ "java/lang/invoke/VarHandle" ∧ (parseMethodDescriptor yX9_drift.desc).map (fun d => d.parameters.length) = some 5 := by decide +kernel
set_option maxHeartbeats 4000000 in
set_option maxRecDepth 100000 in
theorem c_X9_drift (l : Launch) (G : GG) (x1 : Int32) (x2 : Int32) (x3 : Int32) (x4 : Int32) (x5 : Int32) (h_this : Nat) (ad_this : Nat → Nat) (ad_this_drifting : Nat → Nat) (v_keptCount : Int32) (a_drifting_ways : Nat → Int32) (a_drifting_waysLater : Nat → Int32) (out : Int32 × (Nat → Int32) × (Nat → Int32)) (hF : F_X9_drift x1 x2 x3 x4 x5 a_drifting_ways a_drifting_waysLater = some out) : CtrI l yX9_drift (WS yX9_drift cX9_drift 7 (some .int)) { frames := 4, cells := 0, slots := 0, locals := 90 } G [.ref h_this, .int x1, .int x2, .int x3, .int x4, .int x5] [(h_this, oX9 ad_this v_keptCount), ((ad_this 12), oX2 ad_this_drifting ), ((ad_this_drifting 0), cI G 13 a_drifting_ways), ((ad_this_drifting 1), cI G 13 a_drifting_waysLater)] [(h_this, oX9 ad_this v_keptCount), ((ad_this 12), oX2 ad_this_drifting ), ((ad_this_drifting 0), cI G 13 out.2.1), ((ad_this_drifting 1), cI G 13 out.2.2)] out.1 := by
  refine startI (cc := cX9_drift) (maxL := 7) (by decide) rfl (Nat.le_of_ble_eq_true rfl) ?_
  intro p e s m args below meth c A Q hx hb hml hts hown hc hA hret ls H locs hl hW
  have hown : s.vm.findClass RX9 = some m.cls := hown
  have hg : ∀ w ∈ GOODS, w.before _ s = true := fun w h => hts w (List.mem_cons_of_mem _ h)
  have hl : lv_has ls 7 [(0, .ref h_this), (1, .int x1), (2, .int x2), (3, .int x3), (4, .int x4), (5, .int x5)] := hl
  rw [F_X9_drift] at hF
  refine lv_iload_n hx hb dX9_drift_0 rfl (lv_at hl 3 rfl) ?_
  refine lv_iconst (v := 0) hx hb dX9_drift_1 (by decide) ?_
  refine lv_iconst (v := 4) hx hb dX9_drift_2 (by decide) ?_
  obtain ⟨q3, c_3, hF⟩ := bd_el hF
  refine wcZ (ws' := [(h_this, oX9 ad_this v_keptCount), ((ad_this 12), oX2 ad_this_drifting ), ((ad_this_drifting 0), cI G 13 a_drifting_ways), ((ad_this_drifting 1), cI G 13 a_drifting_waysLater)]) (wc := []) (wr := [(h_this, oX9 ad_this v_keptCount), ((ad_this 12), oX2 ad_this_drifting ), ((ad_this_drifting 0), cI G 13 a_drifting_ways), ((ad_this_drifting 1), cI G 13 a_drifting_waysLater)]) (w1 := []) (va_runS (As := [.int x3, .int 0, .int 4]) (rest := []) ⟨hx, hb, hml, hown, hg⟩ (c_X9_isWithin l G x3 0 4 q3 c_3 H.size) (va_cwS 3 hg (gS wd_2_140 wd_2_47 wd_1_1 wd_2_48) rfl rfl rfl hdS_X9_isWithin ⟨(Nat.le_of_ble_eq_true rfl), (Nat.le_of_ble_eq_true rfl)⟩) (preS hc hW [] rfl (by decide)) rfl rfl hl.1 rfl (lv_room (Nat.le_of_ble_eq_true rfl)) dX9_drift_3 ⟨Nat.zero_le _, Nat.zero_le _⟩) hA hW [] [0, 1, 2, 3] [0, 1, 2, 3] rfl rfl (by decide) (by decide) rfl (by decide) (fun z_3 H locs hW => ?_)
  obtain ⟨k_36, e_36, hF⟩ := jn_el hF
  have J_36 : ∀ (j0_36 : Int32) (ls : Array Slot) (H : Heap) (locs : List Loc), k_36 j0_36 = some out → lv_has ls 7 [(0, .ref h_this), (1, .int x1), (2, .int x2), (3, .int x3), (4, .int x4), (5, .int x5)] → Wd G A s.heap [(h_this, oX9 ad_this v_keptCount), ((ad_this 12), oX2 ad_this_drifting ), ((ad_this_drifting 0), cI G 13 a_drifting_ways), ((ad_this_drifting 1), cI G 13 a_drifting_waysLater)] H locs → W p l e ({ frames := 4, cells := 0, slots := 0, locals := 90 } : Room) s m args below meth c H locs 0 0 Q (F0 m 36 ls [.int j0_36]) := by
    intro j0_36 ls H locs hF hl hW
    rw [e_36] at hF
    dsimp only at hF
    refine lv_istore (lv' := [(6, .int j0_36), (0, .ref h_this), (1, .int x1), (2, .int x2), (3, .int x3), (4, .int x4), (5, .int x5)]) hx hb dX9_drift_36 hl (by decide) rfl (fun ls hl => ?_)
    refine lv_iload_n hx hb dX9_drift_38 rfl (lv_at hl 2 rfl) ?_
    refine lv_iconst (v := 0) hx hb dX9_drift_39 (by decide) ?_
    refine lv_bipush (v := 12) hx hb dX9_drift_40 (by decide) ?_
    obtain ⟨q42, c_42, hF⟩ := bd_el hF
    refine wcZ (ws' := [(h_this, oX9 ad_this v_keptCount), ((ad_this 12), oX2 ad_this_drifting ), ((ad_this_drifting 0), cI G 13 a_drifting_ways), ((ad_this_drifting 1), cI G 13 a_drifting_waysLater)]) (wc := []) (wr := [(h_this, oX9 ad_this v_keptCount), ((ad_this 12), oX2 ad_this_drifting ), ((ad_this_drifting 0), cI G 13 a_drifting_ways), ((ad_this_drifting 1), cI G 13 a_drifting_waysLater)]) (w1 := []) (va_runS (As := [.int x1, .int 0, .int 12]) (rest := []) ⟨hx, hb, hml, hown, hg⟩ (c_X9_isWithin l G x1 0 12 q42 c_42 H.size) (va_cwS 3 hg (gS wd_2_140 wd_2_47 wd_1_1 wd_2_48) rfl rfl rfl hdS_X9_isWithin ⟨(Nat.le_of_ble_eq_true rfl), (Nat.le_of_ble_eq_true rfl)⟩) (preS hc hW [] rfl (by decide)) rfl rfl hl.1 rfl (lv_room (Nat.le_of_ble_eq_true rfl)) dX9_drift_42 ⟨Nat.zero_le _, Nat.zero_le _⟩) hA hW [] [0, 1, 2, 3] [0, 1, 2, 3] rfl rfl (by decide) (by decide) rfl (by decide) (fun z_42 H locs hW => ?_)
    refine lv_if_eq (tgt := 73) hx hb dX9_drift_45 (by decide) (fun c_45 => ?_) (fun c_45 => ?_)
    · have hF := ite_t hF c_45
      refine lv_iconst (v := (-1)) hx hb dX9_drift_73 (by decide) ?_
      obtain rfl := Option.some.inj hF
      exact hret _ _ _ _ hW dX9_drift_74
    · have hF := ite_f hF c_45
      refine lv_iload_n hx hb dX9_drift_48 rfl (lv_at hl 3 rfl) ?_
      refine lv_iconst (v := 0) hx hb dX9_drift_49 (by decide) ?_
      refine lv_bipush (v := 6) hx hb dX9_drift_50 (by decide) ?_
      obtain ⟨q52, c_52, hF⟩ := bd_el hF
      refine wcZ (ws' := [(h_this, oX9 ad_this v_keptCount), ((ad_this 12), oX2 ad_this_drifting ), ((ad_this_drifting 0), cI G 13 a_drifting_ways), ((ad_this_drifting 1), cI G 13 a_drifting_waysLater)]) (wc := []) (wr := [(h_this, oX9 ad_this v_keptCount), ((ad_this 12), oX2 ad_this_drifting ), ((ad_this_drifting 0), cI G 13 a_drifting_ways), ((ad_this_drifting 1), cI G 13 a_drifting_waysLater)]) (w1 := []) (va_runS (As := [.int x2, .int 0, .int 6]) (rest := []) ⟨hx, hb, hml, hown, hg⟩ (c_X9_isWithin l G x2 0 6 q52 c_52 H.size) (va_cwS 3 hg (gS wd_2_140 wd_2_47 wd_1_1 wd_2_48) rfl rfl rfl hdS_X9_isWithin ⟨(Nat.le_of_ble_eq_true rfl), (Nat.le_of_ble_eq_true rfl)⟩) (preS hc hW [] rfl (by decide)) rfl rfl hl.1 rfl (lv_room (Nat.le_of_ble_eq_true rfl)) dX9_drift_52 ⟨Nat.zero_le _, Nat.zero_le _⟩) hA hW [] [0, 1, 2, 3] [0, 1, 2, 3] rfl rfl (by decide) (by decide) rfl (by decide) (fun z_52 H locs hW => ?_)
      refine lv_if_eq (tgt := 73) hx hb dX9_drift_55 (by decide) (fun c_55 => ?_) (fun c_55 => ?_)
      · have hF := ite_t hF c_55
        refine lv_iconst (v := (-1)) hx hb dX9_drift_73 (by decide) ?_
        obtain rfl := Option.some.inj hF
        exact hret _ _ _ _ hW dX9_drift_74
      · have hF := ite_f hF c_55
        refine lv_iload hx hb dX9_drift_58 (lv_at hl 0 rfl) ?_
        refine lv_if_eq (tgt := 73) hx hb dX9_drift_60 (by decide) (fun c_60 => ?_) (fun c_60 => ?_)
        · have hF := ite_t hF c_60
          refine lv_iconst (v := (-1)) hx hb dX9_drift_73 (by decide) ?_
          obtain rfl := Option.some.inj hF
          exact hret _ _ _ _ hW dX9_drift_74
        · have hF := ite_f hF c_60
          refine lv_iload hx hb dX9_drift_63 (lv_at hl 6 rfl) ?_
          refine lv_iconst (v := 0) hx hb dX9_drift_65 (by decide) ?_
          refine lv_iconst (v := 1) hx hb dX9_drift_66 (by decide) ?_
          obtain ⟨q67, c_67, hF⟩ := bd_el hF
          refine wcZ (ws' := [(h_this, oX9 ad_this v_keptCount), ((ad_this 12), oX2 ad_this_drifting ), ((ad_this_drifting 0), cI G 13 a_drifting_ways), ((ad_this_drifting 1), cI G 13 a_drifting_waysLater)]) (wc := []) (wr := [(h_this, oX9 ad_this v_keptCount), ((ad_this 12), oX2 ad_this_drifting ), ((ad_this_drifting 0), cI G 13 a_drifting_ways), ((ad_this_drifting 1), cI G 13 a_drifting_waysLater)]) (w1 := []) (va_runS (As := [.int x5, .int 0, .int 1]) (rest := []) ⟨hx, hb, hml, hown, hg⟩ (c_X9_isWithin l G x5 0 1 q67 c_67 H.size) (va_cwS 3 hg (gS wd_2_140 wd_2_47 wd_1_1 wd_2_48) rfl rfl rfl hdS_X9_isWithin ⟨(Nat.le_of_ble_eq_true rfl), (Nat.le_of_ble_eq_true rfl)⟩) (preS hc hW [] rfl (by decide)) rfl rfl hl.1 rfl (lv_room (Nat.le_of_ble_eq_true rfl)) dX9_drift_67 ⟨Nat.zero_le _, Nat.zero_le _⟩) hA hW [] [0, 1, 2, 3] [0, 1, 2, 3] rfl rfl (by decide) (by decide) rfl (by decide) (fun z_67 H locs hW => ?_)
          refine lv_if_ne (tgt := 75) hx hb dX9_drift_70 (by decide) (fun c_70 => ?_) (fun c_70 => ?_)
          · have hF := ite_f hF c_70
            refine lv_aload_n hx hb dX9_drift_75 rfl (lv_at hl 1 rfl) ?_
            refine va_get (D := G.1) (ci := 8) (v := .ref ((ad_this 12))) (C := RX9) (T := TX9) (N := 13) hx hb hg hu_X9 hown hc.1 hW.1 0 rfl rfl 12 (by decide) (hg _ wd_2_107) (fun _ h9 => h9) rfl dX9_drift_76 ?_
            refine lv_iload_n hx hb dX9_drift_79 rfl (lv_at hl 3 rfl) ?_
            refine lv_iload_n hx hb dX9_drift_80 rfl (lv_at hl 4 rfl) ?_
            refine lv_iload hx hb dX9_drift_81 (lv_at hl 5 rfl) ?_
            obtain ⟨q83, c_83, hF⟩ := bd_el hF
            refine wcV (ws' := [(h_this, oX9 ad_this v_keptCount), ((ad_this 12), oX2 ad_this_drifting ), ((ad_this_drifting 0), cI G 13 q83.1), ((ad_this_drifting 1), cI G 13 q83.2)]) (wc := [((ad_this 12), oX2 ad_this_drifting ), ((ad_this_drifting 0), cI G 13 a_drifting_ways), ((ad_this_drifting 1), cI G 13 a_drifting_waysLater)]) (wr := [(h_this, oX9 ad_this v_keptCount)]) (w1 := [((ad_this 12), oX2 ad_this_drifting ), ((ad_this_drifting 0), cI G 13 q83.1), ((ad_this_drifting 1), cI G 13 q83.2)]) (va_runV (As := [.int x2, .int x3, .int x4]) (rest := []) ⟨hx, hb, hml, hown, hg⟩ (c_X2_pass l G x2 x3 x4 ((ad_this 12)) ad_this_drifting a_drifting_ways a_drifting_waysLater q83 c_83 H.size) (cwV 3 hg (gV wd_3_165 wd_3_166 wd_3_167 wd_1_9 wd_3_168) rfl rfl rfl hdV_X2_pass ⟨(Nat.le_of_ble_eq_true rfl), (Nat.le_of_ble_eq_true rfl)⟩) (preV hc hW [1, 2, 3] rfl (by decide) rfl rfl) rfl rfl hl.1 rfl (lv_room (Nat.le_of_ble_eq_true rfl)) dX9_drift_83 ⟨Nat.zero_le _, Nat.zero_le _⟩) hA hW [1, 2, 3] [0] [0, 1, 2, 3] rfl rfl (by decide) (by decide) rfl (by decide) (fun H locs hW => ?_)
            refine lv_aload_n hx hb dX9_drift_86 rfl (lv_at hl 1 rfl) ?_
            refine va_get (D := G.1) (ci := 8) (v := .ref ((ad_this 12))) (C := RX9) (T := TX9) (N := 13) hx hb hg hu_X9 hown hc.1 hW.1 0 rfl rfl 12 (by decide) (hg _ wd_2_107) (fun _ h9 => h9) rfl dX9_drift_87 ?_
            refine lv_iload_n hx hb dX9_drift_90 rfl (lv_at hl 2 rfl) ?_
            obtain ⟨q91, c_91, hF⟩ := bd_el hF
            refine wcI (ws' := [(h_this, oX9 ad_this v_keptCount), ((ad_this 12), oX2 ad_this_drifting ), ((ad_this_drifting 0), cI G 13 q83.1), ((ad_this_drifting 1), cI G 13 q83.2)]) (wc := [((ad_this 12), oX2 ad_this_drifting ), ((ad_this_drifting 0), cI G 13 q83.1)]) (wr := [(h_this, oX9 ad_this v_keptCount), ((ad_this_drifting 1), cI G 13 q83.2)]) (w1 := [((ad_this 12), oX2 ad_this_drifting ), ((ad_this_drifting 0), cI G 13 q83.1)]) (va_runV (As := [.int x1]) (rest := []) ⟨hx, hb, hml, hown, hg⟩ (c_X2_waysTo l G x1 ((ad_this 12)) ad_this_drifting q83.1 q91 c_91 H.size) (cwV 1 hg (gV wd_3_179 wd_3_175 wd_3_176 wd_1_9 wd_3_177) rfl rfl rfl hdV_X2_waysTo ⟨(Nat.le_of_ble_eq_true rfl), (Nat.le_of_ble_eq_true rfl)⟩) (preV hc hW [1, 2] rfl (by decide) rfl rfl) rfl rfl hl.1 rfl (lv_room (Nat.le_of_ble_eq_true rfl)) dX9_drift_91 ⟨Nat.zero_le _, Nat.zero_le _⟩) hA hW [1, 2] [0, 3] [0, 2, 3, 1] rfl rfl (by decide) (by decide) rfl (by decide) (fun H locs hW => ?_)
            refine lv_i2l (v := (Int32.toInt64 q91)) hx hb dX9_drift_94 rfl ?_
            refine lv_iload_n hx hb dX9_drift_95 rfl (lv_at hl 3 rfl) ?_
            obtain ⟨q96, c_96, hF⟩ := bd_el hF
            refine wcJ (ws' := [(h_this, oX9 ad_this v_keptCount), ((ad_this 12), oX2 ad_this_drifting ), ((ad_this_drifting 0), cI G 13 q83.1), ((ad_this_drifting 1), cI G 13 q83.2)]) (wc := []) (wr := [(h_this, oX9 ad_this v_keptCount), ((ad_this 12), oX2 ad_this_drifting ), ((ad_this_drifting 0), cI G 13 q83.1), ((ad_this_drifting 1), cI G 13 q83.2)]) (w1 := []) (va_runS (As := [.int x2]) (rest := [.long ((Int32.toInt64 q91))]) ⟨hx, hb, hml, hown, hg⟩ (c_X9_fourTo l G x2 q96 c_96 H.size) (va_cwS 1 hg (gS wd_3_97 wd_3_98 wd_1_1 wd_3_99) rfl rfl rfl hdS_X9_fourTo ⟨(Nat.le_of_ble_eq_true rfl), (Nat.le_of_ble_eq_true rfl)⟩) (preS hc hW [] rfl (by decide)) rfl rfl hl.1 rfl (lv_room (Nat.le_of_ble_eq_true rfl)) dX9_drift_96 ⟨Nat.zero_le _, Nat.zero_le _⟩) hA hW [] [0, 1, 2, 3] [0, 1, 2, 3] rfl rfl (by decide) (by decide) rfl (by decide) (fun H locs hW => ?_)
            refine lv_iload hx hb dX9_drift_99 (lv_at hl 6 rfl) ?_
            obtain ⟨q101, c_101, hF⟩ := bd_el hF
            refine wcJ (ws' := [(h_this, oX9 ad_this v_keptCount), ((ad_this 12), oX2 ad_this_drifting ), ((ad_this_drifting 0), cI G 13 q83.1), ((ad_this_drifting 1), cI G 13 q83.2)]) (wc := []) (wr := [(h_this, oX9 ad_this v_keptCount), ((ad_this 12), oX2 ad_this_drifting ), ((ad_this_drifting 0), cI G 13 q83.1), ((ad_this_drifting 1), cI G 13 q83.2)]) (w1 := []) (va_runS (As := [.long ((Int32.toInt64 q91)), .long q96, .int x5]) (rest := []) ⟨hx, hb, hml, hown, hg⟩ (c_X9_inLowestTerms l G ((Int32.toInt64 q91)) q96 x5 q101 c_101 H.size) (va_cwS 3 hg (gS wd_3_36 wd_3_37 wd_1_1 wd_3_38) rfl rfl rfl hdS_X9_inLowestTerms ⟨(Nat.le_of_ble_eq_true rfl), (Nat.le_of_ble_eq_true rfl)⟩) (preS hc hW [] rfl (by decide)) rfl rfl hl.1 rfl (lv_room (Nat.le_of_ble_eq_true rfl)) dX9_drift_101 ⟨Nat.zero_le _, Nat.zero_le _⟩) hA hW [] [0, 1, 2, 3] [0, 1, 2, 3] rfl rfl (by decide) (by decide) rfl (by decide) (fun H locs hW => ?_)
            refine lv_l2i (v := (Int64.toInt32 q101)) hx hb dX9_drift_104 rfl ?_
            obtain rfl := Option.some.inj hF
            exact hret _ _ _ _ hW dX9_drift_105
          · have hF := ite_t hF c_70
            refine lv_iconst (v := (-1)) hx hb dX9_drift_73 (by decide) ?_
            obtain rfl := Option.some.inj hF
            exact hret _ _ _ _ hW dX9_drift_74
  obtain ⟨k_35, e_35, hF⟩ := jn_el hF
  have J_35 : ∀ (ls : Array Slot) (H : Heap) (locs : List Loc), k_35 = some out → lv_has ls 7 [(0, .ref h_this), (1, .int x1), (2, .int x2), (3, .int x3), (4, .int x4), (5, .int x5)] → Wd G A s.heap [(h_this, oX9 ad_this v_keptCount), ((ad_this 12), oX2 ad_this_drifting ), ((ad_this_drifting 0), cI G 13 a_drifting_ways), ((ad_this_drifting 1), cI G 13 a_drifting_waysLater)] H locs → W p l e ({ frames := 4, cells := 0, slots := 0, locals := 90 } : Room) s m args below meth c H locs 0 0 Q (F0 m 35 ls []) := by
    intro ls H locs hF hl hW
    rw [e_35] at hF
    refine lv_iconst (v := 0) hx hb dX9_drift_35 (by decide) ?_
    exact J_36 0 _ _ _ hF (lv_sub hl [0, 1, 2, 3, 4, 5] rfl) hW
  refine lv_if_eq (tgt := 35) hx hb dX9_drift_6 (by decide) (fun c_6 => ?_) (fun c_6 => ?_)
  · have hF := ite_t hF c_6
    exact J_35 _ _ _ hF (lv_sub hl [0, 1, 2, 3, 4, 5] rfl) hW
  · have hF := ite_f hF c_6
    refine lv_iload hx hb dX9_drift_9 (lv_at hl 4 rfl) ?_
    refine lv_iconst (v := 0) hx hb dX9_drift_11 (by decide) ?_
    refine lv_iconst (v := 4) hx hb dX9_drift_12 (by decide) ?_
    obtain ⟨q13, c_13, hF⟩ := bd_el hF
    refine wcZ (ws' := [(h_this, oX9 ad_this v_keptCount), ((ad_this 12), oX2 ad_this_drifting ), ((ad_this_drifting 0), cI G 13 a_drifting_ways), ((ad_this_drifting 1), cI G 13 a_drifting_waysLater)]) (wc := []) (wr := [(h_this, oX9 ad_this v_keptCount), ((ad_this 12), oX2 ad_this_drifting ), ((ad_this_drifting 0), cI G 13 a_drifting_ways), ((ad_this_drifting 1), cI G 13 a_drifting_waysLater)]) (w1 := []) (va_runS (As := [.int x4, .int 0, .int 4]) (rest := []) ⟨hx, hb, hml, hown, hg⟩ (c_X9_isWithin l G x4 0 4 q13 c_13 H.size) (va_cwS 3 hg (gS wd_2_140 wd_2_47 wd_1_1 wd_2_48) rfl rfl rfl hdS_X9_isWithin ⟨(Nat.le_of_ble_eq_true rfl), (Nat.le_of_ble_eq_true rfl)⟩) (preS hc hW [] rfl (by decide)) rfl rfl hl.1 rfl (lv_room (Nat.le_of_ble_eq_true rfl)) dX9_drift_13 ⟨Nat.zero_le _, Nat.zero_le _⟩) hA hW [] [0, 1, 2, 3] [0, 1, 2, 3] rfl rfl (by decide) (by decide) rfl (by decide) (fun z_13 H locs hW => ?_)
    refine lv_if_eq (tgt := 35) hx hb dX9_drift_16 (by decide) (fun c_16 => ?_) (fun c_16 => ?_)
    · have hF := ite_t hF c_16
      exact J_35 _ _ _ hF (lv_sub hl [0, 1, 2, 3, 4, 5] rfl) hW
    · have hF := ite_f hF c_16
      refine lv_iload_n hx hb dX9_drift_19 rfl (lv_at hl 3 rfl) ?_
      refine lv_iload hx hb dX9_drift_20 (lv_at hl 4 rfl) ?_
      refine lv_iadd hx hb dX9_drift_22 ?_
      refine lv_iconst (v := 0) hx hb dX9_drift_23 (by decide) ?_
      refine lv_iconst (v := 4) hx hb dX9_drift_24 (by decide) ?_
      obtain ⟨q25, c_25, hF⟩ := bd_el hF
      refine wcZ (ws' := [(h_this, oX9 ad_this v_keptCount), ((ad_this 12), oX2 ad_this_drifting ), ((ad_this_drifting 0), cI G 13 a_drifting_ways), ((ad_this_drifting 1), cI G 13 a_drifting_waysLater)]) (wc := []) (wr := [(h_this, oX9 ad_this v_keptCount), ((ad_this 12), oX2 ad_this_drifting ), ((ad_this_drifting 0), cI G 13 a_drifting_ways), ((ad_this_drifting 1), cI G 13 a_drifting_waysLater)]) (w1 := []) (va_runS (As := [.int ((x3 + x4)), .int 0, .int 4]) (rest := []) ⟨hx, hb, hml, hown, hg⟩ (c_X9_isWithin l G ((x3 + x4)) 0 4 q25 c_25 H.size) (va_cwS 3 hg (gS wd_2_140 wd_2_47 wd_1_1 wd_2_48) rfl rfl rfl hdS_X9_isWithin ⟨(Nat.le_of_ble_eq_true rfl), (Nat.le_of_ble_eq_true rfl)⟩) (preS hc hW [] rfl (by decide)) rfl rfl hl.1 rfl (lv_room (Nat.le_of_ble_eq_true rfl)) dX9_drift_25 ⟨Nat.zero_le _, Nat.zero_le _⟩) hA hW [] [0, 1, 2, 3] [0, 1, 2, 3] rfl rfl (by decide) (by decide) rfl (by decide) (fun z_25 H locs hW => ?_)
      refine lv_if_eq (tgt := 35) hx hb dX9_drift_28 (by decide) (fun c_28 => ?_) (fun c_28 => ?_)
      · have hF := ite_t hF c_28
        exact J_35 _ _ _ hF (lv_sub hl [0, 1, 2, 3, 4, 5] rfl) hW
      · have hF := ite_f hF c_28
        refine lv_iconst (v := 1) hx hb dX9_drift_31 (by decide) ?_
        refine lv_goto (tgt := 36) hx hb dX9_drift_32 (by decide) ?_
        exact J_36 1 _ _ _ hF (lv_sub hl [0, 1, 2, 3, 4, 5] rfl) hW
theorem dX9_ahead_0 : decode cX9_ahead 0 = .ok (.iload_n 1, 1) := by decide +kernel
theorem dX9_ahead_1 : decode cX9_ahead 1 = .ok (.iconst 0, 1) := by decide +kernel
theorem dX9_ahead_2 : decode cX9_ahead 2 = .ok (.aload_n 0, 1) := by decide +kernel
theorem dX9_ahead_3 : decode cX9_ahead 3 = .ok (.getfield 26, 3) := by decide +kernel
theorem dX9_ahead_6 : decode cX9_ahead 6 = .ok (.getfield 110, 3) := by decide +kernel
theorem dX9_ahead_9 : decode cX9_ahead 9 = .ok (.iconst 1, 1) := by decide +kernel
theorem dX9_ahead_10 : decode cX9_ahead 10 = .ok (.isub, 1) := by decide +kernel
theorem dX9_ahead_11 : decode cX9_ahead 11 = .ok (.invokestatic 104, 3) := by decide +kernel
theorem dX9_ahead_14 : decode cX9_ahead 14 = .ok (.ifCond .eq 25, 3) := by decide +kernel
theorem dX9_ahead_17 : decode cX9_ahead 17 = .ok (.iload_n 2, 1) := by decide +kernel
theorem dX9_ahead_18 : decode cX9_ahead 18 = .ok (.iconst 0, 1) := by decide +kernel
theorem dX9_ahead_19 : decode cX9_ahead 19 = .ok (.aload_n 0, 1) := by decide +kernel
theorem dX9_ahead_20 : decode cX9_ahead 20 = .ok (.getfield 26, 3) := by decide +kernel
theorem dX9_ahead_23 : decode cX9_ahead 23 = .ok (.getfield 110, 3) := by decide +kernel
theorem dX9_ahead_26 : decode cX9_ahead 26 = .ok (.iconst 1, 1) := by decide +kernel
theorem dX9_ahead_27 : decode cX9_ahead 27 = .ok (.isub, 1) := by decide +kernel
theorem dX9_ahead_28 : decode cX9_ahead 28 = .ok (.invokestatic 104, 3) := by decide +kernel
theorem dX9_ahead_31 : decode cX9_ahead 31 = .ok (.ifCond .eq 8, 3) := by decide +kernel
theorem dX9_ahead_34 : decode cX9_ahead 34 = .ok (.iload_n 1, 1) := by decide +kernel
theorem dX9_ahead_35 : decode cX9_ahead 35 = .ok (.iload_n 2, 1) := by decide +kernel
theorem dX9_ahead_36 : decode cX9_ahead 36 = .ok (.if_icmp .ne 5, 3) := by decide +kernel
theorem dX9_ahead_39 : decode cX9_ahead 39 = .ok (.iconst (-1), 1) := by decide +kernel
theorem dX9_ahead_40 : decode cX9_ahead 40 = .ok (.ireturn, 1) := by decide +kernel
theorem dX9_ahead_41 : decode cX9_ahead 41 = .ok (.aload_n 0, 1) := by decide +kernel
theorem dX9_ahead_42 : decode cX9_ahead 42 = .ok (.getfield 63, 3) := by decide +kernel
theorem dX9_ahead_45 : decode cX9_ahead 45 = .ok (.getfield 116, 3) := by decide +kernel
theorem dX9_ahead_48 : decode cX9_ahead 48 = .ok (.bipush 8, 2) := by decide +kernel
theorem dX9_ahead_50 : decode cX9_ahead 50 = .ok (.if_icmp .lt 6, 3) := by decide +kernel
theorem dX9_ahead_53 : decode cX9_ahead 53 = .ok (.bipush (-3), 2) := by decide +kernel
theorem dX9_ahead_55 : decode cX9_ahead 55 = .ok (.ireturn, 1) := by decide +kernel
theorem dX9_ahead_56 : decode cX9_ahead 56 = .ok (.aload_n 0, 1) := by decide +kernel
theorem dX9_ahead_57 : decode cX9_ahead 57 = .ok (.getfield 63, 3) := by decide +kernel
theorem dX9_ahead_60 : decode cX9_ahead 60 = .ok (.iload_n 1, 1) := by decide +kernel
theorem dX9_ahead_61 : decode cX9_ahead 61 = .ok (.iload_n 2, 1) := by decide +kernel
theorem dX9_ahead_62 : decode cX9_ahead 62 = .ok (.invokevirtual 232, 3) := by decide +kernel
theorem dX9_ahead_65 : decode cX9_ahead 65 = .ok (.aload_n 0, 1) := by decide +kernel
theorem dX9_ahead_66 : decode cX9_ahead 66 = .ok (.getfield 63, 3) := by decide +kernel
theorem dX9_ahead_69 : decode cX9_ahead 69 = .ok (.getfield 116, 3) := by decide +kernel
theorem dX9_ahead_72 : decode cX9_ahead 72 = .ok (.ireturn, 1) := by decide +kernel
def F_X9_ahead (x1 : Int32) (x2 : Int32) (v_told_pairs : Int32) (a_told_former : Nat → Int32) (a_told_latter : Nat → Int32) (v_town_signCount : Int32) : Option (Int32 × Int32 × (Nat → Int32) × (Nat → Int32)) := (F_X9_isWithin x1 0 ((v_town_signCount - 1))).bind (fun q11 => (if q11 = 0 then some ((-1), v_told_pairs, a_told_former, a_told_latter) else (F_X9_isWithin x2 0 ((v_town_signCount - 1))).bind (fun q28 => (if q28 = 0 then some ((-1), v_told_pairs, a_told_former, a_told_latter) else (if x1 = x2 then some ((-1), v_told_pairs, a_told_former, a_told_latter) else (if v_told_pairs < 8 then (F_X7_append x1 x2 v_told_pairs a_told_former a_told_latter).bind (fun q62 => some (q62.1, q62.1, q62.2.1, q62.2.2)) else some ((-3), v_told_pairs, a_told_former, a_told_latter)))))))
theorem hdV_X9_ahead : yX9_ahead.cls = RX9 ∧ yX9_ahead.cls ≠ "java/lang/invoke/MethodHandle" ∧ yX9_ahead.cls ≠ "java/lang/invoke/VarHandle" ∧ (parseMethodDescriptor yX9_ahead.desc).map (fun d => d.parameters.length) = some 2 := by decide +kernel
set_option maxHeartbeats 4000000 in
set_option maxRecDepth 100000 in
theorem c_X9_ahead (l : Launch) (G : GG) (x1 : Int32) (x2 : Int32) (h_this : Nat) (ad_this : Nat → Nat) (ad_this_told : Nat → Nat) (ad_this_town : Nat → Nat) (v_keptCount : Int32) (v_told_pairs : Int32) (a_told_former : Nat → Int32) (a_told_latter : Nat → Int32) (v_town_signCount : Int32) (v_town_houseCount : Int32) (v_town_boatCount : Int32) (v_town_workCount : Int32) (v_town_turnCost : Int32) (v_town_boatDayCost : Int32) (out : Int32 × Int32 × (Nat → Int32) × (Nat → Int32)) (hF : F_X9_ahead x1 x2 v_told_pairs a_told_former a_told_latter v_town_signCount = some out) : CtrI l yX9_ahead (WS yX9_ahead cX9_ahead 3 (some .int)) { frames := 2, cells := 0, slots := 0, locals := 44 } G [.ref h_this, .int x1, .int x2] [(h_this, oX9 ad_this v_keptCount), ((ad_this 10), oX7 ad_this_told v_told_pairs), ((ad_this_told 0), cI G 8 a_told_former), ((ad_this_told 1), cI G 8 a_told_latter), ((ad_this 2), oX8 ad_this_town v_town_signCount v_town_houseCount v_town_boatCount v_town_workCount v_town_turnCost v_town_boatDayCost)] [(h_this, oX9 ad_this v_keptCount), ((ad_this 10), oX7 ad_this_told out.2.1), ((ad_this_told 0), cI G 8 out.2.2.1), ((ad_this_told 1), cI G 8 out.2.2.2), ((ad_this 2), oX8 ad_this_town v_town_signCount v_town_houseCount v_town_boatCount v_town_workCount v_town_turnCost v_town_boatDayCost)] out.1 := by
  refine startI (cc := cX9_ahead) (maxL := 3) (by decide) rfl (Nat.le_of_ble_eq_true rfl) ?_
  intro p e s m args below meth c A Q hx hb hml hts hown hc hA hret ls H locs hl hW
  have hown : s.vm.findClass RX9 = some m.cls := hown
  have hg : ∀ w ∈ GOODS, w.before _ s = true := fun w h => hts w (List.mem_cons_of_mem _ h)
  have hl : lv_has ls 3 [(0, .ref h_this), (1, .int x1), (2, .int x2)] := hl
  rw [F_X9_ahead] at hF
  refine lv_iload_n hx hb dX9_ahead_0 rfl (lv_at hl 1 rfl) ?_
  refine lv_iconst (v := 0) hx hb dX9_ahead_1 (by decide) ?_
  refine lv_aload_n hx hb dX9_ahead_2 rfl (lv_at hl 0 rfl) ?_
  refine va_get (D := G.1) (ci := 8) (v := .ref ((ad_this 2))) (C := RX9) (T := TX9) (N := 13) hx hb hg hu_X9 hown hc.1 hW.1 0 rfl rfl 2 (by decide) (hg _ wd_2_97) (fun _ h9 => h9) rfl dX9_ahead_3 ?_
  refine va_get (D := G.1) (ci := 7) (v := .int v_town_signCount) (C := RX8) (T := TX8) (N := 13) hx hb hg hu_X8 hown hc.1 hW.1 4 rfl rfl 7 (by decide) (hg _ wd_1_77) (fun _ h9 => h9) rfl dX9_ahead_6 ?_
  refine lv_iconst (v := 1) hx hb dX9_ahead_9 (by decide) ?_
  refine lv_isub hx hb dX9_ahead_10 ?_
  obtain ⟨q11, c_11, hF⟩ := bd_el hF
  refine wcZ (ws' := [(h_this, oX9 ad_this v_keptCount), ((ad_this 10), oX7 ad_this_told v_told_pairs), ((ad_this_told 0), cI G 8 a_told_former), ((ad_this_told 1), cI G 8 a_told_latter), ((ad_this 2), oX8 ad_this_town v_town_signCount v_town_houseCount v_town_boatCount v_town_workCount v_town_turnCost v_town_boatDayCost)]) (wc := []) (wr := [(h_this, oX9 ad_this v_keptCount), ((ad_this 10), oX7 ad_this_told v_told_pairs), ((ad_this_told 0), cI G 8 a_told_former), ((ad_this_told 1), cI G 8 a_told_latter), ((ad_this 2), oX8 ad_this_town v_town_signCount v_town_houseCount v_town_boatCount v_town_workCount v_town_turnCost v_town_boatDayCost)]) (w1 := []) (va_runS (As := [.int x1, .int 0, .int ((v_town_signCount - 1))]) (rest := []) ⟨hx, hb, hml, hown, hg⟩ (c_X9_isWithin l G x1 0 ((v_town_signCount - 1)) q11 c_11 H.size) (va_cwS 3 hg (gS wd_2_140 wd_2_47 wd_1_1 wd_2_48) rfl rfl rfl hdS_X9_isWithin ⟨(Nat.le_of_ble_eq_true rfl), (Nat.le_of_ble_eq_true rfl)⟩) (preS hc hW [] rfl (by decide)) rfl rfl hl.1 rfl (lv_room (Nat.le_of_ble_eq_true rfl)) dX9_ahead_11 ⟨Nat.zero_le _, Nat.zero_le _⟩) hA hW [] [0, 1, 2, 3, 4] [0, 1, 2, 3, 4] rfl rfl (by decide) (by decide) rfl (by decide) (fun z_11 H locs hW => ?_)
  refine lv_if_eq (tgt := 39) hx hb dX9_ahead_14 (by decide) (fun c_14 => ?_) (fun c_14 => ?_)
  · have hF := ite_t hF c_14
    refine lv_iconst (v := (-1)) hx hb dX9_ahead_39 (by decide) ?_
    obtain rfl := Option.some.inj hF
    exact hret _ _ _ _ hW dX9_ahead_40
  · have hF := ite_f hF c_14
    refine lv_iload_n hx hb dX9_ahead_17 rfl (lv_at hl 2 rfl) ?_
    refine lv_iconst (v := 0) hx hb dX9_ahead_18 (by decide) ?_
    refine lv_aload_n hx hb dX9_ahead_19 rfl (lv_at hl 0 rfl) ?_
    refine va_get (D := G.1) (ci := 8) (v := .ref ((ad_this 2))) (C := RX9) (T := TX9) (N := 13) hx hb hg hu_X9 hown hc.1 hW.1 0 rfl rfl 2 (by decide) (hg _ wd_2_97) (fun _ h9 => h9) rfl dX9_ahead_20 ?_
    refine va_get (D := G.1) (ci := 7) (v := .int v_town_signCount) (C := RX8) (T := TX8) (N := 13) hx hb hg hu_X8 hown hc.1 hW.1 4 rfl rfl 7 (by decide) (hg _ wd_1_77) (fun _ h9 => h9) rfl dX9_ahead_23 ?_
    refine lv_iconst (v := 1) hx hb dX9_ahead_26 (by decide) ?_
    refine lv_isub hx hb dX9_ahead_27 ?_
    obtain ⟨q28, c_28, hF⟩ := bd_el hF
    refine wcZ (ws' := [(h_this, oX9 ad_this v_keptCount), ((ad_this 10), oX7 ad_this_told v_told_pairs), ((ad_this_told 0), cI G 8 a_told_former), ((ad_this_told 1), cI G 8 a_told_latter), ((ad_this 2), oX8 ad_this_town v_town_signCount v_town_houseCount v_town_boatCount v_town_workCount v_town_turnCost v_town_boatDayCost)]) (wc := []) (wr := [(h_this, oX9 ad_this v_keptCount), ((ad_this 10), oX7 ad_this_told v_told_pairs), ((ad_this_told 0), cI G 8 a_told_former), ((ad_this_told 1), cI G 8 a_told_latter), ((ad_this 2), oX8 ad_this_town v_town_signCount v_town_houseCount v_town_boatCount v_town_workCount v_town_turnCost v_town_boatDayCost)]) (w1 := []) (va_runS (As := [.int x2, .int 0, .int ((v_town_signCount - 1))]) (rest := []) ⟨hx, hb, hml, hown, hg⟩ (c_X9_isWithin l G x2 0 ((v_town_signCount - 1)) q28 c_28 H.size) (va_cwS 3 hg (gS wd_2_140 wd_2_47 wd_1_1 wd_2_48) rfl rfl rfl hdS_X9_isWithin ⟨(Nat.le_of_ble_eq_true rfl), (Nat.le_of_ble_eq_true rfl)⟩) (preS hc hW [] rfl (by decide)) rfl rfl hl.1 rfl (lv_room (Nat.le_of_ble_eq_true rfl)) dX9_ahead_28 ⟨Nat.zero_le _, Nat.zero_le _⟩) hA hW [] [0, 1, 2, 3, 4] [0, 1, 2, 3, 4] rfl rfl (by decide) (by decide) rfl (by decide) (fun z_28 H locs hW => ?_)
    refine lv_if_eq (tgt := 39) hx hb dX9_ahead_31 (by decide) (fun c_31 => ?_) (fun c_31 => ?_)
    · have hF := ite_t hF c_31
      refine lv_iconst (v := (-1)) hx hb dX9_ahead_39 (by decide) ?_
      obtain rfl := Option.some.inj hF
      exact hret _ _ _ _ hW dX9_ahead_40
    · have hF := ite_f hF c_31
      refine lv_iload_n hx hb dX9_ahead_34 rfl (lv_at hl 1 rfl) ?_
      refine lv_iload_n hx hb dX9_ahead_35 rfl (lv_at hl 2 rfl) ?_
      refine lv_icmp_ne (tgt := 41) hx hb dX9_ahead_36 (by decide) (fun c_36 => ?_) (fun c_36 => ?_)
      · have hF := ite_f hF c_36
        refine lv_aload_n hx hb dX9_ahead_41 rfl (lv_at hl 0 rfl) ?_
        refine va_get (D := G.1) (ci := 8) (v := .ref ((ad_this 10))) (C := RX9) (T := TX9) (N := 13) hx hb hg hu_X9 hown hc.1 hW.1 0 rfl rfl 10 (by decide) (hg _ wd_2_105) (fun _ h9 => h9) rfl dX9_ahead_42 ?_
        refine va_get (D := G.1) (ci := 6) (v := .int v_told_pairs) (C := RX7) (T := TX7) (N := 4) hx hb hg hu_X7 hown hc.1 hW.1 1 rfl rfl 3 (by decide) (hg _ wd_1_163) (fun _ h9 => h9) rfl dX9_ahead_45 ?_
        refine lv_bipush (v := 8) hx hb dX9_ahead_48 (by decide) ?_
        refine lv_icmp_lt (tgt := 56) hx hb dX9_ahead_50 (by decide) (fun c_50 => ?_) (fun c_50 => ?_)
        · have hF := ite_t hF c_50
          refine lv_aload_n hx hb dX9_ahead_56 rfl (lv_at hl 0 rfl) ?_
          refine va_get (D := G.1) (ci := 8) (v := .ref ((ad_this 10))) (C := RX9) (T := TX9) (N := 13) hx hb hg hu_X9 hown hc.1 hW.1 0 rfl rfl 10 (by decide) (hg _ wd_2_105) (fun _ h9 => h9) rfl dX9_ahead_57 ?_
          refine lv_iload_n hx hb dX9_ahead_60 rfl (lv_at hl 1 rfl) ?_
          refine lv_iload_n hx hb dX9_ahead_61 rfl (lv_at hl 2 rfl) ?_
          obtain ⟨q62, c_62, hF⟩ := bd_el hF
          refine wcV (ws' := [(h_this, oX9 ad_this v_keptCount), ((ad_this 10), oX7 ad_this_told q62.1), ((ad_this_told 0), cI G 8 q62.2.1), ((ad_this_told 1), cI G 8 q62.2.2), ((ad_this 2), oX8 ad_this_town v_town_signCount v_town_houseCount v_town_boatCount v_town_workCount v_town_turnCost v_town_boatDayCost)]) (wc := [((ad_this 10), oX7 ad_this_told v_told_pairs), ((ad_this_told 0), cI G 8 a_told_former), ((ad_this_told 1), cI G 8 a_told_latter)]) (wr := [(h_this, oX9 ad_this v_keptCount), ((ad_this 2), oX8 ad_this_town v_town_signCount v_town_houseCount v_town_boatCount v_town_workCount v_town_turnCost v_town_boatDayCost)]) (w1 := [((ad_this 10), oX7 ad_this_told q62.1), ((ad_this_told 0), cI G 8 q62.2.1), ((ad_this_told 1), cI G 8 q62.2.2)]) (va_runV (As := [.int x1, .int x2]) (rest := []) ⟨hx, hb, hml, hown, hg⟩ (c_X7_append l G x1 x2 ((ad_this 10)) ad_this_told v_told_pairs a_told_former a_told_latter q62 c_62 H.size) (cwV 2 hg (gV wd_3_184 wd_3_185 wd_3_186 wd_1_7 wd_3_187) rfl rfl rfl hdV_X7_append ⟨(Nat.le_of_ble_eq_true rfl), (Nat.le_of_ble_eq_true rfl)⟩) (preV hc hW [1, 2, 3] rfl (by decide) rfl rfl) rfl rfl hl.1 rfl (lv_room (Nat.le_of_ble_eq_true rfl)) dX9_ahead_62 ⟨Nat.zero_le _, Nat.zero_le _⟩) hA hW [1, 2, 3] [0, 4] [0, 2, 3, 4, 1] rfl rfl (by decide) (by decide) rfl (by decide) (fun H locs hW => ?_)
          refine lv_aload_n hx hb dX9_ahead_65 rfl (lv_at hl 0 rfl) ?_
          refine va_get (D := G.1) (ci := 8) (v := .ref ((ad_this 10))) (C := RX9) (T := TX9) (N := 13) hx hb hg hu_X9 hown hc.1 hW.1 0 rfl rfl 10 (by decide) (hg _ wd_2_105) (fun _ h9 => h9) rfl dX9_ahead_66 ?_
          refine va_get (D := G.1) (ci := 6) (v := .int q62.1) (C := RX7) (T := TX7) (N := 4) hx hb hg hu_X7 hown hc.1 hW.1 1 rfl rfl 3 (by decide) (hg _ wd_1_163) (fun _ h9 => h9) rfl dX9_ahead_69 ?_
          obtain rfl := Option.some.inj hF
          exact hret _ _ _ _ hW dX9_ahead_72
        · have hF := ite_f hF c_50
          refine lv_bipush (v := (-3)) hx hb dX9_ahead_53 (by decide) ?_
          obtain rfl := Option.some.inj hF
          exact hret _ _ _ _ hW dX9_ahead_55
      · have hF := ite_t hF c_36
        refine lv_iconst (v := (-1)) hx hb dX9_ahead_39 (by decide) ?_
        obtain rfl := Option.some.inj hF
        exact hret _ _ _ _ hW dX9_ahead_40
theorem dX9_forget_0 : decode cX9_forget 0 = .ok (.aload_n 0, 1) := by decide +kernel
theorem dX9_forget_1 : decode cX9_forget 1 = .ok (.getfield 63, 3) := by decide +kernel
theorem dX9_forget_4 : decode cX9_forget 4 = .ok (.getfield 116, 3) := by decide +kernel
theorem dX9_forget_7 : decode cX9_forget 7 = .ok (.istore_n 1, 1) := by decide +kernel
theorem dX9_forget_8 : decode cX9_forget 8 = .ok (.aload_n 0, 1) := by decide +kernel
theorem dX9_forget_9 : decode cX9_forget 9 = .ok (.getfield 63, 3) := by decide +kernel
theorem dX9_forget_12 : decode cX9_forget 12 = .ok (.iconst 0, 1) := by decide +kernel
theorem dX9_forget_13 : decode cX9_forget 13 = .ok (.putfield 116, 3) := by decide +kernel
theorem dX9_forget_16 : decode cX9_forget 16 = .ok (.iload_n 1, 1) := by decide +kernel
theorem dX9_forget_17 : decode cX9_forget 17 = .ok (.ireturn, 1) := by decide +kernel
def F_X9_forget (v_told_pairs : Int32) : Option (Int32 × Int32) := some (v_told_pairs, 0)
theorem hdV_X9_forget : yX9_forget.cls = RX9 ∧ yX9_forget.cls ≠ "java/lang/invoke/MethodHandle" ∧ yX9_forget.cls ≠ "java/lang/invoke/VarHandle" ∧ (parseMethodDescriptor yX9_forget.desc).map (fun d => d.parameters.length) = some 0 := by decide +kernel
set_option maxHeartbeats 4000000 in
set_option maxRecDepth 100000 in
theorem c_X9_forget (l : Launch) (G : GG) (h_this : Nat) (ad_this : Nat → Nat) (ad_this_told : Nat → Nat) (v_keptCount : Int32) (v_told_pairs : Int32) (out : Int32 × Int32) (hF : F_X9_forget v_told_pairs = some out) : CtrI l yX9_forget (WS yX9_forget cX9_forget 2 (some .int)) { frames := 0, cells := 0, slots := 0, locals := 0 } G [.ref h_this] [(h_this, oX9 ad_this v_keptCount), ((ad_this 10), oX7 ad_this_told v_told_pairs)] [(h_this, oX9 ad_this v_keptCount), ((ad_this 10), oX7 ad_this_told out.2)] out.1 := by
  refine startI (cc := cX9_forget) (maxL := 2) (by decide) rfl (Nat.le_of_ble_eq_true rfl) ?_
  intro p e s m args below meth c A Q hx hb hml hts hown hc hA hret ls H locs hl hW
  have hown : s.vm.findClass RX9 = some m.cls := hown
  have hg : ∀ w ∈ GOODS, w.before _ s = true := fun w h => hts w (List.mem_cons_of_mem _ h)
  have hl : lv_has ls 2 [(0, .ref h_this)] := hl
  rw [F_X9_forget] at hF
  refine lv_aload_n hx hb dX9_forget_0 rfl (lv_at hl 0 rfl) ?_
  refine va_get (D := G.1) (ci := 8) (v := .ref ((ad_this 10))) (C := RX9) (T := TX9) (N := 13) hx hb hg hu_X9 hown hc.1 hW.1 0 rfl rfl 10 (by decide) (hg _ wd_2_105) (fun _ h9 => h9) rfl dX9_forget_1 ?_
  refine va_get (D := G.1) (ci := 6) (v := .int v_told_pairs) (C := RX7) (T := TX7) (N := 4) hx hb hg hu_X7 hown hc.1 hW.1 1 rfl rfl 3 (by decide) (hg _ wd_1_163) (fun _ h9 => h9) rfl dX9_forget_4 ?_
  refine lv_istore_n (lv' := [(1, .int v_told_pairs), (0, .ref h_this)]) hx hb dX9_forget_7 rfl hl (by decide) rfl (fun ls hl => ?_)
  refine lv_aload_n hx hb dX9_forget_8 rfl (lv_at hl 1 rfl) ?_
  refine va_get (D := G.1) (ci := 8) (v := .ref ((ad_this 10))) (C := RX9) (T := TX9) (N := 13) hx hb hg hu_X9 hown hc.1 hW.1 0 rfl rfl 10 (by decide) (hg _ wd_2_105) (fun _ h9 => h9) rfl dX9_forget_9 ?_
  refine lv_iconst (v := 0) hx hb dX9_forget_12 (by decide) ?_
  refine va_put (D := G.1) (ci := 6) (v := .int 0) (ty := .int) (C := RX7) (T := TX7) (N := 4) hx hb hg hu_X7 tyX7 tyX7_ok nmX7 hown hc.1 hW.1 hW.2.1 hW.2.2 1 rfl rfl 3 (by decide) (hg _ wd_1_163) (fun _ h9 => h9) rfl (by decide +kernel) rfl rfl (Nat.le_of_ble_eq_true rfl) dX9_forget_13 (fun H locs hP hD hS => ?_)
  have hW : Wd G A s.heap [(h_this, oX9 ad_this v_keptCount), ((ad_this 10), oX7 ad_this_told 0)] H locs := ⟨hP, hD, hS⟩
  refine lv_iload_n hx hb dX9_forget_16 rfl (lv_at hl 0 rfl) ?_
  obtain rfl := Option.some.inj hF
  exact hret _ _ _ _ hW dX9_forget_17
theorem dX9_first_0 : decode cX9_first 0 = .ok (.aload_n 0, 1) := by decide +kernel
theorem dX9_first_1 : decode cX9_first 1 = .ok (.getfield 63, 3) := by decide +kernel
theorem dX9_first_4 : decode cX9_first 4 = .ok (.aload_n 0, 1) := by decide +kernel
theorem dX9_first_5 : decode cX9_first 5 = .ok (.getfield 26, 3) := by decide +kernel
theorem dX9_first_8 : decode cX9_first 8 = .ok (.getfield 110, 3) := by decide +kernel
theorem dX9_first_11 : decode cX9_first 11 = .ok (.invokevirtual 233, 3) := by decide +kernel
theorem dX9_first_14 : decode cX9_first 14 = .ok (.ifCond .ne 7, 3) := by decide +kernel
theorem dX9_first_17 : decode cX9_first 17 = .ok (.iconst 0, 1) := by decide +kernel
theorem dX9_first_18 : decode cX9_first 18 = .ok (.goto 17, 3) := by decide +kernel
theorem dX9_first_21 : decode cX9_first 21 = .ok (.aload_n 0, 1) := by decide +kernel
theorem dX9_first_22 : decode cX9_first 22 = .ok (.getfield 63, 3) := by decide +kernel
theorem dX9_first_25 : decode cX9_first 25 = .ok (.aload_n 0, 1) := by decide +kernel
theorem dX9_first_26 : decode cX9_first 26 = .ok (.getfield 26, 3) := by decide +kernel
theorem dX9_first_29 : decode cX9_first 29 = .ok (.getfield 110, 3) := by decide +kernel
theorem dX9_first_32 : decode cX9_first 32 = .ok (.invokevirtual 236, 3) := by decide +kernel
theorem dX9_first_35 : decode cX9_first 35 = .ok (.ireturn, 1) := by decide +kernel
def F_X9_first (v_told_pairs : Int32) (a_told_former : Nat → Int32) (a_told_latter : Nat → Int32) (a_told_orderings : Nat → Int32) (v_town_signCount : Int32) : Option (Int32 × (Nat → Int32)) := (F_X7_ordersOf v_town_signCount v_told_pairs a_told_former a_told_latter a_told_orderings).bind (fun q11 => (if q11.1 = 0 then some (0, q11.2) else (F_X7_withNoneAhead v_town_signCount v_told_pairs a_told_former a_told_latter).bind (fun q32 => some (q32, q11.2))))
theorem hdV_X9_first : yX9_first.cls = RX9 ∧ yX9_first.cls ≠ "java/lang/invoke/MethodHandle" ∧ yX9_first.cls ≠ "java/lang/invoke/VarHandle" ∧ (parseMethodDescriptor yX9_first.desc).map (fun d => d.parameters.length) = some 0 := by decide +kernel
set_option maxHeartbeats 4000000 in
set_option maxRecDepth 100000 in
theorem c_X9_first (l : Launch) (G : GG) (h_this : Nat) (ad_this : Nat → Nat) (ad_this_told : Nat → Nat) (ad_this_town : Nat → Nat) (v_keptCount : Int32) (v_told_pairs : Int32) (a_told_former : Nat → Int32) (a_told_latter : Nat → Int32) (a_told_orderings : Nat → Int32) (v_town_signCount : Int32) (v_town_houseCount : Int32) (v_town_boatCount : Int32) (v_town_workCount : Int32) (v_town_turnCost : Int32) (v_town_boatDayCost : Int32) (out : Int32 × (Nat → Int32)) (hF : F_X9_first v_told_pairs a_told_former a_told_latter a_told_orderings v_town_signCount = some out) : CtrI l yX9_first (WS yX9_first cX9_first 1 (some .int)) { frames := 3, cells := 0, slots := 0, locals := 68 } G [.ref h_this] [(h_this, oX9 ad_this v_keptCount), ((ad_this 10), oX7 ad_this_told v_told_pairs), ((ad_this_told 0), cI G 8 a_told_former), ((ad_this_told 1), cI G 8 a_told_latter), ((ad_this_told 2), cI G 16 a_told_orderings), ((ad_this 2), oX8 ad_this_town v_town_signCount v_town_houseCount v_town_boatCount v_town_workCount v_town_turnCost v_town_boatDayCost)] [(h_this, oX9 ad_this v_keptCount), ((ad_this 10), oX7 ad_this_told v_told_pairs), ((ad_this_told 0), cI G 8 a_told_former), ((ad_this_told 1), cI G 8 a_told_latter), ((ad_this_told 2), cI G 16 out.2), ((ad_this 2), oX8 ad_this_town v_town_signCount v_town_houseCount v_town_boatCount v_town_workCount v_town_turnCost v_town_boatDayCost)] out.1 := by
  refine startI (cc := cX9_first) (maxL := 1) (by decide) rfl (Nat.le_of_ble_eq_true rfl) ?_
  intro p e s m args below meth c A Q hx hb hml hts hown hc hA hret ls H locs hl hW
  have hown : s.vm.findClass RX9 = some m.cls := hown
  have hg : ∀ w ∈ GOODS, w.before _ s = true := fun w h => hts w (List.mem_cons_of_mem _ h)
  have hl : lv_has ls 1 [(0, .ref h_this)] := hl
  rw [F_X9_first] at hF
  refine lv_aload_n hx hb dX9_first_0 rfl (lv_at hl 0 rfl) ?_
  refine va_get (D := G.1) (ci := 8) (v := .ref ((ad_this 10))) (C := RX9) (T := TX9) (N := 13) hx hb hg hu_X9 hown hc.1 hW.1 0 rfl rfl 10 (by decide) (hg _ wd_2_105) (fun _ h9 => h9) rfl dX9_first_1 ?_
  refine lv_aload_n hx hb dX9_first_4 rfl (lv_at hl 0 rfl) ?_
  refine va_get (D := G.1) (ci := 8) (v := .ref ((ad_this 2))) (C := RX9) (T := TX9) (N := 13) hx hb hg hu_X9 hown hc.1 hW.1 0 rfl rfl 2 (by decide) (hg _ wd_2_97) (fun _ h9 => h9) rfl dX9_first_5 ?_
  refine va_get (D := G.1) (ci := 7) (v := .int v_town_signCount) (C := RX8) (T := TX8) (N := 13) hx hb hg hu_X8 hown hc.1 hW.1 5 rfl rfl 7 (by decide) (hg _ wd_1_77) (fun _ h9 => h9) rfl dX9_first_8 ?_
  obtain ⟨q11, c_11, hF⟩ := bd_el hF
  refine wcI (ws' := [(h_this, oX9 ad_this v_keptCount), ((ad_this 10), oX7 ad_this_told v_told_pairs), ((ad_this_told 0), cI G 8 a_told_former), ((ad_this_told 1), cI G 8 a_told_latter), ((ad_this_told 2), cI G 16 q11.2), ((ad_this 2), oX8 ad_this_town v_town_signCount v_town_houseCount v_town_boatCount v_town_workCount v_town_turnCost v_town_boatDayCost)]) (wc := [((ad_this 10), oX7 ad_this_told v_told_pairs), ((ad_this_told 0), cI G 8 a_told_former), ((ad_this_told 1), cI G 8 a_told_latter), ((ad_this_told 2), cI G 16 a_told_orderings)]) (wr := [(h_this, oX9 ad_this v_keptCount), ((ad_this 2), oX8 ad_this_town v_town_signCount v_town_houseCount v_town_boatCount v_town_workCount v_town_turnCost v_town_boatDayCost)]) (w1 := [((ad_this 10), oX7 ad_this_told v_told_pairs), ((ad_this_told 0), cI G 8 a_told_former), ((ad_this_told 1), cI G 8 a_told_latter), ((ad_this_told 2), cI G 16 q11.2)]) (va_runV (As := [.int v_town_signCount]) (rest := []) ⟨hx, hb, hml, hown, hg⟩ (c_X7_ordersOf l G v_town_signCount ((ad_this 10)) ad_this_told v_told_pairs a_told_former a_told_latter a_told_orderings q11 c_11 H.size) (cwV 1 hg (gV wd_3_197 wd_3_198 wd_3_199 wd_1_7 wd_3_200) rfl rfl rfl hdV_X7_ordersOf ⟨(Nat.le_of_ble_eq_true rfl), (Nat.le_of_ble_eq_true rfl)⟩) (preV hc hW [1, 2, 3, 4] rfl (by decide) rfl rfl) rfl rfl hl.1 rfl (lv_room (Nat.le_of_ble_eq_true rfl)) dX9_first_11 ⟨Nat.zero_le _, Nat.zero_le _⟩) hA hW [1, 2, 3, 4] [0, 5] [0, 2, 3, 4, 5, 1] rfl rfl (by decide) (by decide) rfl (by decide) (fun H locs hW => ?_)
  refine lv_if_ne (tgt := 21) hx hb dX9_first_14 (by decide) (fun c_14 => ?_) (fun c_14 => ?_)
  · have hF := ite_f hF c_14
    refine lv_aload_n hx hb dX9_first_21 rfl (lv_at hl 0 rfl) ?_
    refine va_get (D := G.1) (ci := 8) (v := .ref ((ad_this 10))) (C := RX9) (T := TX9) (N := 13) hx hb hg hu_X9 hown hc.1 hW.1 0 rfl rfl 10 (by decide) (hg _ wd_2_105) (fun _ h9 => h9) rfl dX9_first_22 ?_
    refine lv_aload_n hx hb dX9_first_25 rfl (lv_at hl 0 rfl) ?_
    refine va_get (D := G.1) (ci := 8) (v := .ref ((ad_this 2))) (C := RX9) (T := TX9) (N := 13) hx hb hg hu_X9 hown hc.1 hW.1 0 rfl rfl 2 (by decide) (hg _ wd_2_97) (fun _ h9 => h9) rfl dX9_first_26 ?_
    refine va_get (D := G.1) (ci := 7) (v := .int v_town_signCount) (C := RX8) (T := TX8) (N := 13) hx hb hg hu_X8 hown hc.1 hW.1 5 rfl rfl 7 (by decide) (hg _ wd_1_77) (fun _ h9 => h9) rfl dX9_first_29 ?_
    obtain ⟨q32, c_32, hF⟩ := bd_el hF
    refine wcI (ws' := [(h_this, oX9 ad_this v_keptCount), ((ad_this 10), oX7 ad_this_told v_told_pairs), ((ad_this_told 0), cI G 8 a_told_former), ((ad_this_told 1), cI G 8 a_told_latter), ((ad_this_told 2), cI G 16 q11.2), ((ad_this 2), oX8 ad_this_town v_town_signCount v_town_houseCount v_town_boatCount v_town_workCount v_town_turnCost v_town_boatDayCost)]) (wc := [((ad_this 10), oX7 ad_this_told v_told_pairs), ((ad_this_told 0), cI G 8 a_told_former), ((ad_this_told 1), cI G 8 a_told_latter)]) (wr := [(h_this, oX9 ad_this v_keptCount), ((ad_this_told 2), cI G 16 q11.2), ((ad_this 2), oX8 ad_this_town v_town_signCount v_town_houseCount v_town_boatCount v_town_workCount v_town_turnCost v_town_boatDayCost)]) (w1 := [((ad_this 10), oX7 ad_this_told v_told_pairs), ((ad_this_told 0), cI G 8 a_told_former), ((ad_this_told 1), cI G 8 a_told_latter)]) (va_runV (As := [.int v_town_signCount]) (rest := []) ⟨hx, hb, hml, hown, hg⟩ (c_X7_withNoneAhead l G v_town_signCount ((ad_this 10)) ad_this_told v_told_pairs a_told_former a_told_latter q32 c_32 H.size) (cwV 1 hg (gV wd_3_208 wd_3_209 wd_3_210 wd_1_7 wd_3_211) rfl rfl rfl hdV_X7_withNoneAhead ⟨(Nat.le_of_ble_eq_true rfl), (Nat.le_of_ble_eq_true rfl)⟩) (preV hc hW [1, 2, 3] rfl (by decide) rfl rfl) rfl rfl hl.1 rfl (lv_room (Nat.le_of_ble_eq_true rfl)) dX9_first_32 ⟨Nat.zero_le _, Nat.zero_le _⟩) hA hW [1, 2, 3] [0, 4, 5] [0, 3, 4, 5, 1, 2] rfl rfl (by decide) (by decide) rfl (by decide) (fun H locs hW => ?_)
    obtain rfl := Option.some.inj hF
    exact hret _ _ _ _ hW dX9_first_35
  · have hF := ite_t hF c_14
    refine lv_iconst (v := 0) hx hb dX9_first_17 (by decide) ?_
    refine lv_goto (tgt := 35) hx hb dX9_first_18 (by decide) ?_
    obtain rfl := Option.some.inj hF
    exact hret _ _ _ _ hW dX9_first_35
theorem dX9_orders_0 : decode cX9_orders 0 = .ok (.aload_n 0, 1) := by decide +kernel
theorem dX9_orders_1 : decode cX9_orders 1 = .ok (.getfield 63, 3) := by decide +kernel
theorem dX9_orders_4 : decode cX9_orders 4 = .ok (.aload_n 0, 1) := by decide +kernel
theorem dX9_orders_5 : decode cX9_orders 5 = .ok (.getfield 26, 3) := by decide +kernel
theorem dX9_orders_8 : decode cX9_orders 8 = .ok (.getfield 110, 3) := by decide +kernel
theorem dX9_orders_11 : decode cX9_orders 11 = .ok (.invokevirtual 233, 3) := by decide +kernel
theorem dX9_orders_14 : decode cX9_orders 14 = .ok (.ireturn, 1) := by decide +kernel
def F_X9_orders (v_told_pairs : Int32) (a_told_former : Nat → Int32) (a_told_latter : Nat → Int32) (a_told_orderings : Nat → Int32) (v_town_signCount : Int32) : Option (Int32 × (Nat → Int32)) := (F_X7_ordersOf v_town_signCount v_told_pairs a_told_former a_told_latter a_told_orderings).bind (fun q11 => some (q11.1, q11.2))
theorem hdV_X9_orders : yX9_orders.cls = RX9 ∧ yX9_orders.cls ≠ "java/lang/invoke/MethodHandle" ∧ yX9_orders.cls ≠ "java/lang/invoke/VarHandle" ∧ (parseMethodDescriptor yX9_orders.desc).map (fun d => d.parameters.length) = some 0 := by decide +kernel
set_option maxHeartbeats 4000000 in
set_option maxRecDepth 100000 in
theorem c_X9_orders (l : Launch) (G : GG) (h_this : Nat) (ad_this : Nat → Nat) (ad_this_told : Nat → Nat) (ad_this_town : Nat → Nat) (v_keptCount : Int32) (v_told_pairs : Int32) (a_told_former : Nat → Int32) (a_told_latter : Nat → Int32) (a_told_orderings : Nat → Int32) (v_town_signCount : Int32) (v_town_houseCount : Int32) (v_town_boatCount : Int32) (v_town_workCount : Int32) (v_town_turnCost : Int32) (v_town_boatDayCost : Int32) (out : Int32 × (Nat → Int32)) (hF : F_X9_orders v_told_pairs a_told_former a_told_latter a_told_orderings v_town_signCount = some out) : CtrI l yX9_orders (WS yX9_orders cX9_orders 1 (some .int)) { frames := 3, cells := 0, slots := 0, locals := 68 } G [.ref h_this] [(h_this, oX9 ad_this v_keptCount), ((ad_this 10), oX7 ad_this_told v_told_pairs), ((ad_this_told 0), cI G 8 a_told_former), ((ad_this_told 1), cI G 8 a_told_latter), ((ad_this_told 2), cI G 16 a_told_orderings), ((ad_this 2), oX8 ad_this_town v_town_signCount v_town_houseCount v_town_boatCount v_town_workCount v_town_turnCost v_town_boatDayCost)] [(h_this, oX9 ad_this v_keptCount), ((ad_this 10), oX7 ad_this_told v_told_pairs), ((ad_this_told 0), cI G 8 a_told_former), ((ad_this_told 1), cI G 8 a_told_latter), ((ad_this_told 2), cI G 16 out.2), ((ad_this 2), oX8 ad_this_town v_town_signCount v_town_houseCount v_town_boatCount v_town_workCount v_town_turnCost v_town_boatDayCost)] out.1 := by
  refine startI (cc := cX9_orders) (maxL := 1) (by decide) rfl (Nat.le_of_ble_eq_true rfl) ?_
  intro p e s m args below meth c A Q hx hb hml hts hown hc hA hret ls H locs hl hW
  have hown : s.vm.findClass RX9 = some m.cls := hown
  have hg : ∀ w ∈ GOODS, w.before _ s = true := fun w h => hts w (List.mem_cons_of_mem _ h)
  have hl : lv_has ls 1 [(0, .ref h_this)] := hl
  rw [F_X9_orders] at hF
  refine lv_aload_n hx hb dX9_orders_0 rfl (lv_at hl 0 rfl) ?_
  refine va_get (D := G.1) (ci := 8) (v := .ref ((ad_this 10))) (C := RX9) (T := TX9) (N := 13) hx hb hg hu_X9 hown hc.1 hW.1 0 rfl rfl 10 (by decide) (hg _ wd_2_105) (fun _ h9 => h9) rfl dX9_orders_1 ?_
  refine lv_aload_n hx hb dX9_orders_4 rfl (lv_at hl 0 rfl) ?_
  refine va_get (D := G.1) (ci := 8) (v := .ref ((ad_this 2))) (C := RX9) (T := TX9) (N := 13) hx hb hg hu_X9 hown hc.1 hW.1 0 rfl rfl 2 (by decide) (hg _ wd_2_97) (fun _ h9 => h9) rfl dX9_orders_5 ?_
  refine va_get (D := G.1) (ci := 7) (v := .int v_town_signCount) (C := RX8) (T := TX8) (N := 13) hx hb hg hu_X8 hown hc.1 hW.1 5 rfl rfl 7 (by decide) (hg _ wd_1_77) (fun _ h9 => h9) rfl dX9_orders_8 ?_
  obtain ⟨q11, c_11, hF⟩ := bd_el hF
  refine wcI (ws' := [(h_this, oX9 ad_this v_keptCount), ((ad_this 10), oX7 ad_this_told v_told_pairs), ((ad_this_told 0), cI G 8 a_told_former), ((ad_this_told 1), cI G 8 a_told_latter), ((ad_this_told 2), cI G 16 q11.2), ((ad_this 2), oX8 ad_this_town v_town_signCount v_town_houseCount v_town_boatCount v_town_workCount v_town_turnCost v_town_boatDayCost)]) (wc := [((ad_this 10), oX7 ad_this_told v_told_pairs), ((ad_this_told 0), cI G 8 a_told_former), ((ad_this_told 1), cI G 8 a_told_latter), ((ad_this_told 2), cI G 16 a_told_orderings)]) (wr := [(h_this, oX9 ad_this v_keptCount), ((ad_this 2), oX8 ad_this_town v_town_signCount v_town_houseCount v_town_boatCount v_town_workCount v_town_turnCost v_town_boatDayCost)]) (w1 := [((ad_this 10), oX7 ad_this_told v_told_pairs), ((ad_this_told 0), cI G 8 a_told_former), ((ad_this_told 1), cI G 8 a_told_latter), ((ad_this_told 2), cI G 16 q11.2)]) (va_runV (As := [.int v_town_signCount]) (rest := []) ⟨hx, hb, hml, hown, hg⟩ (c_X7_ordersOf l G v_town_signCount ((ad_this 10)) ad_this_told v_told_pairs a_told_former a_told_latter a_told_orderings q11 c_11 H.size) (cwV 1 hg (gV wd_3_197 wd_3_198 wd_3_199 wd_1_7 wd_3_200) rfl rfl rfl hdV_X7_ordersOf ⟨(Nat.le_of_ble_eq_true rfl), (Nat.le_of_ble_eq_true rfl)⟩) (preV hc hW [1, 2, 3, 4] rfl (by decide) rfl rfl) rfl rfl hl.1 rfl (lv_room (Nat.le_of_ble_eq_true rfl)) dX9_orders_11 ⟨Nat.zero_le _, Nat.zero_le _⟩) hA hW [1, 2, 3, 4] [0, 5] [0, 2, 3, 4, 5, 1] rfl rfl (by decide) (by decide) rfl (by decide) (fun H locs hW => ?_)
  obtain rfl := Option.some.inj hF
  exact hret _ _ _ _ hW dX9_orders_14
