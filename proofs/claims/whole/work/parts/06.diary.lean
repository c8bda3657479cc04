theorem dX1_append_0 : decode cX1_append 0 = .ok (.aload_n 0, 1) := by decide +kernel
theorem dX1_append_1 : decode cX1_append 1 = .ok (.getfield 16, 3) := by decide +kernel
theorem dX1_append_4 : decode cX1_append 4 = .ok (.iconst 5, 1) := by decide +kernel
theorem dX1_append_5 : decode cX1_append 5 = .ok (.if_icmp .ge 37, 3) := by decide +kernel
theorem dX1_append_8 : decode cX1_append 8 = .ok (.aload_n 0, 1) := by decide +kernel
theorem dX1_append_9 : decode cX1_append 9 = .ok (.getfield 9, 3) := by decide +kernel
theorem dX1_append_12 : decode cX1_append 12 = .ok (.aload_n 0, 1) := by decide +kernel
theorem dX1_append_13 : decode cX1_append 13 = .ok (.getfield 16, 3) := by decide +kernel
theorem dX1_append_16 : decode cX1_append 16 = .ok (.iload_n 1, 1) := by decide +kernel
theorem dX1_append_17 : decode cX1_append 17 = .ok (.invokestatic 20, 3) := by decide +kernel
theorem dX1_append_20 : decode cX1_append 20 = .ok (.aload_n 0, 1) := by decide +kernel
theorem dX1_append_21 : decode cX1_append 21 = .ok (.getfield 13, 3) := by decide +kernel
theorem dX1_append_24 : decode cX1_append 24 = .ok (.aload_n 0, 1) := by decide +kernel
theorem dX1_append_25 : decode cX1_append 25 = .ok (.getfield 16, 3) := by decide +kernel
theorem dX1_append_28 : decode cX1_append 28 = .ok (.iload_n 2, 1) := by decide +kernel
theorem dX1_append_29 : decode cX1_append 29 = .ok (.invokestatic 20, 3) := by decide +kernel
theorem dX1_append_32 : decode cX1_append 32 = .ok (.aload_n 0, 1) := by decide +kernel
theorem dX1_append_33 : decode cX1_append 33 = .ok (.dup, 1) := by decide +kernel
theorem dX1_append_34 : decode cX1_append 34 = .ok (.getfield 16, 3) := by decide +kernel
theorem dX1_append_37 : decode cX1_append 37 = .ok (.iconst 1, 1) := by decide +kernel
theorem dX1_append_38 : decode cX1_append 38 = .ok (.iadd, 1) := by decide +kernel
theorem dX1_append_39 : decode cX1_append 39 = .ok (.putfield 16, 3) := by decide +kernel
theorem dX1_append_42 : decode cX1_append 42 = .ok (.return_, 1) := by decide +kernel
def F_X1_append (x1 : Int32) (x2 : Int32) (v_days : Int32) (a_signs : Nat → Int32) (a_works : Nat → Int32) : Option (Int32 × (Nat → Int32) × (Nat → Int32)) := (if 5 ≤ v_days then some (v_days, a_signs, a_works) else (F_X4_put v_days x1 5 a_signs).bind (fun q17 => (F_X4_put v_days x2 5 a_works).bind (fun q29 => some ((v_days + 1), q17, q29))))
theorem hdV_X1_append : yX1_append.cls = RX1 ∧ yX1_append.cls ≠ "java/lang/invoke/MethodHandle" ∧ yX1_append.cls ≠ "java/lang/invoke/VarHandle" ∧ (parseMethodDescriptor yX1_append.desc).map (fun d => d.parameters.length) = some 2 := by decide +kernel
set_option maxHeartbeats 4000000 in
set_option maxRecDepth 100000 in
theorem c_X1_append (l : Launch) (G : GG) (x1 : Int32) (x2 : Int32) (h_this : Nat) (ad_this : Nat → Nat) (v_days : Int32) (a_signs : Nat → Int32) (a_works : Nat → Int32) (out : Int32 × (Nat → Int32) × (Nat → Int32)) (hF : F_X1_append x1 x2 v_days a_signs a_works = some out) : CtrV l yX1_append (WS yX1_append cX1_append 3 none) { frames := 1, cells := 0, slots := 0, locals := 22 } G [.ref h_this, .int x1, .int x2] [(h_this, oX1 ad_this v_days), ((ad_this 0), cI G 5 a_signs), ((ad_this 1), cI G 5 a_works)] [(h_this, oX1 ad_this out.1), ((ad_this 0), cI G 5 out.2.1), ((ad_this 1), cI G 5 out.2.2)] := by
  refine startV (cc := cX1_append) (maxL := 3) (by decide) rfl (Nat.le_of_ble_eq_true rfl) ?_
  intro p e s m args below meth c A Q hx hb hml hts hown hc hA hret ls H locs hl hW
  have hown : s.vm.findClass RX1 = some m.cls := hown
  have hg : ∀ w ∈ GOODS, w.before _ s = true := fun w h => hts w (List.mem_cons_of_mem _ h)
  have hl : lv_has ls 3 [(0, .ref h_this), (1, .int x1), (2, .int x2)] := hl
  rw [F_X1_append] at hF
  refine lv_aload_n hx hb dX1_append_0 rfl (lv_at hl 0 rfl) ?_
  refine va_get (D := G.1) (ci := 1) (v := .int v_days) (C := RX1) (T := TX1) (N := 3) hx hb hg hu_X1 hown hc.1 hW.1 0 rfl rfl 2 (by decide) (hg _ wd_1_125) (fun _ h9 => h9) rfl dX1_append_1 ?_
  refine lv_iconst (v := 5) hx hb dX1_append_4 (by decide) ?_
  refine lv_icmp_ge (tgt := 42) hx hb dX1_append_5 (by decide) (fun c_5 => ?_) (fun c_5 => ?_)
  · have hF := ite_t hF c_5
    obtain rfl := Option.some.inj hF
    exact hret _ _ _ _ hW dX1_append_42
  · have hF := ite_f hF c_5
    refine lv_aload_n hx hb dX1_append_8 rfl (lv_at hl 0 rfl) ?_
    refine va_get (D := G.1) (ci := 1) (v := .ref ((ad_this 0))) (C := RX1) (T := TX1) (N := 3) hx hb hg hu_X1 hown hc.1 hW.1 0 rfl rfl 0 (by decide) (hg _ wd_1_123) (fun _ h9 => h9) rfl dX1_append_9 ?_
    refine lv_aload_n hx hb dX1_append_12 rfl (lv_at hl 0 rfl) ?_
    refine va_get (D := G.1) (ci := 1) (v := .int v_days) (C := RX1) (T := TX1) (N := 3) hx hb hg hu_X1 hown hc.1 hW.1 0 rfl rfl 2 (by decide) (hg _ wd_1_125) (fun _ h9 => h9) rfl dX1_append_13 ?_
    refine lv_iload_n hx hb dX1_append_16 rfl (lv_at hl 1 rfl) ?_
    obtain ⟨q17, c_17, hF⟩ := bd_el hF
    refine wcV (ws' := [(h_this, oX1 ad_this v_days), ((ad_this 0), cI G 5 q17), ((ad_this 1), cI G 5 a_works)]) (wc := [((ad_this 0), cI G 5 a_signs)]) (wr := [(h_this, oX1 ad_this v_days), ((ad_this 1), cI G 5 a_works)]) (w1 := [((ad_this 0), cI G 5 q17)]) (va_runS (As := [.ref ((ad_this 0)), .int v_days, .int x1]) (rest := []) ⟨hx, hb, hml, hown, hg⟩ (c_X4_put l G v_days x1 5 ((ad_this 0)) a_signs q17 c_17 H.size) (va_cwS 3 hg (gS wd_2_194 wd_2_17 wd_1_14 wd_2_18) rfl rfl rfl hdS_X4_put ⟨(Nat.le_of_ble_eq_true rfl), (Nat.le_of_ble_eq_true rfl)⟩) (preS hc hW [1] rfl (by decide)) rfl rfl hl.1 rfl (lv_room (Nat.le_of_ble_eq_true rfl)) dX1_append_17 ⟨Nat.zero_le _, Nat.zero_le _⟩) hA hW [1] [0, 2] [0, 2, 1] rfl rfl (by decide) (by decide) rfl (by decide) (fun H locs hW => ?_)
    refine lv_aload_n hx hb dX1_append_20 rfl (lv_at hl 0 rfl) ?_
    refine va_get (D := G.1) (ci := 1) (v := .ref ((ad_this 1))) (C := RX1) (T := TX1) (N := 3) hx hb hg hu_X1 hown hc.1 hW.1 0 rfl rfl 1 (by decide) (hg _ wd_1_124) (fun _ h9 => h9) rfl dX1_append_21 ?_
    refine lv_aload_n hx hb dX1_append_24 rfl (lv_at hl 0 rfl) ?_
    refine va_get (D := G.1) (ci := 1) (v := .int v_days) (C := RX1) (T := TX1) (N := 3) hx hb hg hu_X1 hown hc.1 hW.1 0 rfl rfl 2 (by decide) (hg _ wd_1_125) (fun _ h9 => h9) rfl dX1_append_25 ?_
    refine lv_iload_n hx hb dX1_append_28 rfl (lv_at hl 2 rfl) ?_
    obtain ⟨q29, c_29, hF⟩ := bd_el hF
    refine wcV (ws' := [(h_this, oX1 ad_this v_days), ((ad_this 0), cI G 5 q17), ((ad_this 1), cI G 5 q29)]) (wc := [((ad_this 1), cI G 5 a_works)]) (wr := [(h_this, oX1 ad_this v_days), ((ad_this 0), cI G 5 q17)]) (w1 := [((ad_this 1), cI G 5 q29)]) (va_runS (As := [.ref ((ad_this 1)), .int v_days, .int x2]) (rest := []) ⟨hx, hb, hml, hown, hg⟩ (c_X4_put l G v_days x2 5 ((ad_this 1)) a_works q29 c_29 H.size) (va_cwS 3 hg (gS wd_2_194 wd_2_17 wd_1_14 wd_2_18) rfl rfl rfl hdS_X4_put ⟨(Nat.le_of_ble_eq_true rfl), (Nat.le_of_ble_eq_true rfl)⟩) (preS hc hW [2] rfl (by decide)) rfl rfl hl.1 rfl (lv_room (Nat.le_of_ble_eq_true rfl)) dX1_append_29 ⟨Nat.zero_le _, Nat.zero_le _⟩) hA hW [2] [0, 1] [0, 1, 2] rfl rfl (by decide) (by decide) rfl (by decide) (fun H locs hW => ?_)
    refine lv_aload_n hx hb dX1_append_32 rfl (lv_at hl 0 rfl) ?_
    refine lv_dup hx hb dX1_append_33 rfl ?_
    refine va_get (D := G.1) (ci := 1) (v := .int v_days) (C := RX1) (T := TX1) (N := 3) hx hb hg hu_X1 hown hc.1 hW.1 0 rfl rfl 2 (by decide) (hg _ wd_1_125) (fun _ h9 => h9) rfl dX1_append_34 ?_
    refine lv_iconst (v := 1) hx hb dX1_append_37 (by decide) ?_
    refine lv_iadd hx hb dX1_append_38 ?_
    refine va_put (D := G.1) (ci := 1) (v := .int ((v_days + 1))) (ty := .int) (C := RX1) (T := TX1) (N := 3) hx hb hg hu_X1 tyX1 tyX1_ok nmX1 hown hc.1 hW.1 hW.2.1 hW.2.2 0 rfl rfl 2 (by decide) (hg _ wd_1_125) (fun _ h9 => h9) rfl (by decide +kernel) rfl rfl (Nat.le_of_ble_eq_true rfl) dX1_append_39 (fun H locs hP hD hS => ?_)
    have hW : Wd G A s.heap [(h_this, oX1 ad_this ((v_days + 1))), ((ad_this 0), cI G 5 q17), ((ad_this 1), cI G 5 q29)] H locs := ⟨hP, hD, hS⟩
    obtain rfl := Option.some.inj hF
    exact hret _ _ _ _ hW dX1_append_42
theorem dX1_signsOn_0 : decode cX1_signsOn 0 = .ok (.aload_n 0, 1) := by decide +kernel
theorem dX1_signsOn_1 : decode cX1_signsOn 1 = .ok (.getfield 9, 3) := by decide +kernel
theorem dX1_signsOn_4 : decode cX1_signsOn 4 = .ok (.iload_n 1, 1) := by decide +kernel
theorem dX1_signsOn_5 : decode cX1_signsOn 5 = .ok (.invokestatic 26, 3) := by decide +kernel
theorem dX1_signsOn_8 : decode cX1_signsOn 8 = .ok (.ireturn, 1) := by decide +kernel
def F_X1_signsOn (x1 : Int32) (a_signs : Nat → Int32) : Option (Int32) := (F_X4_at x1 5 a_signs).bind (fun q5 => some (q5))
theorem hdV_X1_signsOn : yX1_signsOn.cls = RX1 ∧ yX1_signsOn.cls ≠ "java/lang/invoke/MethodHandle" ∧ yX1_signsOn.cls ≠ "java/lang/invoke/VarHandle" ∧ (parseMethodDescriptor yX1_signsOn.desc).map (fun d => d.parameters.length) = some 1 := by decide +kernel
set_option maxHeartbeats 4000000 in
set_option maxRecDepth 100000 in
theorem c_X1_signsOn (l : Launch) (G : GG) (x1 : Int32) (h_this : Nat) (ad_this : Nat → Nat) (v_days : Int32) (a_signs : Nat → Int32) (out : Int32) (hF : F_X1_signsOn x1 a_signs = some out) : CtrI l yX1_signsOn (WS yX1_signsOn cX1_signsOn 2 (some .int)) { frames := 1, cells := 0, slots := 0, locals := 21 } G [.ref h_this, .int x1] [(h_this, oX1 ad_this v_days), ((ad_this 0), cI G 5 a_signs)] [(h_this, oX1 ad_this v_days), ((ad_this 0), cI G 5 a_signs)] out := by
  refine startI (cc := cX1_signsOn) (maxL := 2) (by decide) rfl (Nat.le_of_ble_eq_true rfl) ?_
  intro p e s m args below meth c A Q hx hb hml hts hown hc hA hret ls H locs hl hW
  have hown : s.vm.findClass RX1 = some m.cls := hown
  have hg : ∀ w ∈ GOODS, w.before _ s = true := fun w h => hts w (List.mem_cons_of_mem _ h)
  have hl : lv_has ls 2 [(0, .ref h_this), (1, .int x1)] := hl
  rw [F_X1_signsOn] at hF
  refine lv_aload_n hx hb dX1_signsOn_0 rfl (lv_at hl 0 rfl) ?_
  refine va_get (D := G.1) (ci := 1) (v := .ref ((ad_this 0))) (C := RX1) (T := TX1) (N := 3) hx hb hg hu_X1 hown hc.1 hW.1 0 rfl rfl 0 (by decide) (hg _ wd_1_123) (fun _ h9 => h9) rfl dX1_signsOn_1 ?_
  refine lv_iload_n hx hb dX1_signsOn_4 rfl (lv_at hl 1 rfl) ?_
  obtain ⟨q5, c_5, hF⟩ := bd_el hF
  refine wcI (ws' := [(h_this, oX1 ad_this v_days), ((ad_this 0), cI G 5 a_signs)]) (wc := [((ad_this 0), cI G 5 a_signs)]) (wr := [(h_this, oX1 ad_this v_days)]) (w1 := [((ad_this 0), cI G 5 a_signs)]) (va_runS (As := [.ref ((ad_this 0)), .int x1]) (rest := []) ⟨hx, hb, hml, hown, hg⟩ (c_X4_at l G x1 5 ((ad_this 0)) a_signs q5 c_5 H.size) (va_cwS 2 hg (gS wd_2_203 wd_2_37 wd_1_14 wd_2_38) rfl rfl rfl hdS_X4_at ⟨(Nat.le_of_ble_eq_true rfl), (Nat.le_of_ble_eq_true rfl)⟩) (preS hc hW [1] rfl (by decide)) rfl rfl hl.1 rfl (lv_room (Nat.le_of_ble_eq_true rfl)) dX1_signsOn_5 ⟨Nat.zero_le _, Nat.zero_le _⟩) hA hW [1] [0] [0, 1] rfl rfl (by decide) (by decide) rfl (by decide) (fun H locs hW => ?_)
  obtain rfl := Option.some.inj hF
  exact hret _ _ _ _ hW dX1_signsOn_8
theorem dX1_worksOn_0 : decode cX1_worksOn 0 = .ok (.aload_n 0, 1) := by decide +kernel
theorem dX1_worksOn_1 : decode cX1_worksOn 1 = .ok (.getfield 13, 3) := by decide +kernel
theorem dX1_worksOn_4 : decode cX1_worksOn 4 = .ok (.iload_n 1, 1) := by decide +kernel
theorem dX1_worksOn_5 : decode cX1_worksOn 5 = .ok (.invokestatic 26, 3) := by decide +kernel
theorem dX1_worksOn_8 : decode cX1_worksOn 8 = .ok (.ireturn, 1) := by decide +kernel
def F_X1_worksOn (x1 : Int32) (a_works : Nat → Int32) : Option (Int32) := (F_X4_at x1 5 a_works).bind (fun q5 => some (q5))
theorem hdV_X1_worksOn : yX1_worksOn.cls = RX1 ∧ yX1_worksOn.cls ≠ "java/lang/invoke/MethodHandle" ∧ yX1_worksOn.cls ≠ "java/lang/invoke/VarHandle" ∧ (parseMethodDescriptor yX1_worksOn.desc).map (fun d => d.parameters.length) = some 1 := by decide +kernel
set_option maxHeartbeats 4000000 in
set_option maxRecDepth 100000 in
theorem c_X1_worksOn (l : Launch) (G : GG) (x1 : Int32) (h_this : Nat) (ad_this : Nat → Nat) (v_days : Int32) (a_works : Nat → Int32) (out : Int32) (hF : F_X1_worksOn x1 a_works = some out) : CtrI l yX1_worksOn (WS yX1_worksOn cX1_worksOn 2 (some .int)) { frames := 1, cells := 0, slots := 0, locals := 21 } G [.ref h_this, .int x1] [(h_this, oX1 ad_this v_days), ((ad_this 1), cI G 5 a_works)] [(h_this, oX1 ad_this v_days), ((ad_this 1), cI G 5 a_works)] out := by
  refine startI (cc := cX1_worksOn) (maxL := 2) (by decide) rfl (Nat.le_of_ble_eq_true rfl) ?_
  intro p e s m args below meth c A Q hx hb hml hts hown hc hA hret ls H locs hl hW
  have hown : s.vm.findClass RX1 = some m.cls := hown
  have hg : ∀ w ∈ GOODS, w.before _ s = true := fun w h => hts w (List.mem_cons_of_mem _ h)
  have hl : lv_has ls 2 [(0, .ref h_this), (1, .int x1)] := hl
  rw [F_X1_worksOn] at hF
  refine lv_aload_n hx hb dX1_worksOn_0 rfl (lv_at hl 0 rfl) ?_
  refine va_get (D := G.1) (ci := 1) (v := .ref ((ad_this 1))) (C := RX1) (T := TX1) (N := 3) hx hb hg hu_X1 hown hc.1 hW.1 0 rfl rfl 1 (by decide) (hg _ wd_1_124) (fun _ h9 => h9) rfl dX1_worksOn_1 ?_
  refine lv_iload_n hx hb dX1_worksOn_4 rfl (lv_at hl 1 rfl) ?_
  obtain ⟨q5, c_5, hF⟩ := bd_el hF
  refine wcI (ws' := [(h_this, oX1 ad_this v_days), ((ad_this 1), cI G 5 a_works)]) (wc := [((ad_this 1), cI G 5 a_works)]) (wr := [(h_this, oX1 ad_this v_days)]) (w1 := [((ad_this 1), cI G 5 a_works)]) (va_runS (As := [.ref ((ad_this 1)), .int x1]) (rest := []) ⟨hx, hb, hml, hown, hg⟩ (c_X4_at l G x1 5 ((ad_this 1)) a_works q5 c_5 H.size) (va_cwS 2 hg (gS wd_2_203 wd_2_37 wd_1_14 wd_2_38) rfl rfl rfl hdS_X4_at ⟨(Nat.le_of_ble_eq_true rfl), (Nat.le_of_ble_eq_true rfl)⟩) (preS hc hW [1] rfl (by decide)) rfl rfl hl.1 rfl (lv_room (Nat.le_of_ble_eq_true rfl)) dX1_worksOn_5 ⟨Nat.zero_le _, Nat.zero_le _⟩) hA hW [1] [0] [0, 1] rfl rfl (by decide) (by decide) rfl (by decide) (fun H locs hW => ?_)
  obtain rfl := Option.some.inj hF
  exact hret _ _ _ _ hW dX1_worksOn_8
theorem dX1_takeFrom_0 : decode cX1_takeFrom 0 = .ok (.aload_n 0, 1) := by decide +kernel
theorem dX1_takeFrom_1 : decode cX1_takeFrom 1 = .ok (.iconst 0, 1) := by decide +kernel
theorem dX1_takeFrom_2 : decode cX1_takeFrom 2 = .ok (.putfield 16, 3) := by decide +kernel
theorem dX1_takeFrom_5 : decode cX1_takeFrom 5 = .ok (.iconst 0, 1) := by decide +kernel
theorem dX1_takeFrom_6 : decode cX1_takeFrom 6 = .ok (.istore_n 2, 1) := by decide +kernel
theorem dX1_takeFrom_7 : decode cX1_takeFrom 7 = .ok (.iload_n 2, 1) := by decide +kernel
theorem dX1_takeFrom_8 : decode cX1_takeFrom 8 = .ok (.aload_n 1, 1) := by decide +kernel
theorem dX1_takeFrom_9 : decode cX1_takeFrom 9 = .ok (.getfield 16, 3) := by decide +kernel
theorem dX1_takeFrom_12 : decode cX1_takeFrom 12 = .ok (.if_icmp .ge 23, 3) := by decide +kernel
theorem dX1_takeFrom_15 : decode cX1_takeFrom 15 = .ok (.aload_n 0, 1) := by decide +kernel
theorem dX1_takeFrom_16 : decode cX1_takeFrom 16 = .ok (.aload_n 1, 1) := by decide +kernel
theorem dX1_takeFrom_17 : decode cX1_takeFrom 17 = .ok (.iload_n 2, 1) := by decide +kernel
theorem dX1_takeFrom_18 : decode cX1_takeFrom 18 = .ok (.invokevirtual 30, 3) := by decide +kernel
theorem dX1_takeFrom_21 : decode cX1_takeFrom 21 = .ok (.aload_n 1, 1) := by decide +kernel
theorem dX1_takeFrom_22 : decode cX1_takeFrom 22 = .ok (.iload_n 2, 1) := by decide +kernel
theorem dX1_takeFrom_23 : decode cX1_takeFrom 23 = .ok (.invokevirtual 34, 3) := by decide +kernel
theorem dX1_takeFrom_26 : decode cX1_takeFrom 26 = .ok (.invokevirtual 37, 3) := by decide +kernel
theorem dX1_takeFrom_29 : decode cX1_takeFrom 29 = .ok (.iinc 2 1, 3) := by decide +kernel
theorem dX1_takeFrom_32 : decode cX1_takeFrom 32 = .ok (.goto (-25), 3) := by decide +kernel
theorem dX1_takeFrom_35 : decode cX1_takeFrom 35 = .ok (.return_, 1) := by decide +kernel
def L_X1_takeFrom_7 (v_p1_days : Int32) (a_p1_signs : Nat → Int32) (a_p1_works : Nat → Int32)  : Nat → Int32 → Int32 → (Nat → Int32) → (Nat → Int32) → Option (Int32 × (Nat → Int32) × (Nat → Int32))
  | 0, _, _, _, _ => none
  | n + 1, x2_7, v_days_7, a_signs_7, a_works_7 => (if v_p1_days ≤ x2_7 then some (v_days_7, a_signs_7, a_works_7) else (F_X1_signsOn x2_7 a_p1_signs).bind (fun q18 => (F_X1_worksOn x2_7 a_p1_works).bind (fun q23 => (F_X1_append q18 q23 v_days_7 a_signs_7 a_works_7).bind (fun q26 => L_X1_takeFrom_7 v_p1_days a_p1_signs a_p1_works n ((x2_7 + 1)) q26.1 q26.2.1 q26.2.2))))
def F_X1_takeFrom (v_days : Int32) (v_p1_days : Int32) (a_p1_signs : Nat → Int32) (a_p1_works : Nat → Int32) (a_signs : Nat → Int32) (a_works : Nat → Int32) : Option (Int32 × (Nat → Int32) × (Nat → Int32)) := L_X1_takeFrom_7 v_p1_days a_p1_signs a_p1_works 5000 0 0 a_signs a_works
theorem hdV_X1_takeFrom : yX1_takeFrom.cls = RX1 ∧ yX1_takeFrom.cls ≠ "java/lang/invoke/MethodHandle" ∧ yX1_takeFrom.cls ≠ "java/lang/invoke/VarHandle" ∧ (parseMethodDescriptor yX1_takeFrom.desc).map (fun d => d.parameters.length) = some 1 := by decide +kernel
set_option maxHeartbeats 4000000 in
set_option maxRecDepth 100000 in
theorem c_X1_takeFrom (l : Launch) (G : GG) (h_this : Nat) (h_p1 : Nat) (ad_this : Nat → Nat) (ad_p1 : Nat → Nat) (v_days : Int32) (v_p1_days : Int32) (a_p1_signs : Nat → Int32) (a_p1_works : Nat → Int32) (a_signs : Nat → Int32) (a_works : Nat → Int32) (out : Int32 × (Nat → Int32) × (Nat → Int32)) (hF : F_X1_takeFrom v_days v_p1_days a_p1_signs a_p1_works a_signs a_works = some out) : CtrV l yX1_takeFrom (WS yX1_takeFrom cX1_takeFrom 3 none) { frames := 2, cells := 0, slots := 0, locals := 44 } G [.ref h_this, .ref h_p1] [(h_this, oX1 ad_this v_days), (h_p1, oX1 ad_p1 v_p1_days), ((ad_p1 0), cI G 5 a_p1_signs), ((ad_p1 1), cI G 5 a_p1_works), ((ad_this 0), cI G 5 a_signs), ((ad_this 1), cI G 5 a_works)] [(h_this, oX1 ad_this out.1), (h_p1, oX1 ad_p1 v_p1_days), ((ad_p1 0), cI G 5 a_p1_signs), ((ad_p1 1), cI G 5 a_p1_works), ((ad_this 0), cI G 5 out.2.1), ((ad_this 1), cI G 5 out.2.2)] := by
  refine startV (cc := cX1_takeFrom) (maxL := 3) (by decide) rfl (Nat.le_of_ble_eq_true rfl) ?_
  intro p e s m args below meth c A Q hx hb hml hts hown hc hA hret ls H locs hl hW
  have hown : s.vm.findClass RX1 = some m.cls := hown
  have hg : ∀ w ∈ GOODS, w.before _ s = true := fun w h => hts w (List.mem_cons_of_mem _ h)
  have hl : lv_has ls 3 [(0, .ref h_this), (1, .ref h_p1)] := hl
  rw [F_X1_takeFrom] at hF
  refine lv_aload_n hx hb dX1_takeFrom_0 rfl (lv_at hl 0 rfl) ?_
  refine lv_iconst (v := 0) hx hb dX1_takeFrom_1 (by decide) ?_
  refine va_put (D := G.1) (ci := 1) (v := .int 0) (ty := .int) (C := RX1) (T := TX1) (N := 3) hx hb hg hu_X1 tyX1 tyX1_ok nmX1 hown hc.1 hW.1 hW.2.1 hW.2.2 0 rfl rfl 2 (by decide) (hg _ wd_1_125) (fun _ h9 => h9) rfl (by decide +kernel) rfl rfl (Nat.le_of_ble_eq_true rfl) dX1_takeFrom_2 (fun H locs hP hD hS => ?_)
  have hW : Wd G A s.heap [(h_this, oX1 ad_this 0), (h_p1, oX1 ad_p1 v_p1_days), ((ad_p1 0), cI G 5 a_p1_signs), ((ad_p1 1), cI G 5 a_p1_works), ((ad_this 0), cI G 5 a_signs), ((ad_this 1), cI G 5 a_works)] H locs := ⟨hP, hD, hS⟩
  refine lv_iconst (v := 0) hx hb dX1_takeFrom_5 (by decide) ?_
  refine lv_istore_n (lv' := [(2, .int 0), (0, .ref h_this), (1, .ref h_p1)]) hx hb dX1_takeFrom_6 rfl hl (by decide) rfl (fun ls hl => ?_)
  have L_7 : ∀ (n : Nat) (x2_7 : Int32) (v_days_7 : Int32) (a_signs_7 : Nat → Int32) (a_works_7 : Nat → Int32) (ls : Array Slot) (H : Heap) (locs : List Loc), L_X1_takeFrom_7 v_p1_days a_p1_signs a_p1_works n x2_7 v_days_7 a_signs_7 a_works_7 = some out → lv_has ls 3 [(0, .ref h_this), (1, .ref h_p1), (2, .int x2_7)] → Wd G A s.heap [(h_this, oX1 ad_this v_days_7), (h_p1, oX1 ad_p1 v_p1_days), ((ad_p1 0), cI G 5 a_p1_signs), ((ad_p1 1), cI G 5 a_p1_works), ((ad_this 0), cI G 5 a_signs_7), ((ad_this 1), cI G 5 a_works_7)] H locs → W p l e ({ frames := 2, cells := 0, slots := 0, locals := 44 } : Room) s m args below meth c H locs 0 0 Q (F0 m 7 ls []) := by
    intro n
    induction n with
    | zero => intro x2_7 v_days_7 a_signs_7 a_works_7 ls H locs hF hl hW; have h0 : none = some out := hF; cases h0
    | succ n ih =>
      intro x2_7 v_days_7 a_signs_7 a_works_7 ls H locs hF hl hW
      rw [L_X1_takeFrom_7] at hF
      refine lv_iload_n hx hb dX1_takeFrom_7 rfl (lv_at hl 2 rfl) ?_
      refine lv_aload_n hx hb dX1_takeFrom_8 rfl (lv_at hl 1 rfl) ?_
      refine va_get (D := G.1) (ci := 1) (v := .int v_p1_days) (C := RX1) (T := TX1) (N := 3) hx hb hg hu_X1 hown hc.1 hW.1 1 rfl rfl 2 (by decide) (hg _ wd_1_125) (fun _ h9 => h9) rfl dX1_takeFrom_9 ?_
      refine lv_icmp_ge (tgt := 35) hx hb dX1_takeFrom_12 (by decide) (fun c_12 => ?_) (fun c_12 => ?_)
      · have hF := ite_t hF c_12
        obtain rfl := Option.some.inj hF
        exact hret _ _ _ _ hW dX1_takeFrom_35
      · have hF := ite_f hF c_12
        refine lv_aload_n hx hb dX1_takeFrom_15 rfl (lv_at hl 0 rfl) ?_
        refine lv_aload_n hx hb dX1_takeFrom_16 rfl (lv_at hl 1 rfl) ?_
        refine lv_iload_n hx hb dX1_takeFrom_17 rfl (lv_at hl 2 rfl) ?_
        obtain ⟨q18, c_18, hF⟩ := bd_el hF
        refine wcI (ws' := [(h_this, oX1 ad_this v_days_7), (h_p1, oX1 ad_p1 v_p1_days), ((ad_p1 0), cI G 5 a_p1_signs), ((ad_p1 1), cI G 5 a_p1_works), ((ad_this 0), cI G 5 a_signs_7), ((ad_this 1), cI G 5 a_works_7)]) (wc := [(h_p1, oX1 ad_p1 v_p1_days), ((ad_p1 0), cI G 5 a_p1_signs)]) (wr := [(h_this, oX1 ad_this v_days_7), ((ad_p1 1), cI G 5 a_p1_works), ((ad_this 0), cI G 5 a_signs_7), ((ad_this 1), cI G 5 a_works_7)]) (w1 := [(h_p1, oX1 ad_p1 v_p1_days), ((ad_p1 0), cI G 5 a_p1_signs)]) (va_runV (As := [.int x2_7]) (rest := [.ref h_this]) ⟨hx, hb, hml, hown, hg⟩ (c_X1_signsOn l G x2_7 h_p1 ad_p1 v_p1_days a_p1_signs q18 c_18 H.size) (cwV 1 hg (gV wd_4_0 wd_2_200 wd_2_201 wd_1_5 wd_2_202) rfl rfl rfl hdV_X1_signsOn ⟨(Nat.le_of_ble_eq_true rfl), (Nat.le_of_ble_eq_true rfl)⟩) (preV hc hW [1, 2] rfl (by decide) rfl rfl) rfl rfl hl.1 rfl (lv_room (Nat.le_of_ble_eq_true rfl)) dX1_takeFrom_18 ⟨Nat.zero_le _, Nat.zero_le _⟩) hA hW [1, 2] [0, 3, 4, 5] [0, 4, 5, 1, 2, 3] rfl rfl (by decide) (by decide) rfl (by decide) (fun H locs hW => ?_)
        refine lv_aload_n hx hb dX1_takeFrom_21 rfl (lv_at hl 1 rfl) ?_
        refine lv_iload_n hx hb dX1_takeFrom_22 rfl (lv_at hl 2 rfl) ?_
        obtain ⟨q23, c_23, hF⟩ := bd_el hF
        refine wcI (ws' := [(h_this, oX1 ad_this v_days_7), (h_p1, oX1 ad_p1 v_p1_days), ((ad_p1 0), cI G 5 a_p1_signs), ((ad_p1 1), cI G 5 a_p1_works), ((ad_this 0), cI G 5 a_signs_7), ((ad_this 1), cI G 5 a_works_7)]) (wc := [(h_p1, oX1 ad_p1 v_p1_days), ((ad_p1 1), cI G 5 a_p1_works)]) (wr := [(h_this, oX1 ad_this v_days_7), ((ad_p1 0), cI G 5 a_p1_signs), ((ad_this 0), cI G 5 a_signs_7), ((ad_this 1), cI G 5 a_works_7)]) (w1 := [(h_p1, oX1 ad_p1 v_p1_days), ((ad_p1 1), cI G 5 a_p1_works)]) (va_runV (As := [.int x2_7]) (rest := [.int q18, .ref h_this]) ⟨hx, hb, hml, hown, hg⟩ (c_X1_worksOn l G x2_7 h_p1 ad_p1 v_p1_days a_p1_works q23 c_23 H.size) (cwV 1 hg (gV wd_4_1 wd_2_205 wd_2_206 wd_1_5 wd_2_207) rfl rfl rfl hdV_X1_worksOn ⟨(Nat.le_of_ble_eq_true rfl), (Nat.le_of_ble_eq_true rfl)⟩) (preV hc hW [1, 3] rfl (by decide) rfl rfl) rfl rfl hl.1 rfl (lv_room (Nat.le_of_ble_eq_true rfl)) dX1_takeFrom_23 ⟨Nat.zero_le _, Nat.zero_le _⟩) hA hW [1, 3] [0, 2, 4, 5] [0, 4, 1, 5, 2, 3] rfl rfl (by decide) (by decide) rfl (by decide) (fun H locs hW => ?_)
        obtain ⟨q26, c_26, hF⟩ := bd_el hF
        refine wcV (ws' := [(h_this, oX1 ad_this q26.1), (h_p1, oX1 ad_p1 v_p1_days), ((ad_p1 0), cI G 5 a_p1_signs), ((ad_p1 1), cI G 5 a_p1_works), ((ad_this 0), cI G 5 q26.2.1), ((ad_this 1), cI G 5 q26.2.2)]) (wc := [(h_this, oX1 ad_this v_days_7), ((ad_this 0), cI G 5 a_signs_7), ((ad_this 1), cI G 5 a_works_7)]) (wr := [(h_p1, oX1 ad_p1 v_p1_days), ((ad_p1 0), cI G 5 a_p1_signs), ((ad_p1 1), cI G 5 a_p1_works)]) (w1 := [(h_this, oX1 ad_this q26.1), ((ad_this 0), cI G 5 q26.2.1), ((ad_this 1), cI G 5 q26.2.2)]) (va_runV (As := [.int q18, .int q23]) (rest := []) ⟨hx, hb, hml, hown, hg⟩ (c_X1_append l G q18 q23 h_this ad_this v_days_7 a_signs_7 a_works_7 q26 c_26 H.size) (cwV 2 hg (gV wd_4_2 wd_2_191 wd_2_192 wd_1_5 wd_2_193) rfl rfl rfl hdV_X1_append ⟨(Nat.le_of_ble_eq_true rfl), (Nat.le_of_ble_eq_true rfl)⟩) (preV hc hW [0, 4, 5] rfl (by decide) rfl rfl) rfl rfl hl.1 rfl (lv_room (Nat.le_of_ble_eq_true rfl)) dX1_takeFrom_26 ⟨Nat.zero_le _, Nat.zero_le _⟩) hA hW [0, 4, 5] [1, 2, 3] [3, 0, 1, 2, 4, 5] rfl rfl (by decide) (by decide) rfl (by decide) (fun H locs hW => ?_)
        refine lv_iinc (v := (x2_7 + 1)) (lv' := [(2, .int ((x2_7 + 1))), (0, .ref h_this), (1, .ref h_p1)]) hx hb dX1_takeFrom_29 hl (k := 2) rfl rfl (by decide) rfl (fun ls hl => ?_)
        refine lv_goto (tgt := 7) hx hb dX1_takeFrom_32 (by decide) ?_
        exact ih ((x2_7 + 1)) q26.1 q26.2.1 q26.2.2 _ _ _ hF (lv_sub hl [1, 2, 0] rfl) hW
  exact L_7 5000 0 0 a_signs a_works _ _ _ hF (lv_sub hl [1, 2, 0] rfl) hW
