theorem dX6_append_0 : decode cX6_append 0 = .ok (.aload_n 0, 1) := by decide +kernel
theorem dX6_append_1 : decode cX6_append 1 = .ok (.getfield 13, 3) := by decide +kernel
theorem dX6_append_4 : decode cX6_append 4 = .ok (.sipush 200, 3) := by decide +kernel
theorem dX6_append_7 : decode cX6_append 7 = .ok (.if_icmp .ge 25, 3) := by decide +kernel
theorem dX6_append_10 : decode cX6_append 10 = .ok (.aload_n 0, 1) := by decide +kernel
theorem dX6_append_11 : decode cX6_append 11 = .ok (.getfield 9, 3) := by decide +kernel
theorem dX6_append_14 : decode cX6_append 14 = .ok (.aload_n 0, 1) := by decide +kernel
theorem dX6_append_15 : decode cX6_append 15 = .ok (.getfield 13, 3) := by decide +kernel
theorem dX6_append_18 : decode cX6_append 18 = .ok (.iload_n 1, 1) := by decide +kernel
theorem dX6_append_19 : decode cX6_append 19 = .ok (.invokestatic 17, 3) := by decide +kernel
theorem dX6_append_22 : decode cX6_append 22 = .ok (.aload_n 0, 1) := by decide +kernel
theorem dX6_append_23 : decode cX6_append 23 = .ok (.dup, 1) := by decide +kernel
theorem dX6_append_24 : decode cX6_append 24 = .ok (.getfield 13, 3) := by decide +kernel
theorem dX6_append_27 : decode cX6_append 27 = .ok (.iconst 1, 1) := by decide +kernel
theorem dX6_append_28 : decode cX6_append 28 = .ok (.iadd, 1) := by decide +kernel
theorem dX6_append_29 : decode cX6_append 29 = .ok (.putfield 13, 3) := by decide +kernel
theorem dX6_append_32 : decode cX6_append 32 = .ok (.return_, 1) := by decide +kernel
def F_X6_append (x1 : Int32) (v_length : Int32) (a_letters : Nat → Int32) : Option (Int32 × (Nat → Int32)) := (if 200 ≤ v_length then some (v_length, a_letters) else (F_X4_put v_length x1 200 a_letters).bind (fun q19 => some ((v_length + 1), q19)))
theorem hdV_X6_append : yX6_append.cls = RX6 ∧ yX6_append.cls ≠ "java/lang/invoke/MethodHandle" ∧ yX6_append.cls ≠ "java/lang/invoke/VarHandle" ∧ (parseMethodDescriptor yX6_append.desc).map (fun d => d.parameters.length) = some 1 := by decide +kernel
set_option maxHeartbeats 4000000 in
set_option maxRecDepth 100000 in
theorem c_X6_append (l : Launch) (G : GG) (x1 : Int32) (h_this : Nat) (ad_this : Nat → Nat) (v_length : Int32) (a_letters : Nat → Int32) (out : Int32 × (Nat → Int32)) (hF : F_X6_append x1 v_length a_letters = some out) : CtrV l yX6_append (WS yX6_append cX6_append 2 none) { frames := 1, cells := 0, slots := 0, locals := 22 } G [.ref h_this, .int x1] [(h_this, oX6 ad_this v_length), ((ad_this 0), cI G 200 a_letters)] [(h_this, oX6 ad_this out.1), ((ad_this 0), cI G 200 out.2)] := by
  refine startV (cc := cX6_append) (maxL := 2) (by decide) rfl (Nat.le_of_ble_eq_true rfl) ?_
  intro p e s m args below meth c A Q hx hb hml hts hown hc hA hret ls H locs hl hW
  have hown : s.vm.findClass RX6 = some m.cls := hown
  have hg : ∀ w ∈ GOODS, w.before _ s = true := fun w h => hts w (List.mem_cons_of_mem _ h)
  have hl : lv_has ls 2 [(0, .ref h_this), (1, .int x1)] := hl
  rw [F_X6_append] at hF
  refine lv_aload_n hx hb dX6_append_0 rfl (lv_at hl 0 rfl) ?_
  refine va_get (D := G.1) (ci := 5) (v := .int v_length) (C := RX6) (T := TX6) (N := 2) hx hb hg hu_X6 hown hc.1 hW.1 0 rfl rfl 1 (by decide) (hg _ wd_1_33) (fun _ h9 => h9) rfl dX6_append_1 ?_
  refine lv_sipush (v := 200) hx hb dX6_append_4 (by decide) ?_
  refine lv_icmp_ge (tgt := 32) hx hb dX6_append_7 (by decide) (fun c_7 => ?_) (fun c_7 => ?_)
  · have hF := ite_t hF c_7
    obtain rfl := Option.some.inj hF
    exact hret _ _ _ _ hW dX6_append_32
  · have hF := ite_f hF c_7
    refine lv_aload_n hx hb dX6_append_10 rfl (lv_at hl 0 rfl) ?_
    refine va_get (D := G.1) (ci := 5) (v := .ref ((ad_this 0))) (C := RX6) (T := TX6) (N := 2) hx hb hg hu_X6 hown hc.1 hW.1 0 rfl rfl 0 (by decide) (hg _ wd_1_32) (fun _ h9 => h9) rfl dX6_append_11 ?_
    refine lv_aload_n hx hb dX6_append_14 rfl (lv_at hl 0 rfl) ?_
    refine va_get (D := G.1) (ci := 5) (v := .int v_length) (C := RX6) (T := TX6) (N := 2) hx hb hg hu_X6 hown hc.1 hW.1 0 rfl rfl 1 (by decide) (hg _ wd_1_33) (fun _ h9 => h9) rfl dX6_append_15 ?_
    refine lv_iload_n hx hb dX6_append_18 rfl (lv_at hl 1 rfl) ?_
    obtain ⟨q19, c_19, hF⟩ := bd_el hF
    refine wcV (ws' := [(h_this, oX6 ad_this v_length), ((ad_this 0), cI G 200 q19)]) (wc := [((ad_this 0), cI G 200 a_letters)]) (wr := [(h_this, oX6 ad_this v_length)]) (w1 := [((ad_this 0), cI G 200 q19)]) (va_runS (As := [.ref ((ad_this 0)), .int v_length, .int x1]) (rest := []) ⟨hx, hb, hml, hown, hg⟩ (c_X4_put l G v_length x1 200 ((ad_this 0)) a_letters q19 c_19 H.size) (va_cwS 3 hg (gS wd_2_16 wd_2_17 wd_1_14 wd_2_18) rfl rfl rfl hdS_X4_put ⟨(Nat.le_of_ble_eq_true rfl), (Nat.le_of_ble_eq_true rfl)⟩) (preS hc hW [1] rfl (by decide)) rfl rfl hl.1 rfl (lv_room (Nat.le_of_ble_eq_true rfl)) dX6_append_19 ⟨Nat.zero_le _, Nat.zero_le _⟩) hA hW [1] [0] [0, 1] rfl rfl (by decide) (by decide) rfl (by decide) (fun H locs hW => ?_)
    refine lv_aload_n hx hb dX6_append_22 rfl (lv_at hl 0 rfl) ?_
    refine lv_dup hx hb dX6_append_23 rfl ?_
    refine va_get (D := G.1) (ci := 5) (v := .int v_length) (C := RX6) (T := TX6) (N := 2) hx hb hg hu_X6 hown hc.1 hW.1 0 rfl rfl 1 (by decide) (hg _ wd_1_33) (fun _ h9 => h9) rfl dX6_append_24 ?_
    refine lv_iconst (v := 1) hx hb dX6_append_27 (by decide) ?_
    refine lv_iadd hx hb dX6_append_28 ?_
    refine va_put (D := G.1) (ci := 5) (v := .int ((v_length + 1))) (ty := .int) (C := RX6) (T := TX6) (N := 2) hx hb hg hu_X6 tyX6 tyX6_ok nmX6 hown hc.1 hW.1 hW.2.1 hW.2.2 0 rfl rfl 1 (by decide) (hg _ wd_1_33) (fun _ h9 => h9) rfl (by decide +kernel) rfl rfl (Nat.le_of_ble_eq_true rfl) dX6_append_29 (fun H locs hP hD hS => ?_)
    have hW : Wd G A s.heap [(h_this, oX6 ad_this ((v_length + 1))), ((ad_this 0), cI G 200 q19)] H locs := ⟨hP, hD, hS⟩
    obtain rfl := Option.some.inj hF
    exact hret _ _ _ _ hW dX6_append_32
theorem dX6_empty_0 : decode cX6_empty 0 = .ok (.aload_n 0, 1) := by decide +kernel
theorem dX6_empty_1 : decode cX6_empty 1 = .ok (.iconst 0, 1) := by decide +kernel
theorem dX6_empty_2 : decode cX6_empty 2 = .ok (.putfield 13, 3) := by decide +kernel
theorem dX6_empty_5 : decode cX6_empty 5 = .ok (.return_, 1) := by decide +kernel
def F_X6_empty (v_length : Int32) : Option (Int32) := some (0)
theorem hdV_X6_empty : yX6_empty.cls = RX6 ∧ yX6_empty.cls ≠ "java/lang/invoke/MethodHandle" ∧ yX6_empty.cls ≠ "java/lang/invoke/VarHandle" ∧ (parseMethodDescriptor yX6_empty.desc).map (fun d => d.parameters.length) = some 0 := by decide +kernel
set_option maxHeartbeats 4000000 in
set_option maxRecDepth 100000 in
theorem c_X6_empty (l : Launch) (G : GG) (h_this : Nat) (ad_this : Nat → Nat) (v_length : Int32) (out : Int32) (hF : F_X6_empty v_length = some out) : CtrV l yX6_empty (WS yX6_empty cX6_empty 1 none) { frames := 0, cells := 0, slots := 0, locals := 0 } G [.ref h_this] [(h_this, oX6 ad_this v_length)] [(h_this, oX6 ad_this out)] := by
  refine startV (cc := cX6_empty) (maxL := 1) (by decide) rfl (Nat.le_of_ble_eq_true rfl) ?_
  intro p e s m args below meth c A Q hx hb hml hts hown hc hA hret ls H locs hl hW
  have hown : s.vm.findClass RX6 = some m.cls := hown
  have hg : ∀ w ∈ GOODS, w.before _ s = true := fun w h => hts w (List.mem_cons_of_mem _ h)
  have hl : lv_has ls 1 [(0, .ref h_this)] := hl
  rw [F_X6_empty] at hF
  refine lv_aload_n hx hb dX6_empty_0 rfl (lv_at hl 0 rfl) ?_
  refine lv_iconst (v := 0) hx hb dX6_empty_1 (by decide) ?_
  refine va_put (D := G.1) (ci := 5) (v := .int 0) (ty := .int) (C := RX6) (T := TX6) (N := 2) hx hb hg hu_X6 tyX6 tyX6_ok nmX6 hown hc.1 hW.1 hW.2.1 hW.2.2 0 rfl rfl 1 (by decide) (hg _ wd_1_33) (fun _ h9 => h9) rfl (by decide +kernel) rfl rfl (Nat.le_of_ble_eq_true rfl) dX6_empty_2 (fun H locs hP hD hS => ?_)
  have hW : Wd G A s.heap [(h_this, oX6 ad_this 0)] H locs := ⟨hP, hD, hS⟩
  obtain rfl := Option.some.inj hF
  exact hret _ _ _ _ hW dX6_empty_5
theorem dX6_letterAt_0 : decode cX6_letterAt 0 = .ok (.iload_n 1, 1) := by decide +kernel
theorem dX6_letterAt_1 : decode cX6_letterAt 1 = .ok (.aload_n 0, 1) := by decide +kernel
theorem dX6_letterAt_2 : decode cX6_letterAt 2 = .ok (.getfield 13, 3) := by decide +kernel
theorem dX6_letterAt_5 : decode cX6_letterAt 5 = .ok (.if_icmp .ge 14, 3) := by decide +kernel
theorem dX6_letterAt_8 : decode cX6_letterAt 8 = .ok (.aload_n 0, 1) := by decide +kernel
theorem dX6_letterAt_9 : decode cX6_letterAt 9 = .ok (.getfield 9, 3) := by decide +kernel
theorem dX6_letterAt_12 : decode cX6_letterAt 12 = .ok (.iload_n 1, 1) := by decide +kernel
theorem dX6_letterAt_13 : decode cX6_letterAt 13 = .ok (.invokestatic 23, 3) := by decide +kernel
theorem dX6_letterAt_16 : decode cX6_letterAt 16 = .ok (.goto 4, 3) := by decide +kernel
theorem dX6_letterAt_19 : decode cX6_letterAt 19 = .ok (.iconst 0, 1) := by decide +kernel
theorem dX6_letterAt_20 : decode cX6_letterAt 20 = .ok (.ireturn, 1) := by decide +kernel
def F_X6_letterAt (x1 : Int32) (v_length : Int32) (a_letters : Nat → Int32) : Option (Int32) := (if v_length ≤ x1 then some (0) else (F_X4_at x1 200 a_letters).bind (fun q13 => some (q13)))
theorem hdV_X6_letterAt : yX6_letterAt.cls = RX6 ∧ yX6_letterAt.cls ≠ "java/lang/invoke/MethodHandle" ∧ yX6_letterAt.cls ≠ "java/lang/invoke/VarHandle" ∧ (parseMethodDescriptor yX6_letterAt.desc).map (fun d => d.parameters.length) = some 1 := by decide +kernel
set_option maxHeartbeats 4000000 in
set_option maxRecDepth 100000 in
theorem c_X6_letterAt (l : Launch) (G : GG) (x1 : Int32) (h_this : Nat) (ad_this : Nat → Nat) (v_length : Int32) (a_letters : Nat → Int32) (out : Int32) (hF : F_X6_letterAt x1 v_length a_letters = some out) : CtrI l yX6_letterAt (WS yX6_letterAt cX6_letterAt 2 (some .int)) { frames := 1, cells := 0, slots := 0, locals := 21 } G [.ref h_this, .int x1] [(h_this, oX6 ad_this v_length), ((ad_this 0), cI G 200 a_letters)] [(h_this, oX6 ad_this v_length), ((ad_this 0), cI G 200 a_letters)] out := by
  refine startI (cc := cX6_letterAt) (maxL := 2) (by decide) rfl (Nat.le_of_ble_eq_true rfl) ?_
  intro p e s m args below meth c A Q hx hb hml hts hown hc hA hret ls H locs hl hW
  have hown : s.vm.findClass RX6 = some m.cls := hown
  have hg : ∀ w ∈ GOODS, w.before _ s = true := fun w h => hts w (List.mem_cons_of_mem _ h)
  have hl : lv_has ls 2 [(0, .ref h_this), (1, .int x1)] := hl
  rw [F_X6_letterAt] at hF
  refine lv_iload_n hx hb dX6_letterAt_0 rfl (lv_at hl 1 rfl) ?_
  refine lv_aload_n hx hb dX6_letterAt_1 rfl (lv_at hl 0 rfl) ?_
  refine va_get (D := G.1) (ci := 5) (v := .int v_length) (C := RX6) (T := TX6) (N := 2) hx hb hg hu_X6 hown hc.1 hW.1 0 rfl rfl 1 (by decide) (hg _ wd_1_33) (fun _ h9 => h9) rfl dX6_letterAt_2 ?_
  refine lv_icmp_ge (tgt := 19) hx hb dX6_letterAt_5 (by decide) (fun c_5 => ?_) (fun c_5 => ?_)
  · have hF := ite_t hF c_5
    refine lv_iconst (v := 0) hx hb dX6_letterAt_19 (by decide) ?_
    obtain rfl := Option.some.inj hF
    exact hret _ _ _ _ hW dX6_letterAt_20
  · have hF := ite_f hF c_5
    refine lv_aload_n hx hb dX6_letterAt_8 rfl (lv_at hl 0 rfl) ?_
    refine va_get (D := G.1) (ci := 5) (v := .ref ((ad_this 0))) (C := RX6) (T := TX6) (N := 2) hx hb hg hu_X6 hown hc.1 hW.1 0 rfl rfl 0 (by decide) (hg _ wd_1_32) (fun _ h9 => h9) rfl dX6_letterAt_9 ?_
    refine lv_iload_n hx hb dX6_letterAt_12 rfl (lv_at hl 1 rfl) ?_
    obtain ⟨q13, c_13, hF⟩ := bd_el hF
    refine wcI (ws' := [(h_this, oX6 ad_this v_length), ((ad_this 0), cI G 200 a_letters)]) (wc := [((ad_this 0), cI G 200 a_letters)]) (wr := [(h_this, oX6 ad_this v_length)]) (w1 := [((ad_this 0), cI G 200 a_letters)]) (va_runS (As := [.ref ((ad_this 0)), .int x1]) (rest := []) ⟨hx, hb, hml, hown, hg⟩ (c_X4_at l G x1 200 ((ad_this 0)) a_letters q13 c_13 H.size) (va_cwS 2 hg (gS wd_2_36 wd_2_37 wd_1_14 wd_2_38) rfl rfl rfl hdS_X4_at ⟨(Nat.le_of_ble_eq_true rfl), (Nat.le_of_ble_eq_true rfl)⟩) (preS hc hW [1] rfl (by decide)) rfl rfl hl.1 rfl (lv_room (Nat.le_of_ble_eq_true rfl)) dX6_letterAt_13 ⟨Nat.zero_le _, Nat.zero_le _⟩) hA hW [1] [0] [0, 1] rfl rfl (by decide) (by decide) rfl (by decide) (fun H locs hW => ?_)
    refine lv_goto (tgt := 20) hx hb dX6_letterAt_16 (by decide) ?_
    obtain rfl := Option.some.inj hF
    exact hret _ _ _ _ hW dX6_letterAt_20
theorem dX3_figure_0 : decode cX3_figure 0 = .ok (.iload_n 0, 1) := by decide +kernel
theorem dX3_figure_1 : decode cX3_figure 1 = .ok (.bipush 48, 2) := by decide +kernel
theorem dX3_figure_3 : decode cX3_figure 3 = .ok (.bipush 57, 2) := by decide +kernel
theorem dX3_figure_5 : decode cX3_figure 5 = .ok (.invokestatic 52, 3) := by decide +kernel
theorem dX3_figure_8 : decode cX3_figure 8 = .ok (.ifCond .eq 10, 3) := by decide +kernel
theorem dX3_figure_11 : decode cX3_figure 11 = .ok (.iload_n 0, 1) := by decide +kernel
theorem dX3_figure_12 : decode cX3_figure 12 = .ok (.bipush 48, 2) := by decide +kernel
theorem dX3_figure_14 : decode cX3_figure 14 = .ok (.isub, 1) := by decide +kernel
theorem dX3_figure_15 : decode cX3_figure 15 = .ok (.goto 4, 3) := by decide +kernel
theorem dX3_figure_18 : decode cX3_figure 18 = .ok (.iconst (-1), 1) := by decide +kernel
theorem dX3_figure_19 : decode cX3_figure 19 = .ok (.ireturn, 1) := by decide +kernel
def F_X3_figure (x0 : Int32) : Option (Int32) := (F_X9_isWithin x0 48 57).bind (fun q5 => (if q5 = 0 then some ((-1)) else some ((x0 - 48))))
theorem hdS_X3_figure : yX3_figure.cls ≠ "java/lang/invoke/MethodHandle" ∧ yX3_figure.cls ≠ "java/lang/invoke/VarHandle" ∧ (parseMethodDescriptor yX3_figure.desc).map (fun d => d.parameters.length) = some 1 := by decide +kernel
set_option maxHeartbeats 4000000 in
set_option maxRecDepth 100000 in
theorem c_X3_figure (l : Launch) (G : GG) (x0 : Int32) (out : Int32) (hF : F_X3_figure x0 = some out) : CtrI l yX3_figure (WS yX3_figure cX3_figure 1 (some .int)) { frames := 1, cells := 0, slots := 0, locals := 22 } G [.int x0] [] [] out := by
  refine startI (cc := cX3_figure) (maxL := 1) (by decide) rfl (Nat.le_of_ble_eq_true rfl) ?_
  intro p e s m args below meth c A Q hx hb hml hts hown hc hA hret ls H locs hl hW
  have hown : s.vm.findClass RX3 = some m.cls := hown
  have hg : ∀ w ∈ GOODS, w.before _ s = true := fun w h => hts w (List.mem_cons_of_mem _ h)
  have hl : lv_has ls 1 [(0, .int x0)] := hl
  rw [F_X3_figure] at hF
  refine lv_iload_n hx hb dX3_figure_0 rfl (lv_at hl 0 rfl) ?_
  refine lv_bipush (v := 48) hx hb dX3_figure_1 (by decide) ?_
  refine lv_bipush (v := 57) hx hb dX3_figure_3 (by decide) ?_
  obtain ⟨q5, c_5, hF⟩ := bd_el hF
  refine wcZ (ws' := []) (wc := []) (wr := []) (w1 := []) (va_runSN (As := [.int x0, .int 48, .int 57]) (rest := []) ⟨hx, hb, hml, hown, hg⟩ (c_X9_isWithin l G x0 48 57 q5 c_5 H.size) ⟨va_cnB 3 hg (gN wd_2_48) rfl rfl rfl (hc.2 (RX3, 52, yX9_isWithin) (by decide +kernel)) (hg _ wd_1_1) hdS_X9_isWithin ⟨(Nat.le_of_ble_eq_true rfl), (Nat.le_of_ble_eq_true rfl)⟩, (hg _ wd_2_47), trivial⟩ (preS hc hW [] rfl (by decide)) rfl rfl hl.1 rfl (lv_room (Nat.le_of_ble_eq_true rfl)) dX3_figure_5 ⟨Nat.zero_le _, Nat.zero_le _⟩) hA hW [] [] [] rfl rfl (by decide) (by decide) rfl (by decide) (fun z_5 H locs hW => ?_)
  refine lv_if_eq (tgt := 18) hx hb dX3_figure_8 (by decide) (fun c_8 => ?_) (fun c_8 => ?_)
  · have hF := ite_t hF c_8
    refine lv_iconst (v := (-1)) hx hb dX3_figure_18 (by decide) ?_
    obtain rfl := Option.some.inj hF
    exact hret _ _ _ _ hW dX3_figure_19
  · have hF := ite_f hF c_8
    refine lv_iload_n hx hb dX3_figure_11 rfl (lv_at hl 0 rfl) ?_
    refine lv_bipush (v := 48) hx hb dX3_figure_12 (by decide) ?_
    refine lv_isub hx hb dX3_figure_14 ?_
    refine lv_goto (tgt := 19) hx hb dX3_figure_15 (by decide) ?_
    obtain rfl := Option.some.inj hF
    exact hret _ _ _ _ hW dX3_figure_19
theorem dX3_numberAt_0 : decode cX3_numberAt 0 = .ok (.aload_n 0, 1) := by decide +kernel
theorem dX3_numberAt_1 : decode cX3_numberAt 1 = .ok (.getfield 11, 3) := by decide +kernel
theorem dX3_numberAt_4 : decode cX3_numberAt 4 = .ok (.iload_n 1, 1) := by decide +kernel
theorem dX3_numberAt_5 : decode cX3_numberAt 5 = .ok (.invokestatic 39, 3) := by decide +kernel
theorem dX3_numberAt_8 : decode cX3_numberAt 8 = .ok (.ireturn, 1) := by decide +kernel
def F_X3_numberAt (x1 : Int32) (a_numbers : Nat → Int32) : Option (Int32) := (F_X4_at x1 4 a_numbers).bind (fun q5 => some (q5))
theorem hdV_X3_numberAt : yX3_numberAt.cls = RX3 ∧ yX3_numberAt.cls ≠ "java/lang/invoke/MethodHandle" ∧ yX3_numberAt.cls ≠ "java/lang/invoke/VarHandle" ∧ (parseMethodDescriptor yX3_numberAt.desc).map (fun d => d.parameters.length) = some 1 := by decide +kernel
set_option maxHeartbeats 4000000 in
set_option maxRecDepth 100000 in
theorem c_X3_numberAt (l : Launch) (G : GG) (x1 : Int32) (h_this : Nat) (ad_this : Nat → Nat) (v_numberCount : Int32) (v_letter : Int32) (v_end : Int32) (a_numbers : Nat → Int32) (out : Int32) (hF : F_X3_numberAt x1 a_numbers = some out) : CtrI l yX3_numberAt (WS yX3_numberAt cX3_numberAt 2 (some .int)) { frames := 1, cells := 0, slots := 0, locals := 21 } G [.ref h_this, .int x1] [(h_this, oX3 ad_this v_numberCount v_letter v_end), ((ad_this 0), cI G 4 a_numbers)] [(h_this, oX3 ad_this v_numberCount v_letter v_end), ((ad_this 0), cI G 4 a_numbers)] out := by
  refine startI (cc := cX3_numberAt) (maxL := 2) (by decide) rfl (Nat.le_of_ble_eq_true rfl) ?_
  intro p e s m args below meth c A Q hx hb hml hts hown hc hA hret ls H locs hl hW
  have hown : s.vm.findClass RX3 = some m.cls := hown
  have hg : ∀ w ∈ GOODS, w.before _ s = true := fun w h => hts w (List.mem_cons_of_mem _ h)
  have hl : lv_has ls 2 [(0, .ref h_this), (1, .int x1)] := hl
  rw [F_X3_numberAt] at hF
  refine lv_aload_n hx hb dX3_numberAt_0 rfl (lv_at hl 0 rfl) ?_
  refine va_get (D := G.1) (ci := 3) (v := .ref ((ad_this 0))) (C := RX3) (T := TX3) (N := 4) hx hb hg hu_X3 hown hc.1 hW.1 0 rfl rfl 0 (by decide) (hg _ wd_1_48) (fun _ h9 => h9) rfl dX3_numberAt_1 ?_
  refine lv_iload_n hx hb dX3_numberAt_4 rfl (lv_at hl 1 rfl) ?_
  obtain ⟨q5, c_5, hF⟩ := bd_el hF
  refine wcI (ws' := [(h_this, oX3 ad_this v_numberCount v_letter v_end), ((ad_this 0), cI G 4 a_numbers)]) (wc := [((ad_this 0), cI G 4 a_numbers)]) (wr := [(h_this, oX3 ad_this v_numberCount v_letter v_end)]) (w1 := [((ad_this 0), cI G 4 a_numbers)]) (va_runS (As := [.ref ((ad_this 0)), .int x1]) (rest := []) ⟨hx, hb, hml, hown, hg⟩ (c_X4_at l G x1 4 ((ad_this 0)) a_numbers q5 c_5 H.size) (va_cwS 2 hg (gS wd_2_58 wd_2_37 wd_1_14 wd_2_38) rfl rfl rfl hdS_X4_at ⟨(Nat.le_of_ble_eq_true rfl), (Nat.le_of_ble_eq_true rfl)⟩) (preS hc hW [1] rfl (by decide)) rfl rfl hl.1 rfl (lv_room (Nat.le_of_ble_eq_true rfl)) dX3_numberAt_5 ⟨Nat.zero_le _, Nat.zero_le _⟩) hA hW [1] [0] [0, 1] rfl rfl (by decide) (by decide) rfl (by decide) (fun H locs hW => ?_)
  obtain rfl := Option.some.inj hF
  exact hret _ _ _ _ hW dX3_numberAt_8
theorem dX3_readNumber_0 : decode cX3_readNumber 0 = .ok (.aload_n 1, 1) := by decide +kernel
theorem dX3_readNumber_1 : decode cX3_readNumber 1 = .ok (.aload_n 0, 1) := by decide +kernel
theorem dX3_readNumber_2 : decode cX3_readNumber 2 = .ok (.getfield 25, 3) := by decide +kernel
theorem dX3_readNumber_5 : decode cX3_readNumber 5 = .ok (.invokevirtual 15, 3) := by decide +kernel
theorem dX3_readNumber_8 : decode cX3_readNumber 8 = .ok (.invokestatic 45, 3) := by decide +kernel
theorem dX3_readNumber_11 : decode cX3_readNumber 11 = .ok (.istore_n 2, 1) := by decide +kernel
theorem dX3_readNumber_12 : decode cX3_readNumber 12 = .ok (.iload_n 2, 1) := by decide +kernel
theorem dX3_readNumber_13 : decode cX3_readNumber 13 = .ok (.ifCond .ge 5, 3) := by decide +kernel
theorem dX3_readNumber_16 : decode cX3_readNumber 16 = .ok (.iconst 0, 1) := by decide +kernel
theorem dX3_readNumber_17 : decode cX3_readNumber 17 = .ok (.ireturn, 1) := by decide +kernel
theorem dX3_readNumber_18 : decode cX3_readNumber 18 = .ok (.aload_n 0, 1) := by decide +kernel
theorem dX3_readNumber_19 : decode cX3_readNumber 19 = .ok (.dup, 1) := by decide +kernel
theorem dX3_readNumber_20 : decode cX3_readNumber 20 = .ok (.getfield 25, 3) := by decide +kernel
theorem dX3_readNumber_23 : decode cX3_readNumber 23 = .ok (.iconst 1, 1) := by decide +kernel
theorem dX3_readNumber_24 : decode cX3_readNumber 24 = .ok (.iadd, 1) := by decide +kernel
theorem dX3_readNumber_25 : decode cX3_readNumber 25 = .ok (.putfield 25, 3) := by decide +kernel
theorem dX3_readNumber_28 : decode cX3_readNumber 28 = .ok (.iload_n 2, 1) := by decide +kernel
theorem dX3_readNumber_29 : decode cX3_readNumber 29 = .ok (.istore_n 3, 1) := by decide +kernel
theorem dX3_readNumber_30 : decode cX3_readNumber 30 = .ok (.aload_n 1, 1) := by decide +kernel
theorem dX3_readNumber_31 : decode cX3_readNumber 31 = .ok (.aload_n 0, 1) := by decide +kernel
theorem dX3_readNumber_32 : decode cX3_readNumber 32 = .ok (.getfield 25, 3) := by decide +kernel
theorem dX3_readNumber_35 : decode cX3_readNumber 35 = .ok (.invokevirtual 15, 3) := by decide +kernel
theorem dX3_readNumber_38 : decode cX3_readNumber 38 = .ok (.invokestatic 45, 3) := by decide +kernel
theorem dX3_readNumber_41 : decode cX3_readNumber 41 = .ok (.istore 4, 2) := by decide +kernel
theorem dX3_readNumber_43 : decode cX3_readNumber 43 = .ok (.iload 4, 2) := by decide +kernel
theorem dX3_readNumber_45 : decode cX3_readNumber 45 = .ok (.ifCond .lt 21, 3) := by decide +kernel
theorem dX3_readNumber_48 : decode cX3_readNumber 48 = .ok (.aload_n 0, 1) := by decide +kernel
theorem dX3_readNumber_49 : decode cX3_readNumber 49 = .ok (.dup, 1) := by decide +kernel
theorem dX3_readNumber_50 : decode cX3_readNumber 50 = .ok (.getfield 25, 3) := by decide +kernel
theorem dX3_readNumber_53 : decode cX3_readNumber 53 = .ok (.iconst 1, 1) := by decide +kernel
theorem dX3_readNumber_54 : decode cX3_readNumber 54 = .ok (.iadd, 1) := by decide +kernel
theorem dX3_readNumber_55 : decode cX3_readNumber 55 = .ok (.putfield 25, 3) := by decide +kernel
theorem dX3_readNumber_58 : decode cX3_readNumber 58 = .ok (.bipush 10, 2) := by decide +kernel
theorem dX3_readNumber_60 : decode cX3_readNumber 60 = .ok (.iload_n 2, 1) := by decide +kernel
theorem dX3_readNumber_61 : decode cX3_readNumber 61 = .ok (.imul, 1) := by decide +kernel
theorem dX3_readNumber_62 : decode cX3_readNumber 62 = .ok (.iload 4, 2) := by decide +kernel
theorem dX3_readNumber_64 : decode cX3_readNumber 64 = .ok (.iadd, 1) := by decide +kernel
theorem dX3_readNumber_65 : decode cX3_readNumber 65 = .ok (.istore_n 3, 1) := by decide +kernel
theorem dX3_readNumber_66 : decode cX3_readNumber 66 = .ok (.aload_n 0, 1) := by decide +kernel
theorem dX3_readNumber_67 : decode cX3_readNumber 67 = .ok (.getfield 11, 3) := by decide +kernel
theorem dX3_readNumber_70 : decode cX3_readNumber 70 = .ok (.aload_n 0, 1) := by decide +kernel
theorem dX3_readNumber_71 : decode cX3_readNumber 71 = .ok (.getfield 28, 3) := by decide +kernel
theorem dX3_readNumber_74 : decode cX3_readNumber 74 = .ok (.iload_n 3, 1) := by decide +kernel
theorem dX3_readNumber_75 : decode cX3_readNumber 75 = .ok (.invokestatic 48, 3) := by decide +kernel
theorem dX3_readNumber_78 : decode cX3_readNumber 78 = .ok (.aload_n 0, 1) := by decide +kernel
theorem dX3_readNumber_79 : decode cX3_readNumber 79 = .ok (.dup, 1) := by decide +kernel
theorem dX3_readNumber_80 : decode cX3_readNumber 80 = .ok (.getfield 28, 3) := by decide +kernel
theorem dX3_readNumber_83 : decode cX3_readNumber 83 = .ok (.iconst 1, 1) := by decide +kernel
theorem dX3_readNumber_84 : decode cX3_readNumber 84 = .ok (.iadd, 1) := by decide +kernel
theorem dX3_readNumber_85 : decode cX3_readNumber 85 = .ok (.putfield 28, 3) := by decide +kernel
theorem dX3_readNumber_88 : decode cX3_readNumber 88 = .ok (.iconst 1, 1) := by decide +kernel
theorem dX3_readNumber_89 : decode cX3_readNumber 89 = .ok (.ireturn, 1) := by decide +kernel
def F_X3_readNumber (v_end : Int32) (v_numberCount : Int32) (v_p1_length : Int32) (a_p1_letters : Nat → Int32) (a_numbers : Nat → Int32) : Option (Int32 × Int32 × Int32 × (Nat → Int32)) := (F_X6_letterAt v_end v_p1_length a_p1_letters).bind (fun q5 => (F_X3_figure q5).bind (fun q8 => (if 0 ≤ q8 then (F_X6_letterAt ((v_end + 1)) v_p1_length a_p1_letters).bind (fun q35 => (F_X3_figure q35).bind (fun q38 => jn (fun x3_66 v_end_66 => (F_X4_put v_numberCount x3_66 4 a_numbers).bind (fun q75 => some (1, v_end_66, (v_numberCount + 1), q75))) (fun k_66 => (if q38 < 0 then k_66 q8 ((v_end + 1)) else k_66 (((10 * q8) + q38)) (((v_end + 1) + 1)))))) else some (0, v_end, v_numberCount, a_numbers))))
theorem hdV_X3_readNumber : yX3_readNumber.cls = RX3 ∧ yX3_readNumber.cls ≠ "java/lang/invoke/MethodHandle" ∧ yX3_readNumber.cls ≠ "java/lang/invoke/VarHandle" ∧ (parseMethodDescriptor yX3_readNumber.desc).map (fun d => d.parameters.length) = some 1 := by decide +kernel
set_option maxHeartbeats 4000000 in
set_option maxRecDepth 100000 in
theorem c_X3_readNumber (l : Launch) (G : GG) (h_this : Nat) (h_p1 : Nat) (ad_this : Nat → Nat) (ad_p1 : Nat → Nat) (v_numberCount : Int32) (v_letter : Int32) (v_end : Int32) (v_p1_length : Int32) (a_p1_letters : Nat → Int32) (a_numbers : Nat → Int32) (out : Int32 × Int32 × Int32 × (Nat → Int32)) (hF : F_X3_readNumber v_end v_numberCount v_p1_length a_p1_letters a_numbers = some out) : CtrZ l yX3_readNumber (WS yX3_readNumber cX3_readNumber 5 (some .boolean)) { frames := 2, cells := 0, slots := 0, locals := 42 } G [.ref h_this, .ref h_p1] [(h_this, oX3 ad_this v_numberCount v_letter v_end), (h_p1, oX6 ad_p1 v_p1_length), ((ad_p1 0), cI G 200 a_p1_letters), ((ad_this 0), cI G 4 a_numbers)] [(h_this, oX3 ad_this out.2.2.1 v_letter out.2.1), (h_p1, oX6 ad_p1 v_p1_length), ((ad_p1 0), cI G 200 a_p1_letters), ((ad_this 0), cI G 4 out.2.2.2)] out.1 := by
  refine startZ (cc := cX3_readNumber) (maxL := 5) (by decide) rfl (Nat.le_of_ble_eq_true rfl) ?_
  intro p e s m args below meth c A Q hx hb hml hts hown hc hA hret ls H locs hl hW
  have hown : s.vm.findClass RX3 = some m.cls := hown
  have hg : ∀ w ∈ GOODS, w.before _ s = true := fun w h => hts w (List.mem_cons_of_mem _ h)
  have hl : lv_has ls 5 [(0, .ref h_this), (1, .ref h_p1)] := hl
  rw [F_X3_readNumber] at hF
  refine lv_aload_n hx hb dX3_readNumber_0 rfl (lv_at hl 1 rfl) ?_
  refine lv_aload_n hx hb dX3_readNumber_1 rfl (lv_at hl 0 rfl) ?_
  refine va_get (D := G.1) (ci := 3) (v := .int v_end) (C := RX3) (T := TX3) (N := 4) hx hb hg hu_X3 hown hc.1 hW.1 0 rfl rfl 3 (by decide) (hg _ wd_1_52) (fun _ h9 => h9) rfl dX3_readNumber_2 ?_
  obtain ⟨q5, c_5, hF⟩ := bd_el hF
  refine wcI (ws' := [(h_this, oX3 ad_this v_numberCount v_letter v_end), (h_p1, oX6 ad_p1 v_p1_length), ((ad_p1 0), cI G 200 a_p1_letters), ((ad_this 0), cI G 4 a_numbers)]) (wc := [(h_p1, oX6 ad_p1 v_p1_length), ((ad_p1 0), cI G 200 a_p1_letters)]) (wr := [(h_this, oX3 ad_this v_numberCount v_letter v_end), ((ad_this 0), cI G 4 a_numbers)]) (w1 := [(h_p1, oX6 ad_p1 v_p1_length), ((ad_p1 0), cI G 200 a_p1_letters)]) (va_runV (As := [.int v_end]) (rest := []) ⟨hx, hb, hml, hown, hg⟩ (c_X6_letterAt l G v_end h_p1 ad_p1 v_p1_length a_p1_letters q5 c_5 H.size) (cwV 1 hg (gV wd_2_32 wd_2_33 wd_2_34 wd_1_2 wd_2_35) rfl rfl rfl hdV_X6_letterAt ⟨(Nat.le_of_ble_eq_true rfl), (Nat.le_of_ble_eq_true rfl)⟩) (preV hc hW [1, 2] rfl (by decide) rfl rfl) rfl rfl hl.1 rfl (lv_room (Nat.le_of_ble_eq_true rfl)) dX3_readNumber_5 ⟨Nat.zero_le _, Nat.zero_le _⟩) hA hW [1, 2] [0, 3] [0, 2, 3, 1] rfl rfl (by decide) (by decide) rfl (by decide) (fun H locs hW => ?_)
  obtain ⟨q8, c_8, hF⟩ := bd_el hF
  refine wcI (ws' := [(h_this, oX3 ad_this v_numberCount v_letter v_end), (h_p1, oX6 ad_p1 v_p1_length), ((ad_p1 0), cI G 200 a_p1_letters), ((ad_this 0), cI G 4 a_numbers)]) (wc := []) (wr := [(h_this, oX3 ad_this v_numberCount v_letter v_end), (h_p1, oX6 ad_p1 v_p1_length), ((ad_p1 0), cI G 200 a_p1_letters), ((ad_this 0), cI G 4 a_numbers)]) (w1 := []) (va_runS (As := [.int q5]) (rest := []) ⟨hx, hb, hml, hown, hg⟩ (c_X3_figure l G q5 q8 c_8 H.size) (va_cwS 1 hg (gS wd_2_43 wd_2_44 wd_1_3 wd_2_45) rfl rfl rfl hdS_X3_figure ⟨(Nat.le_of_ble_eq_true rfl), (Nat.le_of_ble_eq_true rfl)⟩) (preS hc hW [] rfl (by decide)) rfl rfl hl.1 rfl (lv_room (Nat.le_of_ble_eq_true rfl)) dX3_readNumber_8 ⟨Nat.zero_le _, Nat.zero_le _⟩) hA hW [] [0, 1, 2, 3] [0, 1, 2, 3] rfl rfl (by decide) (by decide) rfl (by decide) (fun H locs hW => ?_)
  refine lv_istore_n (lv' := [(2, .int q8), (0, .ref h_this), (1, .ref h_p1)]) hx hb dX3_readNumber_11 rfl hl (by decide) rfl (fun ls hl => ?_)
  refine lv_iload_n hx hb dX3_readNumber_12 rfl (lv_at hl 0 rfl) ?_
  refine lv_if_ge (tgt := 18) hx hb dX3_readNumber_13 (by decide) (fun c_13 => ?_) (fun c_13 => ?_)
  · have hF := ite_t hF c_13
    refine lv_aload_n hx hb dX3_readNumber_18 rfl (lv_at hl 1 rfl) ?_
    refine lv_dup hx hb dX3_readNumber_19 rfl ?_
    refine va_get (D := G.1) (ci := 3) (v := .int v_end) (C := RX3) (T := TX3) (N := 4) hx hb hg hu_X3 hown hc.1 hW.1 0 rfl rfl 3 (by decide) (hg _ wd_1_52) (fun _ h9 => h9) rfl dX3_readNumber_20 ?_
    refine lv_iconst (v := 1) hx hb dX3_readNumber_23 (by decide) ?_
    refine lv_iadd hx hb dX3_readNumber_24 ?_
    refine va_put (D := G.1) (ci := 3) (v := .int ((v_end + 1))) (ty := .int) (C := RX3) (T := TX3) (N := 4) hx hb hg hu_X3 tyX3 tyX3_ok nmX3 hown hc.1 hW.1 hW.2.1 hW.2.2 0 rfl rfl 3 (by decide) (hg _ wd_1_52) (fun _ h9 => h9) rfl (by decide +kernel) rfl rfl (Nat.le_of_ble_eq_true rfl) dX3_readNumber_25 (fun H locs hP hD hS => ?_)
    have hW : Wd G A s.heap [(h_this, oX3 ad_this v_numberCount v_letter ((v_end + 1))), (h_p1, oX6 ad_p1 v_p1_length), ((ad_p1 0), cI G 200 a_p1_letters), ((ad_this 0), cI G 4 a_numbers)] H locs := ⟨hP, hD, hS⟩
    refine lv_iload_n hx hb dX3_readNumber_28 rfl (lv_at hl 0 rfl) ?_
    refine lv_istore_n (lv' := [(3, .int q8), (2, .int q8), (0, .ref h_this), (1, .ref h_p1)]) hx hb dX3_readNumber_29 rfl hl (by decide) rfl (fun ls hl => ?_)
    refine lv_aload_n hx hb dX3_readNumber_30 rfl (lv_at hl 3 rfl) ?_
    refine lv_aload_n hx hb dX3_readNumber_31 rfl (lv_at hl 2 rfl) ?_
    refine va_get (D := G.1) (ci := 3) (v := .int ((v_end + 1))) (C := RX3) (T := TX3) (N := 4) hx hb hg hu_X3 hown hc.1 hW.1 0 rfl rfl 3 (by decide) (hg _ wd_1_52) (fun _ h9 => h9) rfl dX3_readNumber_32 ?_
    obtain ⟨q35, c_35, hF⟩ := bd_el hF
    refine wcI (ws' := [(h_this, oX3 ad_this v_numberCount v_letter ((v_end + 1))), (h_p1, oX6 ad_p1 v_p1_length), ((ad_p1 0), cI G 200 a_p1_letters), ((ad_this 0), cI G 4 a_numbers)]) (wc := [(h_p1, oX6 ad_p1 v_p1_length), ((ad_p1 0), cI G 200 a_p1_letters)]) (wr := [(h_this, oX3 ad_this v_numberCount v_letter ((v_end + 1))), ((ad_this 0), cI G 4 a_numbers)]) (w1 := [(h_p1, oX6 ad_p1 v_p1_length), ((ad_p1 0), cI G 200 a_p1_letters)]) (va_runV (As := [.int ((v_end + 1))]) (rest := []) ⟨hx, hb, hml, hown, hg⟩ (c_X6_letterAt l G ((v_end + 1)) h_p1 ad_p1 v_p1_length a_p1_letters q35 c_35 H.size) (cwV 1 hg (gV wd_2_32 wd_2_33 wd_2_34 wd_1_2 wd_2_35) rfl rfl rfl hdV_X6_letterAt ⟨(Nat.le_of_ble_eq_true rfl), (Nat.le_of_ble_eq_true rfl)⟩) (preV hc hW [1, 2] rfl (by decide) rfl rfl) rfl rfl hl.1 rfl (lv_room (Nat.le_of_ble_eq_true rfl)) dX3_readNumber_35 ⟨Nat.zero_le _, Nat.zero_le _⟩) hA hW [1, 2] [0, 3] [0, 2, 3, 1] rfl rfl (by decide) (by decide) rfl (by decide) (fun H locs hW => ?_)
    obtain ⟨q38, c_38, hF⟩ := bd_el hF
    refine wcI (ws' := [(h_this, oX3 ad_this v_numberCount v_letter ((v_end + 1))), (h_p1, oX6 ad_p1 v_p1_length), ((ad_p1 0), cI G 200 a_p1_letters), ((ad_this 0), cI G 4 a_numbers)]) (wc := []) (wr := [(h_this, oX3 ad_this v_numberCount v_letter ((v_end + 1))), (h_p1, oX6 ad_p1 v_p1_length), ((ad_p1 0), cI G 200 a_p1_letters), ((ad_this 0), cI G 4 a_numbers)]) (w1 := []) (va_runS (As := [.int q35]) (rest := []) ⟨hx, hb, hml, hown, hg⟩ (c_X3_figure l G q35 q38 c_38 H.size) (va_cwS 1 hg (gS wd_2_43 wd_2_44 wd_1_3 wd_2_45) rfl rfl rfl hdS_X3_figure ⟨(Nat.le_of_ble_eq_true rfl), (Nat.le_of_ble_eq_true rfl)⟩) (preS hc hW [] rfl (by decide)) rfl rfl hl.1 rfl (lv_room (Nat.le_of_ble_eq_true rfl)) dX3_readNumber_38 ⟨Nat.zero_le _, Nat.zero_le _⟩) hA hW [] [0, 1, 2, 3] [0, 1, 2, 3] rfl rfl (by decide) (by decide) rfl (by decide) (fun H locs hW => ?_)
    refine lv_istore (lv' := [(4, .int q38), (3, .int q8), (2, .int q8), (0, .ref h_this), (1, .ref h_p1)]) hx hb dX3_readNumber_41 hl (by decide) rfl (fun ls hl => ?_)
    refine lv_iload hx hb dX3_readNumber_43 (lv_at hl 0 rfl) ?_
    obtain ⟨k_66, e_66, hF⟩ := jn_el hF
    have J_66 : ∀ (x3_66 : Int32) (v_end_66 : Int32) (ls : Array Slot) (H : Heap) (locs : List Loc), k_66 x3_66 v_end_66 = some out → lv_has ls 5 [(0, .ref h_this), (3, .int x3_66)] → Wd G A s.heap [(h_this, oX3 ad_this v_numberCount v_letter v_end_66), (h_p1, oX6 ad_p1 v_p1_length), ((ad_p1 0), cI G 200 a_p1_letters), ((ad_this 0), cI G 4 a_numbers)] H locs → W p l e ({ frames := 2, cells := 0, slots := 0, locals := 42 } : Room) s m args below meth c H locs 0 0 Q (F0 m 66 ls []) := by
      intro x3_66 v_end_66 ls H locs hF hl hW
      rw [e_66] at hF
      dsimp only at hF
      refine lv_aload_n hx hb dX3_readNumber_66 rfl (lv_at hl 0 rfl) ?_
      refine va_get (D := G.1) (ci := 3) (v := .ref ((ad_this 0))) (C := RX3) (T := TX3) (N := 4) hx hb hg hu_X3 hown hc.1 hW.1 0 rfl rfl 0 (by decide) (hg _ wd_1_48) (fun _ h9 => h9) rfl dX3_readNumber_67 ?_
      refine lv_aload_n hx hb dX3_readNumber_70 rfl (lv_at hl 0 rfl) ?_
      refine va_get (D := G.1) (ci := 3) (v := .int v_numberCount) (C := RX3) (T := TX3) (N := 4) hx hb hg hu_X3 hown hc.1 hW.1 0 rfl rfl 1 (by decide) (hg _ wd_1_49) (fun _ h9 => h9) rfl dX3_readNumber_71 ?_
      refine lv_iload_n hx hb dX3_readNumber_74 rfl (lv_at hl 1 rfl) ?_
      obtain ⟨q75, c_75, hF⟩ := bd_el hF
      refine wcV (ws' := [(h_this, oX3 ad_this v_numberCount v_letter v_end_66), (h_p1, oX6 ad_p1 v_p1_length), ((ad_p1 0), cI G 200 a_p1_letters), ((ad_this 0), cI G 4 q75)]) (wc := [((ad_this 0), cI G 4 a_numbers)]) (wr := [(h_this, oX3 ad_this v_numberCount v_letter v_end_66), (h_p1, oX6 ad_p1 v_p1_length), ((ad_p1 0), cI G 200 a_p1_letters)]) (w1 := [((ad_this 0), cI G 4 q75)]) (va_runS (As := [.ref ((ad_this 0)), .int v_numberCount, .int x3_66]) (rest := []) ⟨hx, hb, hml, hown, hg⟩ (c_X4_put l G v_numberCount x3_66 4 ((ad_this 0)) a_numbers q75 c_75 H.size) (va_cwS 3 hg (gS wd_2_49 wd_2_17 wd_1_14 wd_2_18) rfl rfl rfl hdS_X4_put ⟨(Nat.le_of_ble_eq_true rfl), (Nat.le_of_ble_eq_true rfl)⟩) (preS hc hW [3] rfl (by decide)) rfl rfl hl.1 rfl (lv_room (Nat.le_of_ble_eq_true rfl)) dX3_readNumber_75 ⟨Nat.zero_le _, Nat.zero_le _⟩) hA hW [3] [0, 1, 2] [0, 1, 2, 3] rfl rfl (by decide) (by decide) rfl (by decide) (fun H locs hW => ?_)
      refine lv_aload_n hx hb dX3_readNumber_78 rfl (lv_at hl 0 rfl) ?_
      refine lv_dup hx hb dX3_readNumber_79 rfl ?_
      refine va_get (D := G.1) (ci := 3) (v := .int v_numberCount) (C := RX3) (T := TX3) (N := 4) hx hb hg hu_X3 hown hc.1 hW.1 0 rfl rfl 1 (by decide) (hg _ wd_1_49) (fun _ h9 => h9) rfl dX3_readNumber_80 ?_
      refine lv_iconst (v := 1) hx hb dX3_readNumber_83 (by decide) ?_
      refine lv_iadd hx hb dX3_readNumber_84 ?_
      refine va_put (D := G.1) (ci := 3) (v := .int ((v_numberCount + 1))) (ty := .int) (C := RX3) (T := TX3) (N := 4) hx hb hg hu_X3 tyX3 tyX3_ok nmX3 hown hc.1 hW.1 hW.2.1 hW.2.2 0 rfl rfl 1 (by decide) (hg _ wd_1_49) (fun _ h9 => h9) rfl (by decide +kernel) rfl rfl (Nat.le_of_ble_eq_true rfl) dX3_readNumber_85 (fun H locs hP hD hS => ?_)
      have hW : Wd G A s.heap [(h_this, oX3 ad_this ((v_numberCount + 1)) v_letter v_end_66), (h_p1, oX6 ad_p1 v_p1_length), ((ad_p1 0), cI G 200 a_p1_letters), ((ad_this 0), cI G 4 q75)] H locs := ⟨hP, hD, hS⟩
      refine lv_iconst (v := 1) hx hb dX3_readNumber_88 (by decide) ?_
      obtain rfl := Option.some.inj hF
      exact hret _ _ _ _ hW (Or.inr rfl) dX3_readNumber_89
    refine lv_if_lt (tgt := 66) hx hb dX3_readNumber_45 (by decide) (fun c_45 => ?_) (fun c_45 => ?_)
    · have hF := ite_t hF c_45
      exact J_66 q8 ((v_end + 1)) _ _ _ hF (lv_sub hl [3, 1] rfl) hW
    · have hF := ite_f hF c_45
      refine lv_aload_n hx hb dX3_readNumber_48 rfl (lv_at hl 3 rfl) ?_
      refine lv_dup hx hb dX3_readNumber_49 rfl ?_
      refine va_get (D := G.1) (ci := 3) (v := .int ((v_end + 1))) (C := RX3) (T := TX3) (N := 4) hx hb hg hu_X3 hown hc.1 hW.1 0 rfl rfl 3 (by decide) (hg _ wd_1_52) (fun _ h9 => h9) rfl dX3_readNumber_50 ?_
      refine lv_iconst (v := 1) hx hb dX3_readNumber_53 (by decide) ?_
      refine lv_iadd hx hb dX3_readNumber_54 ?_
      refine va_put (D := G.1) (ci := 3) (v := .int (((v_end + 1) + 1))) (ty := .int) (C := RX3) (T := TX3) (N := 4) hx hb hg hu_X3 tyX3 tyX3_ok nmX3 hown hc.1 hW.1 hW.2.1 hW.2.2 0 rfl rfl 3 (by decide) (hg _ wd_1_52) (fun _ h9 => h9) rfl (by decide +kernel) rfl rfl (Nat.le_of_ble_eq_true rfl) dX3_readNumber_55 (fun H locs hP hD hS => ?_)
      have hW : Wd G A s.heap [(h_this, oX3 ad_this v_numberCount v_letter (((v_end + 1) + 1))), (h_p1, oX6 ad_p1 v_p1_length), ((ad_p1 0), cI G 200 a_p1_letters), ((ad_this 0), cI G 4 a_numbers)] H locs := ⟨hP, hD, hS⟩
      refine lv_bipush (v := 10) hx hb dX3_readNumber_58 (by decide) ?_
      refine lv_iload_n hx hb dX3_readNumber_60 rfl (lv_at hl 2 rfl) ?_
      refine lv_imul hx hb dX3_readNumber_61 ?_
      refine lv_iload hx hb dX3_readNumber_62 (lv_at hl 0 rfl) ?_
      refine lv_iadd hx hb dX3_readNumber_64 ?_
      refine lv_istore_n (lv' := [(3, .int (((10 * q8) + q38))), (4, .int q38), (2, .int q8), (0, .ref h_this), (1, .ref h_p1)]) hx hb dX3_readNumber_65 rfl hl (by decide) rfl (fun ls hl => ?_)
      exact J_66 (((10 * q8) + q38)) (((v_end + 1) + 1)) _ _ _ hF (lv_sub hl [3, 0] rfl) hW
  · have hF := ite_f hF c_13
    refine lv_iconst (v := 0) hx hb dX3_readNumber_16 (by decide) ?_
    obtain rfl := Option.some.inj hF
    exact hret _ _ _ _ hW (Or.inl rfl) dX3_readNumber_17
theorem dX3_reaches_0 : decode cX3_reaches 0 = .ok (.aload_n 0, 1) := by decide +kernel
theorem dX3_reaches_1 : decode cX3_reaches 1 = .ok (.getfield 11, 3) := by decide +kernel
theorem dX3_reaches_4 : decode cX3_reaches 4 = .ok (.iload_n 1, 1) := by decide +kernel
theorem dX3_reaches_5 : decode cX3_reaches 5 = .ok (.invokestatic 39, 3) := by decide +kernel
theorem dX3_reaches_8 : decode cX3_reaches 8 = .ok (.iload_n 2, 1) := by decide +kernel
theorem dX3_reaches_9 : decode cX3_reaches 9 = .ok (.iload_n 3, 1) := by decide +kernel
theorem dX3_reaches_10 : decode cX3_reaches 10 = .ok (.invokestatic 52, 3) := by decide +kernel
theorem dX3_reaches_13 : decode cX3_reaches 13 = .ok (.ireturn, 1) := by decide +kernel
def F_X3_reaches (x1 : Int32) (x2 : Int32) (x3 : Int32) (a_numbers : Nat → Int32) : Option (Int32) := (F_X4_at x1 4 a_numbers).bind (fun q5 => (F_X9_isWithin q5 x2 x3).bind (fun q10 => some (q10)))
theorem hdV_X3_reaches : yX3_reaches.cls = RX3 ∧ yX3_reaches.cls ≠ "java/lang/invoke/MethodHandle" ∧ yX3_reaches.cls ≠ "java/lang/invoke/VarHandle" ∧ (parseMethodDescriptor yX3_reaches.desc).map (fun d => d.parameters.length) = some 3 := by decide +kernel
set_option maxHeartbeats 4000000 in
set_option maxRecDepth 100000 in
theorem c_X3_reaches (l : Launch) (G : GG) (x1 : Int32) (x2 : Int32) (x3 : Int32) (h_this : Nat) (ad_this : Nat → Nat) (v_numberCount : Int32) (v_letter : Int32) (v_end : Int32) (a_numbers : Nat → Int32) (out : Int32) (hF : F_X3_reaches x1 x2 x3 a_numbers = some out) : CtrZ l yX3_reaches (WS yX3_reaches cX3_reaches 4 (some .boolean)) { frames := 1, cells := 0, slots := 0, locals := 22 } G [.ref h_this, .int x1, .int x2, .int x3] [(h_this, oX3 ad_this v_numberCount v_letter v_end), ((ad_this 0), cI G 4 a_numbers)] [(h_this, oX3 ad_this v_numberCount v_letter v_end), ((ad_this 0), cI G 4 a_numbers)] out := by
  refine startZ (cc := cX3_reaches) (maxL := 4) (by decide) rfl (Nat.le_of_ble_eq_true rfl) ?_
  intro p e s m args below meth c A Q hx hb hml hts hown hc hA hret ls H locs hl hW
  have hown : s.vm.findClass RX3 = some m.cls := hown
  have hg : ∀ w ∈ GOODS, w.before _ s = true := fun w h => hts w (List.mem_cons_of_mem _ h)
  have hl : lv_has ls 4 [(0, .ref h_this), (1, .int x1), (2, .int x2), (3, .int x3)] := hl
  rw [F_X3_reaches] at hF
  refine lv_aload_n hx hb dX3_reaches_0 rfl (lv_at hl 0 rfl) ?_
  refine va_get (D := G.1) (ci := 3) (v := .ref ((ad_this 0))) (C := RX3) (T := TX3) (N := 4) hx hb hg hu_X3 hown hc.1 hW.1 0 rfl rfl 0 (by decide) (hg _ wd_1_48) (fun _ h9 => h9) rfl dX3_reaches_1 ?_
  refine lv_iload_n hx hb dX3_reaches_4 rfl (lv_at hl 1 rfl) ?_
  obtain ⟨q5, c_5, hF⟩ := bd_el hF
  refine wcI (ws' := [(h_this, oX3 ad_this v_numberCount v_letter v_end), ((ad_this 0), cI G 4 a_numbers)]) (wc := [((ad_this 0), cI G 4 a_numbers)]) (wr := [(h_this, oX3 ad_this v_numberCount v_letter v_end)]) (w1 := [((ad_this 0), cI G 4 a_numbers)]) (va_runS (As := [.ref ((ad_this 0)), .int x1]) (rest := []) ⟨hx, hb, hml, hown, hg⟩ (c_X4_at l G x1 4 ((ad_this 0)) a_numbers q5 c_5 H.size) (va_cwS 2 hg (gS wd_2_58 wd_2_37 wd_1_14 wd_2_38) rfl rfl rfl hdS_X4_at ⟨(Nat.le_of_ble_eq_true rfl), (Nat.le_of_ble_eq_true rfl)⟩) (preS hc hW [1] rfl (by decide)) rfl rfl hl.1 rfl (lv_room (Nat.le_of_ble_eq_true rfl)) dX3_reaches_5 ⟨Nat.zero_le _, Nat.zero_le _⟩) hA hW [1] [0] [0, 1] rfl rfl (by decide) (by decide) rfl (by decide) (fun H locs hW => ?_)
  refine lv_iload_n hx hb dX3_reaches_8 rfl (lv_at hl 2 rfl) ?_
  refine lv_iload_n hx hb dX3_reaches_9 rfl (lv_at hl 3 rfl) ?_
  obtain ⟨q10, c_10, hF⟩ := bd_el hF
  refine wcZ (ws' := [(h_this, oX3 ad_this v_numberCount v_letter v_end), ((ad_this 0), cI G 4 a_numbers)]) (wc := []) (wr := [(h_this, oX3 ad_this v_numberCount v_letter v_end), ((ad_this 0), cI G 4 a_numbers)]) (w1 := []) (va_runSN (As := [.int q5, .int x2, .int x3]) (rest := []) ⟨hx, hb, hml, hown, hg⟩ (c_X9_isWithin l G q5 x2 x3 q10 c_10 H.size) ⟨va_cnB 3 hg (gN wd_2_48) rfl rfl rfl (hc.2 (RX3, 52, yX9_isWithin) (by decide +kernel)) (hg _ wd_1_1) hdS_X9_isWithin ⟨(Nat.le_of_ble_eq_true rfl), (Nat.le_of_ble_eq_true rfl)⟩, (hg _ wd_2_47), trivial⟩ (preS hc hW [] rfl (by decide)) rfl rfl hl.1 rfl (lv_room (Nat.le_of_ble_eq_true rfl)) dX3_reaches_10 ⟨Nat.zero_le _, Nat.zero_le _⟩) hA hW [] [0, 1] [0, 1] rfl rfl (by decide) (by decide) rfl (by decide) (fun z_10 H locs hW => ?_)
  obtain rfl := Option.some.inj hF
  exact hret _ _ _ _ hW z_10 dX3_reaches_13
theorem dX3_isTold_0 : decode cX3_isTold 0 = .ok (.aload_n 0, 1) := by decide +kernel
theorem dX3_isTold_1 : decode cX3_isTold 1 = .ok (.getfield 21, 3) := by decide +kernel
theorem dX3_isTold_4 : decode cX3_isTold 4 = .ok (.lookupswitch 290 #[(97, 60), (98, 194), (104, 158), (108, 254), (115, 104), (119, 219)], 60) := by decide +kernel
theorem dX3_isTold_64 : decode cX3_isTold 64 = .ok (.aload_n 0, 1) := by decide +kernel
theorem dX3_isTold_65 : decode cX3_isTold 65 = .ok (.getfield 28, 3) := by decide +kernel
theorem dX3_isTold_68 : decode cX3_isTold 68 = .ok (.iconst 3, 1) := by decide +kernel
theorem dX3_isTold_69 : decode cX3_isTold 69 = .ok (.if_icmp .ne 37, 3) := by decide +kernel
theorem dX3_isTold_72 : decode cX3_isTold 72 = .ok (.aload_n 0, 1) := by decide +kernel
theorem dX3_isTold_73 : decode cX3_isTold 73 = .ok (.iconst 0, 1) := by decide +kernel
theorem dX3_isTold_74 : decode cX3_isTold 74 = .ok (.iconst 0, 1) := by decide +kernel
theorem dX3_isTold_75 : decode cX3_isTold 75 = .ok (.iconst 4, 1) := by decide +kernel
theorem dX3_isTold_76 : decode cX3_isTold 76 = .ok (.invokevirtual 56, 3) := by decide +kernel
theorem dX3_isTold_79 : decode cX3_isTold 79 = .ok (.ifCond .eq 27, 3) := by decide +kernel
theorem dX3_isTold_82 : decode cX3_isTold 82 = .ok (.aload_n 0, 1) := by decide +kernel
theorem dX3_isTold_83 : decode cX3_isTold 83 = .ok (.iconst 1, 1) := by decide +kernel
theorem dX3_isTold_84 : decode cX3_isTold 84 = .ok (.iconst 0, 1) := by decide +kernel
theorem dX3_isTold_85 : decode cX3_isTold 85 = .ok (.iconst 4, 1) := by decide +kernel
theorem dX3_isTold_86 : decode cX3_isTold 86 = .ok (.invokevirtual 56, 3) := by decide +kernel
theorem dX3_isTold_89 : decode cX3_isTold 89 = .ok (.ifCond .eq 17, 3) := by decide +kernel
theorem dX3_isTold_92 : decode cX3_isTold 92 = .ok (.aload_n 0, 1) := by decide +kernel
theorem dX3_isTold_93 : decode cX3_isTold 93 = .ok (.iconst 2, 1) := by decide +kernel
theorem dX3_isTold_94 : decode cX3_isTold 94 = .ok (.iconst 0, 1) := by decide +kernel
theorem dX3_isTold_95 : decode cX3_isTold 95 = .ok (.iconst 4, 1) := by decide +kernel
theorem dX3_isTold_96 : decode cX3_isTold 96 = .ok (.invokevirtual 56, 3) := by decide +kernel
theorem dX3_isTold_99 : decode cX3_isTold 99 = .ok (.ifCond .eq 7, 3) := by decide +kernel
theorem dX3_isTold_102 : decode cX3_isTold 102 = .ok (.iconst 1, 1) := by decide +kernel
theorem dX3_isTold_103 : decode cX3_isTold 103 = .ok (.goto 4, 3) := by decide +kernel
theorem dX3_isTold_106 : decode cX3_isTold 106 = .ok (.iconst 0, 1) := by decide +kernel
theorem dX3_isTold_107 : decode cX3_isTold 107 = .ok (.ireturn, 1) := by decide +kernel
theorem dX3_isTold_108 : decode cX3_isTold 108 = .ok (.aload_n 0, 1) := by decide +kernel
theorem dX3_isTold_109 : decode cX3_isTold 109 = .ok (.getfield 28, 3) := by decide +kernel
theorem dX3_isTold_112 : decode cX3_isTold 112 = .ok (.iconst 4, 1) := by decide +kernel
theorem dX3_isTold_113 : decode cX3_isTold 113 = .ok (.if_icmp .ne 47, 3) := by decide +kernel
theorem dX3_isTold_116 : decode cX3_isTold 116 = .ok (.aload_n 0, 1) := by decide +kernel
theorem dX3_isTold_117 : decode cX3_isTold 117 = .ok (.iconst 0, 1) := by decide +kernel
theorem dX3_isTold_118 : decode cX3_isTold 118 = .ok (.iconst 0, 1) := by decide +kernel
theorem dX3_isTold_119 : decode cX3_isTold 119 = .ok (.iconst 3, 1) := by decide +kernel
theorem dX3_isTold_120 : decode cX3_isTold 120 = .ok (.invokevirtual 56, 3) := by decide +kernel
theorem dX3_isTold_123 : decode cX3_isTold 123 = .ok (.ifCond .eq 37, 3) := by decide +kernel
theorem dX3_isTold_126 : decode cX3_isTold 126 = .ok (.aload_n 0, 1) := by decide +kernel
theorem dX3_isTold_127 : decode cX3_isTold 127 = .ok (.iconst 1, 1) := by decide +kernel
theorem dX3_isTold_128 : decode cX3_isTold 128 = .ok (.iconst 0, 1) := by decide +kernel
theorem dX3_isTold_129 : decode cX3_isTold 129 = .ok (.iconst 4, 1) := by decide +kernel
theorem dX3_isTold_130 : decode cX3_isTold 130 = .ok (.invokevirtual 56, 3) := by decide +kernel
theorem dX3_isTold_133 : decode cX3_isTold 133 = .ok (.ifCond .eq 27, 3) := by decide +kernel
theorem dX3_isTold_136 : decode cX3_isTold 136 = .ok (.aload_n 0, 1) := by decide +kernel
theorem dX3_isTold_137 : decode cX3_isTold 137 = .ok (.iconst 2, 1) := by decide +kernel
theorem dX3_isTold_138 : decode cX3_isTold 138 = .ok (.iconst 0, 1) := by decide +kernel
theorem dX3_isTold_139 : decode cX3_isTold 139 = .ok (.iconst 4, 1) := by decide +kernel
theorem dX3_isTold_140 : decode cX3_isTold 140 = .ok (.invokevirtual 56, 3) := by decide +kernel
theorem dX3_isTold_143 : decode cX3_isTold 143 = .ok (.ifCond .eq 17, 3) := by decide +kernel
theorem dX3_isTold_146 : decode cX3_isTold 146 = .ok (.aload_n 0, 1) := by decide +kernel
theorem dX3_isTold_147 : decode cX3_isTold 147 = .ok (.iconst 3, 1) := by decide +kernel
theorem dX3_isTold_148 : decode cX3_isTold 148 = .ok (.iconst 0, 1) := by decide +kernel
theorem dX3_isTold_149 : decode cX3_isTold 149 = .ok (.iconst 4, 1) := by decide +kernel
theorem dX3_isTold_150 : decode cX3_isTold 150 = .ok (.invokevirtual 56, 3) := by decide +kernel
theorem dX3_isTold_153 : decode cX3_isTold 153 = .ok (.ifCond .eq 7, 3) := by decide +kernel
theorem dX3_isTold_156 : decode cX3_isTold 156 = .ok (.iconst 1, 1) := by decide +kernel
theorem dX3_isTold_157 : decode cX3_isTold 157 = .ok (.goto 4, 3) := by decide +kernel
theorem dX3_isTold_160 : decode cX3_isTold 160 = .ok (.iconst 0, 1) := by decide +kernel
theorem dX3_isTold_161 : decode cX3_isTold 161 = .ok (.ireturn, 1) := by decide +kernel
theorem dX3_isTold_162 : decode cX3_isTold 162 = .ok (.aload_n 0, 1) := by decide +kernel
theorem dX3_isTold_163 : decode cX3_isTold 163 = .ok (.getfield 28, 3) := by decide +kernel
theorem dX3_isTold_166 : decode cX3_isTold 166 = .ok (.iconst 2, 1) := by decide +kernel
theorem dX3_isTold_167 : decode cX3_isTold 167 = .ok (.if_icmp .ne 29, 3) := by decide +kernel
theorem dX3_isTold_170 : decode cX3_isTold 170 = .ok (.aload_n 0, 1) := by decide +kernel
theorem dX3_isTold_171 : decode cX3_isTold 171 = .ok (.iconst 0, 1) := by decide +kernel
theorem dX3_isTold_172 : decode cX3_isTold 172 = .ok (.iconst 1, 1) := by decide +kernel
theorem dX3_isTold_173 : decode cX3_isTold 173 = .ok (.bipush 9, 2) := by decide +kernel
theorem dX3_isTold_175 : decode cX3_isTold 175 = .ok (.invokevirtual 56, 3) := by decide +kernel
theorem dX3_isTold_178 : decode cX3_isTold 178 = .ok (.ifCond .eq 18, 3) := by decide +kernel
theorem dX3_isTold_181 : decode cX3_isTold 181 = .ok (.aload_n 0, 1) := by decide +kernel
theorem dX3_isTold_182 : decode cX3_isTold 182 = .ok (.iconst 1, 1) := by decide +kernel
theorem dX3_isTold_183 : decode cX3_isTold 183 = .ok (.iconst 0, 1) := by decide +kernel
theorem dX3_isTold_184 : decode cX3_isTold 184 = .ok (.bipush 60, 2) := by decide +kernel
theorem dX3_isTold_186 : decode cX3_isTold 186 = .ok (.invokevirtual 56, 3) := by decide +kernel
theorem dX3_isTold_189 : decode cX3_isTold 189 = .ok (.ifCond .eq 7, 3) := by decide +kernel
theorem dX3_isTold_192 : decode cX3_isTold 192 = .ok (.iconst 1, 1) := by decide +kernel
theorem dX3_isTold_193 : decode cX3_isTold 193 = .ok (.goto 4, 3) := by decide +kernel
theorem dX3_isTold_196 : decode cX3_isTold 196 = .ok (.iconst 0, 1) := by decide +kernel
theorem dX3_isTold_197 : decode cX3_isTold 197 = .ok (.ireturn, 1) := by decide +kernel
theorem dX3_isTold_198 : decode cX3_isTold 198 = .ok (.aload_n 0, 1) := by decide +kernel
theorem dX3_isTold_199 : decode cX3_isTold 199 = .ok (.getfield 28, 3) := by decide +kernel
theorem dX3_isTold_202 : decode cX3_isTold 202 = .ok (.iconst 1, 1) := by decide +kernel
theorem dX3_isTold_203 : decode cX3_isTold 203 = .ok (.if_icmp .ne 18, 3) := by decide +kernel
theorem dX3_isTold_206 : decode cX3_isTold 206 = .ok (.aload_n 0, 1) := by decide +kernel
theorem dX3_isTold_207 : decode cX3_isTold 207 = .ok (.iconst 0, 1) := by decide +kernel
theorem dX3_isTold_208 : decode cX3_isTold 208 = .ok (.iconst 1, 1) := by decide +kernel
theorem dX3_isTold_209 : decode cX3_isTold 209 = .ok (.bipush 30, 2) := by decide +kernel
theorem dX3_isTold_211 : decode cX3_isTold 211 = .ok (.invokevirtual 56, 3) := by decide +kernel
theorem dX3_isTold_214 : decode cX3_isTold 214 = .ok (.ifCond .eq 7, 3) := by decide +kernel
theorem dX3_isTold_217 : decode cX3_isTold 217 = .ok (.iconst 1, 1) := by decide +kernel
theorem dX3_isTold_218 : decode cX3_isTold 218 = .ok (.goto 4, 3) := by decide +kernel
theorem dX3_isTold_221 : decode cX3_isTold 221 = .ok (.iconst 0, 1) := by decide +kernel
theorem dX3_isTold_222 : decode cX3_isTold 222 = .ok (.ireturn, 1) := by decide +kernel
theorem dX3_isTold_223 : decode cX3_isTold 223 = .ok (.aload_n 0, 1) := by decide +kernel
theorem dX3_isTold_224 : decode cX3_isTold 224 = .ok (.getfield 28, 3) := by decide +kernel
theorem dX3_isTold_227 : decode cX3_isTold 227 = .ok (.iconst 2, 1) := by decide +kernel
theorem dX3_isTold_228 : decode cX3_isTold 228 = .ok (.if_icmp .ne 28, 3) := by decide +kernel
theorem dX3_isTold_231 : decode cX3_isTold 231 = .ok (.aload_n 0, 1) := by decide +kernel
theorem dX3_isTold_232 : decode cX3_isTold 232 = .ok (.iconst 0, 1) := by decide +kernel
theorem dX3_isTold_233 : decode cX3_isTold 233 = .ok (.iconst 0, 1) := by decide +kernel
theorem dX3_isTold_234 : decode cX3_isTold 234 = .ok (.iconst 4, 1) := by decide +kernel
theorem dX3_isTold_235 : decode cX3_isTold 235 = .ok (.invokevirtual 56, 3) := by decide +kernel
theorem dX3_isTold_238 : decode cX3_isTold 238 = .ok (.ifCond .eq 18, 3) := by decide +kernel
theorem dX3_isTold_241 : decode cX3_isTold 241 = .ok (.aload_n 0, 1) := by decide +kernel
theorem dX3_isTold_242 : decode cX3_isTold 242 = .ok (.iconst 1, 1) := by decide +kernel
theorem dX3_isTold_243 : decode cX3_isTold 243 = .ok (.iconst 0, 1) := by decide +kernel
theorem dX3_isTold_244 : decode cX3_isTold 244 = .ok (.bipush 20, 2) := by decide +kernel
theorem dX3_isTold_246 : decode cX3_isTold 246 = .ok (.invokevirtual 56, 3) := by decide +kernel
theorem dX3_isTold_249 : decode cX3_isTold 249 = .ok (.ifCond .eq 7, 3) := by decide +kernel
theorem dX3_isTold_252 : decode cX3_isTold 252 = .ok (.iconst 1, 1) := by decide +kernel
theorem dX3_isTold_253 : decode cX3_isTold 253 = .ok (.goto 4, 3) := by decide +kernel
theorem dX3_isTold_256 : decode cX3_isTold 256 = .ok (.iconst 0, 1) := by decide +kernel
theorem dX3_isTold_257 : decode cX3_isTold 257 = .ok (.ireturn, 1) := by decide +kernel
theorem dX3_isTold_258 : decode cX3_isTold 258 = .ok (.aload_n 0, 1) := by decide +kernel
theorem dX3_isTold_259 : decode cX3_isTold 259 = .ok (.getfield 28, 3) := by decide +kernel
theorem dX3_isTold_262 : decode cX3_isTold 262 = .ok (.iconst 2, 1) := by decide +kernel
theorem dX3_isTold_263 : decode cX3_isTold 263 = .ok (.if_icmp .ne 29, 3) := by decide +kernel
theorem dX3_isTold_266 : decode cX3_isTold 266 = .ok (.aload_n 0, 1) := by decide +kernel
theorem dX3_isTold_267 : decode cX3_isTold 267 = .ok (.iconst 0, 1) := by decide +kernel
theorem dX3_isTold_268 : decode cX3_isTold 268 = .ok (.iconst 0, 1) := by decide +kernel
theorem dX3_isTold_269 : decode cX3_isTold 269 = .ok (.bipush 99, 2) := by decide +kernel
theorem dX3_isTold_271 : decode cX3_isTold 271 = .ok (.invokevirtual 56, 3) := by decide +kernel
theorem dX3_isTold_274 : decode cX3_isTold 274 = .ok (.ifCond .eq 18, 3) := by decide +kernel
theorem dX3_isTold_277 : decode cX3_isTold 277 = .ok (.aload_n 0, 1) := by decide +kernel
theorem dX3_isTold_278 : decode cX3_isTold 278 = .ok (.iconst 1, 1) := by decide +kernel
theorem dX3_isTold_279 : decode cX3_isTold 279 = .ok (.iconst 0, 1) := by decide +kernel
theorem dX3_isTold_280 : decode cX3_isTold 280 = .ok (.bipush 9, 2) := by decide +kernel
theorem dX3_isTold_282 : decode cX3_isTold 282 = .ok (.invokevirtual 56, 3) := by decide +kernel
theorem dX3_isTold_285 : decode cX3_isTold 285 = .ok (.ifCond .eq 7, 3) := by decide +kernel
theorem dX3_isTold_288 : decode cX3_isTold 288 = .ok (.iconst 1, 1) := by decide +kernel
theorem dX3_isTold_289 : decode cX3_isTold 289 = .ok (.goto 4, 3) := by decide +kernel
theorem dX3_isTold_292 : decode cX3_isTold 292 = .ok (.iconst 0, 1) := by decide +kernel
theorem dX3_isTold_293 : decode cX3_isTold 293 = .ok (.ireturn, 1) := by decide +kernel
theorem dX3_isTold_294 : decode cX3_isTold 294 = .ok (.iconst 0, 1) := by decide +kernel
theorem dX3_isTold_295 : decode cX3_isTold 295 = .ok (.ireturn, 1) := by decide +kernel
def F_X3_isTold (v_letter : Int32) (v_numberCount : Int32) (a_numbers : Nat → Int32) : Option (Int32) := (if v_letter = 97 then (if v_numberCount = 3 then (F_X3_reaches 0 0 4 a_numbers).bind (fun q76 => (if q76 = 0 then some (0) else (F_X3_reaches 1 0 4 a_numbers).bind (fun q86 => (if q86 = 0 then some (0) else (F_X3_reaches 2 0 4 a_numbers).bind (fun q96 => (if q96 = 0 then some (0) else some (1))))))) else some (0)) else (if v_letter = 98 then (if v_numberCount = 1 then (F_X3_reaches 0 1 30 a_numbers).bind (fun q211 => (if q211 = 0 then some (0) else some (1))) else some (0)) else (if v_letter = 104 then (if v_numberCount = 2 then (F_X3_reaches 0 1 9 a_numbers).bind (fun q175 => (if q175 = 0 then some (0) else (F_X3_reaches 1 0 60 a_numbers).bind (fun q186 => (if q186 = 0 then some (0) else some (1))))) else some (0)) else (if v_letter = 108 then (if v_numberCount = 2 then (F_X3_reaches 0 0 99 a_numbers).bind (fun q271 => (if q271 = 0 then some (0) else (F_X3_reaches 1 0 9 a_numbers).bind (fun q282 => (if q282 = 0 then some (0) else some (1))))) else some (0)) else (if v_letter = 115 then (if v_numberCount = 4 then (F_X3_reaches 0 0 3 a_numbers).bind (fun q120 => (if q120 = 0 then some (0) else (F_X3_reaches 1 0 4 a_numbers).bind (fun q130 => (if q130 = 0 then some (0) else (F_X3_reaches 2 0 4 a_numbers).bind (fun q140 => (if q140 = 0 then some (0) else (F_X3_reaches 3 0 4 a_numbers).bind (fun q150 => (if q150 = 0 then some (0) else some (1))))))))) else some (0)) else (if v_letter = 119 then (if v_numberCount = 2 then (F_X3_reaches 0 0 4 a_numbers).bind (fun q235 => (if q235 = 0 then some (0) else (F_X3_reaches 1 0 20 a_numbers).bind (fun q246 => (if q246 = 0 then some (0) else some (1))))) else some (0)) else some (0)))))))
theorem hdV_X3_isTold : yX3_isTold.cls = RX3 ∧ yX3_isTold.cls ≠ "java/lang/invoke/MethodHandle" ∧ yX3_isTold.cls ≠ "java/lang/invoke/VarHandle" ∧ (parseMethodDescriptor yX3_isTold.desc).map (fun d => d.parameters.length) = some 0 := by decide +kernel
set_option maxHeartbeats 4000000 in
set_option maxRecDepth 100000 in
theorem c_X3_isTold (l : Launch) (G : GG) (h_this : Nat) (ad_this : Nat → Nat) (v_numberCount : Int32) (v_letter : Int32) (v_end : Int32) (a_numbers : Nat → Int32) (out : Int32) (hF : F_X3_isTold v_letter v_numberCount a_numbers = some out) : CtrZ l yX3_isTold (WS yX3_isTold cX3_isTold 1 (some .boolean)) { frames := 2, cells := 0, slots := 0, locals := 45 } G [.ref h_this] [(h_this, oX3 ad_this v_numberCount v_letter v_end), ((ad_this 0), cI G 4 a_numbers)] [(h_this, oX3 ad_this v_numberCount v_letter v_end), ((ad_this 0), cI G 4 a_numbers)] out := by
  refine startZ (cc := cX3_isTold) (maxL := 1) (by decide) rfl (Nat.le_of_ble_eq_true rfl) ?_
  intro p e s m args below meth c A Q hx hb hml hts hown hc hA hret ls H locs hl hW
  have hown : s.vm.findClass RX3 = some m.cls := hown
  have hg : ∀ w ∈ GOODS, w.before _ s = true := fun w h => hts w (List.mem_cons_of_mem _ h)
  have hl : lv_has ls 1 [(0, .ref h_this)] := hl
  rw [F_X3_isTold] at hF
  refine lv_aload_n hx hb dX3_isTold_0 rfl (lv_at hl 0 rfl) ?_
  refine va_get (D := G.1) (ci := 3) (v := .int v_letter) (C := RX3) (T := TX3) (N := 4) hx hb hg hu_X3 hown hc.1 hW.1 0 rfl rfl 2 (by decide) (hg _ wd_1_50) (fun _ h9 => h9) rfl dX3_isTold_1 ?_
  by_cases w_4_97 : v_letter = 97
  · have hF := ite_t hF w_4_97
    refine lv_lookup (off := 60) (tgt := 64) hx hb dX3_isTold_4 (by decide +kernel) (by rw [w_4_97]; decide +kernel) (by decide) ?_
    refine lv_aload_n hx hb dX3_isTold_64 rfl (lv_at hl 0 rfl) ?_
    refine va_get (D := G.1) (ci := 3) (v := .int v_numberCount) (C := RX3) (T := TX3) (N := 4) hx hb hg hu_X3 hown hc.1 hW.1 0 rfl rfl 1 (by decide) (hg _ wd_1_49) (fun _ h9 => h9) rfl dX3_isTold_65 ?_
    refine lv_iconst (v := 3) hx hb dX3_isTold_68 (by decide) ?_
    refine lv_icmp_ne (tgt := 106) hx hb dX3_isTold_69 (by decide) (fun c_69 => ?_) (fun c_69 => ?_)
    · have hF := ite_f hF c_69
      refine lv_iconst (v := 0) hx hb dX3_isTold_106 (by decide) ?_
      obtain rfl := Option.some.inj hF
      exact hret _ _ _ _ hW (Or.inl rfl) dX3_isTold_107
    · have hF := ite_t hF c_69
      refine lv_aload_n hx hb dX3_isTold_72 rfl (lv_at hl 0 rfl) ?_
      refine lv_iconst (v := 0) hx hb dX3_isTold_73 (by decide) ?_
      refine lv_iconst (v := 0) hx hb dX3_isTold_74 (by decide) ?_
      refine lv_iconst (v := 4) hx hb dX3_isTold_75 (by decide) ?_
      obtain ⟨q76, c_76, hF⟩ := bd_el hF
      refine wcZ (ws' := [(h_this, oX3 ad_this v_numberCount v_letter v_end), ((ad_this 0), cI G 4 a_numbers)]) (wc := [(h_this, oX3 ad_this v_numberCount v_letter v_end), ((ad_this 0), cI G 4 a_numbers)]) (wr := []) (w1 := [(h_this, oX3 ad_this v_numberCount v_letter v_end), ((ad_this 0), cI G 4 a_numbers)]) (va_runV (As := [.int 0, .int 0, .int 4]) (rest := []) ⟨hx, hb, hml, hown, hg⟩ (c_X3_reaches l G 0 0 4 h_this ad_this v_numberCount v_letter v_end a_numbers q76 c_76 H.size) (cwV 3 hg (gV wd_2_54 wd_2_56 wd_0_3 wd_1_3 wd_2_57) rfl rfl rfl hdV_X3_reaches ⟨(Nat.le_of_ble_eq_true rfl), (Nat.le_of_ble_eq_true rfl)⟩) (preV hc hW [0, 1] rfl (by decide) rfl rfl) rfl rfl hl.1 rfl (lv_room (Nat.le_of_ble_eq_true rfl)) dX3_isTold_76 ⟨Nat.zero_le _, Nat.zero_le _⟩) hA hW [0, 1] [] [0, 1] rfl rfl (by decide) (by decide) rfl (by decide) (fun z_76 H locs hW => ?_)
      refine lv_if_eq (tgt := 106) hx hb dX3_isTold_79 (by decide) (fun c_79 => ?_) (fun c_79 => ?_)
      · have hF := ite_t hF c_79
        refine lv_iconst (v := 0) hx hb dX3_isTold_106 (by decide) ?_
        obtain rfl := Option.some.inj hF
        exact hret _ _ _ _ hW (Or.inl rfl) dX3_isTold_107
      · have hF := ite_f hF c_79
        refine lv_aload_n hx hb dX3_isTold_82 rfl (lv_at hl 0 rfl) ?_
        refine lv_iconst (v := 1) hx hb dX3_isTold_83 (by decide) ?_
        refine lv_iconst (v := 0) hx hb dX3_isTold_84 (by decide) ?_
        refine lv_iconst (v := 4) hx hb dX3_isTold_85 (by decide) ?_
        obtain ⟨q86, c_86, hF⟩ := bd_el hF
        refine wcZ (ws' := [(h_this, oX3 ad_this v_numberCount v_letter v_end), ((ad_this 0), cI G 4 a_numbers)]) (wc := [(h_this, oX3 ad_this v_numberCount v_letter v_end), ((ad_this 0), cI G 4 a_numbers)]) (wr := []) (w1 := [(h_this, oX3 ad_this v_numberCount v_letter v_end), ((ad_this 0), cI G 4 a_numbers)]) (va_runV (As := [.int 1, .int 0, .int 4]) (rest := []) ⟨hx, hb, hml, hown, hg⟩ (c_X3_reaches l G 1 0 4 h_this ad_this v_numberCount v_letter v_end a_numbers q86 c_86 H.size) (cwV 3 hg (gV wd_2_54 wd_2_56 wd_0_3 wd_1_3 wd_2_57) rfl rfl rfl hdV_X3_reaches ⟨(Nat.le_of_ble_eq_true rfl), (Nat.le_of_ble_eq_true rfl)⟩) (preV hc hW [0, 1] rfl (by decide) rfl rfl) rfl rfl hl.1 rfl (lv_room (Nat.le_of_ble_eq_true rfl)) dX3_isTold_86 ⟨Nat.zero_le _, Nat.zero_le _⟩) hA hW [0, 1] [] [0, 1] rfl rfl (by decide) (by decide) rfl (by decide) (fun z_86 H locs hW => ?_)
        refine lv_if_eq (tgt := 106) hx hb dX3_isTold_89 (by decide) (fun c_89 => ?_) (fun c_89 => ?_)
        · have hF := ite_t hF c_89
          refine lv_iconst (v := 0) hx hb dX3_isTold_106 (by decide) ?_
          obtain rfl := Option.some.inj hF
          exact hret _ _ _ _ hW (Or.inl rfl) dX3_isTold_107
        · have hF := ite_f hF c_89
          refine lv_aload_n hx hb dX3_isTold_92 rfl (lv_at hl 0 rfl) ?_
          refine lv_iconst (v := 2) hx hb dX3_isTold_93 (by decide) ?_
          refine lv_iconst (v := 0) hx hb dX3_isTold_94 (by decide) ?_
          refine lv_iconst (v := 4) hx hb dX3_isTold_95 (by decide) ?_
          obtain ⟨q96, c_96, hF⟩ := bd_el hF
          refine wcZ (ws' := [(h_this, oX3 ad_this v_numberCount v_letter v_end), ((ad_this 0), cI G 4 a_numbers)]) (wc := [(h_this, oX3 ad_this v_numberCount v_letter v_end), ((ad_this 0), cI G 4 a_numbers)]) (wr := []) (w1 := [(h_this, oX3 ad_this v_numberCount v_letter v_end), ((ad_this 0), cI G 4 a_numbers)]) (va_runV (As := [.int 2, .int 0, .int 4]) (rest := []) ⟨hx, hb, hml, hown, hg⟩ (c_X3_reaches l G 2 0 4 h_this ad_this v_numberCount v_letter v_end a_numbers q96 c_96 H.size) (cwV 3 hg (gV wd_2_54 wd_2_56 wd_0_3 wd_1_3 wd_2_57) rfl rfl rfl hdV_X3_reaches ⟨(Nat.le_of_ble_eq_true rfl), (Nat.le_of_ble_eq_true rfl)⟩) (preV hc hW [0, 1] rfl (by decide) rfl rfl) rfl rfl hl.1 rfl (lv_room (Nat.le_of_ble_eq_true rfl)) dX3_isTold_96 ⟨Nat.zero_le _, Nat.zero_le _⟩) hA hW [0, 1] [] [0, 1] rfl rfl (by decide) (by decide) rfl (by decide) (fun z_96 H locs hW => ?_)
          refine lv_if_eq (tgt := 106) hx hb dX3_isTold_99 (by decide) (fun c_99 => ?_) (fun c_99 => ?_)
          · have hF := ite_t hF c_99
            refine lv_iconst (v := 0) hx hb dX3_isTold_106 (by decide) ?_
            obtain rfl := Option.some.inj hF
            exact hret _ _ _ _ hW (Or.inl rfl) dX3_isTold_107
          · have hF := ite_f hF c_99
            refine lv_iconst (v := 1) hx hb dX3_isTold_102 (by decide) ?_
            refine lv_goto (tgt := 107) hx hb dX3_isTold_103 (by decide) ?_
            obtain rfl := Option.some.inj hF
            exact hret _ _ _ _ hW (Or.inr rfl) dX3_isTold_107
  have hF := ite_f hF w_4_97
  by_cases w_4_98 : v_letter = 98
  · have hF := ite_t hF w_4_98
    refine lv_lookup (off := 194) (tgt := 198) hx hb dX3_isTold_4 (by decide +kernel) (by rw [w_4_98]; decide +kernel) (by decide) ?_
    refine lv_aload_n hx hb dX3_isTold_198 rfl (lv_at hl 0 rfl) ?_
    refine va_get (D := G.1) (ci := 3) (v := .int v_numberCount) (C := RX3) (T := TX3) (N := 4) hx hb hg hu_X3 hown hc.1 hW.1 0 rfl rfl 1 (by decide) (hg _ wd_1_49) (fun _ h9 => h9) rfl dX3_isTold_199 ?_
    refine lv_iconst (v := 1) hx hb dX3_isTold_202 (by decide) ?_
    refine lv_icmp_ne (tgt := 221) hx hb dX3_isTold_203 (by decide) (fun c_203 => ?_) (fun c_203 => ?_)
    · have hF := ite_f hF c_203
      refine lv_iconst (v := 0) hx hb dX3_isTold_221 (by decide) ?_
      obtain rfl := Option.some.inj hF
      exact hret _ _ _ _ hW (Or.inl rfl) dX3_isTold_222
    · have hF := ite_t hF c_203
      refine lv_aload_n hx hb dX3_isTold_206 rfl (lv_at hl 0 rfl) ?_
      refine lv_iconst (v := 0) hx hb dX3_isTold_207 (by decide) ?_
      refine lv_iconst (v := 1) hx hb dX3_isTold_208 (by decide) ?_
      refine lv_bipush (v := 30) hx hb dX3_isTold_209 (by decide) ?_
      obtain ⟨q211, c_211, hF⟩ := bd_el hF
      refine wcZ (ws' := [(h_this, oX3 ad_this v_numberCount v_letter v_end), ((ad_this 0), cI G 4 a_numbers)]) (wc := [(h_this, oX3 ad_this v_numberCount v_letter v_end), ((ad_this 0), cI G 4 a_numbers)]) (wr := []) (w1 := [(h_this, oX3 ad_this v_numberCount v_letter v_end), ((ad_this 0), cI G 4 a_numbers)]) (va_runV (As := [.int 0, .int 1, .int 30]) (rest := []) ⟨hx, hb, hml, hown, hg⟩ (c_X3_reaches l G 0 1 30 h_this ad_this v_numberCount v_letter v_end a_numbers q211 c_211 H.size) (cwV 3 hg (gV wd_2_54 wd_2_56 wd_0_3 wd_1_3 wd_2_57) rfl rfl rfl hdV_X3_reaches ⟨(Nat.le_of_ble_eq_true rfl), (Nat.le_of_ble_eq_true rfl)⟩) (preV hc hW [0, 1] rfl (by decide) rfl rfl) rfl rfl hl.1 rfl (lv_room (Nat.le_of_ble_eq_true rfl)) dX3_isTold_211 ⟨Nat.zero_le _, Nat.zero_le _⟩) hA hW [0, 1] [] [0, 1] rfl rfl (by decide) (by decide) rfl (by decide) (fun z_211 H locs hW => ?_)
      refine lv_if_eq (tgt := 221) hx hb dX3_isTold_214 (by decide) (fun c_214 => ?_) (fun c_214 => ?_)
      · have hF := ite_t hF c_214
        refine lv_iconst (v := 0) hx hb dX3_isTold_221 (by decide) ?_
        obtain rfl := Option.some.inj hF
        exact hret _ _ _ _ hW (Or.inl rfl) dX3_isTold_222
      · have hF := ite_f hF c_214
        refine lv_iconst (v := 1) hx hb dX3_isTold_217 (by decide) ?_
        refine lv_goto (tgt := 222) hx hb dX3_isTold_218 (by decide) ?_
        obtain rfl := Option.some.inj hF
        exact hret _ _ _ _ hW (Or.inr rfl) dX3_isTold_222
  have hF := ite_f hF w_4_98
  by_cases w_4_104 : v_letter = 104
  · have hF := ite_t hF w_4_104
    refine lv_lookup (off := 158) (tgt := 162) hx hb dX3_isTold_4 (by decide +kernel) (by rw [w_4_104]; decide +kernel) (by decide) ?_
    refine lv_aload_n hx hb dX3_isTold_162 rfl (lv_at hl 0 rfl) ?_
    refine va_get (D := G.1) (ci := 3) (v := .int v_numberCount) (C := RX3) (T := TX3) (N := 4) hx hb hg hu_X3 hown hc.1 hW.1 0 rfl rfl 1 (by decide) (hg _ wd_1_49) (fun _ h9 => h9) rfl dX3_isTold_163 ?_
    refine lv_iconst (v := 2) hx hb dX3_isTold_166 (by decide) ?_
    refine lv_icmp_ne (tgt := 196) hx hb dX3_isTold_167 (by decide) (fun c_167 => ?_) (fun c_167 => ?_)
    · have hF := ite_f hF c_167
      refine lv_iconst (v := 0) hx hb dX3_isTold_196 (by decide) ?_
      obtain rfl := Option.some.inj hF
      exact hret _ _ _ _ hW (Or.inl rfl) dX3_isTold_197
    · have hF := ite_t hF c_167
      refine lv_aload_n hx hb dX3_isTold_170 rfl (lv_at hl 0 rfl) ?_
      refine lv_iconst (v := 0) hx hb dX3_isTold_171 (by decide) ?_
      refine lv_iconst (v := 1) hx hb dX3_isTold_172 (by decide) ?_
      refine lv_bipush (v := 9) hx hb dX3_isTold_173 (by decide) ?_
      obtain ⟨q175, c_175, hF⟩ := bd_el hF
      refine wcZ (ws' := [(h_this, oX3 ad_this v_numberCount v_letter v_end), ((ad_this 0), cI G 4 a_numbers)]) (wc := [(h_this, oX3 ad_this v_numberCount v_letter v_end), ((ad_this 0), cI G 4 a_numbers)]) (wr := []) (w1 := [(h_this, oX3 ad_this v_numberCount v_letter v_end), ((ad_this 0), cI G 4 a_numbers)]) (va_runV (As := [.int 0, .int 1, .int 9]) (rest := []) ⟨hx, hb, hml, hown, hg⟩ (c_X3_reaches l G 0 1 9 h_this ad_this v_numberCount v_letter v_end a_numbers q175 c_175 H.size) (cwV 3 hg (gV wd_2_54 wd_2_56 wd_0_3 wd_1_3 wd_2_57) rfl rfl rfl hdV_X3_reaches ⟨(Nat.le_of_ble_eq_true rfl), (Nat.le_of_ble_eq_true rfl)⟩) (preV hc hW [0, 1] rfl (by decide) rfl rfl) rfl rfl hl.1 rfl (lv_room (Nat.le_of_ble_eq_true rfl)) dX3_isTold_175 ⟨Nat.zero_le _, Nat.zero_le _⟩) hA hW [0, 1] [] [0, 1] rfl rfl (by decide) (by decide) rfl (by decide) (fun z_175 H locs hW => ?_)
      refine lv_if_eq (tgt := 196) hx hb dX3_isTold_178 (by decide) (fun c_178 => ?_) (fun c_178 => ?_)
      · have hF := ite_t hF c_178
        refine lv_iconst (v := 0) hx hb dX3_isTold_196 (by decide) ?_
        obtain rfl := Option.some.inj hF
        exact hret _ _ _ _ hW (Or.inl rfl) dX3_isTold_197
      · have hF := ite_f hF c_178
        refine lv_aload_n hx hb dX3_isTold_181 rfl (lv_at hl 0 rfl) ?_
        refine lv_iconst (v := 1) hx hb dX3_isTold_182 (by decide) ?_
        refine lv_iconst (v := 0) hx hb dX3_isTold_183 (by decide) ?_
        refine lv_bipush (v := 60) hx hb dX3_isTold_184 (by decide) ?_
        obtain ⟨q186, c_186, hF⟩ := bd_el hF
        refine wcZ (ws' := [(h_this, oX3 ad_this v_numberCount v_letter v_end), ((ad_this 0), cI G 4 a_numbers)]) (wc := [(h_this, oX3 ad_this v_numberCount v_letter v_end), ((ad_this 0), cI G 4 a_numbers)]) (wr := []) (w1 := [(h_this, oX3 ad_this v_numberCount v_letter v_end), ((ad_this 0), cI G 4 a_numbers)]) (va_runV (As := [.int 1, .int 0, .int 60]) (rest := []) ⟨hx, hb, hml, hown, hg⟩ (c_X3_reaches l G 1 0 60 h_this ad_this v_numberCount v_letter v_end a_numbers q186 c_186 H.size) (cwV 3 hg (gV wd_2_54 wd_2_56 wd_0_3 wd_1_3 wd_2_57) rfl rfl rfl hdV_X3_reaches ⟨(Nat.le_of_ble_eq_true rfl), (Nat.le_of_ble_eq_true rfl)⟩) (preV hc hW [0, 1] rfl (by decide) rfl rfl) rfl rfl hl.1 rfl (lv_room (Nat.le_of_ble_eq_true rfl)) dX3_isTold_186 ⟨Nat.zero_le _, Nat.zero_le _⟩) hA hW [0, 1] [] [0, 1] rfl rfl (by decide) (by decide) rfl (by decide) (fun z_186 H locs hW => ?_)
        refine lv_if_eq (tgt := 196) hx hb dX3_isTold_189 (by decide) (fun c_189 => ?_) (fun c_189 => ?_)
        · have hF := ite_t hF c_189
          refine lv_iconst (v := 0) hx hb dX3_isTold_196 (by decide) ?_
          obtain rfl := Option.some.inj hF
          exact hret _ _ _ _ hW (Or.inl rfl) dX3_isTold_197
        · have hF := ite_f hF c_189
          refine lv_iconst (v := 1) hx hb dX3_isTold_192 (by decide) ?_
          refine lv_goto (tgt := 197) hx hb dX3_isTold_193 (by decide) ?_
          obtain rfl := Option.some.inj hF
          exact hret _ _ _ _ hW (Or.inr rfl) dX3_isTold_197
  have hF := ite_f hF w_4_104
  by_cases w_4_108 : v_letter = 108
  · have hF := ite_t hF w_4_108
    refine lv_lookup (off := 254) (tgt := 258) hx hb dX3_isTold_4 (by decide +kernel) (by rw [w_4_108]; decide +kernel) (by decide) ?_
    refine lv_aload_n hx hb dX3_isTold_258 rfl (lv_at hl 0 rfl) ?_
    refine va_get (D := G.1) (ci := 3) (v := .int v_numberCount) (C := RX3) (T := TX3) (N := 4) hx hb hg hu_X3 hown hc.1 hW.1 0 rfl rfl 1 (by decide) (hg _ wd_1_49) (fun _ h9 => h9) rfl dX3_isTold_259 ?_
    refine lv_iconst (v := 2) hx hb dX3_isTold_262 (by decide) ?_
    refine lv_icmp_ne (tgt := 292) hx hb dX3_isTold_263 (by decide) (fun c_263 => ?_) (fun c_263 => ?_)
    · have hF := ite_f hF c_263
      refine lv_iconst (v := 0) hx hb dX3_isTold_292 (by decide) ?_
      obtain rfl := Option.some.inj hF
      exact hret _ _ _ _ hW (Or.inl rfl) dX3_isTold_293
    · have hF := ite_t hF c_263
      refine lv_aload_n hx hb dX3_isTold_266 rfl (lv_at hl 0 rfl) ?_
      refine lv_iconst (v := 0) hx hb dX3_isTold_267 (by decide) ?_
      refine lv_iconst (v := 0) hx hb dX3_isTold_268 (by decide) ?_
      refine lv_bipush (v := 99) hx hb dX3_isTold_269 (by decide) ?_
      obtain ⟨q271, c_271, hF⟩ := bd_el hF
      refine wcZ (ws' := [(h_this, oX3 ad_this v_numberCount v_letter v_end), ((ad_this 0), cI G 4 a_numbers)]) (wc := [(h_this, oX3 ad_this v_numberCount v_letter v_end), ((ad_this 0), cI G 4 a_numbers)]) (wr := []) (w1 := [(h_this, oX3 ad_this v_numberCount v_letter v_end), ((ad_this 0), cI G 4 a_numbers)]) (va_runV (As := [.int 0, .int 0, .int 99]) (rest := []) ⟨hx, hb, hml, hown, hg⟩ (c_X3_reaches l G 0 0 99 h_this ad_this v_numberCount v_letter v_end a_numbers q271 c_271 H.size) (cwV 3 hg (gV wd_2_54 wd_2_56 wd_0_3 wd_1_3 wd_2_57) rfl rfl rfl hdV_X3_reaches ⟨(Nat.le_of_ble_eq_true rfl), (Nat.le_of_ble_eq_true rfl)⟩) (preV hc hW [0, 1] rfl (by decide) rfl rfl) rfl rfl hl.1 rfl (lv_room (Nat.le_of_ble_eq_true rfl)) dX3_isTold_271 ⟨Nat.zero_le _, Nat.zero_le _⟩) hA hW [0, 1] [] [0, 1] rfl rfl (by decide) (by decide) rfl (by decide) (fun z_271 H locs hW => ?_)
      refine lv_if_eq (tgt := 292) hx hb dX3_isTold_274 (by decide) (fun c_274 => ?_) (fun c_274 => ?_)
      · have hF := ite_t hF c_274
        refine lv_iconst (v := 0) hx hb dX3_isTold_292 (by decide) ?_
        obtain rfl := Option.some.inj hF
        exact hret _ _ _ _ hW (Or.inl rfl) dX3_isTold_293
      · have hF := ite_f hF c_274
        refine lv_aload_n hx hb dX3_isTold_277 rfl (lv_at hl 0 rfl) ?_
        refine lv_iconst (v := 1) hx hb dX3_isTold_278 (by decide) ?_
        refine lv_iconst (v := 0) hx hb dX3_isTold_279 (by decide) ?_
        refine lv_bipush (v := 9) hx hb dX3_isTold_280 (by decide) ?_
        obtain ⟨q282, c_282, hF⟩ := bd_el hF
        refine wcZ (ws' := [(h_this, oX3 ad_this v_numberCount v_letter v_end), ((ad_this 0), cI G 4 a_numbers)]) (wc := [(h_this, oX3 ad_this v_numberCount v_letter v_end), ((ad_this 0), cI G 4 a_numbers)]) (wr := []) (w1 := [(h_this, oX3 ad_this v_numberCount v_letter v_end), ((ad_this 0), cI G 4 a_numbers)]) (va_runV (As := [.int 1, .int 0, .int 9]) (rest := []) ⟨hx, hb, hml, hown, hg⟩ (c_X3_reaches l G 1 0 9 h_this ad_this v_numberCount v_letter v_end a_numbers q282 c_282 H.size) (cwV 3 hg (gV wd_2_54 wd_2_56 wd_0_3 wd_1_3 wd_2_57) rfl rfl rfl hdV_X3_reaches ⟨(Nat.le_of_ble_eq_true rfl), (Nat.le_of_ble_eq_true rfl)⟩) (preV hc hW [0, 1] rfl (by decide) rfl rfl) rfl rfl hl.1 rfl (lv_room (Nat.le_of_ble_eq_true rfl)) dX3_isTold_282 ⟨Nat.zero_le _, Nat.zero_le _⟩) hA hW [0, 1] [] [0, 1] rfl rfl (by decide) (by decide) rfl (by decide) (fun z_282 H locs hW => ?_)
        refine lv_if_eq (tgt := 292) hx hb dX3_isTold_285 (by decide) (fun c_285 => ?_) (fun c_285 => ?_)
        · have hF := ite_t hF c_285
          refine lv_iconst (v := 0) hx hb dX3_isTold_292 (by decide) ?_
          obtain rfl := Option.some.inj hF
          exact hret _ _ _ _ hW (Or.inl rfl) dX3_isTold_293
        · have hF := ite_f hF c_285
          refine lv_iconst (v := 1) hx hb dX3_isTold_288 (by decide) ?_
          refine lv_goto (tgt := 293) hx hb dX3_isTold_289 (by decide) ?_
          obtain rfl := Option.some.inj hF
          exact hret _ _ _ _ hW (Or.inr rfl) dX3_isTold_293
  have hF := ite_f hF w_4_108
  by_cases w_4_115 : v_letter = 115
  · have hF := ite_t hF w_4_115
    refine lv_lookup (off := 104) (tgt := 108) hx hb dX3_isTold_4 (by decide +kernel) (by rw [w_4_115]; decide +kernel) (by decide) ?_
    refine lv_aload_n hx hb dX3_isTold_108 rfl (lv_at hl 0 rfl) ?_
    refine va_get (D := G.1) (ci := 3) (v := .int v_numberCount) (C := RX3) (T := TX3) (N := 4) hx hb hg hu_X3 hown hc.1 hW.1 0 rfl rfl 1 (by decide) (hg _ wd_1_49) (fun _ h9 => h9) rfl dX3_isTold_109 ?_
    refine lv_iconst (v := 4) hx hb dX3_isTold_112 (by decide) ?_
    refine lv_icmp_ne (tgt := 160) hx hb dX3_isTold_113 (by decide) (fun c_113 => ?_) (fun c_113 => ?_)
    · have hF := ite_f hF c_113
      refine lv_iconst (v := 0) hx hb dX3_isTold_160 (by decide) ?_
      obtain rfl := Option.some.inj hF
      exact hret _ _ _ _ hW (Or.inl rfl) dX3_isTold_161
    · have hF := ite_t hF c_113
      refine lv_aload_n hx hb dX3_isTold_116 rfl (lv_at hl 0 rfl) ?_
      refine lv_iconst (v := 0) hx hb dX3_isTold_117 (by decide) ?_
      refine lv_iconst (v := 0) hx hb dX3_isTold_118 (by decide) ?_
      refine lv_iconst (v := 3) hx hb dX3_isTold_119 (by decide) ?_
      obtain ⟨q120, c_120, hF⟩ := bd_el hF
      refine wcZ (ws' := [(h_this, oX3 ad_this v_numberCount v_letter v_end), ((ad_this 0), cI G 4 a_numbers)]) (wc := [(h_this, oX3 ad_this v_numberCount v_letter v_end), ((ad_this 0), cI G 4 a_numbers)]) (wr := []) (w1 := [(h_this, oX3 ad_this v_numberCount v_letter v_end), ((ad_this 0), cI G 4 a_numbers)]) (va_runV (As := [.int 0, .int 0, .int 3]) (rest := []) ⟨hx, hb, hml, hown, hg⟩ (c_X3_reaches l G 0 0 3 h_this ad_this v_numberCount v_letter v_end a_numbers q120 c_120 H.size) (cwV 3 hg (gV wd_2_54 wd_2_56 wd_0_3 wd_1_3 wd_2_57) rfl rfl rfl hdV_X3_reaches ⟨(Nat.le_of_ble_eq_true rfl), (Nat.le_of_ble_eq_true rfl)⟩) (preV hc hW [0, 1] rfl (by decide) rfl rfl) rfl rfl hl.1 rfl (lv_room (Nat.le_of_ble_eq_true rfl)) dX3_isTold_120 ⟨Nat.zero_le _, Nat.zero_le _⟩) hA hW [0, 1] [] [0, 1] rfl rfl (by decide) (by decide) rfl (by decide) (fun z_120 H locs hW => ?_)
      refine lv_if_eq (tgt := 160) hx hb dX3_isTold_123 (by decide) (fun c_123 => ?_) (fun c_123 => ?_)
      · have hF := ite_t hF c_123
        refine lv_iconst (v := 0) hx hb dX3_isTold_160 (by decide) ?_
        obtain rfl := Option.some.inj hF
        exact hret _ _ _ _ hW (Or.inl rfl) dX3_isTold_161
      · have hF := ite_f hF c_123
        refine lv_aload_n hx hb dX3_isTold_126 rfl (lv_at hl 0 rfl) ?_
        refine lv_iconst (v := 1) hx hb dX3_isTold_127 (by decide) ?_
        refine lv_iconst (v := 0) hx hb dX3_isTold_128 (by decide) ?_
        refine lv_iconst (v := 4) hx hb dX3_isTold_129 (by decide) ?_
        obtain ⟨q130, c_130, hF⟩ := bd_el hF
        refine wcZ (ws' := [(h_this, oX3 ad_this v_numberCount v_letter v_end), ((ad_this 0), cI G 4 a_numbers)]) (wc := [(h_this, oX3 ad_this v_numberCount v_letter v_end), ((ad_this 0), cI G 4 a_numbers)]) (wr := []) (w1 := [(h_this, oX3 ad_this v_numberCount v_letter v_end), ((ad_this 0), cI G 4 a_numbers)]) (va_runV (As := [.int 1, .int 0, .int 4]) (rest := []) ⟨hx, hb, hml, hown, hg⟩ (c_X3_reaches l G 1 0 4 h_this ad_this v_numberCount v_letter v_end a_numbers q130 c_130 H.size) (cwV 3 hg (gV wd_2_54 wd_2_56 wd_0_3 wd_1_3 wd_2_57) rfl rfl rfl hdV_X3_reaches ⟨(Nat.le_of_ble_eq_true rfl), (Nat.le_of_ble_eq_true rfl)⟩) (preV hc hW [0, 1] rfl (by decide) rfl rfl) rfl rfl hl.1 rfl (lv_room (Nat.le_of_ble_eq_true rfl)) dX3_isTold_130 ⟨Nat.zero_le _, Nat.zero_le _⟩) hA hW [0, 1] [] [0, 1] rfl rfl (by decide) (by decide) rfl (by decide) (fun z_130 H locs hW => ?_)
        refine lv_if_eq (tgt := 160) hx hb dX3_isTold_133 (by decide) (fun c_133 => ?_) (fun c_133 => ?_)
        · have hF := ite_t hF c_133
          refine lv_iconst (v := 0) hx hb dX3_isTold_160 (by decide) ?_
          obtain rfl := Option.some.inj hF
          exact hret _ _ _ _ hW (Or.inl rfl) dX3_isTold_161
        · have hF := ite_f hF c_133
          refine lv_aload_n hx hb dX3_isTold_136 rfl (lv_at hl 0 rfl) ?_
          refine lv_iconst (v := 2) hx hb dX3_isTold_137 (by decide) ?_
          refine lv_iconst (v := 0) hx hb dX3_isTold_138 (by decide) ?_
          refine lv_iconst (v := 4) hx hb dX3_isTold_139 (by decide) ?_
          obtain ⟨q140, c_140, hF⟩ := bd_el hF
          refine wcZ (ws' := [(h_this, oX3 ad_this v_numberCount v_letter v_end), ((ad_this 0), cI G 4 a_numbers)]) (wc := [(h_this, oX3 ad_this v_numberCount v_letter v_end), ((ad_this 0), cI G 4 a_numbers)]) (wr := []) (w1 := [(h_this, oX3 ad_this v_numberCount v_letter v_end), ((ad_this 0), cI G 4 a_numbers)]) (va_runV (As := [.int 2, .int 0, .int 4]) (rest := []) ⟨hx, hb, hml, hown, hg⟩ (c_X3_reaches l G 2 0 4 h_this ad_this v_numberCount v_letter v_end a_numbers q140 c_140 H.size) (cwV 3 hg (gV wd_2_54 wd_2_56 wd_0_3 wd_1_3 wd_2_57) rfl rfl rfl hdV_X3_reaches ⟨(Nat.le_of_ble_eq_true rfl), (Nat.le_of_ble_eq_true rfl)⟩) (preV hc hW [0, 1] rfl (by decide) rfl rfl) rfl rfl hl.1 rfl (lv_room (Nat.le_of_ble_eq_true rfl)) dX3_isTold_140 ⟨Nat.zero_le _, Nat.zero_le _⟩) hA hW [0, 1] [] [0, 1] rfl rfl (by decide) (by decide) rfl (by decide) (fun z_140 H locs hW => ?_)
          refine lv_if_eq (tgt := 160) hx hb dX3_isTold_143 (by decide) (fun c_143 => ?_) (fun c_143 => ?_)
          · have hF := ite_t hF c_143
            refine lv_iconst (v := 0) hx hb dX3_isTold_160 (by decide) ?_
            obtain rfl := Option.some.inj hF
            exact hret _ _ _ _ hW (Or.inl rfl) dX3_isTold_161
          · have hF := ite_f hF c_143
            refine lv_aload_n hx hb dX3_isTold_146 rfl (lv_at hl 0 rfl) ?_
            refine lv_iconst (v := 3) hx hb dX3_isTold_147 (by decide) ?_
            refine lv_iconst (v := 0) hx hb dX3_isTold_148 (by decide) ?_
            refine lv_iconst (v := 4) hx hb dX3_isTold_149 (by decide) ?_
            obtain ⟨q150, c_150, hF⟩ := bd_el hF
            refine wcZ (ws' := [(h_this, oX3 ad_this v_numberCount v_letter v_end), ((ad_this 0), cI G 4 a_numbers)]) (wc := [(h_this, oX3 ad_this v_numberCount v_letter v_end), ((ad_this 0), cI G 4 a_numbers)]) (wr := []) (w1 := [(h_this, oX3 ad_this v_numberCount v_letter v_end), ((ad_this 0), cI G 4 a_numbers)]) (va_runV (As := [.int 3, .int 0, .int 4]) (rest := []) ⟨hx, hb, hml, hown, hg⟩ (c_X3_reaches l G 3 0 4 h_this ad_this v_numberCount v_letter v_end a_numbers q150 c_150 H.size) (cwV 3 hg (gV wd_2_54 wd_2_56 wd_0_3 wd_1_3 wd_2_57) rfl rfl rfl hdV_X3_reaches ⟨(Nat.le_of_ble_eq_true rfl), (Nat.le_of_ble_eq_true rfl)⟩) (preV hc hW [0, 1] rfl (by decide) rfl rfl) rfl rfl hl.1 rfl (lv_room (Nat.le_of_ble_eq_true rfl)) dX3_isTold_150 ⟨Nat.zero_le _, Nat.zero_le _⟩) hA hW [0, 1] [] [0, 1] rfl rfl (by decide) (by decide) rfl (by decide) (fun z_150 H locs hW => ?_)
            refine lv_if_eq (tgt := 160) hx hb dX3_isTold_153 (by decide) (fun c_153 => ?_) (fun c_153 => ?_)
            · have hF := ite_t hF c_153
              refine lv_iconst (v := 0) hx hb dX3_isTold_160 (by decide) ?_
              obtain rfl := Option.some.inj hF
              exact hret _ _ _ _ hW (Or.inl rfl) dX3_isTold_161
            · have hF := ite_f hF c_153
              refine lv_iconst (v := 1) hx hb dX3_isTold_156 (by decide) ?_
              refine lv_goto (tgt := 161) hx hb dX3_isTold_157 (by decide) ?_
              obtain rfl := Option.some.inj hF
              exact hret _ _ _ _ hW (Or.inr rfl) dX3_isTold_161
  have hF := ite_f hF w_4_115
  by_cases w_4_119 : v_letter = 119
  · have hF := ite_t hF w_4_119
    refine lv_lookup (off := 219) (tgt := 223) hx hb dX3_isTold_4 (by decide +kernel) (by rw [w_4_119]; decide +kernel) (by decide) ?_
    refine lv_aload_n hx hb dX3_isTold_223 rfl (lv_at hl 0 rfl) ?_
    refine va_get (D := G.1) (ci := 3) (v := .int v_numberCount) (C := RX3) (T := TX3) (N := 4) hx hb hg hu_X3 hown hc.1 hW.1 0 rfl rfl 1 (by decide) (hg _ wd_1_49) (fun _ h9 => h9) rfl dX3_isTold_224 ?_
    refine lv_iconst (v := 2) hx hb dX3_isTold_227 (by decide) ?_
    refine lv_icmp_ne (tgt := 256) hx hb dX3_isTold_228 (by decide) (fun c_228 => ?_) (fun c_228 => ?_)
    · have hF := ite_f hF c_228
      refine lv_iconst (v := 0) hx hb dX3_isTold_256 (by decide) ?_
      obtain rfl := Option.some.inj hF
      exact hret _ _ _ _ hW (Or.inl rfl) dX3_isTold_257
    · have hF := ite_t hF c_228
      refine lv_aload_n hx hb dX3_isTold_231 rfl (lv_at hl 0 rfl) ?_
      refine lv_iconst (v := 0) hx hb dX3_isTold_232 (by decide) ?_
      refine lv_iconst (v := 0) hx hb dX3_isTold_233 (by decide) ?_
      refine lv_iconst (v := 4) hx hb dX3_isTold_234 (by decide) ?_
      obtain ⟨q235, c_235, hF⟩ := bd_el hF
      refine wcZ (ws' := [(h_this, oX3 ad_this v_numberCount v_letter v_end), ((ad_this 0), cI G 4 a_numbers)]) (wc := [(h_this, oX3 ad_this v_numberCount v_letter v_end), ((ad_this 0), cI G 4 a_numbers)]) (wr := []) (w1 := [(h_this, oX3 ad_this v_numberCount v_letter v_end), ((ad_this 0), cI G 4 a_numbers)]) (va_runV (As := [.int 0, .int 0, .int 4]) (rest := []) ⟨hx, hb, hml, hown, hg⟩ (c_X3_reaches l G 0 0 4 h_this ad_this v_numberCount v_letter v_end a_numbers q235 c_235 H.size) (cwV 3 hg (gV wd_2_54 wd_2_56 wd_0_3 wd_1_3 wd_2_57) rfl rfl rfl hdV_X3_reaches ⟨(Nat.le_of_ble_eq_true rfl), (Nat.le_of_ble_eq_true rfl)⟩) (preV hc hW [0, 1] rfl (by decide) rfl rfl) rfl rfl hl.1 rfl (lv_room (Nat.le_of_ble_eq_true rfl)) dX3_isTold_235 ⟨Nat.zero_le _, Nat.zero_le _⟩) hA hW [0, 1] [] [0, 1] rfl rfl (by decide) (by decide) rfl (by decide) (fun z_235 H locs hW => ?_)
      refine lv_if_eq (tgt := 256) hx hb dX3_isTold_238 (by decide) (fun c_238 => ?_) (fun c_238 => ?_)
      · have hF := ite_t hF c_238
        refine lv_iconst (v := 0) hx hb dX3_isTold_256 (by decide) ?_
        obtain rfl := Option.some.inj hF
        exact hret _ _ _ _ hW (Or.inl rfl) dX3_isTold_257
      · have hF := ite_f hF c_238
        refine lv_aload_n hx hb dX3_isTold_241 rfl (lv_at hl 0 rfl) ?_
        refine lv_iconst (v := 1) hx hb dX3_isTold_242 (by decide) ?_
        refine lv_iconst (v := 0) hx hb dX3_isTold_243 (by decide) ?_
        refine lv_bipush (v := 20) hx hb dX3_isTold_244 (by decide) ?_
        obtain ⟨q246, c_246, hF⟩ := bd_el hF
        refine wcZ (ws' := [(h_this, oX3 ad_this v_numberCount v_letter v_end), ((ad_this 0), cI G 4 a_numbers)]) (wc := [(h_this, oX3 ad_this v_numberCount v_letter v_end), ((ad_this 0), cI G 4 a_numbers)]) (wr := []) (w1 := [(h_this, oX3 ad_this v_numberCount v_letter v_end), ((ad_this 0), cI G 4 a_numbers)]) (va_runV (As := [.int 1, .int 0, .int 20]) (rest := []) ⟨hx, hb, hml, hown, hg⟩ (c_X3_reaches l G 1 0 20 h_this ad_this v_numberCount v_letter v_end a_numbers q246 c_246 H.size) (cwV 3 hg (gV wd_2_54 wd_2_56 wd_0_3 wd_1_3 wd_2_57) rfl rfl rfl hdV_X3_reaches ⟨(Nat.le_of_ble_eq_true rfl), (Nat.le_of_ble_eq_true rfl)⟩) (preV hc hW [0, 1] rfl (by decide) rfl rfl) rfl rfl hl.1 rfl (lv_room (Nat.le_of_ble_eq_true rfl)) dX3_isTold_246 ⟨Nat.zero_le _, Nat.zero_le _⟩) hA hW [0, 1] [] [0, 1] rfl rfl (by decide) (by decide) rfl (by decide) (fun z_246 H locs hW => ?_)
        refine lv_if_eq (tgt := 256) hx hb dX3_isTold_249 (by decide) (fun c_249 => ?_) (fun c_249 => ?_)
        · have hF := ite_t hF c_249
          refine lv_iconst (v := 0) hx hb dX3_isTold_256 (by decide) ?_
          obtain rfl := Option.some.inj hF
          exact hret _ _ _ _ hW (Or.inl rfl) dX3_isTold_257
        · have hF := ite_f hF c_249
          refine lv_iconst (v := 1) hx hb dX3_isTold_252 (by decide) ?_
          refine lv_goto (tgt := 257) hx hb dX3_isTold_253 (by decide) ?_
          obtain rfl := Option.some.inj hF
          exact hret _ _ _ _ hW (Or.inr rfl) dX3_isTold_257
  have hF := ite_f hF w_4_119
  refine lv_lookup (off := 290) (tgt := 294) hx hb dX3_isTold_4 (by decide +kernel) (by simp only [Op.lookupswitch.offset, if_neg (i32_ne (k := 97) rfl w_4_97), if_neg (i32_ne (k := 98) rfl w_4_98), if_neg (i32_ne (k := 104) rfl w_4_104), if_neg (i32_ne (k := 108) rfl w_4_108), if_neg (i32_ne (k := 115) rfl w_4_115), if_neg (i32_ne (k := 119) rfl w_4_119)]) (by decide) ?_
  refine lv_iconst (v := 0) hx hb dX3_isTold_294 (by decide) ?_
  obtain rfl := Option.some.inj hF
  exact hret _ _ _ _ hW (Or.inl rfl) dX3_isTold_295
theorem dX3_readAt_0 : decode cX3_readAt 0 = .ok (.aload_n 0, 1) := by decide +kernel
theorem dX3_readAt_1 : decode cX3_readAt 1 = .ok (.aload_n 1, 1) := by decide +kernel
theorem dX3_readAt_2 : decode cX3_readAt 2 = .ok (.iload_n 2, 1) := by decide +kernel
theorem dX3_readAt_3 : decode cX3_readAt 3 = .ok (.invokevirtual 15, 3) := by decide +kernel
theorem dX3_readAt_6 : decode cX3_readAt 6 = .ok (.putfield 21, 3) := by decide +kernel
theorem dX3_readAt_9 : decode cX3_readAt 9 = .ok (.aload_n 0, 1) := by decide +kernel
theorem dX3_readAt_10 : decode cX3_readAt 10 = .ok (.iload_n 2, 1) := by decide +kernel
theorem dX3_readAt_11 : decode cX3_readAt 11 = .ok (.iconst 1, 1) := by decide +kernel
theorem dX3_readAt_12 : decode cX3_readAt 12 = .ok (.iadd, 1) := by decide +kernel
theorem dX3_readAt_13 : decode cX3_readAt 13 = .ok (.putfield 25, 3) := by decide +kernel
theorem dX3_readAt_16 : decode cX3_readAt 16 = .ok (.aload_n 0, 1) := by decide +kernel
theorem dX3_readAt_17 : decode cX3_readAt 17 = .ok (.iconst 0, 1) := by decide +kernel
theorem dX3_readAt_18 : decode cX3_readAt 18 = .ok (.putfield 28, 3) := by decide +kernel
theorem dX3_readAt_21 : decode cX3_readAt 21 = .ok (.iconst 1, 1) := by decide +kernel
theorem dX3_readAt_22 : decode cX3_readAt 22 = .ok (.istore_n 3, 1) := by decide +kernel
theorem dX3_readAt_23 : decode cX3_readAt 23 = .ok (.iconst 0, 1) := by decide +kernel
theorem dX3_readAt_24 : decode cX3_readAt 24 = .ok (.istore 4, 2) := by decide +kernel
theorem dX3_readAt_26 : decode cX3_readAt 26 = .ok (.iload 4, 2) := by decide +kernel
theorem dX3_readAt_28 : decode cX3_readAt 28 = .ok (.iconst 4, 1) := by decide +kernel
theorem dX3_readAt_29 : decode cX3_readAt 29 = .ok (.if_icmp .ge 72, 3) := by decide +kernel
theorem dX3_readAt_32 : decode cX3_readAt 32 = .ok (.iload_n 3, 1) := by decide +kernel
theorem dX3_readAt_33 : decode cX3_readAt 33 = .ok (.ifCond .eq 68, 3) := by decide +kernel
theorem dX3_readAt_36 : decode cX3_readAt 36 = .ok (.aload_n 0, 1) := by decide +kernel
theorem dX3_readAt_37 : decode cX3_readAt 37 = .ok (.aload_n 1, 1) := by decide +kernel
theorem dX3_readAt_38 : decode cX3_readAt 38 = .ok (.invokevirtual 31, 3) := by decide +kernel
theorem dX3_readAt_41 : decode cX3_readAt 41 = .ok (.ifCond .ne 5, 3) := by decide +kernel
theorem dX3_readAt_44 : decode cX3_readAt 44 = .ok (.iconst 0, 1) := by decide +kernel
theorem dX3_readAt_45 : decode cX3_readAt 45 = .ok (.ireturn, 1) := by decide +kernel
theorem dX3_readAt_46 : decode cX3_readAt 46 = .ok (.aload_n 1, 1) := by decide +kernel
theorem dX3_readAt_47 : decode cX3_readAt 47 = .ok (.aload_n 0, 1) := by decide +kernel
theorem dX3_readAt_48 : decode cX3_readAt 48 = .ok (.getfield 25, 3) := by decide +kernel
theorem dX3_readAt_51 : decode cX3_readAt 51 = .ok (.invokevirtual 15, 3) := by decide +kernel
theorem dX3_readAt_54 : decode cX3_readAt 54 = .ok (.istore 5, 2) := by decide +kernel
theorem dX3_readAt_56 : decode cX3_readAt 56 = .ok (.aload_n 0, 1) := by decide +kernel
theorem dX3_readAt_57 : decode cX3_readAt 57 = .ok (.dup, 1) := by decide +kernel
theorem dX3_readAt_58 : decode cX3_readAt 58 = .ok (.getfield 25, 3) := by decide +kernel
theorem dX3_readAt_61 : decode cX3_readAt 61 = .ok (.iconst 1, 1) := by decide +kernel
theorem dX3_readAt_62 : decode cX3_readAt 62 = .ok (.iadd, 1) := by decide +kernel
theorem dX3_readAt_63 : decode cX3_readAt 63 = .ok (.putfield 25, 3) := by decide +kernel
theorem dX3_readAt_66 : decode cX3_readAt 66 = .ok (.iload 5, 2) := by decide +kernel
theorem dX3_readAt_68 : decode cX3_readAt 68 = .ok (.bipush 44, 2) := by decide +kernel
theorem dX3_readAt_70 : decode cX3_readAt 70 = .ok (.if_icmp .eq 12, 3) := by decide +kernel
theorem dX3_readAt_73 : decode cX3_readAt 73 = .ok (.iload 5, 2) := by decide +kernel
theorem dX3_readAt_75 : decode cX3_readAt 75 = .ok (.bipush 59, 2) := by decide +kernel
theorem dX3_readAt_77 : decode cX3_readAt 77 = .ok (.if_icmp .eq 5, 3) := by decide +kernel
theorem dX3_readAt_80 : decode cX3_readAt 80 = .ok (.iconst 0, 1) := by decide +kernel
theorem dX3_readAt_81 : decode cX3_readAt 81 = .ok (.ireturn, 1) := by decide +kernel
theorem dX3_readAt_82 : decode cX3_readAt 82 = .ok (.iload 5, 2) := by decide +kernel
theorem dX3_readAt_84 : decode cX3_readAt 84 = .ok (.bipush 44, 2) := by decide +kernel
theorem dX3_readAt_86 : decode cX3_readAt 86 = .ok (.if_icmp .ne 7, 3) := by decide +kernel
theorem dX3_readAt_89 : decode cX3_readAt 89 = .ok (.iconst 1, 1) := by decide +kernel
theorem dX3_readAt_90 : decode cX3_readAt 90 = .ok (.goto 4, 3) := by decide +kernel
theorem dX3_readAt_93 : decode cX3_readAt 93 = .ok (.iconst 0, 1) := by decide +kernel
theorem dX3_readAt_94 : decode cX3_readAt 94 = .ok (.istore_n 3, 1) := by decide +kernel
theorem dX3_readAt_95 : decode cX3_readAt 95 = .ok (.iinc 4 1, 3) := by decide +kernel
theorem dX3_readAt_98 : decode cX3_readAt 98 = .ok (.goto (-72), 3) := by decide +kernel
theorem dX3_readAt_101 : decode cX3_readAt 101 = .ok (.iload_n 3, 1) := by decide +kernel
theorem dX3_readAt_102 : decode cX3_readAt 102 = .ok (.ifCond .ne 14, 3) := by decide +kernel
theorem dX3_readAt_105 : decode cX3_readAt 105 = .ok (.aload_n 0, 1) := by decide +kernel
theorem dX3_readAt_106 : decode cX3_readAt 106 = .ok (.invokevirtual 35, 3) := by decide +kernel
theorem dX3_readAt_109 : decode cX3_readAt 109 = .ok (.ifCond .eq 7, 3) := by decide +kernel
theorem dX3_readAt_112 : decode cX3_readAt 112 = .ok (.iconst 1, 1) := by decide +kernel
theorem dX3_readAt_113 : decode cX3_readAt 113 = .ok (.goto 4, 3) := by decide +kernel
theorem dX3_readAt_116 : decode cX3_readAt 116 = .ok (.iconst 0, 1) := by decide +kernel
theorem dX3_readAt_117 : decode cX3_readAt 117 = .ok (.ireturn, 1) := by decide +kernel
def L_X3_readAt_26 (v_p1_length : Int32) (a_p1_letters : Nat → Int32) (q3 : Int32) (k_101 : Int32 → Int32 → Int32 → (Nat → Int32) → Option (Int32 × Int32 × Int32 × Int32 × (Nat → Int32))) : Nat → Int32 → Int32 → Int32 → Int32 → (Nat → Int32) → Option (Int32 × Int32 × Int32 × Int32 × (Nat → Int32))
  | 0, _, _, _, _, _ => none
  | n + 1, x3_26, x4_26, v_end_26, v_numberCount_26, a_numbers_26 => (if 4 ≤ x4_26 then k_101 x3_26 v_end_26 v_numberCount_26 a_numbers_26 else (if x3_26 = 0 then k_101 x3_26 v_end_26 v_numberCount_26 a_numbers_26 else (F_X3_readNumber v_end_26 v_numberCount_26 v_p1_length a_p1_letters a_numbers_26).bind (fun q38 => (if q38.1 = 0 then some (0, q38.2.1, q3, q38.2.2.1, q38.2.2.2) else (F_X6_letterAt q38.2.1 v_p1_length a_p1_letters).bind (fun q51 => jn (jn (fun j0_94 => L_X3_readAt_26 v_p1_length a_p1_letters q3 k_101 n j0_94 ((x4_26 + 1)) ((q38.2.1 + 1)) q38.2.2.1 q38.2.2.2) (fun k_94 => (if q51 = 44 then k_94 1 else k_94 0))) (fun k_82 => (if q51 = 44 then k_82 else (if q51 = 59 then k_82 else some (0, (q38.2.1 + 1), q3, q38.2.2.1, q38.2.2.2)))))))))
def F_X3_readAt (x2 : Int32) (v_end : Int32) (v_letter : Int32) (v_numberCount : Int32) (v_p1_length : Int32) (a_p1_letters : Nat → Int32) (a_numbers : Nat → Int32) : Option (Int32 × Int32 × Int32 × Int32 × (Nat → Int32)) := (F_X6_letterAt x2 v_p1_length a_p1_letters).bind (fun q3 => jn (fun x3_101 v_end_101 v_numberCount_101 a_numbers_101 => (if x3_101 = 0 then (F_X3_isTold q3 v_numberCount_101 a_numbers_101).bind (fun q106 => (if q106 = 0 then some (0, v_end_101, q3, v_numberCount_101, a_numbers_101) else some (1, v_end_101, q3, v_numberCount_101, a_numbers_101))) else some (0, v_end_101, q3, v_numberCount_101, a_numbers_101))) (fun k_101 => L_X3_readAt_26 v_p1_length a_p1_letters q3 k_101 5000 1 0 ((x2 + 1)) 0 a_numbers))
theorem hdV_X3_readAt : yX3_readAt.cls = RX3 ∧ yX3_readAt.cls ≠ "java/lang/invoke/MethodHandle" ∧ yX3_readAt.cls ≠ "java/lang/invoke/VarHandle" ∧ (parseMethodDescriptor yX3_readAt.desc).map (fun d => d.parameters.length) = some 2 := by decide +kernel
set_option maxHeartbeats 4000000 in
set_option maxRecDepth 100000 in
theorem c_X3_readAt (l : Launch) (G : GG) (x2 : Int32) (h_this : Nat) (h_p1 : Nat) (ad_this : Nat → Nat) (ad_p1 : Nat → Nat) (v_numberCount : Int32) (v_letter : Int32) (v_end : Int32) (v_p1_length : Int32) (a_p1_letters : Nat → Int32) (a_numbers : Nat → Int32) (out : Int32 × Int32 × Int32 × Int32 × (Nat → Int32)) (hF : F_X3_readAt x2 v_end v_letter v_numberCount v_p1_length a_p1_letters a_numbers = some out) : CtrZ l yX3_readAt (WS yX3_readAt cX3_readAt 6 (some .boolean)) { frames := 3, cells := 0, slots := 0, locals := 66 } G [.ref h_this, .ref h_p1, .int x2] [(h_this, oX3 ad_this v_numberCount v_letter v_end), (h_p1, oX6 ad_p1 v_p1_length), ((ad_p1 0), cI G 200 a_p1_letters), ((ad_this 0), cI G 4 a_numbers)] [(h_this, oX3 ad_this out.2.2.2.1 out.2.2.1 out.2.1), (h_p1, oX6 ad_p1 v_p1_length), ((ad_p1 0), cI G 200 a_p1_letters), ((ad_this 0), cI G 4 out.2.2.2.2)] out.1 := by
  refine startZ (cc := cX3_readAt) (maxL := 6) (by decide) rfl (Nat.le_of_ble_eq_true rfl) ?_
  intro p e s m args below meth c A Q hx hb hml hts hown hc hA hret ls H locs hl hW
  have hown : s.vm.findClass RX3 = some m.cls := hown
  have hg : ∀ w ∈ GOODS, w.before _ s = true := fun w h => hts w (List.mem_cons_of_mem _ h)
  have hl : lv_has ls 6 [(0, .ref h_this), (1, .ref h_p1), (2, .int x2)] := hl
  rw [F_X3_readAt] at hF
  refine lv_aload_n hx hb dX3_readAt_0 rfl (lv_at hl 0 rfl) ?_
  refine lv_aload_n hx hb dX3_readAt_1 rfl (lv_at hl 1 rfl) ?_
  refine lv_iload_n hx hb dX3_readAt_2 rfl (lv_at hl 2 rfl) ?_
  obtain ⟨q3, c_3, hF⟩ := bd_el hF
  refine wcI (ws' := [(h_this, oX3 ad_this v_numberCount v_letter v_end), (h_p1, oX6 ad_p1 v_p1_length), ((ad_p1 0), cI G 200 a_p1_letters), ((ad_this 0), cI G 4 a_numbers)]) (wc := [(h_p1, oX6 ad_p1 v_p1_length), ((ad_p1 0), cI G 200 a_p1_letters)]) (wr := [(h_this, oX3 ad_this v_numberCount v_letter v_end), ((ad_this 0), cI G 4 a_numbers)]) (w1 := [(h_p1, oX6 ad_p1 v_p1_length), ((ad_p1 0), cI G 200 a_p1_letters)]) (va_runV (As := [.int x2]) (rest := [.ref h_this]) ⟨hx, hb, hml, hown, hg⟩ (c_X6_letterAt l G x2 h_p1 ad_p1 v_p1_length a_p1_letters q3 c_3 H.size) (cwV 1 hg (gV wd_2_32 wd_2_33 wd_2_34 wd_1_2 wd_2_35) rfl rfl rfl hdV_X6_letterAt ⟨(Nat.le_of_ble_eq_true rfl), (Nat.le_of_ble_eq_true rfl)⟩) (preV hc hW [1, 2] rfl (by decide) rfl rfl) rfl rfl hl.1 rfl (lv_room (Nat.le_of_ble_eq_true rfl)) dX3_readAt_3 ⟨Nat.zero_le _, Nat.zero_le _⟩) hA hW [1, 2] [0, 3] [0, 2, 3, 1] rfl rfl (by decide) (by decide) rfl (by decide) (fun H locs hW => ?_)
  refine va_put (D := G.1) (ci := 3) (v := .int q3) (ty := .int) (C := RX3) (T := TX3) (N := 4) hx hb hg hu_X3 tyX3 tyX3_ok nmX3 hown hc.1 hW.1 hW.2.1 hW.2.2 0 rfl rfl 2 (by decide) (hg _ wd_1_50) (fun _ h9 => h9) rfl (by decide +kernel) rfl rfl (Nat.le_of_ble_eq_true rfl) dX3_readAt_6 (fun H locs hP hD hS => ?_)
  have hW : Wd G A s.heap [(h_this, oX3 ad_this v_numberCount q3 v_end), (h_p1, oX6 ad_p1 v_p1_length), ((ad_p1 0), cI G 200 a_p1_letters), ((ad_this 0), cI G 4 a_numbers)] H locs := ⟨hP, hD, hS⟩
  refine lv_aload_n hx hb dX3_readAt_9 rfl (lv_at hl 0 rfl) ?_
  refine lv_iload_n hx hb dX3_readAt_10 rfl (lv_at hl 2 rfl) ?_
  refine lv_iconst (v := 1) hx hb dX3_readAt_11 (by decide) ?_
  refine lv_iadd hx hb dX3_readAt_12 ?_
  refine va_put (D := G.1) (ci := 3) (v := .int ((x2 + 1))) (ty := .int) (C := RX3) (T := TX3) (N := 4) hx hb hg hu_X3 tyX3 tyX3_ok nmX3 hown hc.1 hW.1 hW.2.1 hW.2.2 0 rfl rfl 3 (by decide) (hg _ wd_1_52) (fun _ h9 => h9) rfl (by decide +kernel) rfl rfl (Nat.le_of_ble_eq_true rfl) dX3_readAt_13 (fun H locs hP hD hS => ?_)
  have hW : Wd G A s.heap [(h_this, oX3 ad_this v_numberCount q3 ((x2 + 1))), (h_p1, oX6 ad_p1 v_p1_length), ((ad_p1 0), cI G 200 a_p1_letters), ((ad_this 0), cI G 4 a_numbers)] H locs := ⟨hP, hD, hS⟩
  refine lv_aload_n hx hb dX3_readAt_16 rfl (lv_at hl 0 rfl) ?_
  refine lv_iconst (v := 0) hx hb dX3_readAt_17 (by decide) ?_
  refine va_put (D := G.1) (ci := 3) (v := .int 0) (ty := .int) (C := RX3) (T := TX3) (N := 4) hx hb hg hu_X3 tyX3 tyX3_ok nmX3 hown hc.1 hW.1 hW.2.1 hW.2.2 0 rfl rfl 1 (by decide) (hg _ wd_1_49) (fun _ h9 => h9) rfl (by decide +kernel) rfl rfl (Nat.le_of_ble_eq_true rfl) dX3_readAt_18 (fun H locs hP hD hS => ?_)
  have hW : Wd G A s.heap [(h_this, oX3 ad_this 0 q3 ((x2 + 1))), (h_p1, oX6 ad_p1 v_p1_length), ((ad_p1 0), cI G 200 a_p1_letters), ((ad_this 0), cI G 4 a_numbers)] H locs := ⟨hP, hD, hS⟩
  refine lv_iconst (v := 1) hx hb dX3_readAt_21 (by decide) ?_
  refine lv_istore_n (lv' := [(3, .int 1), (0, .ref h_this), (1, .ref h_p1), (2, .int x2)]) hx hb dX3_readAt_22 rfl hl (by decide) rfl (fun ls hl => ?_)
  refine lv_iconst (v := 0) hx hb dX3_readAt_23 (by decide) ?_
  refine lv_istore (lv' := [(4, .int 0), (3, .int 1), (0, .ref h_this), (1, .ref h_p1), (2, .int x2)]) hx hb dX3_readAt_24 hl (by decide) rfl (fun ls hl => ?_)
  obtain ⟨k_101, e_101, hF⟩ := jn_el hF
  have J_101 : ∀ (x3_101 : Int32) (v_end_101 : Int32) (v_numberCount_101 : Int32) (a_numbers_101 : Nat → Int32) (ls : Array Slot) (H : Heap) (locs : List Loc), k_101 x3_101 v_end_101 v_numberCount_101 a_numbers_101 = some out → lv_has ls 6 [(0, .ref h_this), (3, .int x3_101)] → Wd G A s.heap [(h_this, oX3 ad_this v_numberCount_101 q3 v_end_101), (h_p1, oX6 ad_p1 v_p1_length), ((ad_p1 0), cI G 200 a_p1_letters), ((ad_this 0), cI G 4 a_numbers_101)] H locs → W p l e ({ frames := 3, cells := 0, slots := 0, locals := 66 } : Room) s m args below meth c H locs 0 0 Q (F0 m 101 ls []) := by
    intro x3_101 v_end_101 v_numberCount_101 a_numbers_101 ls H locs hF hl hW
    rw [e_101] at hF
    dsimp only at hF
    refine lv_iload_n hx hb dX3_readAt_101 rfl (lv_at hl 1 rfl) ?_
    refine lv_if_ne (tgt := 116) hx hb dX3_readAt_102 (by decide) (fun c_102 => ?_) (fun c_102 => ?_)
    · have hF := ite_f hF c_102
      refine lv_iconst (v := 0) hx hb dX3_readAt_116 (by decide) ?_
      obtain rfl := Option.some.inj hF
      exact hret _ _ _ _ hW (Or.inl rfl) dX3_readAt_117
    · have hF := ite_t hF c_102
      refine lv_aload_n hx hb dX3_readAt_105 rfl (lv_at hl 0 rfl) ?_
      obtain ⟨q106, c_106, hF⟩ := bd_el hF
      refine wcZ (ws' := [(h_this, oX3 ad_this v_numberCount_101 q3 v_end_101), (h_p1, oX6 ad_p1 v_p1_length), ((ad_p1 0), cI G 200 a_p1_letters), ((ad_this 0), cI G 4 a_numbers_101)]) (wc := [(h_this, oX3 ad_this v_numberCount_101 q3 v_end_101), ((ad_this 0), cI G 4 a_numbers_101)]) (wr := [(h_p1, oX6 ad_p1 v_p1_length), ((ad_p1 0), cI G 200 a_p1_letters)]) (w1 := [(h_this, oX3 ad_this v_numberCount_101 q3 v_end_101), ((ad_this 0), cI G 4 a_numbers_101)]) (va_runV (As := []) (rest := []) ⟨hx, hb, hml, hown, hg⟩ (c_X3_isTold l G h_this ad_this v_numberCount_101 q3 v_end_101 a_numbers_101 q106 c_106 H.size) (cwV 0 hg (gV wd_2_50 wd_2_52 wd_0_2 wd_1_3 wd_2_53) rfl rfl rfl hdV_X3_isTold ⟨(Nat.le_of_ble_eq_true rfl), (Nat.le_of_ble_eq_true rfl)⟩) (preV hc hW [0, 3] rfl (by decide) rfl rfl) rfl rfl hl.1 rfl (lv_room (Nat.le_of_ble_eq_true rfl)) dX3_readAt_106 ⟨Nat.zero_le _, Nat.zero_le _⟩) hA hW [0, 3] [1, 2] [2, 0, 1, 3] rfl rfl (by decide) (by decide) rfl (by decide) (fun z_106 H locs hW => ?_)
      refine lv_if_eq (tgt := 116) hx hb dX3_readAt_109 (by decide) (fun c_109 => ?_) (fun c_109 => ?_)
      · have hF := ite_t hF c_109
        refine lv_iconst (v := 0) hx hb dX3_readAt_116 (by decide) ?_
        obtain rfl := Option.some.inj hF
        exact hret _ _ _ _ hW (Or.inl rfl) dX3_readAt_117
      · have hF := ite_f hF c_109
        refine lv_iconst (v := 1) hx hb dX3_readAt_112 (by decide) ?_
        refine lv_goto (tgt := 117) hx hb dX3_readAt_113 (by decide) ?_
        obtain rfl := Option.some.inj hF
        exact hret _ _ _ _ hW (Or.inr rfl) dX3_readAt_117
  have L_26 : ∀ (n : Nat) (x3_26 : Int32) (x4_26 : Int32) (v_end_26 : Int32) (v_numberCount_26 : Int32) (a_numbers_26 : Nat → Int32) (ls : Array Slot) (H : Heap) (locs : List Loc), L_X3_readAt_26 v_p1_length a_p1_letters q3 k_101 n x3_26 x4_26 v_end_26 v_numberCount_26 a_numbers_26 = some out → lv_has ls 6 [(0, .ref h_this), (1, .ref h_p1), (3, .int x3_26), (4, .int x4_26)] → Wd G A s.heap [(h_this, oX3 ad_this v_numberCount_26 q3 v_end_26), (h_p1, oX6 ad_p1 v_p1_length), ((ad_p1 0), cI G 200 a_p1_letters), ((ad_this 0), cI G 4 a_numbers_26)] H locs → W p l e ({ frames := 3, cells := 0, slots := 0, locals := 66 } : Room) s m args below meth c H locs 0 0 Q (F0 m 26 ls []) := by
    intro n
    induction n with
    | zero => intro x3_26 x4_26 v_end_26 v_numberCount_26 a_numbers_26 ls H locs hF hl hW; have h0 : none = some out := hF; cases h0
    | succ n ih =>
      intro x3_26 x4_26 v_end_26 v_numberCount_26 a_numbers_26 ls H locs hF hl hW
      rw [L_X3_readAt_26] at hF
      refine lv_iload hx hb dX3_readAt_26 (lv_at hl 3 rfl) ?_
      refine lv_iconst (v := 4) hx hb dX3_readAt_28 (by decide) ?_
      refine lv_icmp_ge (tgt := 101) hx hb dX3_readAt_29 (by decide) (fun c_29 => ?_) (fun c_29 => ?_)
      · have hF := ite_t hF c_29
        exact J_101 x3_26 v_end_26 v_numberCount_26 a_numbers_26 _ _ _ hF (lv_sub hl [0, 2] rfl) hW
      · have hF := ite_f hF c_29
        refine lv_iload_n hx hb dX3_readAt_32 rfl (lv_at hl 2 rfl) ?_
        refine lv_if_eq (tgt := 101) hx hb dX3_readAt_33 (by decide) (fun c_33 => ?_) (fun c_33 => ?_)
        · have hF := ite_t hF c_33
          exact J_101 x3_26 v_end_26 v_numberCount_26 a_numbers_26 _ _ _ hF (lv_sub hl [0, 2] rfl) hW
        · have hF := ite_f hF c_33
          refine lv_aload_n hx hb dX3_readAt_36 rfl (lv_at hl 0 rfl) ?_
          refine lv_aload_n hx hb dX3_readAt_37 rfl (lv_at hl 1 rfl) ?_
          obtain ⟨q38, c_38, hF⟩ := bd_el hF
          refine wcZ (ws' := [(h_this, oX3 ad_this q38.2.2.1 q3 q38.2.1), (h_p1, oX6 ad_p1 v_p1_length), ((ad_p1 0), cI G 200 a_p1_letters), ((ad_this 0), cI G 4 q38.2.2.2)]) (wc := [(h_this, oX3 ad_this v_numberCount_26 q3 v_end_26), (h_p1, oX6 ad_p1 v_p1_length), ((ad_p1 0), cI G 200 a_p1_letters), ((ad_this 0), cI G 4 a_numbers_26)]) (wr := []) (w1 := [(h_this, oX3 ad_this q38.2.2.1 q3 q38.2.1), (h_p1, oX6 ad_p1 v_p1_length), ((ad_p1 0), cI G 200 a_p1_letters), ((ad_this 0), cI G 4 q38.2.2.2)]) (va_runV (As := [.ref h_p1]) (rest := []) ⟨hx, hb, hml, hown, hg⟩ (c_X3_readNumber l G h_this h_p1 ad_this ad_p1 v_numberCount_26 q3 v_end_26 v_p1_length a_p1_letters a_numbers_26 q38 c_38 H.size) (cwV 1 hg (gV wd_2_39 wd_2_41 wd_0_1 wd_1_3 wd_2_42) rfl rfl rfl hdV_X3_readNumber ⟨(Nat.le_of_ble_eq_true rfl), (Nat.le_of_ble_eq_true rfl)⟩) (preV hc hW [0, 1, 2, 3] rfl (by decide) rfl rfl) rfl rfl hl.1 rfl (lv_room (Nat.le_of_ble_eq_true rfl)) dX3_readAt_38 ⟨Nat.zero_le _, Nat.zero_le _⟩) hA hW [0, 1, 2, 3] [] [0, 1, 2, 3] rfl rfl (by decide) (by decide) rfl (by decide) (fun z_38 H locs hW => ?_)
          refine lv_if_ne (tgt := 46) hx hb dX3_readAt_41 (by decide) (fun c_41 => ?_) (fun c_41 => ?_)
          · have hF := ite_f hF c_41
            refine lv_aload_n hx hb dX3_readAt_46 rfl (lv_at hl 1 rfl) ?_
            refine lv_aload_n hx hb dX3_readAt_47 rfl (lv_at hl 0 rfl) ?_
            refine va_get (D := G.1) (ci := 3) (v := .int q38.2.1) (C := RX3) (T := TX3) (N := 4) hx hb hg hu_X3 hown hc.1 hW.1 0 rfl rfl 3 (by decide) (hg _ wd_1_52) (fun _ h9 => h9) rfl dX3_readAt_48 ?_
            obtain ⟨q51, c_51, hF⟩ := bd_el hF
            refine wcI (ws' := [(h_this, oX3 ad_this q38.2.2.1 q3 q38.2.1), (h_p1, oX6 ad_p1 v_p1_length), ((ad_p1 0), cI G 200 a_p1_letters), ((ad_this 0), cI G 4 q38.2.2.2)]) (wc := [(h_p1, oX6 ad_p1 v_p1_length), ((ad_p1 0), cI G 200 a_p1_letters)]) (wr := [(h_this, oX3 ad_this q38.2.2.1 q3 q38.2.1), ((ad_this 0), cI G 4 q38.2.2.2)]) (w1 := [(h_p1, oX6 ad_p1 v_p1_length), ((ad_p1 0), cI G 200 a_p1_letters)]) (va_runV (As := [.int q38.2.1]) (rest := []) ⟨hx, hb, hml, hown, hg⟩ (c_X6_letterAt l G q38.2.1 h_p1 ad_p1 v_p1_length a_p1_letters q51 c_51 H.size) (cwV 1 hg (gV wd_2_32 wd_2_33 wd_2_34 wd_1_2 wd_2_35) rfl rfl rfl hdV_X6_letterAt ⟨(Nat.le_of_ble_eq_true rfl), (Nat.le_of_ble_eq_true rfl)⟩) (preV hc hW [1, 2] rfl (by decide) rfl rfl) rfl rfl hl.1 rfl (lv_room (Nat.le_of_ble_eq_true rfl)) dX3_readAt_51 ⟨Nat.zero_le _, Nat.zero_le _⟩) hA hW [1, 2] [0, 3] [0, 2, 3, 1] rfl rfl (by decide) (by decide) rfl (by decide) (fun H locs hW => ?_)
            refine lv_istore (lv' := [(5, .int q51), (0, .ref h_this), (1, .ref h_p1), (3, .int x3_26), (4, .int x4_26)]) hx hb dX3_readAt_54 hl (by decide) rfl (fun ls hl => ?_)
            refine lv_aload_n hx hb dX3_readAt_56 rfl (lv_at hl 1 rfl) ?_
            refine lv_dup hx hb dX3_readAt_57 rfl ?_
            refine va_get (D := G.1) (ci := 3) (v := .int q38.2.1) (C := RX3) (T := TX3) (N := 4) hx hb hg hu_X3 hown hc.1 hW.1 0 rfl rfl 3 (by decide) (hg _ wd_1_52) (fun _ h9 => h9) rfl dX3_readAt_58 ?_
            refine lv_iconst (v := 1) hx hb dX3_readAt_61 (by decide) ?_
            refine lv_iadd hx hb dX3_readAt_62 ?_
            refine va_put (D := G.1) (ci := 3) (v := .int ((q38.2.1 + 1))) (ty := .int) (C := RX3) (T := TX3) (N := 4) hx hb hg hu_X3 tyX3 tyX3_ok nmX3 hown hc.1 hW.1 hW.2.1 hW.2.2 0 rfl rfl 3 (by decide) (hg _ wd_1_52) (fun _ h9 => h9) rfl (by decide +kernel) rfl rfl (Nat.le_of_ble_eq_true rfl) dX3_readAt_63 (fun H locs hP hD hS => ?_)
            have hW : Wd G A s.heap [(h_this, oX3 ad_this q38.2.2.1 q3 ((q38.2.1 + 1))), (h_p1, oX6 ad_p1 v_p1_length), ((ad_p1 0), cI G 200 a_p1_letters), ((ad_this 0), cI G 4 q38.2.2.2)] H locs := ⟨hP, hD, hS⟩
            refine lv_iload hx hb dX3_readAt_66 (lv_at hl 0 rfl) ?_
            refine lv_bipush (v := 44) hx hb dX3_readAt_68 (by decide) ?_
            obtain ⟨k_82, e_82, hF⟩ := jn_el hF
            have J_82 : ∀ (ls : Array Slot) (H : Heap) (locs : List Loc), k_82 = some out → lv_has ls 6 [(0, .ref h_this), (1, .ref h_p1), (4, .int x4_26), (5, .int q51)] → Wd G A s.heap [(h_this, oX3 ad_this q38.2.2.1 q3 ((q38.2.1 + 1))), (h_p1, oX6 ad_p1 v_p1_length), ((ad_p1 0), cI G 200 a_p1_letters), ((ad_this 0), cI G 4 q38.2.2.2)] H locs → W p l e ({ frames := 3, cells := 0, slots := 0, locals := 66 } : Room) s m args below meth c H locs 0 0 Q (F0 m 82 ls []) := by
              intro ls H locs hF hl hW
              rw [e_82] at hF
              refine lv_iload hx hb dX3_readAt_82 (lv_at hl 3 rfl) ?_
              refine lv_bipush (v := 44) hx hb dX3_readAt_84 (by decide) ?_
              obtain ⟨k_94, e_94, hF⟩ := jn_el hF
              have J_94 : ∀ (j0_94 : Int32) (ls : Array Slot) (H : Heap) (locs : List Loc), k_94 j0_94 = some out → lv_has ls 6 [(0, .ref h_this), (1, .ref h_p1), (4, .int x4_26)] → Wd G A s.heap [(h_this, oX3 ad_this q38.2.2.1 q3 ((q38.2.1 + 1))), (h_p1, oX6 ad_p1 v_p1_length), ((ad_p1 0), cI G 200 a_p1_letters), ((ad_this 0), cI G 4 q38.2.2.2)] H locs → W p l e ({ frames := 3, cells := 0, slots := 0, locals := 66 } : Room) s m args below meth c H locs 0 0 Q (F0 m 94 ls [.int j0_94]) := by
                intro j0_94 ls H locs hF hl hW
                rw [e_94] at hF
                dsimp only at hF
                refine lv_istore_n (lv' := [(3, .int j0_94), (0, .ref h_this), (1, .ref h_p1), (4, .int x4_26)]) hx hb dX3_readAt_94 rfl hl (by decide) rfl (fun ls hl => ?_)
                refine lv_iinc (v := (x4_26 + 1)) (lv' := [(4, .int ((x4_26 + 1))), (3, .int j0_94), (0, .ref h_this), (1, .ref h_p1)]) hx hb dX3_readAt_95 hl (k := 3) rfl rfl (by decide) rfl (fun ls hl => ?_)
                refine lv_goto (tgt := 26) hx hb dX3_readAt_98 (by decide) ?_
                exact ih j0_94 ((x4_26 + 1)) ((q38.2.1 + 1)) q38.2.2.1 q38.2.2.2 _ _ _ hF (lv_sub hl [2, 3, 1, 0] rfl) hW
              refine lv_icmp_ne (tgt := 93) hx hb dX3_readAt_86 (by decide) (fun c_86 => ?_) (fun c_86 => ?_)
              · have hF := ite_f hF c_86
                refine lv_iconst (v := 0) hx hb dX3_readAt_93 (by decide) ?_
                exact J_94 0 _ _ _ hF (lv_sub hl [0, 1, 2] rfl) hW
              · have hF := ite_t hF c_86
                refine lv_iconst (v := 1) hx hb dX3_readAt_89 (by decide) ?_
                refine lv_goto (tgt := 94) hx hb dX3_readAt_90 (by decide) ?_
                exact J_94 1 _ _ _ hF (lv_sub hl [0, 1, 2] rfl) hW
            refine lv_icmp_eq (tgt := 82) hx hb dX3_readAt_70 (by decide) (fun c_70 => ?_) (fun c_70 => ?_)
            · have hF := ite_t hF c_70
              exact J_82 _ _ _ hF (lv_sub hl [1, 2, 4, 0] rfl) hW
            · have hF := ite_f hF c_70
              refine lv_iload hx hb dX3_readAt_73 (lv_at hl 0 rfl) ?_
              refine lv_bipush (v := 59) hx hb dX3_readAt_75 (by decide) ?_
              refine lv_icmp_eq (tgt := 82) hx hb dX3_readAt_77 (by decide) (fun c_77 => ?_) (fun c_77 => ?_)
              · have hF := ite_t hF c_77
                exact J_82 _ _ _ hF (lv_sub hl [1, 2, 4, 0] rfl) hW
              · have hF := ite_f hF c_77
                refine lv_iconst (v := 0) hx hb dX3_readAt_80 (by decide) ?_
                obtain rfl := Option.some.inj hF
                exact hret _ _ _ _ hW (Or.inl rfl) dX3_readAt_81
          · have hF := ite_t hF c_41
            refine lv_iconst (v := 0) hx hb dX3_readAt_44 (by decide) ?_
            obtain rfl := Option.some.inj hF
            exact hret _ _ _ _ hW (Or.inl rfl) dX3_readAt_45
  exact L_26 5000 1 0 ((x2 + 1)) 0 a_numbers _ _ _ hF (lv_sub hl [2, 3, 1, 0] rfl) hW
