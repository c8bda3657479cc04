theorem dX7_append_0 : decode cX7_append 0 = .ok (.aload_n 0, 1) := by decide +kernel
theorem dX7_append_1 : decode cX7_append 1 = .ok (.getfield 21, 3) := by decide +kernel
theorem dX7_append_4 : decode cX7_append 4 = .ok (.bipush 8, 2) := by decide +kernel
theorem dX7_append_6 : decode cX7_append 6 = .ok (.if_icmp .ge 37, 3) := by decide +kernel
theorem dX7_append_9 : decode cX7_append 9 = .ok (.aload_n 0, 1) := by decide +kernel
theorem dX7_append_10 : decode cX7_append 10 = .ok (.getfield 9, 3) := by decide +kernel
theorem dX7_append_13 : decode cX7_append 13 = .ok (.aload_n 0, 1) := by decide +kernel
theorem dX7_append_14 : decode cX7_append 14 = .ok (.getfield 21, 3) := by decide +kernel
theorem dX7_append_17 : decode cX7_append 17 = .ok (.iload_n 1, 1) := by decide +kernel
theorem dX7_append_18 : decode cX7_append 18 = .ok (.invokestatic 25, 3) := by decide +kernel
theorem dX7_append_21 : decode cX7_append 21 = .ok (.aload_n 0, 1) := by decide +kernel
theorem dX7_append_22 : decode cX7_append 22 = .ok (.getfield 13, 3) := by decide +kernel
theorem dX7_append_25 : decode cX7_append 25 = .ok (.aload_n 0, 1) := by decide +kernel
theorem dX7_append_26 : decode cX7_append 26 = .ok (.getfield 21, 3) := by decide +kernel
theorem dX7_append_29 : decode cX7_append 29 = .ok (.iload_n 2, 1) := by decide +kernel
theorem dX7_append_30 : decode cX7_append 30 = .ok (.invokestatic 25, 3) := by decide +kernel
theorem dX7_append_33 : decode cX7_append 33 = .ok (.aload_n 0, 1) := by decide +kernel
theorem dX7_append_34 : decode cX7_append 34 = .ok (.dup, 1) := by decide +kernel
theorem dX7_append_35 : decode cX7_append 35 = .ok (.getfield 21, 3) := by decide +kernel
theorem dX7_append_38 : decode cX7_append 38 = .ok (.iconst 1, 1) := by decide +kernel
theorem dX7_append_39 : decode cX7_append 39 = .ok (.iadd, 1) := by decide +kernel
theorem dX7_append_40 : decode cX7_append 40 = .ok (.putfield 21, 3) := by decide +kernel
theorem dX7_append_43 : decode cX7_append 43 = .ok (.return_, 1) := by decide +kernel
def F_X7_append (x1 : Int32) (x2 : Int32) (v_pairs : Int32) (a_former : Nat → Int32) (a_latter : Nat → Int32) : Option (Int32 × (Nat → Int32) × (Nat → Int32)) := (if 8 ≤ v_pairs then some (v_pairs, a_former, a_latter) else (F_X4_put v_pairs x1 8 a_former).bind (fun q18 => (F_X4_put v_pairs x2 8 a_latter).bind (fun q30 => some ((v_pairs + 1), q18, q30))))
theorem hdV_X7_append : yX7_append.cls = RX7 ∧ yX7_append.cls ≠ "java/lang/invoke/MethodHandle" ∧ yX7_append.cls ≠ "java/lang/invoke/VarHandle" ∧ (parseMethodDescriptor yX7_append.desc).map (fun d => d.parameters.length) = some 2 := by decide +kernel
set_option maxHeartbeats 4000000 in
set_option maxRecDepth 100000 in
theorem c_X7_append (l : Launch) (G : GG) (x1 : Int32) (x2 : Int32) (h_this : Nat) (ad_this : Nat → Nat) (v_pairs : Int32) (a_former : Nat → Int32) (a_latter : Nat → Int32) (out : Int32 × (Nat → Int32) × (Nat → Int32)) (hF : F_X7_append x1 x2 v_pairs a_former a_latter = some out) : CtrV l yX7_append (WS yX7_append cX7_append 3 none) { frames := 1, cells := 0, slots := 0, locals := 22 } G [.ref h_this, .int x1, .int x2] [(h_this, oX7 ad_this v_pairs), ((ad_this 0), cI G 8 a_former), ((ad_this 1), cI G 8 a_latter)] [(h_this, oX7 ad_this out.1), ((ad_this 0), cI G 8 out.2.1), ((ad_this 1), cI G 8 out.2.2)] := by
  refine startV (cc := cX7_append) (maxL := 3) (by decide) rfl (Nat.le_of_ble_eq_true rfl) ?_
  intro p e s m args below meth c A Q hx hb hml hts hown hc hA hret ls H locs hl hW
  have hown : s.vm.findClass RX7 = some m.cls := hown
  have hg : ∀ w ∈ GOODS, w.before _ s = true := fun w h => hts w (List.mem_cons_of_mem _ h)
  have hl : lv_has ls 3 [(0, .ref h_this), (1, .int x1), (2, .int x2)] := hl
  rw [F_X7_append] at hF
  refine lv_aload_n hx hb dX7_append_0 rfl (lv_at hl 0 rfl) ?_
  refine va_get (D := G.1) (ci := 6) (v := .int v_pairs) (C := RX7) (T := TX7) (N := 4) hx hb hg hu_X7 hown hc.1 hW.1 0 rfl rfl 3 (by decide) (hg _ wd_1_162) (fun _ h9 => h9) rfl dX7_append_1 ?_
  refine lv_bipush (v := 8) hx hb dX7_append_4 (by decide) ?_
  refine lv_icmp_ge (tgt := 43) hx hb dX7_append_6 (by decide) (fun c_6 => ?_) (fun c_6 => ?_)
  · have hF := ite_t hF c_6
    obtain rfl := Option.some.inj hF
    exact hret _ _ _ _ hW dX7_append_43
  · have hF := ite_f hF c_6
    refine lv_aload_n hx hb dX7_append_9 rfl (lv_at hl 0 rfl) ?_
    refine va_get (D := G.1) (ci := 6) (v := .ref ((ad_this 0))) (C := RX7) (T := TX7) (N := 4) hx hb hg hu_X7 hown hc.1 hW.1 0 rfl rfl 0 (by decide) (hg _ wd_1_159) (fun _ h9 => h9) rfl dX7_append_10 ?_
    refine lv_aload_n hx hb dX7_append_13 rfl (lv_at hl 0 rfl) ?_
    refine va_get (D := G.1) (ci := 6) (v := .int v_pairs) (C := RX7) (T := TX7) (N := 4) hx hb hg hu_X7 hown hc.1 hW.1 0 rfl rfl 3 (by decide) (hg _ wd_1_162) (fun _ h9 => h9) rfl dX7_append_14 ?_
    refine lv_iload_n hx hb dX7_append_17 rfl (lv_at hl 1 rfl) ?_
    obtain ⟨q18, c_18, hF⟩ := bd_el hF
    refine wcV (ws' := [(h_this, oX7 ad_this v_pairs), ((ad_this 0), cI G 8 q18), ((ad_this 1), cI G 8 a_latter)]) (wc := [((ad_this 0), cI G 8 a_former)]) (wr := [(h_this, oX7 ad_this v_pairs), ((ad_this 1), cI G 8 a_latter)]) (w1 := [((ad_this 0), cI G 8 q18)]) (va_runS (As := [.ref ((ad_this 0)), .int v_pairs, .int x1]) (rest := []) ⟨hx, hb, hml, hown, hg⟩ (c_X4_put l G v_pairs x1 8 ((ad_this 0)) a_former q18 c_18 H.size) (va_cwS 3 hg (gS wd_3_188 wd_2_17 wd_1_14 wd_2_18) rfl rfl rfl hdS_X4_put ⟨(Nat.le_of_ble_eq_true rfl), (Nat.le_of_ble_eq_true rfl)⟩) (preS hc hW [1] rfl (by decide)) rfl rfl hl.1 rfl (lv_room (Nat.le_of_ble_eq_true rfl)) dX7_append_18 ⟨Nat.zero_le _, Nat.zero_le _⟩) hA hW [1] [0, 2] [0, 2, 1] rfl rfl (by decide) (by decide) rfl (by decide) (fun H locs hW => ?_)
    refine lv_aload_n hx hb dX7_append_21 rfl (lv_at hl 0 rfl) ?_
    refine va_get (D := G.1) (ci := 6) (v := .ref ((ad_this 1))) (C := RX7) (T := TX7) (N := 4) hx hb hg hu_X7 hown hc.1 hW.1 0 rfl rfl 1 (by decide) (hg _ wd_1_160) (fun _ h9 => h9) rfl dX7_append_22 ?_
    refine lv_aload_n hx hb dX7_append_25 rfl (lv_at hl 0 rfl) ?_
    refine va_get (D := G.1) (ci := 6) (v := .int v_pairs) (C := RX7) (T := TX7) (N := 4) hx hb hg hu_X7 hown hc.1 hW.1 0 rfl rfl 3 (by decide) (hg _ wd_1_162) (fun _ h9 => h9) rfl dX7_append_26 ?_
    refine lv_iload_n hx hb dX7_append_29 rfl (lv_at hl 2 rfl) ?_
    obtain ⟨q30, c_30, hF⟩ := bd_el hF
    refine wcV (ws' := [(h_this, oX7 ad_this v_pairs), ((ad_this 0), cI G 8 q18), ((ad_this 1), cI G 8 q30)]) (wc := [((ad_this 1), cI G 8 a_latter)]) (wr := [(h_this, oX7 ad_this v_pairs), ((ad_this 0), cI G 8 q18)]) (w1 := [((ad_this 1), cI G 8 q30)]) (va_runS (As := [.ref ((ad_this 1)), .int v_pairs, .int x2]) (rest := []) ⟨hx, hb, hml, hown, hg⟩ (c_X4_put l G v_pairs x2 8 ((ad_this 1)) a_latter q30 c_30 H.size) (va_cwS 3 hg (gS wd_3_188 wd_2_17 wd_1_14 wd_2_18) rfl rfl rfl hdS_X4_put ⟨(Nat.le_of_ble_eq_true rfl), (Nat.le_of_ble_eq_true rfl)⟩) (preS hc hW [2] rfl (by decide)) rfl rfl hl.1 rfl (lv_room (Nat.le_of_ble_eq_true rfl)) dX7_append_30 ⟨Nat.zero_le _, Nat.zero_le _⟩) hA hW [2] [0, 1] [0, 1, 2] rfl rfl (by decide) (by decide) rfl (by decide) (fun H locs hW => ?_)
    refine lv_aload_n hx hb dX7_append_33 rfl (lv_at hl 0 rfl) ?_
    refine lv_dup hx hb dX7_append_34 rfl ?_
    refine va_get (D := G.1) (ci := 6) (v := .int v_pairs) (C := RX7) (T := TX7) (N := 4) hx hb hg hu_X7 hown hc.1 hW.1 0 rfl rfl 3 (by decide) (hg _ wd_1_162) (fun _ h9 => h9) rfl dX7_append_35 ?_
    refine lv_iconst (v := 1) hx hb dX7_append_38 (by decide) ?_
    refine lv_iadd hx hb dX7_append_39 ?_
    refine va_put (D := G.1) (ci := 6) (v := .int ((v_pairs + 1))) (ty := .int) (C := RX7) (T := TX7) (N := 4) hx hb hg hu_X7 tyX7 tyX7_ok nmX7 hown hc.1 hW.1 hW.2.1 hW.2.2 0 rfl rfl 3 (by decide) (hg _ wd_1_162) (fun _ h9 => h9) rfl (by decide +kernel) rfl rfl (Nat.le_of_ble_eq_true rfl) dX7_append_40 (fun H locs hP hD hS => ?_)
    have hW : Wd G A s.heap [(h_this, oX7 ad_this ((v_pairs + 1))), ((ad_this 0), cI G 8 q18), ((ad_this 1), cI G 8 q30)] H locs := ⟨hP, hD, hS⟩
    obtain rfl := Option.some.inj hF
    exact hret _ _ _ _ hW dX7_append_43
theorem dX7_toldAheadOf_0 : decode cX7_toldAheadOf 0 = .ok (.iconst 0, 1) := by decide +kernel
theorem dX7_toldAheadOf_1 : decode cX7_toldAheadOf 1 = .ok (.istore_n 2, 1) := by decide +kernel
theorem dX7_toldAheadOf_2 : decode cX7_toldAheadOf 2 = .ok (.iconst 0, 1) := by decide +kernel
theorem dX7_toldAheadOf_3 : decode cX7_toldAheadOf 3 = .ok (.istore_n 3, 1) := by decide +kernel
theorem dX7_toldAheadOf_4 : decode cX7_toldAheadOf 4 = .ok (.iload_n 3, 1) := by decide +kernel
theorem dX7_toldAheadOf_5 : decode cX7_toldAheadOf 5 = .ok (.aload_n 0, 1) := by decide +kernel
theorem dX7_toldAheadOf_6 : decode cX7_toldAheadOf 6 = .ok (.getfield 21, 3) := by decide +kernel
theorem dX7_toldAheadOf_9 : decode cX7_toldAheadOf 9 = .ok (.if_icmp .ge 34, 3) := by decide +kernel
theorem dX7_toldAheadOf_12 : decode cX7_toldAheadOf 12 = .ok (.aload_n 0, 1) := by decide +kernel
theorem dX7_toldAheadOf_13 : decode cX7_toldAheadOf 13 = .ok (.getfield 13, 3) := by decide +kernel
theorem dX7_toldAheadOf_16 : decode cX7_toldAheadOf 16 = .ok (.iload_n 3, 1) := by decide +kernel
theorem dX7_toldAheadOf_17 : decode cX7_toldAheadOf 17 = .ok (.invokestatic 31, 3) := by decide +kernel
theorem dX7_toldAheadOf_20 : decode cX7_toldAheadOf 20 = .ok (.iload_n 1, 1) := by decide +kernel
theorem dX7_toldAheadOf_21 : decode cX7_toldAheadOf 21 = .ok (.if_icmp .ne 16, 3) := by decide +kernel
theorem dX7_toldAheadOf_24 : decode cX7_toldAheadOf 24 = .ok (.iload_n 2, 1) := by decide +kernel
theorem dX7_toldAheadOf_25 : decode cX7_toldAheadOf 25 = .ok (.iconst 1, 1) := by decide +kernel
theorem dX7_toldAheadOf_26 : decode cX7_toldAheadOf 26 = .ok (.aload_n 0, 1) := by decide +kernel
theorem dX7_toldAheadOf_27 : decode cX7_toldAheadOf 27 = .ok (.getfield 9, 3) := by decide +kernel
theorem dX7_toldAheadOf_30 : decode cX7_toldAheadOf 30 = .ok (.iload_n 3, 1) := by decide +kernel
theorem dX7_toldAheadOf_31 : decode cX7_toldAheadOf 31 = .ok (.invokestatic 31, 3) := by decide +kernel
theorem dX7_toldAheadOf_34 : decode cX7_toldAheadOf 34 = .ok (.ishl, 1) := by decide +kernel
theorem dX7_toldAheadOf_35 : decode cX7_toldAheadOf 35 = .ok (.ior, 1) := by decide +kernel
theorem dX7_toldAheadOf_36 : decode cX7_toldAheadOf 36 = .ok (.istore_n 2, 1) := by decide +kernel
theorem dX7_toldAheadOf_37 : decode cX7_toldAheadOf 37 = .ok (.iinc 3 1, 3) := by decide +kernel
theorem dX7_toldAheadOf_40 : decode cX7_toldAheadOf 40 = .ok (.goto (-36), 3) := by decide +kernel
theorem dX7_toldAheadOf_43 : decode cX7_toldAheadOf 43 = .ok (.iload_n 2, 1) := by decide +kernel
theorem dX7_toldAheadOf_44 : decode cX7_toldAheadOf 44 = .ok (.ireturn, 1) := by decide +kernel
def L_X7_toldAheadOf_4 (x1 : Int32) (v_pairs : Int32) (a_former : Nat → Int32) (a_latter : Nat → Int32)  : Nat → Int32 → Int32 → Option (Int32)
  | 0, _, _ => none
  | n + 1, x2_4, x3_4 => (if v_pairs ≤ x3_4 then some (x2_4) else (F_X4_at x3_4 8 a_latter).bind (fun q17 => jn (fun (x2_37 : Int32) => L_X7_toldAheadOf_4 x1 v_pairs a_former a_latter n x2_37 ((x3_4 + 1))) (fun k_37 => (if q17 = x1 then (F_X4_at x3_4 8 a_former).bind (fun q31 => k_37 ((x2_4 ||| ((1 : Int32) <<< (q31 &&& 31))))) else k_37 x2_4))))
def F_X7_toldAheadOf (x1 : Int32) (v_pairs : Int32) (a_former : Nat → Int32) (a_latter : Nat → Int32) : Option (Int32) := L_X7_toldAheadOf_4 x1 v_pairs a_former a_latter 5000 0 0
theorem hdV_X7_toldAheadOf : yX7_toldAheadOf.cls = RX7 ∧ yX7_toldAheadOf.cls ≠ "java/lang/invoke/MethodHandle" ∧ yX7_toldAheadOf.cls ≠ "java/lang/invoke/VarHandle" ∧ (parseMethodDescriptor yX7_toldAheadOf.desc).map (fun d => d.parameters.length) = some 1 := by decide +kernel
set_option maxHeartbeats 4000000 in
set_option maxRecDepth 100000 in
theorem c_X7_toldAheadOf (l : Launch) (G : GG) (x1 : Int32) (h_this : Nat) (ad_this : Nat → Nat) (v_pairs : Int32) (a_former : Nat → Int32) (a_latter : Nat → Int32) (out : Int32) (hF : F_X7_toldAheadOf x1 v_pairs a_former a_latter = some out) : CtrI l yX7_toldAheadOf (WS yX7_toldAheadOf cX7_toldAheadOf 4 (some .int)) { frames := 1, cells := 0, slots := 0, locals := 21 } G [.ref h_this, .int x1] [(h_this, oX7 ad_this v_pairs), ((ad_this 0), cI G 8 a_former), ((ad_this 1), cI G 8 a_latter)] [(h_this, oX7 ad_this v_pairs), ((ad_this 0), cI G 8 a_former), ((ad_this 1), cI G 8 a_latter)] out := by
  refine startI (cc := cX7_toldAheadOf) (maxL := 4) (by decide) rfl (Nat.le_of_ble_eq_true rfl) ?_
  intro p e s m args below meth c A Q hx hb hml hts hown hc hA hret ls H locs hl hW
  have hown : s.vm.findClass RX7 = some m.cls := hown
  have hg : ∀ w ∈ GOODS, w.before _ s = true := fun w h => hts w (List.mem_cons_of_mem _ h)
  have hl : lv_has ls 4 [(0, .ref h_this), (1, .int x1)] := hl
  rw [F_X7_toldAheadOf] at hF
  refine lv_iconst (v := 0) hx hb dX7_toldAheadOf_0 (by decide) ?_
  refine lv_istore_n (lv' := [(2, .int 0), (0, .ref h_this), (1, .int x1)]) hx hb dX7_toldAheadOf_1 rfl hl (by decide) rfl (fun ls hl => ?_)
  refine lv_iconst (v := 0) hx hb dX7_toldAheadOf_2 (by decide) ?_
  refine lv_istore_n (lv' := [(3, .int 0), (2, .int 0), (0, .ref h_this), (1, .int x1)]) hx hb dX7_toldAheadOf_3 rfl hl (by decide) rfl (fun ls hl => ?_)
  have L_4 : ∀ (n : Nat) (x2_4 : Int32) (x3_4 : Int32) (ls : Array Slot) (H : Heap) (locs : List Loc), L_X7_toldAheadOf_4 x1 v_pairs a_former a_latter n x2_4 x3_4 = some out → lv_has ls 4 [(0, .ref h_this), (1, .int x1), (2, .int x2_4), (3, .int x3_4)] → Wd G A s.heap [(h_this, oX7 ad_this v_pairs), ((ad_this 0), cI G 8 a_former), ((ad_this 1), cI G 8 a_latter)] H locs → W p l e ({ frames := 1, cells := 0, slots := 0, locals := 21 } : Room) s m args below meth c H locs 0 0 Q (F0 m 4 ls []) := by
    intro n
    induction n with
    | zero => intro x2_4 x3_4 ls H locs hF hl hW; have h0 : none = some out := hF; cases h0
    | succ n ih =>
      intro x2_4 x3_4 ls H locs hF hl hW
      rw [L_X7_toldAheadOf_4] at hF
      refine lv_iload_n hx hb dX7_toldAheadOf_4 rfl (lv_at hl 3 rfl) ?_
      refine lv_aload_n hx hb dX7_toldAheadOf_5 rfl (lv_at hl 0 rfl) ?_
      refine va_get (D := G.1) (ci := 6) (v := .int v_pairs) (C := RX7) (T := TX7) (N := 4) hx hb hg hu_X7 hown hc.1 hW.1 0 rfl rfl 3 (by decide) (hg _ wd_1_162) (fun _ h9 => h9) rfl dX7_toldAheadOf_6 ?_
      refine lv_icmp_ge (tgt := 43) hx hb dX7_toldAheadOf_9 (by decide) (fun c_9 => ?_) (fun c_9 => ?_)
      · have hF := ite_t hF c_9
        refine lv_iload_n hx hb dX7_toldAheadOf_43 rfl (lv_at hl 2 rfl) ?_
        obtain rfl := Option.some.inj hF
        exact hret _ _ _ _ hW dX7_toldAheadOf_44
      · have hF := ite_f hF c_9
        refine lv_aload_n hx hb dX7_toldAheadOf_12 rfl (lv_at hl 0 rfl) ?_
        refine va_get (D := G.1) (ci := 6) (v := .ref ((ad_this 1))) (C := RX7) (T := TX7) (N := 4) hx hb hg hu_X7 hown hc.1 hW.1 0 rfl rfl 1 (by decide) (hg _ wd_1_160) (fun _ h9 => h9) rfl dX7_toldAheadOf_13 ?_
        refine lv_iload_n hx hb dX7_toldAheadOf_16 rfl (lv_at hl 3 rfl) ?_
        obtain ⟨q17, c_17, hF⟩ := bd_el hF
        refine wcI (ws' := [(h_this, oX7 ad_this v_pairs), ((ad_this 0), cI G 8 a_former), ((ad_this 1), cI G 8 a_latter)]) (wc := [((ad_this 1), cI G 8 a_latter)]) (wr := [(h_this, oX7 ad_this v_pairs), ((ad_this 0), cI G 8 a_former)]) (w1 := [((ad_this 1), cI G 8 a_latter)]) (va_runS (As := [.ref ((ad_this 1)), .int x3_4]) (rest := []) ⟨hx, hb, hml, hown, hg⟩ (c_X4_at l G x3_4 8 ((ad_this 1)) a_latter q17 c_17 H.size) (va_cwS 2 hg (gS wd_3_207 wd_2_37 wd_1_14 wd_2_38) rfl rfl rfl hdS_X4_at ⟨(Nat.le_of_ble_eq_true rfl), (Nat.le_of_ble_eq_true rfl)⟩) (preS hc hW [2] rfl (by decide)) rfl rfl hl.1 rfl (lv_room (Nat.le_of_ble_eq_true rfl)) dX7_toldAheadOf_17 ⟨Nat.zero_le _, Nat.zero_le _⟩) hA hW [2] [0, 1] [0, 1, 2] rfl rfl (by decide) (by decide) rfl (by decide) (fun H locs hW => ?_)
        refine lv_iload_n hx hb dX7_toldAheadOf_20 rfl (lv_at hl 1 rfl) ?_
        obtain ⟨k_37, e_37, hF⟩ := jn_el hF
        have J_37 : ∀ (x2_37 : Int32) (ls : Array Slot) (H : Heap) (locs : List Loc), k_37 x2_37 = some out → lv_has ls 4 [(0, .ref h_this), (1, .int x1), (2, .int x2_37), (3, .int x3_4)] → Wd G A s.heap [(h_this, oX7 ad_this v_pairs), ((ad_this 0), cI G 8 a_former), ((ad_this 1), cI G 8 a_latter)] H locs → W p l e ({ frames := 1, cells := 0, slots := 0, locals := 21 } : Room) s m args below meth c H locs 0 0 Q (F0 m 37 ls []) := by
          intro x2_37 ls H locs hF hl hW
          rw [e_37] at hF
          dsimp only at hF
          refine lv_iinc (v := (x3_4 + 1)) (lv' := [(3, .int ((x3_4 + 1))), (0, .ref h_this), (1, .int x1), (2, .int x2_37)]) hx hb dX7_toldAheadOf_37 hl (k := 3) rfl rfl (by decide) rfl (fun ls hl => ?_)
          refine lv_goto (tgt := 4) hx hb dX7_toldAheadOf_40 (by decide) ?_
          exact ih x2_37 ((x3_4 + 1)) _ _ _ hF (lv_sub hl [1, 2, 3, 0] rfl) hW
        refine lv_icmp_ne (tgt := 37) hx hb dX7_toldAheadOf_21 (by decide) (fun c_21 => ?_) (fun c_21 => ?_)
        · have hF := ite_f hF c_21
          exact J_37 x2_4 _ _ _ hF (lv_sub hl [0, 1, 2, 3] rfl) hW
        · have hF := ite_t hF c_21
          refine lv_iload_n hx hb dX7_toldAheadOf_24 rfl (lv_at hl 2 rfl) ?_
          refine lv_iconst (v := 1) hx hb dX7_toldAheadOf_25 (by decide) ?_
          refine lv_aload_n hx hb dX7_toldAheadOf_26 rfl (lv_at hl 0 rfl) ?_
          refine va_get (D := G.1) (ci := 6) (v := .ref ((ad_this 0))) (C := RX7) (T := TX7) (N := 4) hx hb hg hu_X7 hown hc.1 hW.1 0 rfl rfl 0 (by decide) (hg _ wd_1_159) (fun _ h9 => h9) rfl dX7_toldAheadOf_27 ?_
          refine lv_iload_n hx hb dX7_toldAheadOf_30 rfl (lv_at hl 3 rfl) ?_
          obtain ⟨q31, c_31, hF⟩ := bd_el hF
          refine wcI (ws' := [(h_this, oX7 ad_this v_pairs), ((ad_this 0), cI G 8 a_former), ((ad_this 1), cI G 8 a_latter)]) (wc := [((ad_this 0), cI G 8 a_former)]) (wr := [(h_this, oX7 ad_this v_pairs), ((ad_this 1), cI G 8 a_latter)]) (w1 := [((ad_this 0), cI G 8 a_former)]) (va_runS (As := [.ref ((ad_this 0)), .int x3_4]) (rest := [.int 1, .int x2_4]) ⟨hx, hb, hml, hown, hg⟩ (c_X4_at l G x3_4 8 ((ad_this 0)) a_former q31 c_31 H.size) (va_cwS 2 hg (gS wd_3_207 wd_2_37 wd_1_14 wd_2_38) rfl rfl rfl hdS_X4_at ⟨(Nat.le_of_ble_eq_true rfl), (Nat.le_of_ble_eq_true rfl)⟩) (preS hc hW [1] rfl (by decide)) rfl rfl hl.1 rfl (lv_room (Nat.le_of_ble_eq_true rfl)) dX7_toldAheadOf_31 ⟨Nat.zero_le _, Nat.zero_le _⟩) hA hW [1] [0, 2] [0, 2, 1] rfl rfl (by decide) (by decide) rfl (by decide) (fun H locs hW => ?_)
          refine lv_ishl hx hb dX7_toldAheadOf_34 ?_
          refine lv_ior hx hb dX7_toldAheadOf_35 ?_
          refine lv_istore_n (lv' := [(2, .int ((x2_4 ||| ((1 : Int32) <<< (q31 &&& 31))))), (0, .ref h_this), (1, .int x1), (3, .int x3_4)]) hx hb dX7_toldAheadOf_36 rfl hl (by decide) rfl (fun ls hl => ?_)
          exact J_37 ((x2_4 ||| ((1 : Int32) <<< (q31 &&& 31)))) _ _ _ hF (lv_sub hl [1, 2, 0, 3] rfl) hW
  exact L_4 5000 0 0 _ _ _ hF (lv_sub hl [2, 3, 1, 0] rfl) hW
theorem dX7_withNoneAhead_0 : decode cX7_withNoneAhead 0 = .ok (.iconst 0, 1) := by decide +kernel
theorem dX7_withNoneAhead_1 : decode cX7_withNoneAhead 1 = .ok (.istore_n 2, 1) := by decide +kernel
theorem dX7_withNoneAhead_2 : decode cX7_withNoneAhead 2 = .ok (.iconst 0, 1) := by decide +kernel
theorem dX7_withNoneAhead_3 : decode cX7_withNoneAhead 3 = .ok (.istore_n 3, 1) := by decide +kernel
theorem dX7_withNoneAhead_4 : decode cX7_withNoneAhead 4 = .ok (.iload_n 3, 1) := by decide +kernel
theorem dX7_withNoneAhead_5 : decode cX7_withNoneAhead 5 = .ok (.iload_n 1, 1) := by decide +kernel
theorem dX7_withNoneAhead_6 : decode cX7_withNoneAhead 6 = .ok (.if_icmp .ge 23, 3) := by decide +kernel
theorem dX7_withNoneAhead_9 : decode cX7_withNoneAhead 9 = .ok (.aload_n 0, 1) := by decide +kernel
theorem dX7_withNoneAhead_10 : decode cX7_withNoneAhead 10 = .ok (.iload_n 3, 1) := by decide +kernel
theorem dX7_withNoneAhead_11 : decode cX7_withNoneAhead 11 = .ok (.invokevirtual 35, 3) := by decide +kernel
theorem dX7_withNoneAhead_14 : decode cX7_withNoneAhead 14 = .ok (.ifCond .ne 9, 3) := by decide +kernel
theorem dX7_withNoneAhead_17 : decode cX7_withNoneAhead 17 = .ok (.iload_n 2, 1) := by decide +kernel
theorem dX7_withNoneAhead_18 : decode cX7_withNoneAhead 18 = .ok (.iconst 1, 1) := by decide +kernel
theorem dX7_withNoneAhead_19 : decode cX7_withNoneAhead 19 = .ok (.iload_n 3, 1) := by decide +kernel
theorem dX7_withNoneAhead_20 : decode cX7_withNoneAhead 20 = .ok (.ishl, 1) := by decide +kernel
theorem dX7_withNoneAhead_21 : decode cX7_withNoneAhead 21 = .ok (.ior, 1) := by decide +kernel
theorem dX7_withNoneAhead_22 : decode cX7_withNoneAhead 22 = .ok (.istore_n 2, 1) := by decide +kernel
theorem dX7_withNoneAhead_23 : decode cX7_withNoneAhead 23 = .ok (.iinc 3 1, 3) := by decide +kernel
theorem dX7_withNoneAhead_26 : decode cX7_withNoneAhead 26 = .ok (.goto (-22), 3) := by decide +kernel
theorem dX7_withNoneAhead_29 : decode cX7_withNoneAhead 29 = .ok (.iload_n 2, 1) := by decide +kernel
theorem dX7_withNoneAhead_30 : decode cX7_withNoneAhead 30 = .ok (.ireturn, 1) := by decide +kernel
def L_X7_withNoneAhead_4 (x1 : Int32) (v_pairs : Int32) (a_former : Nat → Int32) (a_latter : Nat → Int32)  : Nat → Int32 → Int32 → Option (Int32)
  | 0, _, _ => none
  | n + 1, x2_4, x3_4 => (if x1 ≤ x3_4 then some (x2_4) else (F_X7_toldAheadOf x3_4 v_pairs a_former a_latter).bind (fun q11 => jn (fun (x2_23 : Int32) => L_X7_withNoneAhead_4 x1 v_pairs a_former a_latter n x2_23 ((x3_4 + 1))) (fun k_23 => (if q11 = 0 then k_23 ((x2_4 ||| ((1 : Int32) <<< (x3_4 &&& 31)))) else k_23 x2_4))))
def F_X7_withNoneAhead (x1 : Int32) (v_pairs : Int32) (a_former : Nat → Int32) (a_latter : Nat → Int32) : Option (Int32) := L_X7_withNoneAhead_4 x1 v_pairs a_former a_latter 5000 0 0
theorem hdV_X7_withNoneAhead : yX7_withNoneAhead.cls = RX7 ∧ yX7_withNoneAhead.cls ≠ "java/lang/invoke/MethodHandle" ∧ yX7_withNoneAhead.cls ≠ "java/lang/invoke/VarHandle" ∧ (parseMethodDescriptor yX7_withNoneAhead.desc).map (fun d => d.parameters.length) = some 1 := by decide +kernel
set_option maxHeartbeats 4000000 in
set_option maxRecDepth 100000 in
theorem c_X7_withNoneAhead (l : Launch) (G : GG) (x1 : Int32) (h_this : Nat) (ad_this : Nat → Nat) (v_pairs : Int32) (a_former : Nat → Int32) (a_latter : Nat → Int32) (out : Int32) (hF : F_X7_withNoneAhead x1 v_pairs a_former a_latter = some out) : CtrI l yX7_withNoneAhead (WS yX7_withNoneAhead cX7_withNoneAhead 4 (some .int)) { frames := 2, cells := 0, slots := 0, locals := 44 } G [.ref h_this, .int x1] [(h_this, oX7 ad_this v_pairs), ((ad_this 0), cI G 8 a_former), ((ad_this 1), cI G 8 a_latter)] [(h_this, oX7 ad_this v_pairs), ((ad_this 0), cI G 8 a_former), ((ad_this 1), cI G 8 a_latter)] out := by
  refine startI (cc := cX7_withNoneAhead) (maxL := 4) (by decide) rfl (Nat.le_of_ble_eq_true rfl) ?_
  intro p e s m args below meth c A Q hx hb hml hts hown hc hA hret ls H locs hl hW
  have hown : s.vm.findClass RX7 = some m.cls := hown
  have hg : ∀ w ∈ GOODS, w.before _ s = true := fun w h => hts w (List.mem_cons_of_mem _ h)
  have hl : lv_has ls 4 [(0, .ref h_this), (1, .int x1)] := hl
  rw [F_X7_withNoneAhead] at hF
  refine lv_iconst (v := 0) hx hb dX7_withNoneAhead_0 (by decide) ?_
  refine lv_istore_n (lv' := [(2, .int 0), (0, .ref h_this), (1, .int x1)]) hx hb dX7_withNoneAhead_1 rfl hl (by decide) rfl (fun ls hl => ?_)
  refine lv_iconst (v := 0) hx hb dX7_withNoneAhead_2 (by decide) ?_
  refine lv_istore_n (lv' := [(3, .int 0), (2, .int 0), (0, .ref h_this), (1, .int x1)]) hx hb dX7_withNoneAhead_3 rfl hl (by decide) rfl (fun ls hl => ?_)
  have L_4 : ∀ (n : Nat) (x2_4 : Int32) (x3_4 : Int32) (ls : Array Slot) (H : Heap) (locs : List Loc), L_X7_withNoneAhead_4 x1 v_pairs a_former a_latter n x2_4 x3_4 = some out → lv_has ls 4 [(0, .ref h_this), (1, .int x1), (2, .int x2_4), (3, .int x3_4)] → Wd G A s.heap [(h_this, oX7 ad_this v_pairs), ((ad_this 0), cI G 8 a_former), ((ad_this 1), cI G 8 a_latter)] H locs → W p l e ({ frames := 2, cells := 0, slots := 0, locals := 44 } : Room) s m args below meth c H locs 0 0 Q (F0 m 4 ls []) := by
    intro n
    induction n with
    | zero => intro x2_4 x3_4 ls H locs hF hl hW; have h0 : none = some out := hF; cases h0
    | succ n ih =>
      intro x2_4 x3_4 ls H locs hF hl hW
      rw [L_X7_withNoneAhead_4] at hF
      refine lv_iload_n hx hb dX7_withNoneAhead_4 rfl (lv_at hl 3 rfl) ?_
      refine lv_iload_n hx hb dX7_withNoneAhead_5 rfl (lv_at hl 1 rfl) ?_
      refine lv_icmp_ge (tgt := 29) hx hb dX7_withNoneAhead_6 (by decide) (fun c_6 => ?_) (fun c_6 => ?_)
      · have hF := ite_t hF c_6
        refine lv_iload_n hx hb dX7_withNoneAhead_29 rfl (lv_at hl 2 rfl) ?_
        obtain rfl := Option.some.inj hF
        exact hret _ _ _ _ hW dX7_withNoneAhead_30
      · have hF := ite_f hF c_6
        refine lv_aload_n hx hb dX7_withNoneAhead_9 rfl (lv_at hl 0 rfl) ?_
        refine lv_iload_n hx hb dX7_withNoneAhead_10 rfl (lv_at hl 3 rfl) ?_
        obtain ⟨q11, c_11, hF⟩ := bd_el hF
        refine wcI (ws' := [(h_this, oX7 ad_this v_pairs), ((ad_this 0), cI G 8 a_former), ((ad_this 1), cI G 8 a_latter)]) (wc := [(h_this, oX7 ad_this v_pairs), ((ad_this 0), cI G 8 a_former), ((ad_this 1), cI G 8 a_latter)]) (wr := []) (w1 := [(h_this, oX7 ad_this v_pairs), ((ad_this 0), cI G 8 a_former), ((ad_this 1), cI G 8 a_latter)]) (va_runV (As := [.int x3_4]) (rest := []) ⟨hx, hb, hml, hown, hg⟩ (c_X7_toldAheadOf l G x3_4 h_this ad_this v_pairs a_former a_latter q11 c_11 H.size) (cwV 1 hg (gV wd_3_203 wd_3_205 wd_0_22 wd_1_7 wd_3_206) rfl rfl rfl hdV_X7_toldAheadOf ⟨(Nat.le_of_ble_eq_true rfl), (Nat.le_of_ble_eq_true rfl)⟩) (preV hc hW [0, 1, 2] rfl (by decide) rfl rfl) rfl rfl hl.1 rfl (lv_room (Nat.le_of_ble_eq_true rfl)) dX7_withNoneAhead_11 ⟨Nat.zero_le _, Nat.zero_le _⟩) hA hW [0, 1, 2] [] [0, 1, 2] rfl rfl (by decide) (by decide) rfl (by decide) (fun H locs hW => ?_)
        obtain ⟨k_23, e_23, hF⟩ := jn_el hF
        have J_23 : ∀ (x2_23 : Int32) (ls : Array Slot) (H : Heap) (locs : List Loc), k_23 x2_23 = some out → lv_has ls 4 [(0, .ref h_this), (1, .int x1), (2, .int x2_23), (3, .int x3_4)] → Wd G A s.heap [(h_this, oX7 ad_this v_pairs), ((ad_this 0), cI G 8 a_former), ((ad_this 1), cI G 8 a_latter)] H locs → W p l e ({ frames := 2, cells := 0, slots := 0, locals := 44 } : Room) s m args below meth c H locs 0 0 Q (F0 m 23 ls []) := by
          intro x2_23 ls H locs hF hl hW
          rw [e_23] at hF
          dsimp only at hF
          refine lv_iinc (v := (x3_4 + 1)) (lv' := [(3, .int ((x3_4 + 1))), (0, .ref h_this), (1, .int x1), (2, .int x2_23)]) hx hb dX7_withNoneAhead_23 hl (k := 3) rfl rfl (by decide) rfl (fun ls hl => ?_)
          refine lv_goto (tgt := 4) hx hb dX7_withNoneAhead_26 (by decide) ?_
          exact ih x2_23 ((x3_4 + 1)) _ _ _ hF (lv_sub hl [1, 2, 3, 0] rfl) hW
        refine lv_if_ne (tgt := 23) hx hb dX7_withNoneAhead_14 (by decide) (fun c_14 => ?_) (fun c_14 => ?_)
        · have hF := ite_f hF c_14
          exact J_23 x2_4 _ _ _ hF (lv_sub hl [0, 1, 2, 3] rfl) hW
        · have hF := ite_t hF c_14
          refine lv_iload_n hx hb dX7_withNoneAhead_17 rfl (lv_at hl 2 rfl) ?_
          refine lv_iconst (v := 1) hx hb dX7_withNoneAhead_18 (by decide) ?_
          refine lv_iload_n hx hb dX7_withNoneAhead_19 rfl (lv_at hl 3 rfl) ?_
          refine lv_ishl hx hb dX7_withNoneAhead_20 ?_
          refine lv_ior hx hb dX7_withNoneAhead_21 ?_
          refine lv_istore_n (lv' := [(2, .int ((x2_4 ||| ((1 : Int32) <<< (x3_4 &&& 31))))), (0, .ref h_this), (1, .int x1), (3, .int x3_4)]) hx hb dX7_withNoneAhead_22 rfl hl (by decide) rfl (fun ls hl => ?_)
          exact J_23 ((x2_4 ||| ((1 : Int32) <<< (x3_4 &&& 31)))) _ _ _ hF (lv_sub hl [1, 2, 0, 3] rfl) hW
  exact L_4 5000 0 0 _ _ _ hF (lv_sub hl [2, 3, 1, 0] rfl) hW
theorem dX7_ordersOf_0 : decode cX7_ordersOf 0 = .ok (.iconst 0, 1) := by decide +kernel
theorem dX7_ordersOf_1 : decode cX7_ordersOf 1 = .ok (.istore_n 2, 1) := by decide +kernel
theorem dX7_ordersOf_2 : decode cX7_ordersOf 2 = .ok (.iload_n 2, 1) := by decide +kernel
theorem dX7_ordersOf_3 : decode cX7_ordersOf 3 = .ok (.iload_n 1, 1) := by decide +kernel
theorem dX7_ordersOf_4 : decode cX7_ordersOf 4 = .ok (.invokestatic 39, 3) := by decide +kernel
theorem dX7_ordersOf_7 : decode cX7_ordersOf 7 = .ok (.if_icmp .ge 26, 3) := by decide +kernel
theorem dX7_ordersOf_10 : decode cX7_ordersOf 10 = .ok (.aload_n 0, 1) := by decide +kernel
theorem dX7_ordersOf_11 : decode cX7_ordersOf 11 = .ok (.getfield 18, 3) := by decide +kernel
theorem dX7_ordersOf_14 : decode cX7_ordersOf 14 = .ok (.iload_n 2, 1) := by decide +kernel
theorem dX7_ordersOf_15 : decode cX7_ordersOf 15 = .ok (.iload_n 2, 1) := by decide +kernel
theorem dX7_ordersOf_16 : decode cX7_ordersOf 16 = .ok (.ifCond .ne 7, 3) := by decide +kernel
theorem dX7_ordersOf_19 : decode cX7_ordersOf 19 = .ok (.iconst 1, 1) := by decide +kernel
theorem dX7_ordersOf_20 : decode cX7_ordersOf 20 = .ok (.goto 4, 3) := by decide +kernel
theorem dX7_ordersOf_23 : decode cX7_ordersOf 23 = .ok (.iconst 0, 1) := by decide +kernel
theorem dX7_ordersOf_24 : decode cX7_ordersOf 24 = .ok (.invokestatic 25, 3) := by decide +kernel
theorem dX7_ordersOf_27 : decode cX7_ordersOf 27 = .ok (.iinc 2 1, 3) := by decide +kernel
theorem dX7_ordersOf_30 : decode cX7_ordersOf 30 = .ok (.goto (-28), 3) := by decide +kernel
theorem dX7_ordersOf_33 : decode cX7_ordersOf 33 = .ok (.iconst 0, 1) := by decide +kernel
theorem dX7_ordersOf_34 : decode cX7_ordersOf 34 = .ok (.istore_n 2, 1) := by decide +kernel
theorem dX7_ordersOf_35 : decode cX7_ordersOf 35 = .ok (.iload_n 2, 1) := by decide +kernel
theorem dX7_ordersOf_36 : decode cX7_ordersOf 36 = .ok (.iload_n 1, 1) := by decide +kernel
theorem dX7_ordersOf_37 : decode cX7_ordersOf 37 = .ok (.invokestatic 39, 3) := by decide +kernel
theorem dX7_ordersOf_40 : decode cX7_ordersOf 40 = .ok (.if_icmp .ge 87, 3) := by decide +kernel
theorem dX7_ordersOf_43 : decode cX7_ordersOf 43 = .ok (.iconst 0, 1) := by decide +kernel
theorem dX7_ordersOf_44 : decode cX7_ordersOf 44 = .ok (.istore_n 3, 1) := by decide +kernel
theorem dX7_ordersOf_45 : decode cX7_ordersOf 45 = .ok (.iload_n 3, 1) := by decide +kernel
theorem dX7_ordersOf_46 : decode cX7_ordersOf 46 = .ok (.iload_n 1, 1) := by decide +kernel
theorem dX7_ordersOf_47 : decode cX7_ordersOf 47 = .ok (.if_icmp .ge 74, 3) := by decide +kernel
theorem dX7_ordersOf_50 : decode cX7_ordersOf 50 = .ok (.iload_n 2, 1) := by decide +kernel
theorem dX7_ordersOf_51 : decode cX7_ordersOf 51 = .ok (.iload_n 3, 1) := by decide +kernel
theorem dX7_ordersOf_52 : decode cX7_ordersOf 52 = .ok (.invokestatic 44, 3) := by decide +kernel
theorem dX7_ordersOf_55 : decode cX7_ordersOf 55 = .ok (.ifCond .ne 19, 3) := by decide +kernel
theorem dX7_ordersOf_58 : decode cX7_ordersOf 58 = .ok (.aload_n 0, 1) := by decide +kernel
theorem dX7_ordersOf_59 : decode cX7_ordersOf 59 = .ok (.iload_n 3, 1) := by decide +kernel
theorem dX7_ordersOf_60 : decode cX7_ordersOf 60 = .ok (.invokevirtual 35, 3) := by decide +kernel
theorem dX7_ordersOf_63 : decode cX7_ordersOf 63 = .ok (.iload_n 2, 1) := by decide +kernel
theorem dX7_ordersOf_64 : decode cX7_ordersOf 64 = .ok (.iconst (-1), 1) := by decide +kernel
theorem dX7_ordersOf_65 : decode cX7_ordersOf 65 = .ok (.ixor, 1) := by decide +kernel
theorem dX7_ordersOf_66 : decode cX7_ordersOf 66 = .ok (.iand, 1) := by decide +kernel
theorem dX7_ordersOf_67 : decode cX7_ordersOf 67 = .ok (.ifCond .ne 7, 3) := by decide +kernel
theorem dX7_ordersOf_70 : decode cX7_ordersOf 70 = .ok (.iconst 1, 1) := by decide +kernel
theorem dX7_ordersOf_71 : decode cX7_ordersOf 71 = .ok (.goto 4, 3) := by decide +kernel
theorem dX7_ordersOf_74 : decode cX7_ordersOf 74 = .ok (.iconst 0, 1) := by decide +kernel
theorem dX7_ordersOf_75 : decode cX7_ordersOf 75 = .ok (.istore 4, 2) := by decide +kernel
theorem dX7_ordersOf_77 : decode cX7_ordersOf 77 = .ok (.iload 4, 2) := by decide +kernel
theorem dX7_ordersOf_79 : decode cX7_ordersOf 79 = .ok (.ifCond .eq 36, 3) := by decide +kernel
theorem dX7_ordersOf_82 : decode cX7_ordersOf 82 = .ok (.aload_n 0, 1) := by decide +kernel
theorem dX7_ordersOf_83 : decode cX7_ordersOf 83 = .ok (.getfield 18, 3) := by decide +kernel
theorem dX7_ordersOf_86 : decode cX7_ordersOf 86 = .ok (.iload_n 2, 1) := by decide +kernel
theorem dX7_ordersOf_87 : decode cX7_ordersOf 87 = .ok (.iconst 1, 1) := by decide +kernel
theorem dX7_ordersOf_88 : decode cX7_ordersOf 88 = .ok (.iload_n 3, 1) := by decide +kernel
theorem dX7_ordersOf_89 : decode cX7_ordersOf 89 = .ok (.ishl, 1) := by decide +kernel
theorem dX7_ordersOf_90 : decode cX7_ordersOf 90 = .ok (.ior, 1) := by decide +kernel
theorem dX7_ordersOf_91 : decode cX7_ordersOf 91 = .ok (.aload_n 0, 1) := by decide +kernel
theorem dX7_ordersOf_92 : decode cX7_ordersOf 92 = .ok (.getfield 18, 3) := by decide +kernel
theorem dX7_ordersOf_95 : decode cX7_ordersOf 95 = .ok (.iload_n 2, 1) := by decide +kernel
theorem dX7_ordersOf_96 : decode cX7_ordersOf 96 = .ok (.iconst 1, 1) := by decide +kernel
theorem dX7_ordersOf_97 : decode cX7_ordersOf 97 = .ok (.iload_n 3, 1) := by decide +kernel
theorem dX7_ordersOf_98 : decode cX7_ordersOf 98 = .ok (.ishl, 1) := by decide +kernel
theorem dX7_ordersOf_99 : decode cX7_ordersOf 99 = .ok (.ior, 1) := by decide +kernel
theorem dX7_ordersOf_100 : decode cX7_ordersOf 100 = .ok (.invokestatic 31, 3) := by decide +kernel
theorem dX7_ordersOf_103 : decode cX7_ordersOf 103 = .ok (.aload_n 0, 1) := by decide +kernel
theorem dX7_ordersOf_104 : decode cX7_ordersOf 104 = .ok (.getfield 18, 3) := by decide +kernel
theorem dX7_ordersOf_107 : decode cX7_ordersOf 107 = .ok (.iload_n 2, 1) := by decide +kernel
theorem dX7_ordersOf_108 : decode cX7_ordersOf 108 = .ok (.invokestatic 31, 3) := by decide +kernel
theorem dX7_ordersOf_111 : decode cX7_ordersOf 111 = .ok (.iadd, 1) := by decide +kernel
theorem dX7_ordersOf_112 : decode cX7_ordersOf 112 = .ok (.invokestatic 25, 3) := by decide +kernel
theorem dX7_ordersOf_115 : decode cX7_ordersOf 115 = .ok (.iinc 3 1, 3) := by decide +kernel
theorem dX7_ordersOf_118 : decode cX7_ordersOf 118 = .ok (.goto (-73), 3) := by decide +kernel
theorem dX7_ordersOf_121 : decode cX7_ordersOf 121 = .ok (.iinc 2 1, 3) := by decide +kernel
theorem dX7_ordersOf_124 : decode cX7_ordersOf 124 = .ok (.goto (-89), 3) := by decide +kernel
theorem dX7_ordersOf_127 : decode cX7_ordersOf 127 = .ok (.aload_n 0, 1) := by decide +kernel
theorem dX7_ordersOf_128 : decode cX7_ordersOf 128 = .ok (.getfield 18, 3) := by decide +kernel
theorem dX7_ordersOf_131 : decode cX7_ordersOf 131 = .ok (.iload_n 1, 1) := by decide +kernel
theorem dX7_ordersOf_132 : decode cX7_ordersOf 132 = .ok (.invokestatic 39, 3) := by decide +kernel
theorem dX7_ordersOf_135 : decode cX7_ordersOf 135 = .ok (.iconst 1, 1) := by decide +kernel
theorem dX7_ordersOf_136 : decode cX7_ordersOf 136 = .ok (.isub, 1) := by decide +kernel
theorem dX7_ordersOf_137 : decode cX7_ordersOf 137 = .ok (.invokestatic 31, 3) := by decide +kernel
theorem dX7_ordersOf_140 : decode cX7_ordersOf 140 = .ok (.ireturn, 1) := by decide +kernel
def L_X7_ordersOf_45 (x1 : Int32) (v_pairs : Int32) (a_former : Nat → Int32) (a_latter : Nat → Int32) (x2_35 : Int32) (k_121 : (Nat → Int32) → Option (Int32 × (Nat → Int32))) : Nat → Int32 → (Nat → Int32) → Option (Int32 × (Nat → Int32))
  | 0, _, _ => none
  | n + 1, x3_45, a_orderings_45 => (if x1 ≤ x3_45 then k_121 a_orderings_45 else (F_X9_holds x2_35 x3_45).bind (fun q52 => jn (fun (j0_75 : Int32) => jn (fun (a_orderings_115 : Nat → Int32) => L_X7_ordersOf_45 x1 v_pairs a_former a_latter x2_35 k_121 n ((x3_45 + 1)) a_orderings_115) (fun k_115 => (if j0_75 = 0 then k_115 a_orderings_45 else (F_X4_at ((x2_35 ||| ((1 : Int32) <<< (x3_45 &&& 31)))) 16 a_orderings_45).bind (fun q100 => (F_X4_at x2_35 16 a_orderings_45).bind (fun q108 => (F_X4_put ((x2_35 ||| ((1 : Int32) <<< (x3_45 &&& 31)))) ((q100 + q108)) 16 a_orderings_45).bind (fun q112 => k_115 q112)))))) (fun k_75 => jn (k_75 0) (fun k_74 => (if q52 = 0 then (F_X7_toldAheadOf x3_45 v_pairs a_former a_latter).bind (fun q60 => (if (q60 &&& (x2_35 ^^^ (-1))) = 0 then k_75 1 else k_74)) else k_74)))))
def L_X7_ordersOf_35 (x1 : Int32) (v_pairs : Int32) (a_former : Nat → Int32) (a_latter : Nat → Int32) (k_127 : (Nat → Int32) → Option (Int32 × (Nat → Int32))) : Nat → Int32 → (Nat → Int32) → Option (Int32 × (Nat → Int32))
  | 0, _, _ => none
  | n + 1, x2_35, a_orderings_35 => (F_X9_setsOf x1).bind (fun q37 => (if q37 ≤ x2_35 then k_127 a_orderings_35 else jn (fun (a_orderings_121 : Nat → Int32) => L_X7_ordersOf_35 x1 v_pairs a_former a_latter k_127 n ((x2_35 + 1)) a_orderings_121) (fun k_121 => L_X7_ordersOf_45 x1 v_pairs a_former a_latter x2_35 k_121 5000 0 a_orderings_35)))
def L_X7_ordersOf_2 (x1 : Int32) (k_33 : (Nat → Int32) → Option (Int32 × (Nat → Int32))) : Nat → Int32 → (Nat → Int32) → Option (Int32 × (Nat → Int32))
  | 0, _, _ => none
  | n + 1, x2_2, a_orderings_2 => (F_X9_setsOf x1).bind (fun q4 => (if q4 ≤ x2_2 then k_33 a_orderings_2 else jn (fun (j0_24 : Int32) => (F_X4_put x2_2 j0_24 16 a_orderings_2).bind (fun q24 => L_X7_ordersOf_2 x1 k_33 n ((x2_2 + 1)) q24)) (fun k_24 => (if x2_2 = 0 then k_24 1 else k_24 0))))
def F_X7_ordersOf (x1 : Int32) (v_pairs : Int32) (a_former : Nat → Int32) (a_latter : Nat → Int32) (a_orderings : Nat → Int32) : Option (Int32 × (Nat → Int32)) := jn (fun (a_orderings_33 : Nat → Int32) => jn (fun (a_orderings_127 : Nat → Int32) => (F_X9_setsOf x1).bind (fun q132 => (F_X4_at ((q132 - 1)) 16 a_orderings_127).bind (fun q137 => some (q137, a_orderings_127)))) (fun k_127 => L_X7_ordersOf_35 x1 v_pairs a_former a_latter k_127 5000 0 a_orderings_33)) (fun k_33 => L_X7_ordersOf_2 x1 k_33 5000 0 a_orderings)
theorem hdV_X7_ordersOf : yX7_ordersOf.cls = RX7 ∧ yX7_ordersOf.cls ≠ "java/lang/invoke/MethodHandle" ∧ yX7_ordersOf.cls ≠ "java/lang/invoke/VarHandle" ∧ (parseMethodDescriptor yX7_ordersOf.desc).map (fun d => d.parameters.length) = some 1 := by decide +kernel
set_option maxHeartbeats 4000000 in
set_option maxRecDepth 100000 in
theorem c_X7_ordersOf (l : Launch) (G : GG) (x1 : Int32) (h_this : Nat) (ad_this : Nat → Nat) (v_pairs : Int32) (a_former : Nat → Int32) (a_latter : Nat → Int32) (a_orderings : Nat → Int32) (out : Int32 × (Nat → Int32)) (hF : F_X7_ordersOf x1 v_pairs a_former a_latter a_orderings = some out) : CtrI l yX7_ordersOf (WS yX7_ordersOf cX7_ordersOf 5 (some .int)) { frames := 2, cells := 0, slots := 0, locals := 44 } G [.ref h_this, .int x1] [(h_this, oX7 ad_this v_pairs), ((ad_this 0), cI G 8 a_former), ((ad_this 1), cI G 8 a_latter), ((ad_this 2), cI G 16 a_orderings)] [(h_this, oX7 ad_this v_pairs), ((ad_this 0), cI G 8 a_former), ((ad_this 1), cI G 8 a_latter), ((ad_this 2), cI G 16 out.2)] out.1 := by
  refine startI (cc := cX7_ordersOf) (maxL := 5) (by decide) rfl (Nat.le_of_ble_eq_true rfl) ?_
  intro p e s m args below meth c A Q hx hb hml hts hown hc hA hret ls H locs hl hW
  have hown : s.vm.findClass RX7 = some m.cls := hown
  have hg : ∀ w ∈ GOODS, w.before _ s = true := fun w h => hts w (List.mem_cons_of_mem _ h)
  have hl : lv_has ls 5 [(0, .ref h_this), (1, .int x1)] := hl
  rw [F_X7_ordersOf] at hF
  refine lv_iconst (v := 0) hx hb dX7_ordersOf_0 (by decide) ?_
  refine lv_istore_n (lv' := [(2, .int 0), (0, .ref h_this), (1, .int x1)]) hx hb dX7_ordersOf_1 rfl hl (by decide) rfl (fun ls hl => ?_)
  obtain ⟨k_33, e_33, hF⟩ := jn_el hF
  have J_33 : ∀ (a_orderings_33 : Nat → Int32) (ls : Array Slot) (H : Heap) (locs : List Loc), k_33 a_orderings_33 = some out → lv_has ls 5 [(0, .ref h_this), (1, .int x1)] → Wd G A s.heap [(h_this, oX7 ad_this v_pairs), ((ad_this 0), cI G 8 a_former), ((ad_this 1), cI G 8 a_latter), ((ad_this 2), cI G 16 a_orderings_33)] H locs → W p l e ({ frames := 2, cells := 0, slots := 0, locals := 44 } : Room) s m args below meth c H locs 0 0 Q (F0 m 33 ls []) := by
    intro a_orderings_33 ls H locs hF hl hW
    rw [e_33] at hF
    dsimp only at hF
    refine lv_iconst (v := 0) hx hb dX7_ordersOf_33 (by decide) ?_
    refine lv_istore_n (lv' := [(2, .int 0), (0, .ref h_this), (1, .int x1)]) hx hb dX7_ordersOf_34 rfl hl (by decide) rfl (fun ls hl => ?_)
    obtain ⟨k_127, e_127, hF⟩ := jn_el hF
    have J_127 : ∀ (a_orderings_127 : Nat → Int32) (ls : Array Slot) (H : Heap) (locs : List Loc), k_127 a_orderings_127 = some out → lv_has ls 5 [(0, .ref h_this), (1, .int x1)] → Wd G A s.heap [(h_this, oX7 ad_this v_pairs), ((ad_this 0), cI G 8 a_former), ((ad_this 1), cI G 8 a_latter), ((ad_this 2), cI G 16 a_orderings_127)] H locs → W p l e ({ frames := 2, cells := 0, slots := 0, locals := 44 } : Room) s m args below meth c H locs 0 0 Q (F0 m 127 ls []) := by
      intro a_orderings_127 ls H locs hF hl hW
      rw [e_127] at hF
      dsimp only at hF
      refine lv_aload_n hx hb dX7_ordersOf_127 rfl (lv_at hl 0 rfl) ?_
      refine va_get (D := G.1) (ci := 6) (v := .ref ((ad_this 2))) (C := RX7) (T := TX7) (N := 4) hx hb hg hu_X7 hown hc.1 hW.1 0 rfl rfl 2 (by decide) (hg _ wd_1_161) (fun _ h9 => h9) rfl dX7_ordersOf_128 ?_
      refine lv_iload_n hx hb dX7_ordersOf_131 rfl (lv_at hl 1 rfl) ?_
      obtain ⟨q132, c_132, hF⟩ := bd_el hF
      refine wcI (ws' := [(h_this, oX7 ad_this v_pairs), ((ad_this 0), cI G 8 a_former), ((ad_this 1), cI G 8 a_latter), ((ad_this 2), cI G 16 a_orderings_127)]) (wc := []) (wr := [(h_this, oX7 ad_this v_pairs), ((ad_this 0), cI G 8 a_former), ((ad_this 1), cI G 8 a_latter), ((ad_this 2), cI G 16 a_orderings_127)]) (w1 := []) (va_runSN (As := [.int x1]) (rest := [.ref ((ad_this 2))]) ⟨hx, hb, hml, hown, hg⟩ (c_X9_setsOf l G x1 q132 c_132 H.size) ⟨va_cnB 1 hg (gN wd_2_171) rfl rfl rfl (hc.2 (RX7, 39, yX9_setsOf) (by decide +kernel)) (hg _ wd_1_1) hdS_X9_setsOf ⟨(Nat.le_of_ble_eq_true rfl), (Nat.le_of_ble_eq_true rfl)⟩, (hg _ wd_2_170), trivial⟩ (preS hc hW [] rfl (by decide)) rfl rfl hl.1 rfl (lv_room (Nat.le_of_ble_eq_true rfl)) dX7_ordersOf_132 ⟨Nat.zero_le _, Nat.zero_le _⟩) hA hW [] [0, 1, 2, 3] [0, 1, 2, 3] rfl rfl (by decide) (by decide) rfl (by decide) (fun H locs hW => ?_)
      refine lv_iconst (v := 1) hx hb dX7_ordersOf_135 (by decide) ?_
      refine lv_isub hx hb dX7_ordersOf_136 ?_
      obtain ⟨q137, c_137, hF⟩ := bd_el hF
      refine wcI (ws' := [(h_this, oX7 ad_this v_pairs), ((ad_this 0), cI G 8 a_former), ((ad_this 1), cI G 8 a_latter), ((ad_this 2), cI G 16 a_orderings_127)]) (wc := [((ad_this 2), cI G 16 a_orderings_127)]) (wr := [(h_this, oX7 ad_this v_pairs), ((ad_this 0), cI G 8 a_former), ((ad_this 1), cI G 8 a_latter)]) (w1 := [((ad_this 2), cI G 16 a_orderings_127)]) (va_runS (As := [.ref ((ad_this 2)), .int ((q132 - 1))]) (rest := []) ⟨hx, hb, hml, hown, hg⟩ (c_X4_at l G ((q132 - 1)) 16 ((ad_this 2)) a_orderings_127 q137 c_137 H.size) (va_cwS 2 hg (gS wd_3_207 wd_2_37 wd_1_14 wd_2_38) rfl rfl rfl hdS_X4_at ⟨(Nat.le_of_ble_eq_true rfl), (Nat.le_of_ble_eq_true rfl)⟩) (preS hc hW [3] rfl (by decide)) rfl rfl hl.1 rfl (lv_room (Nat.le_of_ble_eq_true rfl)) dX7_ordersOf_137 ⟨Nat.zero_le _, Nat.zero_le _⟩) hA hW [3] [0, 1, 2] [0, 1, 2, 3] rfl rfl (by decide) (by decide) rfl (by decide) (fun H locs hW => ?_)
      obtain rfl := Option.some.inj hF
      exact hret _ _ _ _ hW dX7_ordersOf_140
    have L_35 : ∀ (n : Nat) (x2_35 : Int32) (a_orderings_35 : Nat → Int32) (ls : Array Slot) (H : Heap) (locs : List Loc), L_X7_ordersOf_35 x1 v_pairs a_former a_latter k_127 n x2_35 a_orderings_35 = some out → lv_has ls 5 [(0, .ref h_this), (1, .int x1), (2, .int x2_35)] → Wd G A s.heap [(h_this, oX7 ad_this v_pairs), ((ad_this 0), cI G 8 a_former), ((ad_this 1), cI G 8 a_latter), ((ad_this 2), cI G 16 a_orderings_35)] H locs → W p l e ({ frames := 2, cells := 0, slots := 0, locals := 44 } : Room) s m args below meth c H locs 0 0 Q (F0 m 35 ls []) := by
      intro n
      induction n with
      | zero => intro x2_35 a_orderings_35 ls H locs hF hl hW; have h0 : none = some out := hF; cases h0
      | succ n ih =>
        intro x2_35 a_orderings_35 ls H locs hF hl hW
        rw [L_X7_ordersOf_35] at hF
        refine lv_iload_n hx hb dX7_ordersOf_35 rfl (lv_at hl 2 rfl) ?_
        refine lv_iload_n hx hb dX7_ordersOf_36 rfl (lv_at hl 1 rfl) ?_
        obtain ⟨q37, c_37, hF⟩ := bd_el hF
        refine wcI (ws' := [(h_this, oX7 ad_this v_pairs), ((ad_this 0), cI G 8 a_former), ((ad_this 1), cI G 8 a_latter), ((ad_this 2), cI G 16 a_orderings_35)]) (wc := []) (wr := [(h_this, oX7 ad_this v_pairs), ((ad_this 0), cI G 8 a_former), ((ad_this 1), cI G 8 a_latter), ((ad_this 2), cI G 16 a_orderings_35)]) (w1 := []) (va_runSN (As := [.int x1]) (rest := [.int x2_35]) ⟨hx, hb, hml, hown, hg⟩ (c_X9_setsOf l G x1 q37 c_37 H.size) ⟨va_cnB 1 hg (gN wd_2_171) rfl rfl rfl (hc.2 (RX7, 39, yX9_setsOf) (by decide +kernel)) (hg _ wd_1_1) hdS_X9_setsOf ⟨(Nat.le_of_ble_eq_true rfl), (Nat.le_of_ble_eq_true rfl)⟩, (hg _ wd_2_170), trivial⟩ (preS hc hW [] rfl (by decide)) rfl rfl hl.1 rfl (lv_room (Nat.le_of_ble_eq_true rfl)) dX7_ordersOf_37 ⟨Nat.zero_le _, Nat.zero_le _⟩) hA hW [] [0, 1, 2, 3] [0, 1, 2, 3] rfl rfl (by decide) (by decide) rfl (by decide) (fun H locs hW => ?_)
        refine lv_icmp_ge (tgt := 127) hx hb dX7_ordersOf_40 (by decide) (fun c_40 => ?_) (fun c_40 => ?_)
        · have hF := ite_t hF c_40
          exact J_127 a_orderings_35 _ _ _ hF (lv_sub hl [0, 1] rfl) hW
        · have hF := ite_f hF c_40
          refine lv_iconst (v := 0) hx hb dX7_ordersOf_43 (by decide) ?_
          refine lv_istore_n (lv' := [(3, .int 0), (0, .ref h_this), (1, .int x1), (2, .int x2_35)]) hx hb dX7_ordersOf_44 rfl hl (by decide) rfl (fun ls hl => ?_)
          obtain ⟨k_121, e_121, hF⟩ := jn_el hF
          have J_121 : ∀ (a_orderings_121 : Nat → Int32) (ls : Array Slot) (H : Heap) (locs : List Loc), k_121 a_orderings_121 = some out → lv_has ls 5 [(0, .ref h_this), (1, .int x1), (2, .int x2_35)] → Wd G A s.heap [(h_this, oX7 ad_this v_pairs), ((ad_this 0), cI G 8 a_former), ((ad_this 1), cI G 8 a_latter), ((ad_this 2), cI G 16 a_orderings_121)] H locs → W p l e ({ frames := 2, cells := 0, slots := 0, locals := 44 } : Room) s m args below meth c H locs 0 0 Q (F0 m 121 ls []) := by
            intro a_orderings_121 ls H locs hF hl hW
            rw [e_121] at hF
            dsimp only at hF
            refine lv_iinc (v := (x2_35 + 1)) (lv' := [(2, .int ((x2_35 + 1))), (0, .ref h_this), (1, .int x1)]) hx hb dX7_ordersOf_121 hl (k := 2) rfl rfl (by decide) rfl (fun ls hl => ?_)
            refine lv_goto (tgt := 35) hx hb dX7_ordersOf_124 (by decide) ?_
            exact ih ((x2_35 + 1)) a_orderings_121 _ _ _ hF (lv_sub hl [1, 2, 0] rfl) hW
          have L_45 : ∀ (n : Nat) (x3_45 : Int32) (a_orderings_45 : Nat → Int32) (ls : Array Slot) (H : Heap) (locs : List Loc), L_X7_ordersOf_45 x1 v_pairs a_former a_latter x2_35 k_121 n x3_45 a_orderings_45 = some out → lv_has ls 5 [(0, .ref h_this), (1, .int x1), (2, .int x2_35), (3, .int x3_45)] → Wd G A s.heap [(h_this, oX7 ad_this v_pairs), ((ad_this 0), cI G 8 a_former), ((ad_this 1), cI G 8 a_latter), ((ad_this 2), cI G 16 a_orderings_45)] H locs → W p l e ({ frames := 2, cells := 0, slots := 0, locals := 44 } : Room) s m args below meth c H locs 0 0 Q (F0 m 45 ls []) := by
            intro n
            induction n with
            | zero => intro x3_45 a_orderings_45 ls H locs hF hl hW; have h0 : none = some out := hF; cases h0
            | succ n ih =>
              intro x3_45 a_orderings_45 ls H locs hF hl hW
              rw [L_X7_ordersOf_45] at hF
              refine lv_iload_n hx hb dX7_ordersOf_45 rfl (lv_at hl 3 rfl) ?_
              refine lv_iload_n hx hb dX7_ordersOf_46 rfl (lv_at hl 1 rfl) ?_
              refine lv_icmp_ge (tgt := 121) hx hb dX7_ordersOf_47 (by decide) (fun c_47 => ?_) (fun c_47 => ?_)
              · have hF := ite_t hF c_47
                exact J_121 a_orderings_45 _ _ _ hF (lv_sub hl [0, 1, 2] rfl) hW
              · have hF := ite_f hF c_47
                refine lv_iload_n hx hb dX7_ordersOf_50 rfl (lv_at hl 2 rfl) ?_
                refine lv_iload_n hx hb dX7_ordersOf_51 rfl (lv_at hl 3 rfl) ?_
                obtain ⟨q52, c_52, hF⟩ := bd_el hF
                refine wcZ (ws' := [(h_this, oX7 ad_this v_pairs), ((ad_this 0), cI G 8 a_former), ((ad_this 1), cI G 8 a_latter), ((ad_this 2), cI G 16 a_orderings_45)]) (wc := []) (wr := [(h_this, oX7 ad_this v_pairs), ((ad_this 0), cI G 8 a_former), ((ad_this 1), cI G 8 a_latter), ((ad_this 2), cI G 16 a_orderings_45)]) (w1 := []) (va_runSN (As := [.int x2_35, .int x3_45]) (rest := []) ⟨hx, hb, hml, hown, hg⟩ (c_X9_holds l G x2_35 x3_45 q52 c_52 H.size) ⟨va_cnB 2 hg (gN wd_2_181) rfl rfl rfl (hc.2 (RX7, 44, yX9_holds) (by decide +kernel)) (hg _ wd_1_1) hdS_X9_holds ⟨(Nat.le_of_ble_eq_true rfl), (Nat.le_of_ble_eq_true rfl)⟩, (hg _ wd_2_180), trivial⟩ (preS hc hW [] rfl (by decide)) rfl rfl hl.1 rfl (lv_room (Nat.le_of_ble_eq_true rfl)) dX7_ordersOf_52 ⟨Nat.zero_le _, Nat.zero_le _⟩) hA hW [] [0, 1, 2, 3] [0, 1, 2, 3] rfl rfl (by decide) (by decide) rfl (by decide) (fun z_52 H locs hW => ?_)
                obtain ⟨k_75, e_75, hF⟩ := jn_el hF
                have J_75 : ∀ (j0_75 : Int32) (ls : Array Slot) (H : Heap) (locs : List Loc), k_75 j0_75 = some out → lv_has ls 5 [(0, .ref h_this), (1, .int x1), (2, .int x2_35), (3, .int x3_45)] → Wd G A s.heap [(h_this, oX7 ad_this v_pairs), ((ad_this 0), cI G 8 a_former), ((ad_this 1), cI G 8 a_latter), ((ad_this 2), cI G 16 a_orderings_45)] H locs → W p l e ({ frames := 2, cells := 0, slots := 0, locals := 44 } : Room) s m args below meth c H locs 0 0 Q (F0 m 75 ls [.int j0_75]) := by
                  intro j0_75 ls H locs hF hl hW
                  rw [e_75] at hF
                  dsimp only at hF
                  refine lv_istore (lv' := [(4, .int j0_75), (0, .ref h_this), (1, .int x1), (2, .int x2_35), (3, .int x3_45)]) hx hb dX7_ordersOf_75 hl (by decide) rfl (fun ls hl => ?_)
                  refine lv_iload hx hb dX7_ordersOf_77 (lv_at hl 0 rfl) ?_
                  obtain ⟨k_115, e_115, hF⟩ := jn_el hF
                  have J_115 : ∀ (a_orderings_115 : Nat → Int32) (ls : Array Slot) (H : Heap) (locs : List Loc), k_115 a_orderings_115 = some out → lv_has ls 5 [(0, .ref h_this), (1, .int x1), (2, .int x2_35), (3, .int x3_45)] → Wd G A s.heap [(h_this, oX7 ad_this v_pairs), ((ad_this 0), cI G 8 a_former), ((ad_this 1), cI G 8 a_latter), ((ad_this 2), cI G 16 a_orderings_115)] H locs → W p l e ({ frames := 2, cells := 0, slots := 0, locals := 44 } : Room) s m args below meth c H locs 0 0 Q (F0 m 115 ls []) := by
                    intro a_orderings_115 ls H locs hF hl hW
                    rw [e_115] at hF
                    dsimp only at hF
                    refine lv_iinc (v := (x3_45 + 1)) (lv' := [(3, .int ((x3_45 + 1))), (0, .ref h_this), (1, .int x1), (2, .int x2_35)]) hx hb dX7_ordersOf_115 hl (k := 3) rfl rfl (by decide) rfl (fun ls hl => ?_)
                    refine lv_goto (tgt := 45) hx hb dX7_ordersOf_118 (by decide) ?_
                    exact ih ((x3_45 + 1)) a_orderings_115 _ _ _ hF (lv_sub hl [1, 2, 3, 0] rfl) hW
                  refine lv_if_eq (tgt := 115) hx hb dX7_ordersOf_79 (by decide) (fun c_79 => ?_) (fun c_79 => ?_)
                  · have hF := ite_t hF c_79
                    exact J_115 a_orderings_45 _ _ _ hF (lv_sub hl [1, 2, 3, 4] rfl) hW
                  · have hF := ite_f hF c_79
                    refine lv_aload_n hx hb dX7_ordersOf_82 rfl (lv_at hl 1 rfl) ?_
                    refine va_get (D := G.1) (ci := 6) (v := .ref ((ad_this 2))) (C := RX7) (T := TX7) (N := 4) hx hb hg hu_X7 hown hc.1 hW.1 0 rfl rfl 2 (by decide) (hg _ wd_1_161) (fun _ h9 => h9) rfl dX7_ordersOf_83 ?_
                    refine lv_iload_n hx hb dX7_ordersOf_86 rfl (lv_at hl 3 rfl) ?_
                    refine lv_iconst (v := 1) hx hb dX7_ordersOf_87 (by decide) ?_
                    refine lv_iload_n hx hb dX7_ordersOf_88 rfl (lv_at hl 4 rfl) ?_
                    refine lv_ishl hx hb dX7_ordersOf_89 ?_
                    refine lv_ior hx hb dX7_ordersOf_90 ?_
                    refine lv_aload_n hx hb dX7_ordersOf_91 rfl (lv_at hl 1 rfl) ?_
                    refine va_get (D := G.1) (ci := 6) (v := .ref ((ad_this 2))) (C := RX7) (T := TX7) (N := 4) hx hb hg hu_X7 hown hc.1 hW.1 0 rfl rfl 2 (by decide) (hg _ wd_1_161) (fun _ h9 => h9) rfl dX7_ordersOf_92 ?_
                    refine lv_iload_n hx hb dX7_ordersOf_95 rfl (lv_at hl 3 rfl) ?_
                    refine lv_iconst (v := 1) hx hb dX7_ordersOf_96 (by decide) ?_
                    refine lv_iload_n hx hb dX7_ordersOf_97 rfl (lv_at hl 4 rfl) ?_
                    refine lv_ishl hx hb dX7_ordersOf_98 ?_
                    refine lv_ior hx hb dX7_ordersOf_99 ?_
                    obtain ⟨q100, c_100, hF⟩ := bd_el hF
                    refine wcI (ws' := [(h_this, oX7 ad_this v_pairs), ((ad_this 0), cI G 8 a_former), ((ad_this 1), cI G 8 a_latter), ((ad_this 2), cI G 16 a_orderings_45)]) (wc := [((ad_this 2), cI G 16 a_orderings_45)]) (wr := [(h_this, oX7 ad_this v_pairs), ((ad_this 0), cI G 8 a_former), ((ad_this 1), cI G 8 a_latter)]) (w1 := [((ad_this 2), cI G 16 a_orderings_45)]) (va_runS (As := [.ref ((ad_this 2)), .int ((x2_35 ||| ((1 : Int32) <<< (x3_45 &&& 31))))]) (rest := [.int ((x2_35 ||| ((1 : Int32) <<< (x3_45 &&& 31)))), .ref ((ad_this 2))]) ⟨hx, hb, hml, hown, hg⟩ (c_X4_at l G ((x2_35 ||| ((1 : Int32) <<< (x3_45 &&& 31)))) 16 ((ad_this 2)) a_orderings_45 q100 c_100 H.size) (va_cwS 2 hg (gS wd_3_207 wd_2_37 wd_1_14 wd_2_38) rfl rfl rfl hdS_X4_at ⟨(Nat.le_of_ble_eq_true rfl), (Nat.le_of_ble_eq_true rfl)⟩) (preS hc hW [3] rfl (by decide)) rfl rfl hl.1 rfl (lv_room (Nat.le_of_ble_eq_true rfl)) dX7_ordersOf_100 ⟨Nat.zero_le _, Nat.zero_le _⟩) hA hW [3] [0, 1, 2] [0, 1, 2, 3] rfl rfl (by decide) (by decide) rfl (by decide) (fun H locs hW => ?_)
                    refine lv_aload_n hx hb dX7_ordersOf_103 rfl (lv_at hl 1 rfl) ?_
                    refine va_get (D := G.1) (ci := 6) (v := .ref ((ad_this 2))) (C := RX7) (T := TX7) (N := 4) hx hb hg hu_X7 hown hc.1 hW.1 0 rfl rfl 2 (by decide) (hg _ wd_1_161) (fun _ h9 => h9) rfl dX7_ordersOf_104 ?_
                    refine lv_iload_n hx hb dX7_ordersOf_107 rfl (lv_at hl 3 rfl) ?_
                    obtain ⟨q108, c_108, hF⟩ := bd_el hF
                    refine wcI (ws' := [(h_this, oX7 ad_this v_pairs), ((ad_this 0), cI G 8 a_former), ((ad_this 1), cI G 8 a_latter), ((ad_this 2), cI G 16 a_orderings_45)]) (wc := [((ad_this 2), cI G 16 a_orderings_45)]) (wr := [(h_this, oX7 ad_this v_pairs), ((ad_this 0), cI G 8 a_former), ((ad_this 1), cI G 8 a_latter)]) (w1 := [((ad_this 2), cI G 16 a_orderings_45)]) (va_runS (As := [.ref ((ad_this 2)), .int x2_35]) (rest := [.int q100, .int ((x2_35 ||| ((1 : Int32) <<< (x3_45 &&& 31)))), .ref ((ad_this 2))]) ⟨hx, hb, hml, hown, hg⟩ (c_X4_at l G x2_35 16 ((ad_this 2)) a_orderings_45 q108 c_108 H.size) (va_cwS 2 hg (gS wd_3_207 wd_2_37 wd_1_14 wd_2_38) rfl rfl rfl hdS_X4_at ⟨(Nat.le_of_ble_eq_true rfl), (Nat.le_of_ble_eq_true rfl)⟩) (preS hc hW [3] rfl (by decide)) rfl rfl hl.1 rfl (lv_room (Nat.le_of_ble_eq_true rfl)) dX7_ordersOf_108 ⟨Nat.zero_le _, Nat.zero_le _⟩) hA hW [3] [0, 1, 2] [0, 1, 2, 3] rfl rfl (by decide) (by decide) rfl (by decide) (fun H locs hW => ?_)
                    refine lv_iadd hx hb dX7_ordersOf_111 ?_
                    obtain ⟨q112, c_112, hF⟩ := bd_el hF
                    refine wcV (ws' := [(h_this, oX7 ad_this v_pairs), ((ad_this 0), cI G 8 a_former), ((ad_this 1), cI G 8 a_latter), ((ad_this 2), cI G 16 q112)]) (wc := [((ad_this 2), cI G 16 a_orderings_45)]) (wr := [(h_this, oX7 ad_this v_pairs), ((ad_this 0), cI G 8 a_former), ((ad_this 1), cI G 8 a_latter)]) (w1 := [((ad_this 2), cI G 16 q112)]) (va_runS (As := [.ref ((ad_this 2)), .int ((x2_35 ||| ((1 : Int32) <<< (x3_45 &&& 31)))), .int ((q100 + q108))]) (rest := []) ⟨hx, hb, hml, hown, hg⟩ (c_X4_put l G ((x2_35 ||| ((1 : Int32) <<< (x3_45 &&& 31)))) ((q100 + q108)) 16 ((ad_this 2)) a_orderings_45 q112 c_112 H.size) (va_cwS 3 hg (gS wd_3_188 wd_2_17 wd_1_14 wd_2_18) rfl rfl rfl hdS_X4_put ⟨(Nat.le_of_ble_eq_true rfl), (Nat.le_of_ble_eq_true rfl)⟩) (preS hc hW [3] rfl (by decide)) rfl rfl hl.1 rfl (lv_room (Nat.le_of_ble_eq_true rfl)) dX7_ordersOf_112 ⟨Nat.zero_le _, Nat.zero_le _⟩) hA hW [3] [0, 1, 2] [0, 1, 2, 3] rfl rfl (by decide) (by decide) rfl (by decide) (fun H locs hW => ?_)
                    exact J_115 q112 _ _ _ hF (lv_sub hl [1, 2, 3, 4] rfl) hW
                obtain ⟨k_74, e_74, hF⟩ := jn_el hF
                have J_74 : ∀ (ls : Array Slot) (H : Heap) (locs : List Loc), k_74 = some out → lv_has ls 5 [(0, .ref h_this), (1, .int x1), (2, .int x2_35), (3, .int x3_45)] → Wd G A s.heap [(h_this, oX7 ad_this v_pairs), ((ad_this 0), cI G 8 a_former), ((ad_this 1), cI G 8 a_latter), ((ad_this 2), cI G 16 a_orderings_45)] H locs → W p l e ({ frames := 2, cells := 0, slots := 0, locals := 44 } : Room) s m args below meth c H locs 0 0 Q (F0 m 74 ls []) := by
                  intro ls H locs hF hl hW
                  rw [e_74] at hF
                  refine lv_iconst (v := 0) hx hb dX7_ordersOf_74 (by decide) ?_
                  exact J_75 0 _ _ _ hF (lv_sub hl [0, 1, 2, 3] rfl) hW
                refine lv_if_ne (tgt := 74) hx hb dX7_ordersOf_55 (by decide) (fun c_55 => ?_) (fun c_55 => ?_)
                · have hF := ite_f hF c_55
                  exact J_74 _ _ _ hF (lv_sub hl [0, 1, 2, 3] rfl) hW
                · have hF := ite_t hF c_55
                  refine lv_aload_n hx hb dX7_ordersOf_58 rfl (lv_at hl 0 rfl) ?_
                  refine lv_iload_n hx hb dX7_ordersOf_59 rfl (lv_at hl 3 rfl) ?_
                  obtain ⟨q60, c_60, hF⟩ := bd_el hF
                  refine wcI (ws' := [(h_this, oX7 ad_this v_pairs), ((ad_this 0), cI G 8 a_former), ((ad_this 1), cI G 8 a_latter), ((ad_this 2), cI G 16 a_orderings_45)]) (wc := [(h_this, oX7 ad_this v_pairs), ((ad_this 0), cI G 8 a_former), ((ad_this 1), cI G 8 a_latter)]) (wr := [((ad_this 2), cI G 16 a_orderings_45)]) (w1 := [(h_this, oX7 ad_this v_pairs), ((ad_this 0), cI G 8 a_former), ((ad_this 1), cI G 8 a_latter)]) (va_runV (As := [.int x3_45]) (rest := []) ⟨hx, hb, hml, hown, hg⟩ (c_X7_toldAheadOf l G x3_45 h_this ad_this v_pairs a_former a_latter q60 c_60 H.size) (cwV 1 hg (gV wd_3_203 wd_3_205 wd_0_22 wd_1_7 wd_3_206) rfl rfl rfl hdV_X7_toldAheadOf ⟨(Nat.le_of_ble_eq_true rfl), (Nat.le_of_ble_eq_true rfl)⟩) (preV hc hW [0, 1, 2] rfl (by decide) rfl rfl) rfl rfl hl.1 rfl (lv_room (Nat.le_of_ble_eq_true rfl)) dX7_ordersOf_60 ⟨Nat.zero_le _, Nat.zero_le _⟩) hA hW [0, 1, 2] [3] [1, 2, 3, 0] rfl rfl (by decide) (by decide) rfl (by decide) (fun H locs hW => ?_)
                  refine lv_iload_n hx hb dX7_ordersOf_63 rfl (lv_at hl 2 rfl) ?_
                  refine lv_iconst (v := (-1)) hx hb dX7_ordersOf_64 (by decide) ?_
                  refine lv_ixor hx hb dX7_ordersOf_65 ?_
                  refine lv_iand hx hb dX7_ordersOf_66 ?_
                  refine lv_if_ne (tgt := 74) hx hb dX7_ordersOf_67 (by decide) (fun c_67 => ?_) (fun c_67 => ?_)
                  · have hF := ite_f hF c_67
                    exact J_74 _ _ _ hF (lv_sub hl [0, 1, 2, 3] rfl) hW
                  · have hF := ite_t hF c_67
                    refine lv_iconst (v := 1) hx hb dX7_ordersOf_70 (by decide) ?_
                    refine lv_goto (tgt := 75) hx hb dX7_ordersOf_71 (by decide) ?_
                    exact J_75 1 _ _ _ hF (lv_sub hl [0, 1, 2, 3] rfl) hW
          exact L_45 5000 0 a_orderings_35 _ _ _ hF (lv_sub hl [1, 2, 3, 0] rfl) hW
    exact L_35 5000 0 a_orderings_33 _ _ _ hF (lv_sub hl [1, 2, 0] rfl) hW
  have L_2 : ∀ (n : Nat) (x2_2 : Int32) (a_orderings_2 : Nat → Int32) (ls : Array Slot) (H : Heap) (locs : List Loc), L_X7_ordersOf_2 x1 k_33 n x2_2 a_orderings_2 = some out → lv_has ls 5 [(0, .ref h_this), (1, .int x1), (2, .int x2_2)] → Wd G A s.heap [(h_this, oX7 ad_this v_pairs), ((ad_this 0), cI G 8 a_former), ((ad_this 1), cI G 8 a_latter), ((ad_this 2), cI G 16 a_orderings_2)] H locs → W p l e ({ frames := 2, cells := 0, slots := 0, locals := 44 } : Room) s m args below meth c H locs 0 0 Q (F0 m 2 ls []) := by
    intro n
    induction n with
    | zero => intro x2_2 a_orderings_2 ls H locs hF hl hW; have h0 : none = some out := hF; cases h0
    | succ n ih =>
      intro x2_2 a_orderings_2 ls H locs hF hl hW
      rw [L_X7_ordersOf_2] at hF
      refine lv_iload_n hx hb dX7_ordersOf_2 rfl (lv_at hl 2 rfl) ?_
      refine lv_iload_n hx hb dX7_ordersOf_3 rfl (lv_at hl 1 rfl) ?_
      obtain ⟨q4, c_4, hF⟩ := bd_el hF
      refine wcI (ws' := [(h_this, oX7 ad_this v_pairs), ((ad_this 0), cI G 8 a_former), ((ad_this 1), cI G 8 a_latter), ((ad_this 2), cI G 16 a_orderings_2)]) (wc := []) (wr := [(h_this, oX7 ad_this v_pairs), ((ad_this 0), cI G 8 a_former), ((ad_this 1), cI G 8 a_latter), ((ad_this 2), cI G 16 a_orderings_2)]) (w1 := []) (va_runSN (As := [.int x1]) (rest := [.int x2_2]) ⟨hx, hb, hml, hown, hg⟩ (c_X9_setsOf l G x1 q4 c_4 H.size) ⟨va_cnB 1 hg (gN wd_2_171) rfl rfl rfl (hc.2 (RX7, 39, yX9_setsOf) (by decide +kernel)) (hg _ wd_1_1) hdS_X9_setsOf ⟨(Nat.le_of_ble_eq_true rfl), (Nat.le_of_ble_eq_true rfl)⟩, (hg _ wd_2_170), trivial⟩ (preS hc hW [] rfl (by decide)) rfl rfl hl.1 rfl (lv_room (Nat.le_of_ble_eq_true rfl)) dX7_ordersOf_4 ⟨Nat.zero_le _, Nat.zero_le _⟩) hA hW [] [0, 1, 2, 3] [0, 1, 2, 3] rfl rfl (by decide) (by decide) rfl (by decide) (fun H locs hW => ?_)
      refine lv_icmp_ge (tgt := 33) hx hb dX7_ordersOf_7 (by decide) (fun c_7 => ?_) (fun c_7 => ?_)
      · have hF := ite_t hF c_7
        exact J_33 a_orderings_2 _ _ _ hF (lv_sub hl [0, 1] rfl) hW
      · have hF := ite_f hF c_7
        refine lv_aload_n hx hb dX7_ordersOf_10 rfl (lv_at hl 0 rfl) ?_
        refine va_get (D := G.1) (ci := 6) (v := .ref ((ad_this 2))) (C := RX7) (T := TX7) (N := 4) hx hb hg hu_X7 hown hc.1 hW.1 0 rfl rfl 2 (by decide) (hg _ wd_1_161) (fun _ h9 => h9) rfl dX7_ordersOf_11 ?_
        refine lv_iload_n hx hb dX7_ordersOf_14 rfl (lv_at hl 2 rfl) ?_
        refine lv_iload_n hx hb dX7_ordersOf_15 rfl (lv_at hl 2 rfl) ?_
        obtain ⟨k_24, e_24, hF⟩ := jn_el hF
        have J_24 : ∀ (j0_24 : Int32) (ls : Array Slot) (H : Heap) (locs : List Loc), k_24 j0_24 = some out → lv_has ls 5 [(0, .ref h_this), (1, .int x1), (2, .int x2_2)] → Wd G A s.heap [(h_this, oX7 ad_this v_pairs), ((ad_this 0), cI G 8 a_former), ((ad_this 1), cI G 8 a_latter), ((ad_this 2), cI G 16 a_orderings_2)] H locs → W p l e ({ frames := 2, cells := 0, slots := 0, locals := 44 } : Room) s m args below meth c H locs 0 0 Q (F0 m 24 ls [.int j0_24, .int x2_2, .ref ((ad_this 2))]) := by
          intro j0_24 ls H locs hF hl hW
          rw [e_24] at hF
          dsimp only at hF
          obtain ⟨q24, c_24, hF⟩ := bd_el hF
          refine wcV (ws' := [(h_this, oX7 ad_this v_pairs), ((ad_this 0), cI G 8 a_former), ((ad_this 1), cI G 8 a_latter), ((ad_this 2), cI G 16 q24)]) (wc := [((ad_this 2), cI G 16 a_orderings_2)]) (wr := [(h_this, oX7 ad_this v_pairs), ((ad_this 0), cI G 8 a_former), ((ad_this 1), cI G 8 a_latter)]) (w1 := [((ad_this 2), cI G 16 q24)]) (va_runS (As := [.ref ((ad_this 2)), .int x2_2, .int j0_24]) (rest := []) ⟨hx, hb, hml, hown, hg⟩ (c_X4_put l G x2_2 j0_24 16 ((ad_this 2)) a_orderings_2 q24 c_24 H.size) (va_cwS 3 hg (gS wd_3_188 wd_2_17 wd_1_14 wd_2_18) rfl rfl rfl hdS_X4_put ⟨(Nat.le_of_ble_eq_true rfl), (Nat.le_of_ble_eq_true rfl)⟩) (preS hc hW [3] rfl (by decide)) rfl rfl hl.1 rfl (lv_room (Nat.le_of_ble_eq_true rfl)) dX7_ordersOf_24 ⟨Nat.zero_le _, Nat.zero_le _⟩) hA hW [3] [0, 1, 2] [0, 1, 2, 3] rfl rfl (by decide) (by decide) rfl (by decide) (fun H locs hW => ?_)
          refine lv_iinc (v := (x2_2 + 1)) (lv' := [(2, .int ((x2_2 + 1))), (0, .ref h_this), (1, .int x1)]) hx hb dX7_ordersOf_27 hl (k := 2) rfl rfl (by decide) rfl (fun ls hl => ?_)
          refine lv_goto (tgt := 2) hx hb dX7_ordersOf_30 (by decide) ?_
          exact ih ((x2_2 + 1)) q24 _ _ _ hF (lv_sub hl [1, 2, 0] rfl) hW
        refine lv_if_ne (tgt := 23) hx hb dX7_ordersOf_16 (by decide) (fun c_16 => ?_) (fun c_16 => ?_)
        · have hF := ite_f hF c_16
          refine lv_iconst (v := 0) hx hb dX7_ordersOf_23 (by decide) ?_
          exact J_24 0 _ _ _ hF (lv_sub hl [0, 1, 2] rfl) hW
        · have hF := ite_t hF c_16
          refine lv_iconst (v := 1) hx hb dX7_ordersOf_19 (by decide) ?_
          refine lv_goto (tgt := 24) hx hb dX7_ordersOf_20 (by decide) ?_
          exact J_24 1 _ _ _ hF (lv_sub hl [0, 1, 2] rfl) hW
  exact L_2 5000 0 a_orderings _ _ _ hF (lv_sub hl [1, 2, 0] rfl) hW
