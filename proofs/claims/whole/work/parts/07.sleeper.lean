theorem dX5_waysTo_0 : decode cX5_waysTo 0 = .ok (.aload_n 0, 1) := by decide +kernel
theorem dX5_waysTo_1 : decode cX5_waysTo 1 = .ok (.getfield 9, 3) := by decide +kernel
theorem dX5_waysTo_4 : decode cX5_waysTo 4 = .ok (.iload_n 1, 1) := by decide +kernel
theorem dX5_waysTo_5 : decode cX5_waysTo 5 = .ok (.invokestatic 18, 3) := by decide +kernel
theorem dX5_waysTo_8 : decode cX5_waysTo 8 = .ok (.aload_n 0, 1) := by decide +kernel
theorem dX5_waysTo_9 : decode cX5_waysTo 9 = .ok (.getfield 15, 3) := by decide +kernel
theorem dX5_waysTo_12 : decode cX5_waysTo 12 = .ok (.iload_n 1, 1) := by decide +kernel
theorem dX5_waysTo_13 : decode cX5_waysTo 13 = .ok (.invokestatic 18, 3) := by decide +kernel
theorem dX5_waysTo_16 : decode cX5_waysTo 16 = .ok (.ladd, 1) := by decide +kernel
theorem dX5_waysTo_17 : decode cX5_waysTo 17 = .ok (.lreturn, 1) := by decide +kernel
def F_X5_waysTo (x1 : Int32) (a_came : Nat → Int64) (a_stayed : Nat → Int64) : Option (Int64) := (F_X4_longAt x1 3 a_stayed).bind (fun q5 => (F_X4_longAt x1 3 a_came).bind (fun q13 => some ((q5 + q13))))
theorem hdV_X5_waysTo : yX5_waysTo.cls = RX5 ∧ yX5_waysTo.cls ≠ "java/lang/invoke/MethodHandle" ∧ yX5_waysTo.cls ≠ "java/lang/invoke/VarHandle" ∧ (parseMethodDescriptor yX5_waysTo.desc).map (fun d => d.parameters.length) = some 1 := by decide +kernel
set_option maxHeartbeats 4000000 in
set_option maxRecDepth 100000 in
theorem c_X5_waysTo (l : Launch) (G : GG) (x1 : Int32) (h_this : Nat) (ad_this : Nat → Nat) (v_turned : Int64) (a_came : Nat → Int64) (a_stayed : Nat → Int64) (out : Int64) (hF : F_X5_waysTo x1 a_came a_stayed = some out) : CtrJ l yX5_waysTo (WS yX5_waysTo cX5_waysTo 2 (some .long)) { frames := 1, cells := 0, slots := 0, locals := 21 } G [.ref h_this, .int x1] [(h_this, oX5 ad_this v_turned), ((ad_this 1), cJ G 3 a_came), ((ad_this 0), cJ G 3 a_stayed)] [(h_this, oX5 ad_this v_turned), ((ad_this 1), cJ G 3 a_came), ((ad_this 0), cJ G 3 a_stayed)] out := by
  refine startJ (cc := cX5_waysTo) (maxL := 2) (by decide) rfl (Nat.le_of_ble_eq_true rfl) ?_
  intro p e s m args below meth c A Q hx hb hml hts hown hc hA hret ls H locs hl hW
  have hown : s.vm.findClass RX5 = some m.cls := hown
  have hg : ∀ w ∈ GOODS, w.before _ s = true := fun w h => hts w (List.mem_cons_of_mem _ h)
  have hl : lv_has ls 2 [(0, .ref h_this), (1, .int x1)] := hl
  rw [F_X5_waysTo] at hF
  refine lv_aload_n hx hb dX5_waysTo_0 rfl (lv_at hl 0 rfl) ?_
  refine va_get (D := G.1) (ci := 4) (v := .ref ((ad_this 0))) (C := RX5) (T := TX5) (N := 3) hx hb hg hu_X5 hown hc.1 hW.1 0 rfl rfl 0 (by decide) (hg _ wd_1_141) (fun _ h9 => h9) rfl dX5_waysTo_1 ?_
  refine lv_iload_n hx hb dX5_waysTo_4 rfl (lv_at hl 1 rfl) ?_
  obtain ⟨q5, c_5, hF⟩ := bd_el hF
  refine wcJ (ws' := [(h_this, oX5 ad_this v_turned), ((ad_this 1), cJ G 3 a_came), ((ad_this 0), cJ G 3 a_stayed)]) (wc := [((ad_this 0), cJ G 3 a_stayed)]) (wr := [(h_this, oX5 ad_this v_turned), ((ad_this 1), cJ G 3 a_came)]) (w1 := [((ad_this 0), cJ G 3 a_stayed)]) (va_runS (As := [.ref ((ad_this 0)), .int x1]) (rest := []) ⟨hx, hb, hml, hown, hg⟩ (c_X4_longAt l G x1 3 ((ad_this 0)) a_stayed q5 c_5 H.size) (va_cwS 2 hg (gS wd_3_6 wd_3_7 wd_1_14 wd_3_8) rfl rfl rfl hdS_X4_longAt ⟨(Nat.le_of_ble_eq_true rfl), (Nat.le_of_ble_eq_true rfl)⟩) (preS hc hW [2] rfl (by decide)) rfl rfl hl.1 rfl (lv_room (Nat.le_of_ble_eq_true rfl)) dX5_waysTo_5 ⟨Nat.zero_le _, Nat.zero_le _⟩) hA hW [2] [0, 1] [0, 1, 2] rfl rfl (by decide) (by decide) rfl (by decide) (fun H locs hW => ?_)
  refine lv_aload_n hx hb dX5_waysTo_8 rfl (lv_at hl 0 rfl) ?_
  refine va_get (D := G.1) (ci := 4) (v := .ref ((ad_this 1))) (C := RX5) (T := TX5) (N := 3) hx hb hg hu_X5 hown hc.1 hW.1 0 rfl rfl 1 (by decide) (hg _ wd_1_142) (fun _ h9 => h9) rfl dX5_waysTo_9 ?_
  refine lv_iload_n hx hb dX5_waysTo_12 rfl (lv_at hl 1 rfl) ?_
  obtain ⟨q13, c_13, hF⟩ := bd_el hF
  refine wcJ (ws' := [(h_this, oX5 ad_this v_turned), ((ad_this 1), cJ G 3 a_came), ((ad_this 0), cJ G 3 a_stayed)]) (wc := [((ad_this 1), cJ G 3 a_came)]) (wr := [(h_this, oX5 ad_this v_turned), ((ad_this 0), cJ G 3 a_stayed)]) (w1 := [((ad_this 1), cJ G 3 a_came)]) (va_runS (As := [.ref ((ad_this 1)), .int x1]) (rest := [.long q5]) ⟨hx, hb, hml, hown, hg⟩ (c_X4_longAt l G x1 3 ((ad_this 1)) a_came q13 c_13 H.size) (va_cwS 2 hg (gS wd_3_6 wd_3_7 wd_1_14 wd_3_8) rfl rfl rfl hdS_X4_longAt ⟨(Nat.le_of_ble_eq_true rfl), (Nat.le_of_ble_eq_true rfl)⟩) (preS hc hW [1] rfl (by decide)) rfl rfl hl.1 rfl (lv_room (Nat.le_of_ble_eq_true rfl)) dX5_waysTo_13 ⟨Nat.zero_le _, Nat.zero_le _⟩) hA hW [1] [0, 2] [0, 2, 1] rfl rfl (by decide) (by decide) rfl (by decide) (fun H locs hW => ?_)
  refine lv_ladd hx hb dX5_waysTo_16 ?_
  obtain rfl := Option.some.inj hF
  exact hret _ _ _ _ hW dX5_waysTo_17
theorem dX5_total_0 : decode cX5_total 0 = .ok (.lconst 0, 1) := by decide +kernel
theorem dX5_total_1 : decode cX5_total 1 = .ok (.lstore_n 1, 1) := by decide +kernel
theorem dX5_total_2 : decode cX5_total 2 = .ok (.iconst 0, 1) := by decide +kernel
theorem dX5_total_3 : decode cX5_total 3 = .ok (.istore_n 3, 1) := by decide +kernel
theorem dX5_total_4 : decode cX5_total 4 = .ok (.iload_n 3, 1) := by decide +kernel
theorem dX5_total_5 : decode cX5_total 5 = .ok (.iconst 3, 1) := by decide +kernel
theorem dX5_total_6 : decode cX5_total 6 = .ok (.if_icmp .ge 17, 3) := by decide +kernel
theorem dX5_total_9 : decode cX5_total 9 = .ok (.lload_n 1, 1) := by decide +kernel
theorem dX5_total_10 : decode cX5_total 10 = .ok (.aload_n 0, 1) := by decide +kernel
theorem dX5_total_11 : decode cX5_total 11 = .ok (.iload_n 3, 1) := by decide +kernel
theorem dX5_total_12 : decode cX5_total 12 = .ok (.invokevirtual 24, 3) := by decide +kernel
theorem dX5_total_15 : decode cX5_total 15 = .ok (.ladd, 1) := by decide +kernel
theorem dX5_total_16 : decode cX5_total 16 = .ok (.lstore_n 1, 1) := by decide +kernel
theorem dX5_total_17 : decode cX5_total 17 = .ok (.iinc 3 1, 3) := by decide +kernel
theorem dX5_total_20 : decode cX5_total 20 = .ok (.goto (-16), 3) := by decide +kernel
theorem dX5_total_23 : decode cX5_total 23 = .ok (.lload_n 1, 1) := by decide +kernel
theorem dX5_total_24 : decode cX5_total 24 = .ok (.lreturn, 1) := by decide +kernel
def L_X5_total_4 (a_came : Nat → Int64) (a_stayed : Nat → Int64)  : Nat → Int64 → Int32 → Option (Int64)
  | 0, _, _ => none
  | n + 1, x1_4, x3_4 => (if 3 ≤ x3_4 then some (x1_4) else (F_X5_waysTo x3_4 a_came a_stayed).bind (fun q12 => L_X5_total_4 a_came a_stayed n ((x1_4 + q12)) ((x3_4 + 1))))
def F_X5_total (a_came : Nat → Int64) (a_stayed : Nat → Int64) : Option (Int64) := L_X5_total_4 a_came a_stayed 5000 0 0
theorem hdV_X5_total : yX5_total.cls = RX5 ∧ yX5_total.cls ≠ "java/lang/invoke/MethodHandle" ∧ yX5_total.cls ≠ "java/lang/invoke/VarHandle" ∧ (parseMethodDescriptor yX5_total.desc).map (fun d => d.parameters.length) = some 0 := by decide +kernel
set_option maxHeartbeats 4000000 in
set_option maxRecDepth 100000 in
theorem c_X5_total (l : Launch) (G : GG) (h_this : Nat) (ad_this : Nat → Nat) (v_turned : Int64) (a_came : Nat → Int64) (a_stayed : Nat → Int64) (out : Int64) (hF : F_X5_total a_came a_stayed = some out) : CtrJ l yX5_total (WS yX5_total cX5_total 4 (some .long)) { frames := 2, cells := 0, slots := 0, locals := 42 } G [.ref h_this] [(h_this, oX5 ad_this v_turned), ((ad_this 1), cJ G 3 a_came), ((ad_this 0), cJ G 3 a_stayed)] [(h_this, oX5 ad_this v_turned), ((ad_this 1), cJ G 3 a_came), ((ad_this 0), cJ G 3 a_stayed)] out := by
  refine startJ (cc := cX5_total) (maxL := 4) (by decide) rfl (Nat.le_of_ble_eq_true rfl) ?_
  intro p e s m args below meth c A Q hx hb hml hts hown hc hA hret ls H locs hl hW
  have hown : s.vm.findClass RX5 = some m.cls := hown
  have hg : ∀ w ∈ GOODS, w.before _ s = true := fun w h => hts w (List.mem_cons_of_mem _ h)
  have hl : lv_has ls 4 [(0, .ref h_this)] := hl
  rw [F_X5_total] at hF
  refine lv_lconst (v := 0) hx hb dX5_total_0 (by decide) ?_
  refine lv_lstore_n (lv' := [(1, .long 0), (0, .ref h_this)]) hx hb dX5_total_1 rfl hl (by decide) rfl (fun ls hl => ?_)
  refine lv_iconst (v := 0) hx hb dX5_total_2 (by decide) ?_
  refine lv_istore_n (lv' := [(3, .int 0), (1, .long 0), (0, .ref h_this)]) hx hb dX5_total_3 rfl hl (by decide) rfl (fun ls hl => ?_)
  have L_4 : ∀ (n : Nat) (x1_4 : Int64) (x3_4 : Int32) (ls : Array Slot) (H : Heap) (locs : List Loc), L_X5_total_4 a_came a_stayed n x1_4 x3_4 = some out → lv_has ls 4 [(0, .ref h_this), (1, .long x1_4), (3, .int x3_4)] → Wd G A s.heap [(h_this, oX5 ad_this v_turned), ((ad_this 1), cJ G 3 a_came), ((ad_this 0), cJ G 3 a_stayed)] H locs → W p l e ({ frames := 2, cells := 0, slots := 0, locals := 42 } : Room) s m args below meth c H locs 0 0 Q (F0 m 4 ls []) := by
    intro n
    induction n with
    | zero => intro x1_4 x3_4 ls H locs hF hl hW; have h0 : none = some out := hF; cases h0
    | succ n ih =>
      intro x1_4 x3_4 ls H locs hF hl hW
      rw [L_X5_total_4] at hF
      refine lv_iload_n hx hb dX5_total_4 rfl (lv_at hl 2 rfl) ?_
      refine lv_iconst (v := 3) hx hb dX5_total_5 (by decide) ?_
      refine lv_icmp_ge (tgt := 23) hx hb dX5_total_6 (by decide) (fun c_6 => ?_) (fun c_6 => ?_)
      · have hF := ite_t hF c_6
        refine lv_lload_n hx hb dX5_total_23 rfl (lv_at hl 1 rfl) ?_
        obtain rfl := Option.some.inj hF
        exact hret _ _ _ _ hW dX5_total_24
      · have hF := ite_f hF c_6
        refine lv_lload_n hx hb dX5_total_9 rfl (lv_at hl 1 rfl) ?_
        refine lv_aload_n hx hb dX5_total_10 rfl (lv_at hl 0 rfl) ?_
        refine lv_iload_n hx hb dX5_total_11 rfl (lv_at hl 2 rfl) ?_
        obtain ⟨q12, c_12, hF⟩ := bd_el hF
        refine wcJ (ws' := [(h_this, oX5 ad_this v_turned), ((ad_this 1), cJ G 3 a_came), ((ad_this 0), cJ G 3 a_stayed)]) (wc := [(h_this, oX5 ad_this v_turned), ((ad_this 1), cJ G 3 a_came), ((ad_this 0), cJ G 3 a_stayed)]) (wr := []) (w1 := [(h_this, oX5 ad_this v_turned), ((ad_this 1), cJ G 3 a_came), ((ad_this 0), cJ G 3 a_stayed)]) (va_runV (As := [.int x3_4]) (rest := [.long x1_4]) ⟨hx, hb, hml, hown, hg⟩ (c_X5_waysTo l G x3_4 h_this ad_this v_turned a_came a_stayed q12 c_12 H.size) (cwV 1 hg (gV wd_3_2 wd_3_3 wd_3_4 wd_1_6 wd_3_5) rfl rfl rfl hdV_X5_waysTo ⟨(Nat.le_of_ble_eq_true rfl), (Nat.le_of_ble_eq_true rfl)⟩) (preV hc hW [0, 1, 2] rfl (by decide) rfl rfl) rfl rfl hl.1 rfl (lv_room (Nat.le_of_ble_eq_true rfl)) dX5_total_12 ⟨Nat.zero_le _, Nat.zero_le _⟩) hA hW [0, 1, 2] [] [0, 1, 2] rfl rfl (by decide) (by decide) rfl (by decide) (fun H locs hW => ?_)
        refine lv_ladd hx hb dX5_total_15 ?_
        refine lv_lstore_n (lv' := [(1, .long ((x1_4 + q12))), (0, .ref h_this), (3, .int x3_4)]) hx hb dX5_total_16 rfl hl (by decide) rfl (fun ls hl => ?_)
        refine lv_iinc (v := (x3_4 + 1)) (lv' := [(3, .int ((x3_4 + 1))), (1, .long ((x1_4 + q12))), (0, .ref h_this)]) hx hb dX5_total_17 hl (k := 2) rfl rfl (by decide) rfl (fun ls hl => ?_)
        refine lv_goto (tgt := 4) hx hb dX5_total_20 (by decide) ?_
        exact ih ((x1_4 + q12)) ((x3_4 + 1)) _ _ _ hF (lv_sub hl [2, 1, 0] rfl) hW
  exact L_4 5000 0 0 _ _ _ hF (lv_sub hl [2, 1, 0] rfl) hW
theorem dX5_all_0 : decode cX5_all 0 = .ok (.aload_n 0, 1) := by decide +kernel
theorem dX5_all_1 : decode cX5_all 1 = .ok (.invokevirtual 28, 3) := by decide +kernel
theorem dX5_all_4 : decode cX5_all 4 = .ok (.aload_n 0, 1) := by decide +kernel
theorem dX5_all_5 : decode cX5_all 5 = .ok (.getfield 32, 3) := by decide +kernel
theorem dX5_all_8 : decode cX5_all 8 = .ok (.ladd, 1) := by decide +kernel
theorem dX5_all_9 : decode cX5_all 9 = .ok (.lreturn, 1) := by decide +kernel
def F_X5_all (v_turned : Int64) (a_came : Nat → Int64) (a_stayed : Nat → Int64) : Option (Int64) := (F_X5_total a_came a_stayed).bind (fun q1 => some ((q1 + v_turned)))
theorem hdV_X5_all : yX5_all.cls = RX5 ∧ yX5_all.cls ≠ "java/lang/invoke/MethodHandle" ∧ yX5_all.cls ≠ "java/lang/invoke/VarHandle" ∧ (parseMethodDescriptor yX5_all.desc).map (fun d => d.parameters.length) = some 0 := by decide +kernel
set_option maxHeartbeats 4000000 in
set_option maxRecDepth 100000 in
theorem c_X5_all (l : Launch) (G : GG) (h_this : Nat) (ad_this : Nat → Nat) (v_turned : Int64) (a_came : Nat → Int64) (a_stayed : Nat → Int64) (out : Int64) (hF : F_X5_all v_turned a_came a_stayed = some out) : CtrJ l yX5_all (WS yX5_all cX5_all 1 (some .long)) { frames := 3, cells := 0, slots := 0, locals := 65 } G [.ref h_this] [(h_this, oX5 ad_this v_turned), ((ad_this 1), cJ G 3 a_came), ((ad_this 0), cJ G 3 a_stayed)] [(h_this, oX5 ad_this v_turned), ((ad_this 1), cJ G 3 a_came), ((ad_this 0), cJ G 3 a_stayed)] out := by
  refine startJ (cc := cX5_all) (maxL := 1) (by decide) rfl (Nat.le_of_ble_eq_true rfl) ?_
  intro p e s m args below meth c A Q hx hb hml hts hown hc hA hret ls H locs hl hW
  have hown : s.vm.findClass RX5 = some m.cls := hown
  have hg : ∀ w ∈ GOODS, w.before _ s = true := fun w h => hts w (List.mem_cons_of_mem _ h)
  have hl : lv_has ls 1 [(0, .ref h_this)] := hl
  rw [F_X5_all] at hF
  refine lv_aload_n hx hb dX5_all_0 rfl (lv_at hl 0 rfl) ?_
  obtain ⟨q1, c_1, hF⟩ := bd_el hF
  refine wcJ (ws' := [(h_this, oX5 ad_this v_turned), ((ad_this 1), cJ G 3 a_came), ((ad_this 0), cJ G 3 a_stayed)]) (wc := [(h_this, oX5 ad_this v_turned), ((ad_this 1), cJ G 3 a_came), ((ad_this 0), cJ G 3 a_stayed)]) (wr := []) (w1 := [(h_this, oX5 ad_this v_turned), ((ad_this 1), cJ G 3 a_came), ((ad_this 0), cJ G 3 a_stayed)]) (va_runV (As := []) (rest := []) ⟨hx, hb, hml, hown, hg⟩ (c_X5_total l G h_this ad_this v_turned a_came a_stayed q1 c_1 H.size) (cwV 0 hg (gV wd_3_59 wd_3_31 wd_3_32 wd_1_6 wd_3_33) rfl rfl rfl hdV_X5_total ⟨(Nat.le_of_ble_eq_true rfl), (Nat.le_of_ble_eq_true rfl)⟩) (preV hc hW [0, 1, 2] rfl (by decide) rfl rfl) rfl rfl hl.1 rfl (lv_room (Nat.le_of_ble_eq_true rfl)) dX5_all_1 ⟨Nat.zero_le _, Nat.zero_le _⟩) hA hW [0, 1, 2] [] [0, 1, 2] rfl rfl (by decide) (by decide) rfl (by decide) (fun H locs hW => ?_)
  refine lv_aload_n hx hb dX5_all_4 rfl (lv_at hl 0 rfl) ?_
  refine va_get (D := G.1) (ci := 4) (v := .long v_turned) (C := RX5) (T := TX5) (N := 3) hx hb hg hu_X5 hown hc.1 hW.1 0 rfl rfl 2 (by decide) (hg _ wd_1_143) (fun _ h9 => h9) rfl dX5_all_5 ?_
  refine lv_ladd hx hb dX5_all_8 ?_
  obtain rfl := Option.some.inj hF
  exact hret _ _ _ _ hW dX5_all_9
theorem dX5_takeFrom_0 : decode cX5_takeFrom 0 = .ok (.iconst 0, 1) := by decide +kernel
theorem dX5_takeFrom_1 : decode cX5_takeFrom 1 = .ok (.istore_n 2, 1) := by decide +kernel
theorem dX5_takeFrom_2 : decode cX5_takeFrom 2 = .ok (.iload_n 2, 1) := by decide +kernel
theorem dX5_takeFrom_3 : decode cX5_takeFrom 3 = .ok (.iconst 3, 1) := by decide +kernel
theorem dX5_takeFrom_4 : decode cX5_takeFrom 4 = .ok (.if_icmp .ge 31, 3) := by decide +kernel
theorem dX5_takeFrom_7 : decode cX5_takeFrom 7 = .ok (.aload_n 0, 1) := by decide +kernel
theorem dX5_takeFrom_8 : decode cX5_takeFrom 8 = .ok (.getfield 9, 3) := by decide +kernel
theorem dX5_takeFrom_11 : decode cX5_takeFrom 11 = .ok (.iload_n 2, 1) := by decide +kernel
theorem dX5_takeFrom_12 : decode cX5_takeFrom 12 = .ok (.aload_n 1, 1) := by decide +kernel
theorem dX5_takeFrom_13 : decode cX5_takeFrom 13 = .ok (.iload_n 2, 1) := by decide +kernel
theorem dX5_takeFrom_14 : decode cX5_takeFrom 14 = .ok (.invokevirtual 24, 3) := by decide +kernel
theorem dX5_takeFrom_17 : decode cX5_takeFrom 17 = .ok (.invokestatic 36, 3) := by decide +kernel
theorem dX5_takeFrom_20 : decode cX5_takeFrom 20 = .ok (.aload_n 0, 1) := by decide +kernel
theorem dX5_takeFrom_21 : decode cX5_takeFrom 21 = .ok (.getfield 15, 3) := by decide +kernel
theorem dX5_takeFrom_24 : decode cX5_takeFrom 24 = .ok (.iload_n 2, 1) := by decide +kernel
theorem dX5_takeFrom_25 : decode cX5_takeFrom 25 = .ok (.lconst 0, 1) := by decide +kernel
theorem dX5_takeFrom_26 : decode cX5_takeFrom 26 = .ok (.invokestatic 36, 3) := by decide +kernel
theorem dX5_takeFrom_29 : decode cX5_takeFrom 29 = .ok (.iinc 2 1, 3) := by decide +kernel
theorem dX5_takeFrom_32 : decode cX5_takeFrom 32 = .ok (.goto (-30), 3) := by decide +kernel
theorem dX5_takeFrom_35 : decode cX5_takeFrom 35 = .ok (.aload_n 0, 1) := by decide +kernel
theorem dX5_takeFrom_36 : decode cX5_takeFrom 36 = .ok (.aload_n 1, 1) := by decide +kernel
theorem dX5_takeFrom_37 : decode cX5_takeFrom 37 = .ok (.getfield 32, 3) := by decide +kernel
theorem dX5_takeFrom_40 : decode cX5_takeFrom 40 = .ok (.putfield 32, 3) := by decide +kernel
theorem dX5_takeFrom_43 : decode cX5_takeFrom 43 = .ok (.return_, 1) := by decide +kernel
def L_X5_takeFrom_2 (a_p1_came : Nat → Int64) (a_p1_stayed : Nat → Int64) (k_35 : (Nat → Int64) → (Nat → Int64) → Option (Int64 × (Nat → Int64) × (Nat → Int64))) : Nat → Int32 → (Nat → Int64) → (Nat → Int64) → Option (Int64 × (Nat → Int64) × (Nat → Int64))
  | 0, _, _, _ => none
  | n + 1, x2_2, a_came_2, a_stayed_2 => (if 3 ≤ x2_2 then k_35 a_came_2 a_stayed_2 else (F_X5_waysTo x2_2 a_p1_came a_p1_stayed).bind (fun q14 => (F_X4_putLong x2_2 q14 3 a_stayed_2).bind (fun q17 => (F_X4_putLong x2_2 0 3 a_came_2).bind (fun q26 => L_X5_takeFrom_2 a_p1_came a_p1_stayed k_35 n ((x2_2 + 1)) q26 q17))))
def F_X5_takeFrom (v_turned : Int64) (v_p1_turned : Int64) (a_p1_came : Nat → Int64) (a_p1_stayed : Nat → Int64) (a_came : Nat → Int64) (a_stayed : Nat → Int64) : Option (Int64 × (Nat → Int64) × (Nat → Int64)) := jn (fun (a_came_35 : Nat → Int64) (a_stayed_35 : Nat → Int64) => some (v_p1_turned, a_came_35, a_stayed_35)) (fun k_35 => L_X5_takeFrom_2 a_p1_came a_p1_stayed k_35 5000 0 a_came a_stayed)
theorem hdV_X5_takeFrom : yX5_takeFrom.cls = RX5 ∧ yX5_takeFrom.cls ≠ "java/lang/invoke/MethodHandle" ∧ yX5_takeFrom.cls ≠ "java/lang/invoke/VarHandle" ∧ (parseMethodDescriptor yX5_takeFrom.desc).map (fun d => d.parameters.length) = some 1 := by decide +kernel
set_option maxHeartbeats 4000000 in
set_option maxRecDepth 100000 in
theorem c_X5_takeFrom (l : Launch) (G : GG) (h_this : Nat) (h_p1 : Nat) (ad_this : Nat → Nat) (ad_p1 : Nat → Nat) (v_turned : Int64) (v_p1_turned : Int64) (a_p1_came : Nat → Int64) (a_p1_stayed : Nat → Int64) (a_came : Nat → Int64) (a_stayed : Nat → Int64) (out : Int64 × (Nat → Int64) × (Nat → Int64)) (hF : F_X5_takeFrom v_turned v_p1_turned a_p1_came a_p1_stayed a_came a_stayed = some out) : CtrV l yX5_takeFrom (WS yX5_takeFrom cX5_takeFrom 3 none) { frames := 2, cells := 0, slots := 0, locals := 42 } G [.ref h_this, .ref h_p1] [(h_this, oX5 ad_this v_turned), (h_p1, oX5 ad_p1 v_p1_turned), ((ad_p1 1), cJ G 3 a_p1_came), ((ad_p1 0), cJ G 3 a_p1_stayed), ((ad_this 1), cJ G 3 a_came), ((ad_this 0), cJ G 3 a_stayed)] [(h_this, oX5 ad_this out.1), (h_p1, oX5 ad_p1 v_p1_turned), ((ad_p1 1), cJ G 3 a_p1_came), ((ad_p1 0), cJ G 3 a_p1_stayed), ((ad_this 1), cJ G 3 out.2.1), ((ad_this 0), cJ G 3 out.2.2)] := by
  refine startV (cc := cX5_takeFrom) (maxL := 3) (by decide) rfl (Nat.le_of_ble_eq_true rfl) ?_
  intro p e s m args below meth c A Q hx hb hml hts hown hc hA hret ls H locs hl hW
  have hown : s.vm.findClass RX5 = some m.cls := hown
  have hg : ∀ w ∈ GOODS, w.before _ s = true := fun w h => hts w (List.mem_cons_of_mem _ h)
  have hl : lv_has ls 3 [(0, .ref h_this), (1, .ref h_p1)] := hl
  rw [F_X5_takeFrom] at hF
  refine lv_iconst (v := 0) hx hb dX5_takeFrom_0 (by decide) ?_
  refine lv_istore_n (lv' := [(2, .int 0), (0, .ref h_this), (1, .ref h_p1)]) hx hb dX5_takeFrom_1 rfl hl (by decide) rfl (fun ls hl => ?_)
  obtain ⟨k_35, e_35, hF⟩ := jn_el hF
  have J_35 : ∀ (a_came_35 : Nat → Int64) (a_stayed_35 : Nat → Int64) (ls : Array Slot) (H : Heap) (locs : List Loc), k_35 a_came_35 a_stayed_35 = some out → lv_has ls 3 [(0, .ref h_this), (1, .ref h_p1)] → Wd G A s.heap [(h_this, oX5 ad_this v_turned), (h_p1, oX5 ad_p1 v_p1_turned), ((ad_p1 1), cJ G 3 a_p1_came), ((ad_p1 0), cJ G 3 a_p1_stayed), ((ad_this 1), cJ G 3 a_came_35), ((ad_this 0), cJ G 3 a_stayed_35)] H locs → W p l e ({ frames := 2, cells := 0, slots := 0, locals := 42 } : Room) s m args below meth c H locs 0 0 Q (F0 m 35 ls []) := by
    intro a_came_35 a_stayed_35 ls H locs hF hl hW
    rw [e_35] at hF
    dsimp only at hF
    refine lv_aload_n hx hb dX5_takeFrom_35 rfl (lv_at hl 0 rfl) ?_
    refine lv_aload_n hx hb dX5_takeFrom_36 rfl (lv_at hl 1 rfl) ?_
    refine va_get (D := G.1) (ci := 4) (v := .long v_p1_turned) (C := RX5) (T := TX5) (N := 3) hx hb hg hu_X5 hown hc.1 hW.1 1 rfl rfl 2 (by decide) (hg _ wd_1_143) (fun _ h9 => h9) rfl dX5_takeFrom_37 ?_
    refine va_put (D := G.1) (ci := 4) (v := .long v_p1_turned) (ty := .long) (C := RX5) (T := TX5) (N := 3) hx hb hg hu_X5 tyX5 tyX5_ok nmX5 hown hc.1 hW.1 hW.2.1 hW.2.2 0 rfl rfl 2 (by decide) (hg _ wd_1_143) (fun _ h9 => h9) rfl (by decide +kernel) rfl rfl (Nat.le_of_ble_eq_true rfl) dX5_takeFrom_40 (fun H locs hP hD hS => ?_)
    have hW : Wd G A s.heap [(h_this, oX5 ad_this v_p1_turned), (h_p1, oX5 ad_p1 v_p1_turned), ((ad_p1 1), cJ G 3 a_p1_came), ((ad_p1 0), cJ G 3 a_p1_stayed), ((ad_this 1), cJ G 3 a_came_35), ((ad_this 0), cJ G 3 a_stayed_35)] H locs := ⟨hP, hD, hS⟩
    obtain rfl := Option.some.inj hF
    exact hret _ _ _ _ hW dX5_takeFrom_43
  have L_2 : ∀ (n : Nat) (x2_2 : Int32) (a_came_2 : Nat → Int64) (a_stayed_2 : Nat → Int64) (ls : Array Slot) (H : Heap) (locs : List Loc), L_X5_takeFrom_2 a_p1_came a_p1_stayed k_35 n x2_2 a_came_2 a_stayed_2 = some out → lv_has ls 3 [(0, .ref h_this), (1, .ref h_p1), (2, .int x2_2)] → Wd G A s.heap [(h_this, oX5 ad_this v_turned), (h_p1, oX5 ad_p1 v_p1_turned), ((ad_p1 1), cJ G 3 a_p1_came), ((ad_p1 0), cJ G 3 a_p1_stayed), ((ad_this 1), cJ G 3 a_came_2), ((ad_this 0), cJ G 3 a_stayed_2)] H locs → W p l e ({ frames := 2, cells := 0, slots := 0, locals := 42 } : Room) s m args below meth c H locs 0 0 Q (F0 m 2 ls []) := by
    intro n
    induction n with
    | zero => intro x2_2 a_came_2 a_stayed_2 ls H locs hF hl hW; have h0 : none = some out := hF; cases h0
    | succ n ih =>
      intro x2_2 a_came_2 a_stayed_2 ls H locs hF hl hW
      rw [L_X5_takeFrom_2] at hF
      refine lv_iload_n hx hb dX5_takeFrom_2 rfl (lv_at hl 2 rfl) ?_
      refine lv_iconst (v := 3) hx hb dX5_takeFrom_3 (by decide) ?_
      refine lv_icmp_ge (tgt := 35) hx hb dX5_takeFrom_4 (by decide) (fun c_4 => ?_) (fun c_4 => ?_)
      · have hF := ite_t hF c_4
        exact J_35 a_came_2 a_stayed_2 _ _ _ hF (lv_sub hl [0, 1] rfl) hW
      · have hF := ite_f hF c_4
        refine lv_aload_n hx hb dX5_takeFrom_7 rfl (lv_at hl 0 rfl) ?_
        refine va_get (D := G.1) (ci := 4) (v := .ref ((ad_this 0))) (C := RX5) (T := TX5) (N := 3) hx hb hg hu_X5 hown hc.1 hW.1 0 rfl rfl 0 (by decide) (hg _ wd_1_141) (fun _ h9 => h9) rfl dX5_takeFrom_8 ?_
        refine lv_iload_n hx hb dX5_takeFrom_11 rfl (lv_at hl 2 rfl) ?_
        refine lv_aload_n hx hb dX5_takeFrom_12 rfl (lv_at hl 1 rfl) ?_
        refine lv_iload_n hx hb dX5_takeFrom_13 rfl (lv_at hl 2 rfl) ?_
        obtain ⟨q14, c_14, hF⟩ := bd_el hF
        refine wcJ (ws' := [(h_this, oX5 ad_this v_turned), (h_p1, oX5 ad_p1 v_p1_turned), ((ad_p1 1), cJ G 3 a_p1_came), ((ad_p1 0), cJ G 3 a_p1_stayed), ((ad_this 1), cJ G 3 a_came_2), ((ad_this 0), cJ G 3 a_stayed_2)]) (wc := [(h_p1, oX5 ad_p1 v_p1_turned), ((ad_p1 1), cJ G 3 a_p1_came), ((ad_p1 0), cJ G 3 a_p1_stayed)]) (wr := [(h_this, oX5 ad_this v_turned), ((ad_this 1), cJ G 3 a_came_2), ((ad_this 0), cJ G 3 a_stayed_2)]) (w1 := [(h_p1, oX5 ad_p1 v_p1_turned), ((ad_p1 1), cJ G 3 a_p1_came), ((ad_p1 0), cJ G 3 a_p1_stayed)]) (va_runV (As := [.int x2_2]) (rest := [.int x2_2, .ref ((ad_this 0))]) ⟨hx, hb, hml, hown, hg⟩ (c_X5_waysTo l G x2_2 h_p1 ad_p1 v_p1_turned a_p1_came a_p1_stayed q14 c_14 H.size) (cwV 1 hg (gV wd_3_2 wd_3_3 wd_3_4 wd_1_6 wd_3_5) rfl rfl rfl hdV_X5_waysTo ⟨(Nat.le_of_ble_eq_true rfl), (Nat.le_of_ble_eq_true rfl)⟩) (preV hc hW [1, 2, 3] rfl (by decide) rfl rfl) rfl rfl hl.1 rfl (lv_room (Nat.le_of_ble_eq_true rfl)) dX5_takeFrom_14 ⟨Nat.zero_le _, Nat.zero_le _⟩) hA hW [1, 2, 3] [0, 4, 5] [0, 3, 4, 5, 1, 2] rfl rfl (by decide) (by decide) rfl (by decide) (fun H locs hW => ?_)
        obtain ⟨q17, c_17, hF⟩ := bd_el hF
        refine wcV (ws' := [(h_this, oX5 ad_this v_turned), (h_p1, oX5 ad_p1 v_p1_turned), ((ad_p1 1), cJ G 3 a_p1_came), ((ad_p1 0), cJ G 3 a_p1_stayed), ((ad_this 1), cJ G 3 a_came_2), ((ad_this 0), cJ G 3 q17)]) (wc := [((ad_this 0), cJ G 3 a_stayed_2)]) (wr := [(h_this, oX5 ad_this v_turned), (h_p1, oX5 ad_p1 v_p1_turned), ((ad_p1 1), cJ G 3 a_p1_came), ((ad_p1 0), cJ G 3 a_p1_stayed), ((ad_this 1), cJ G 3 a_came_2)]) (w1 := [((ad_this 0), cJ G 3 q17)]) (va_runS (As := [.ref ((ad_this 0)), .int x2_2, .long q14]) (rest := []) ⟨hx, hb, hml, hown, hg⟩ (c_X4_putLong l G x2_2 q14 3 ((ad_this 0)) a_stayed_2 q17 c_17 H.size) (va_cwS 3 hg (gS wd_2_225 wd_2_226 wd_1_14 wd_2_227) rfl rfl rfl hdS_X4_putLong ⟨(Nat.le_of_ble_eq_true rfl), (Nat.le_of_ble_eq_true rfl)⟩) (preS hc hW [5] rfl (by decide)) rfl rfl hl.1 rfl (lv_room (Nat.le_of_ble_eq_true rfl)) dX5_takeFrom_17 ⟨Nat.zero_le _, Nat.zero_le _⟩) hA hW [5] [0, 1, 2, 3, 4] [0, 1, 2, 3, 4, 5] rfl rfl (by decide) (by decide) rfl (by decide) (fun H locs hW => ?_)
        refine lv_aload_n hx hb dX5_takeFrom_20 rfl (lv_at hl 0 rfl) ?_
        refine va_get (D := G.1) (ci := 4) (v := .ref ((ad_this 1))) (C := RX5) (T := TX5) (N := 3) hx hb hg hu_X5 hown hc.1 hW.1 0 rfl rfl 1 (by decide) (hg _ wd_1_142) (fun _ h9 => h9) rfl dX5_takeFrom_21 ?_
        refine lv_iload_n hx hb dX5_takeFrom_24 rfl (lv_at hl 2 rfl) ?_
        refine lv_lconst (v := 0) hx hb dX5_takeFrom_25 (by decide) ?_
        obtain ⟨q26, c_26, hF⟩ := bd_el hF
        refine wcV (ws' := [(h_this, oX5 ad_this v_turned), (h_p1, oX5 ad_p1 v_p1_turned), ((ad_p1 1), cJ G 3 a_p1_came), ((ad_p1 0), cJ G 3 a_p1_stayed), ((ad_this 1), cJ G 3 q26), ((ad_this 0), cJ G 3 q17)]) (wc := [((ad_this 1), cJ G 3 a_came_2)]) (wr := [(h_this, oX5 ad_this v_turned), (h_p1, oX5 ad_p1 v_p1_turned), ((ad_p1 1), cJ G 3 a_p1_came), ((ad_p1 0), cJ G 3 a_p1_stayed), ((ad_this 0), cJ G 3 q17)]) (w1 := [((ad_this 1), cJ G 3 q26)]) (va_runS (As := [.ref ((ad_this 1)), .int x2_2, .long 0]) (rest := []) ⟨hx, hb, hml, hown, hg⟩ (c_X4_putLong l G x2_2 0 3 ((ad_this 1)) a_came_2 q26 c_26 H.size) (va_cwS 3 hg (gS wd_2_225 wd_2_226 wd_1_14 wd_2_227) rfl rfl rfl hdS_X4_putLong ⟨(Nat.le_of_ble_eq_true rfl), (Nat.le_of_ble_eq_true rfl)⟩) (preS hc hW [4] rfl (by decide)) rfl rfl hl.1 rfl (lv_room (Nat.le_of_ble_eq_true rfl)) dX5_takeFrom_26 ⟨Nat.zero_le _, Nat.zero_le _⟩) hA hW [4] [0, 1, 2, 3, 5] [0, 1, 2, 3, 5, 4] rfl rfl (by decide) (by decide) rfl (by decide) (fun H locs hW => ?_)
        refine lv_iinc (v := (x2_2 + 1)) (lv' := [(2, .int ((x2_2 + 1))), (0, .ref h_this), (1, .ref h_p1)]) hx hb dX5_takeFrom_29 hl (k := 2) rfl rfl (by decide) rfl (fun ls hl => ?_)
        refine lv_goto (tgt := 2) hx hb dX5_takeFrom_32 (by decide) ?_
        exact ih ((x2_2 + 1)) q26 q17 _ _ _ hF (lv_sub hl [1, 2, 0] rfl) hW
  exact L_2 5000 0 a_came a_stayed _ _ _ hF (lv_sub hl [1, 2, 0] rfl) hW
theorem dX5_goOn_0 : decode cX5_goOn 0 = .ok (.aload_n 0, 1) := by decide +kernel
theorem dX5_goOn_1 : decode cX5_goOn 1 = .ok (.dup, 1) := by decide +kernel
theorem dX5_goOn_2 : decode cX5_goOn 2 = .ok (.getfield 32, 3) := by decide +kernel
theorem dX5_goOn_5 : decode cX5_goOn 5 = .ok (.ldc2_w 65, 3) := by decide +kernel
theorem dX5_goOn_8 : decode cX5_goOn 8 = .ok (.lmul, 1) := by decide +kernel
theorem dX5_goOn_9 : decode cX5_goOn 9 = .ok (.putfield 32, 3) := by decide +kernel
theorem dX5_goOn_12 : decode cX5_goOn 12 = .ok (.iconst 2, 1) := by decide +kernel
theorem dX5_goOn_13 : decode cX5_goOn 13 = .ok (.istore_n 3, 1) := by decide +kernel
theorem dX5_goOn_14 : decode cX5_goOn 14 = .ok (.iload_n 3, 1) := by decide +kernel
theorem dX5_goOn_15 : decode cX5_goOn 15 = .ok (.ifCond .lt 79, 3) := by decide +kernel
theorem dX5_goOn_18 : decode cX5_goOn 18 = .ok (.aload_n 1, 1) := by decide +kernel
theorem dX5_goOn_19 : decode cX5_goOn 19 = .ok (.iload_n 3, 1) := by decide +kernel
theorem dX5_goOn_20 : decode cX5_goOn 20 = .ok (.iload_n 2, 1) := by decide +kernel
theorem dX5_goOn_21 : decode cX5_goOn 21 = .ok (.invokevirtual 67, 3) := by decide +kernel
theorem dX5_goOn_24 : decode cX5_goOn 24 = .ok (.istore 4, 2) := by decide +kernel
theorem dX5_goOn_26 : decode cX5_goOn 26 = .ok (.aload_n 0, 1) := by decide +kernel
theorem dX5_goOn_27 : decode cX5_goOn 27 = .ok (.iload_n 3, 1) := by decide +kernel
theorem dX5_goOn_28 : decode cX5_goOn 28 = .ok (.invokevirtual 24, 3) := by decide +kernel
theorem dX5_goOn_31 : decode cX5_goOn 31 = .ok (.lstore 5, 2) := by decide +kernel
theorem dX5_goOn_33 : decode cX5_goOn 33 = .ok (.aload_n 0, 1) := by decide +kernel
theorem dX5_goOn_34 : decode cX5_goOn 34 = .ok (.getfield 9, 3) := by decide +kernel
theorem dX5_goOn_37 : decode cX5_goOn 37 = .ok (.iload_n 3, 1) := by decide +kernel
theorem dX5_goOn_38 : decode cX5_goOn 38 = .ok (.lload 5, 2) := by decide +kernel
theorem dX5_goOn_40 : decode cX5_goOn 40 = .ok (.iconst 4, 1) := by decide +kernel
theorem dX5_goOn_41 : decode cX5_goOn 41 = .ok (.iload 4, 2) := by decide +kernel
theorem dX5_goOn_43 : decode cX5_goOn 43 = .ok (.isub, 1) := by decide +kernel
theorem dX5_goOn_44 : decode cX5_goOn 44 = .ok (.i2l, 1) := by decide +kernel
theorem dX5_goOn_45 : decode cX5_goOn 45 = .ok (.lmul, 1) := by decide +kernel
theorem dX5_goOn_46 : decode cX5_goOn 46 = .ok (.invokestatic 36, 3) := by decide +kernel
theorem dX5_goOn_49 : decode cX5_goOn 49 = .ok (.iload_n 3, 1) := by decide +kernel
theorem dX5_goOn_50 : decode cX5_goOn 50 = .ok (.iconst 2, 1) := by decide +kernel
theorem dX5_goOn_51 : decode cX5_goOn 51 = .ok (.if_icmp .ne 21, 3) := by decide +kernel
theorem dX5_goOn_54 : decode cX5_goOn 54 = .ok (.aload_n 0, 1) := by decide +kernel
theorem dX5_goOn_55 : decode cX5_goOn 55 = .ok (.dup, 1) := by decide +kernel
theorem dX5_goOn_56 : decode cX5_goOn 56 = .ok (.getfield 32, 3) := by decide +kernel
theorem dX5_goOn_59 : decode cX5_goOn 59 = .ok (.lload 5, 2) := by decide +kernel
theorem dX5_goOn_61 : decode cX5_goOn 61 = .ok (.iload 4, 2) := by decide +kernel
theorem dX5_goOn_63 : decode cX5_goOn 63 = .ok (.i2l, 1) := by decide +kernel
theorem dX5_goOn_64 : decode cX5_goOn 64 = .ok (.lmul, 1) := by decide +kernel
theorem dX5_goOn_65 : decode cX5_goOn 65 = .ok (.ladd, 1) := by decide +kernel
theorem dX5_goOn_66 : decode cX5_goOn 66 = .ok (.putfield 32, 3) := by decide +kernel
theorem dX5_goOn_69 : decode cX5_goOn 69 = .ok (.goto 19, 3) := by decide +kernel
theorem dX5_goOn_72 : decode cX5_goOn 72 = .ok (.aload_n 0, 1) := by decide +kernel
theorem dX5_goOn_73 : decode cX5_goOn 73 = .ok (.getfield 15, 3) := by decide +kernel
theorem dX5_goOn_76 : decode cX5_goOn 76 = .ok (.iload_n 3, 1) := by decide +kernel
theorem dX5_goOn_77 : decode cX5_goOn 77 = .ok (.iconst 1, 1) := by decide +kernel
theorem dX5_goOn_78 : decode cX5_goOn 78 = .ok (.iadd, 1) := by decide +kernel
theorem dX5_goOn_79 : decode cX5_goOn 79 = .ok (.lload 5, 2) := by decide +kernel
theorem dX5_goOn_81 : decode cX5_goOn 81 = .ok (.iload 4, 2) := by decide +kernel
theorem dX5_goOn_83 : decode cX5_goOn 83 = .ok (.i2l, 1) := by decide +kernel
theorem dX5_goOn_84 : decode cX5_goOn 84 = .ok (.lmul, 1) := by decide +kernel
theorem dX5_goOn_85 : decode cX5_goOn 85 = .ok (.invokestatic 36, 3) := by decide +kernel
theorem dX5_goOn_88 : decode cX5_goOn 88 = .ok (.iinc 3 (-1), 3) := by decide +kernel
theorem dX5_goOn_91 : decode cX5_goOn 91 = .ok (.goto (-77), 3) := by decide +kernel
theorem dX5_goOn_94 : decode cX5_goOn 94 = .ok (.return_, 1) := by decide +kernel
def L_X5_goOn_14 (x2 : Int32) (a_p1_lighter : Nat → Int32)  : Nat → Int32 → Int64 → (Nat → Int64) → (Nat → Int64) → Option (Int64 × (Nat → Int64) × (Nat → Int64))
  | 0, _, _, _, _ => none
  | n + 1, x3_14, v_turned_14, a_came_14, a_stayed_14 => (if x3_14 < 0 then some (v_turned_14, a_came_14, a_stayed_14) else (F_X8_chance x3_14 x2 a_p1_lighter).bind (fun q21 => (F_X5_waysTo x3_14 a_came_14 a_stayed_14).bind (fun q28 => (F_X4_putLong x3_14 ((q28 * (Int32.toInt64 ((4 - q21))))) 3 a_stayed_14).bind (fun q46 => jn (fun (v_turned_88 : Int64) (a_came_88 : Nat → Int64) => L_X5_goOn_14 x2 a_p1_lighter n ((x3_14 + (-1))) v_turned_88 a_came_88 q46) (fun k_88 => (if x3_14 = 2 then k_88 ((v_turned_14 + (q28 * (Int32.toInt64 q21)))) a_came_14 else (F_X4_putLong ((x3_14 + 1)) ((q28 * (Int32.toInt64 q21))) 3 a_came_14).bind (fun q85 => k_88 v_turned_14 q85)))))))
def F_X5_goOn (x2 : Int32) (v_turned : Int64) (a_p1_lighter : Nat → Int32) (a_came : Nat → Int64) (a_stayed : Nat → Int64) : Option (Int64 × (Nat → Int64) × (Nat → Int64)) := L_X5_goOn_14 x2 a_p1_lighter 5000 2 ((v_turned * 4)) a_came a_stayed
theorem hdV_X5_goOn : yX5_goOn.cls = RX5 ∧ yX5_goOn.cls ≠ "java/lang/invoke/MethodHandle" ∧ yX5_goOn.cls ≠ "java/lang/invoke/VarHandle" ∧ (parseMethodDescriptor yX5_goOn.desc).map (fun d => d.parameters.length) = some 2 := by decide +kernel
set_option maxHeartbeats 4000000 in
set_option maxRecDepth 100000 in
theorem c_X5_goOn (l : Launch) (G : GG) (x2 : Int32) (h_this : Nat) (h_p1 : Nat) (ad_this : Nat → Nat) (ad_p1 : Nat → Nat) (v_turned : Int64) (v_p1_signCount : Int32) (v_p1_houseCount : Int32) (v_p1_boatCount : Int32) (v_p1_workCount : Int32) (v_p1_turnCost : Int32) (v_p1_boatDayCost : Int32) (a_p1_lighter : Nat → Int32) (a_came : Nat → Int64) (a_stayed : Nat → Int64) (out : Int64 × (Nat → Int64) × (Nat → Int64)) (hF : F_X5_goOn x2 v_turned a_p1_lighter a_came a_stayed = some out) : CtrV l yX5_goOn (WS yX5_goOn cX5_goOn 7 none) { frames := 2, cells := 0, slots := 0, locals := 46 } G [.ref h_this, .ref h_p1, .int x2] [(h_this, oX5 ad_this v_turned), (h_p1, oX8 ad_p1 v_p1_signCount v_p1_houseCount v_p1_boatCount v_p1_workCount v_p1_turnCost v_p1_boatDayCost), ((ad_p1 0), cI G 3 a_p1_lighter), ((ad_this 1), cJ G 3 a_came), ((ad_this 0), cJ G 3 a_stayed)] [(h_this, oX5 ad_this out.1), (h_p1, oX8 ad_p1 v_p1_signCount v_p1_houseCount v_p1_boatCount v_p1_workCount v_p1_turnCost v_p1_boatDayCost), ((ad_p1 0), cI G 3 a_p1_lighter), ((ad_this 1), cJ G 3 out.2.1), ((ad_this 0), cJ G 3 out.2.2)] := by
  refine startV (cc := cX5_goOn) (maxL := 7) (by decide) rfl (Nat.le_of_ble_eq_true rfl) ?_
  intro p e s m args below meth c A Q hx hb hml hts hown hc hA hret ls H locs hl hW
  have hown : s.vm.findClass RX5 = some m.cls := hown
  have hg : ∀ w ∈ GOODS, w.before _ s = true := fun w h => hts w (List.mem_cons_of_mem _ h)
  have hl : lv_has ls 7 [(0, .ref h_this), (1, .ref h_p1), (2, .int x2)] := hl
  rw [F_X5_goOn] at hF
  refine lv_aload_n hx hb dX5_goOn_0 rfl (lv_at hl 0 rfl) ?_
  refine lv_dup hx hb dX5_goOn_1 rfl ?_
  refine va_get (D := G.1) (ci := 4) (v := .long v_turned) (C := RX5) (T := TX5) (N := 3) hx hb hg hu_X5 hown hc.1 hW.1 0 rfl rfl 2 (by decide) (hg _ wd_1_143) (fun _ h9 => h9) rfl dX5_goOn_2 ?_
  refine lv_ldc2 (v := 4) hx hb hown (hg _ wd_2_234) dX5_goOn_5 ?_
  refine lv_lmul hx hb dX5_goOn_8 ?_
  refine va_put (D := G.1) (ci := 4) (v := .long ((v_turned * 4))) (ty := .long) (C := RX5) (T := TX5) (N := 3) hx hb hg hu_X5 tyX5 tyX5_ok nmX5 hown hc.1 hW.1 hW.2.1 hW.2.2 0 rfl rfl 2 (by decide) (hg _ wd_1_143) (fun _ h9 => h9) rfl (by decide +kernel) rfl rfl (Nat.le_of_ble_eq_true rfl) dX5_goOn_9 (fun H locs hP hD hS => ?_)
  have hW : Wd G A s.heap [(h_this, oX5 ad_this ((v_turned * 4))), (h_p1, oX8 ad_p1 v_p1_signCount v_p1_houseCount v_p1_boatCount v_p1_workCount v_p1_turnCost v_p1_boatDayCost), ((ad_p1 0), cI G 3 a_p1_lighter), ((ad_this 1), cJ G 3 a_came), ((ad_this 0), cJ G 3 a_stayed)] H locs := ⟨hP, hD, hS⟩
  refine lv_iconst (v := 2) hx hb dX5_goOn_12 (by decide) ?_
  refine lv_istore_n (lv' := [(3, .int 2), (0, .ref h_this), (1, .ref h_p1), (2, .int x2)]) hx hb dX5_goOn_13 rfl hl (by decide) rfl (fun ls hl => ?_)
  have L_14 : ∀ (n : Nat) (x3_14 : Int32) (v_turned_14 : Int64) (a_came_14 : Nat → Int64) (a_stayed_14 : Nat → Int64) (ls : Array Slot) (H : Heap) (locs : List Loc), L_X5_goOn_14 x2 a_p1_lighter n x3_14 v_turned_14 a_came_14 a_stayed_14 = some out → lv_has ls 7 [(0, .ref h_this), (1, .ref h_p1), (2, .int x2), (3, .int x3_14)] → Wd G A s.heap [(h_this, oX5 ad_this v_turned_14), (h_p1, oX8 ad_p1 v_p1_signCount v_p1_houseCount v_p1_boatCount v_p1_workCount v_p1_turnCost v_p1_boatDayCost), ((ad_p1 0), cI G 3 a_p1_lighter), ((ad_this 1), cJ G 3 a_came_14), ((ad_this 0), cJ G 3 a_stayed_14)] H locs → W p l e ({ frames := 2, cells := 0, slots := 0, locals := 46 } : Room) s m args below meth c H locs 0 0 Q (F0 m 14 ls []) := by
    intro n
    induction n with
    | zero => intro x3_14 v_turned_14 a_came_14 a_stayed_14 ls H locs hF hl hW; have h0 : none = some out := hF; cases h0
    | succ n ih =>
      intro x3_14 v_turned_14 a_came_14 a_stayed_14 ls H locs hF hl hW
      rw [L_X5_goOn_14] at hF
      refine lv_iload_n hx hb dX5_goOn_14 rfl (lv_at hl 3 rfl) ?_
      refine lv_if_lt (tgt := 94) hx hb dX5_goOn_15 (by decide) (fun c_15 => ?_) (fun c_15 => ?_)
      · have hF := ite_t hF c_15
        obtain rfl := Option.some.inj hF
        exact hret _ _ _ _ hW dX5_goOn_94
      · have hF := ite_f hF c_15
        refine lv_aload_n hx hb dX5_goOn_18 rfl (lv_at hl 1 rfl) ?_
        refine lv_iload_n hx hb dX5_goOn_19 rfl (lv_at hl 3 rfl) ?_
        refine lv_iload_n hx hb dX5_goOn_20 rfl (lv_at hl 2 rfl) ?_
        obtain ⟨q21, c_21, hF⟩ := bd_el hF
        refine wcI (ws' := [(h_this, oX5 ad_this v_turned_14), (h_p1, oX8 ad_p1 v_p1_signCount v_p1_houseCount v_p1_boatCount v_p1_workCount v_p1_turnCost v_p1_boatDayCost), ((ad_p1 0), cI G 3 a_p1_lighter), ((ad_this 1), cJ G 3 a_came_14), ((ad_this 0), cJ G 3 a_stayed_14)]) (wc := [(h_p1, oX8 ad_p1 v_p1_signCount v_p1_houseCount v_p1_boatCount v_p1_workCount v_p1_turnCost v_p1_boatDayCost), ((ad_p1 0), cI G 3 a_p1_lighter)]) (wr := [(h_this, oX5 ad_this v_turned_14), ((ad_this 1), cJ G 3 a_came_14), ((ad_this 0), cJ G 3 a_stayed_14)]) (w1 := [(h_p1, oX8 ad_p1 v_p1_signCount v_p1_houseCount v_p1_boatCount v_p1_workCount v_p1_turnCost v_p1_boatDayCost), ((ad_p1 0), cI G 3 a_p1_lighter)]) (va_runV (As := [.int x3_14, .int x2]) (rest := []) ⟨hx, hb, hml, hown, hg⟩ (c_X8_chance l G x3_14 x2 h_p1 ad_p1 v_p1_signCount v_p1_houseCount v_p1_boatCount v_p1_workCount v_p1_turnCost v_p1_boatDayCost a_p1_lighter q21 c_21 H.size) (cwV 2 hg (gV wd_2_235 wd_2_236 wd_2_237 wd_1_4 wd_2_238) rfl rfl rfl hdV_X8_chance ⟨(Nat.le_of_ble_eq_true rfl), (Nat.le_of_ble_eq_true rfl)⟩) (preV hc hW [1, 2] rfl (by decide) rfl rfl) rfl rfl hl.1 rfl (lv_room (Nat.le_of_ble_eq_true rfl)) dX5_goOn_21 ⟨Nat.zero_le _, Nat.zero_le _⟩) hA hW [1, 2] [0, 3, 4] [0, 3, 4, 1, 2] rfl rfl (by decide) (by decide) rfl (by decide) (fun H locs hW => ?_)
        refine lv_istore (lv' := [(4, .int q21), (0, .ref h_this), (1, .ref h_p1), (2, .int x2), (3, .int x3_14)]) hx hb dX5_goOn_24 hl (by decide) rfl (fun ls hl => ?_)
        refine lv_aload_n hx hb dX5_goOn_26 rfl (lv_at hl 1 rfl) ?_
        refine lv_iload_n hx hb dX5_goOn_27 rfl (lv_at hl 4 rfl) ?_
        obtain ⟨q28, c_28, hF⟩ := bd_el hF
        refine wcJ (ws' := [(h_this, oX5 ad_this v_turned_14), (h_p1, oX8 ad_p1 v_p1_signCount v_p1_houseCount v_p1_boatCount v_p1_workCount v_p1_turnCost v_p1_boatDayCost), ((ad_p1 0), cI G 3 a_p1_lighter), ((ad_this 1), cJ G 3 a_came_14), ((ad_this 0), cJ G 3 a_stayed_14)]) (wc := [(h_this, oX5 ad_this v_turned_14), ((ad_this 1), cJ G 3 a_came_14), ((ad_this 0), cJ G 3 a_stayed_14)]) (wr := [(h_p1, oX8 ad_p1 v_p1_signCount v_p1_houseCount v_p1_boatCount v_p1_workCount v_p1_turnCost v_p1_boatDayCost), ((ad_p1 0), cI G 3 a_p1_lighter)]) (w1 := [(h_this, oX5 ad_this v_turned_14), ((ad_this 1), cJ G 3 a_came_14), ((ad_this 0), cJ G 3 a_stayed_14)]) (va_runV (As := [.int x3_14]) (rest := []) ⟨hx, hb, hml, hown, hg⟩ (c_X5_waysTo l G x3_14 h_this ad_this v_turned_14 a_came_14 a_stayed_14 q28 c_28 H.size) (cwV 1 hg (gV wd_3_2 wd_3_3 wd_3_4 wd_1_6 wd_3_5) rfl rfl rfl hdV_X5_waysTo ⟨(Nat.le_of_ble_eq_true rfl), (Nat.le_of_ble_eq_true rfl)⟩) (preV hc hW [0, 3, 4] rfl (by decide) rfl rfl) rfl rfl hl.1 rfl (lv_room (Nat.le_of_ble_eq_true rfl)) dX5_goOn_28 ⟨Nat.zero_le _, Nat.zero_le _⟩) hA hW [0, 3, 4] [1, 2] [2, 0, 1, 3, 4] rfl rfl (by decide) (by decide) rfl (by decide) (fun H locs hW => ?_)
        refine lv_lstore (lv' := [(5, .long q28), (4, .int q21), (0, .ref h_this), (1, .ref h_p1), (2, .int x2), (3, .int x3_14)]) hx hb dX5_goOn_31 hl (by decide) rfl (fun ls hl => ?_)
        refine lv_aload_n hx hb dX5_goOn_33 rfl (lv_at hl 2 rfl) ?_
        refine va_get (D := G.1) (ci := 4) (v := .ref ((ad_this 0))) (C := RX5) (T := TX5) (N := 3) hx hb hg hu_X5 hown hc.1 hW.1 0 rfl rfl 0 (by decide) (hg _ wd_1_141) (fun _ h9 => h9) rfl dX5_goOn_34 ?_
        refine lv_iload_n hx hb dX5_goOn_37 rfl (lv_at hl 5 rfl) ?_
        refine lv_lload hx hb dX5_goOn_38 (lv_at hl 0 rfl) ?_
        refine lv_iconst (v := 4) hx hb dX5_goOn_40 (by decide) ?_
        refine lv_iload hx hb dX5_goOn_41 (lv_at hl 1 rfl) ?_
        refine lv_isub hx hb dX5_goOn_43 ?_
        refine lv_i2l (v := (Int32.toInt64 ((4 - q21)))) hx hb dX5_goOn_44 rfl ?_
        refine lv_lmul hx hb dX5_goOn_45 ?_
        obtain ⟨q46, c_46, hF⟩ := bd_el hF
        refine wcV (ws' := [(h_this, oX5 ad_this v_turned_14), (h_p1, oX8 ad_p1 v_p1_signCount v_p1_houseCount v_p1_boatCount v_p1_workCount v_p1_turnCost v_p1_boatDayCost), ((ad_p1 0), cI G 3 a_p1_lighter), ((ad_this 1), cJ G 3 a_came_14), ((ad_this 0), cJ G 3 q46)]) (wc := [((ad_this 0), cJ G 3 a_stayed_14)]) (wr := [(h_this, oX5 ad_this v_turned_14), (h_p1, oX8 ad_p1 v_p1_signCount v_p1_houseCount v_p1_boatCount v_p1_workCount v_p1_turnCost v_p1_boatDayCost), ((ad_p1 0), cI G 3 a_p1_lighter), ((ad_this 1), cJ G 3 a_came_14)]) (w1 := [((ad_this 0), cJ G 3 q46)]) (va_runS (As := [.ref ((ad_this 0)), .int x3_14, .long ((q28 * (Int32.toInt64 ((4 - q21)))))]) (rest := []) ⟨hx, hb, hml, hown, hg⟩ (c_X4_putLong l G x3_14 ((q28 * (Int32.toInt64 ((4 - q21))))) 3 ((ad_this 0)) a_stayed_14 q46 c_46 H.size) (va_cwS 3 hg (gS wd_2_225 wd_2_226 wd_1_14 wd_2_227) rfl rfl rfl hdS_X4_putLong ⟨(Nat.le_of_ble_eq_true rfl), (Nat.le_of_ble_eq_true rfl)⟩) (preS hc hW [4] rfl (by decide)) rfl rfl hl.1 rfl (lv_room (Nat.le_of_ble_eq_true rfl)) dX5_goOn_46 ⟨Nat.zero_le _, Nat.zero_le _⟩) hA hW [4] [0, 1, 2, 3] [0, 1, 2, 3, 4] rfl rfl (by decide) (by decide) rfl (by decide) (fun H locs hW => ?_)
        refine lv_iload_n hx hb dX5_goOn_49 rfl (lv_at hl 5 rfl) ?_
        refine lv_iconst (v := 2) hx hb dX5_goOn_50 (by decide) ?_
        obtain ⟨k_88, e_88, hF⟩ := jn_el hF
        have J_88 : ∀ (v_turned_88 : Int64) (a_came_88 : Nat → Int64) (ls : Array Slot) (H : Heap) (locs : List Loc), k_88 v_turned_88 a_came_88 = some out → lv_has ls 7 [(0, .ref h_this), (1, .ref h_p1), (2, .int x2), (3, .int x3_14)] → Wd G A s.heap [(h_this, oX5 ad_this v_turned_88), (h_p1, oX8 ad_p1 v_p1_signCount v_p1_houseCount v_p1_boatCount v_p1_workCount v_p1_turnCost v_p1_boatDayCost), ((ad_p1 0), cI G 3 a_p1_lighter), ((ad_this 1), cJ G 3 a_came_88), ((ad_this 0), cJ G 3 q46)] H locs → W p l e ({ frames := 2, cells := 0, slots := 0, locals := 46 } : Room) s m args below meth c H locs 0 0 Q (F0 m 88 ls []) := by
          intro v_turned_88 a_came_88 ls H locs hF hl hW
          rw [e_88] at hF
          dsimp only at hF
          refine lv_iinc (v := (x3_14 + (-1))) (lv' := [(3, .int ((x3_14 + (-1)))), (0, .ref h_this), (1, .ref h_p1), (2, .int x2)]) hx hb dX5_goOn_88 hl (k := 3) rfl rfl (by decide) rfl (fun ls hl => ?_)
          refine lv_goto (tgt := 14) hx hb dX5_goOn_91 (by decide) ?_
          exact ih ((x3_14 + (-1))) v_turned_88 a_came_88 q46 _ _ _ hF (lv_sub hl [1, 2, 3, 0] rfl) hW
        refine lv_icmp_ne (tgt := 72) hx hb dX5_goOn_51 (by decide) (fun c_51 => ?_) (fun c_51 => ?_)
        · have hF := ite_f hF c_51
          refine lv_aload_n hx hb dX5_goOn_72 rfl (lv_at hl 2 rfl) ?_
          refine va_get (D := G.1) (ci := 4) (v := .ref ((ad_this 1))) (C := RX5) (T := TX5) (N := 3) hx hb hg hu_X5 hown hc.1 hW.1 0 rfl rfl 1 (by decide) (hg _ wd_1_142) (fun _ h9 => h9) rfl dX5_goOn_73 ?_
          refine lv_iload_n hx hb dX5_goOn_76 rfl (lv_at hl 5 rfl) ?_
          refine lv_iconst (v := 1) hx hb dX5_goOn_77 (by decide) ?_
          refine lv_iadd hx hb dX5_goOn_78 ?_
          refine lv_lload hx hb dX5_goOn_79 (lv_at hl 0 rfl) ?_
          refine lv_iload hx hb dX5_goOn_81 (lv_at hl 1 rfl) ?_
          refine lv_i2l (v := (Int32.toInt64 q21)) hx hb dX5_goOn_83 rfl ?_
          refine lv_lmul hx hb dX5_goOn_84 ?_
          obtain ⟨q85, c_85, hF⟩ := bd_el hF
          refine wcV (ws' := [(h_this, oX5 ad_this v_turned_14), (h_p1, oX8 ad_p1 v_p1_signCount v_p1_houseCount v_p1_boatCount v_p1_workCount v_p1_turnCost v_p1_boatDayCost), ((ad_p1 0), cI G 3 a_p1_lighter), ((ad_this 1), cJ G 3 q85), ((ad_this 0), cJ G 3 q46)]) (wc := [((ad_this 1), cJ G 3 a_came_14)]) (wr := [(h_this, oX5 ad_this v_turned_14), (h_p1, oX8 ad_p1 v_p1_signCount v_p1_houseCount v_p1_boatCount v_p1_workCount v_p1_turnCost v_p1_boatDayCost), ((ad_p1 0), cI G 3 a_p1_lighter), ((ad_this 0), cJ G 3 q46)]) (w1 := [((ad_this 1), cJ G 3 q85)]) (va_runS (As := [.ref ((ad_this 1)), .int ((x3_14 + 1)), .long ((q28 * (Int32.toInt64 q21)))]) (rest := []) ⟨hx, hb, hml, hown, hg⟩ (c_X4_putLong l G ((x3_14 + 1)) ((q28 * (Int32.toInt64 q21))) 3 ((ad_this 1)) a_came_14 q85 c_85 H.size) (va_cwS 3 hg (gS wd_2_225 wd_2_226 wd_1_14 wd_2_227) rfl rfl rfl hdS_X4_putLong ⟨(Nat.le_of_ble_eq_true rfl), (Nat.le_of_ble_eq_true rfl)⟩) (preS hc hW [3] rfl (by decide)) rfl rfl hl.1 rfl (lv_room (Nat.le_of_ble_eq_true rfl)) dX5_goOn_85 ⟨Nat.zero_le _, Nat.zero_le _⟩) hA hW [3] [0, 1, 2, 4] [0, 1, 2, 4, 3] rfl rfl (by decide) (by decide) rfl (by decide) (fun H locs hW => ?_)
          exact J_88 v_turned_14 q85 _ _ _ hF (lv_sub hl [2, 3, 4, 5] rfl) hW
        · have hF := ite_t hF c_51
          refine lv_aload_n hx hb dX5_goOn_54 rfl (lv_at hl 2 rfl) ?_
          refine lv_dup hx hb dX5_goOn_55 rfl ?_
          refine va_get (D := G.1) (ci := 4) (v := .long v_turned_14) (C := RX5) (T := TX5) (N := 3) hx hb hg hu_X5 hown hc.1 hW.1 0 rfl rfl 2 (by decide) (hg _ wd_1_143) (fun _ h9 => h9) rfl dX5_goOn_56 ?_
          refine lv_lload hx hb dX5_goOn_59 (lv_at hl 0 rfl) ?_
          refine lv_iload hx hb dX5_goOn_61 (lv_at hl 1 rfl) ?_
          refine lv_i2l (v := (Int32.toInt64 q21)) hx hb dX5_goOn_63 rfl ?_
          refine lv_lmul hx hb dX5_goOn_64 ?_
          refine lv_ladd hx hb dX5_goOn_65 ?_
          refine va_put (D := G.1) (ci := 4) (v := .long ((v_turned_14 + (q28 * (Int32.toInt64 q21))))) (ty := .long) (C := RX5) (T := TX5) (N := 3) hx hb hg hu_X5 tyX5 tyX5_ok nmX5 hown hc.1 hW.1 hW.2.1 hW.2.2 0 rfl rfl 2 (by decide) (hg _ wd_1_143) (fun _ h9 => h9) rfl (by decide +kernel) rfl rfl (Nat.le_of_ble_eq_true rfl) dX5_goOn_66 (fun H locs hP hD hS => ?_)
          have hW : Wd G A s.heap [(h_this, oX5 ad_this ((v_turned_14 + (q28 * (Int32.toInt64 q21))))), (h_p1, oX8 ad_p1 v_p1_signCount v_p1_houseCount v_p1_boatCount v_p1_workCount v_p1_turnCost v_p1_boatDayCost), ((ad_p1 0), cI G 3 a_p1_lighter), ((ad_this 1), cJ G 3 a_came_14), ((ad_this 0), cJ G 3 q46)] H locs := ⟨hP, hD, hS⟩
          refine lv_goto (tgt := 88) hx hb dX5_goOn_69 (by decide) ?_
          exact J_88 ((v_turned_14 + (q28 * (Int32.toInt64 q21)))) a_came_14 _ _ _ hF (lv_sub hl [2, 3, 4, 5] rfl) hW
  exact L_14 5000 2 ((v_turned * 4)) a_came a_stayed _ _ _ hF (lv_sub hl [1, 2, 3, 0] rfl) hW
theorem dX5_lookAt_0 : decode cX5_lookAt 0 = .ok (.iconst 0, 1) := by decide +kernel
theorem dX5_lookAt_1 : decode cX5_lookAt 1 = .ok (.istore_n 3, 1) := by decide +kernel
theorem dX5_lookAt_2 : decode cX5_lookAt 2 = .ok (.iload_n 3, 1) := by decide +kernel
theorem dX5_lookAt_3 : decode cX5_lookAt 3 = .ok (.iconst 3, 1) := by decide +kernel
theorem dX5_lookAt_4 : decode cX5_lookAt 4 = .ok (.if_icmp .ge 67, 3) := by decide +kernel
theorem dX5_lookAt_7 : decode cX5_lookAt 7 = .ok (.iconst 0, 1) := by decide +kernel
theorem dX5_lookAt_8 : decode cX5_lookAt 8 = .ok (.iload_n 3, 1) := by decide +kernel
theorem dX5_lookAt_9 : decode cX5_lookAt 9 = .ok (.iconst 1, 1) := by decide +kernel
theorem dX5_lookAt_10 : decode cX5_lookAt 10 = .ok (.isub, 1) := by decide +kernel
theorem dX5_lookAt_11 : decode cX5_lookAt 11 = .ok (.invokestatic 71, 3) := by decide +kernel
theorem dX5_lookAt_14 : decode cX5_lookAt 14 = .ok (.istore 4, 2) := by decide +kernel
theorem dX5_lookAt_16 : decode cX5_lookAt 16 = .ok (.aload_n 0, 1) := by decide +kernel
theorem dX5_lookAt_17 : decode cX5_lookAt 17 = .ok (.getfield 9, 3) := by decide +kernel
theorem dX5_lookAt_20 : decode cX5_lookAt 20 = .ok (.iload_n 3, 1) := by decide +kernel
theorem dX5_lookAt_21 : decode cX5_lookAt 21 = .ok (.aload_n 0, 1) := by decide +kernel
theorem dX5_lookAt_22 : decode cX5_lookAt 22 = .ok (.getfield 9, 3) := by decide +kernel
theorem dX5_lookAt_25 : decode cX5_lookAt 25 = .ok (.iload_n 3, 1) := by decide +kernel
theorem dX5_lookAt_26 : decode cX5_lookAt 26 = .ok (.invokestatic 18, 3) := by decide +kernel
theorem dX5_lookAt_29 : decode cX5_lookAt 29 = .ok (.aload_n 1, 1) := by decide +kernel
theorem dX5_lookAt_30 : decode cX5_lookAt 30 = .ok (.iload_n 2, 1) := by decide +kernel
theorem dX5_lookAt_31 : decode cX5_lookAt 31 = .ok (.iload_n 3, 1) := by decide +kernel
theorem dX5_lookAt_32 : decode cX5_lookAt 32 = .ok (.iload_n 3, 1) := by decide +kernel
theorem dX5_lookAt_33 : decode cX5_lookAt 33 = .ok (.invokevirtual 76, 3) := by decide +kernel
theorem dX5_lookAt_36 : decode cX5_lookAt 36 = .ok (.lmul, 1) := by decide +kernel
theorem dX5_lookAt_37 : decode cX5_lookAt 37 = .ok (.invokestatic 36, 3) := by decide +kernel
theorem dX5_lookAt_40 : decode cX5_lookAt 40 = .ok (.aload_n 0, 1) := by decide +kernel
theorem dX5_lookAt_41 : decode cX5_lookAt 41 = .ok (.getfield 15, 3) := by decide +kernel
theorem dX5_lookAt_44 : decode cX5_lookAt 44 = .ok (.iload_n 3, 1) := by decide +kernel
theorem dX5_lookAt_45 : decode cX5_lookAt 45 = .ok (.aload_n 0, 1) := by decide +kernel
theorem dX5_lookAt_46 : decode cX5_lookAt 46 = .ok (.getfield 15, 3) := by decide +kernel
theorem dX5_lookAt_49 : decode cX5_lookAt 49 = .ok (.iload_n 3, 1) := by decide +kernel
theorem dX5_lookAt_50 : decode cX5_lookAt 50 = .ok (.invokestatic 18, 3) := by decide +kernel
theorem dX5_lookAt_53 : decode cX5_lookAt 53 = .ok (.aload_n 1, 1) := by decide +kernel
theorem dX5_lookAt_54 : decode cX5_lookAt 54 = .ok (.iload_n 2, 1) := by decide +kernel
theorem dX5_lookAt_55 : decode cX5_lookAt 55 = .ok (.iload 4, 2) := by decide +kernel
theorem dX5_lookAt_57 : decode cX5_lookAt 57 = .ok (.iload_n 3, 1) := by decide +kernel
theorem dX5_lookAt_58 : decode cX5_lookAt 58 = .ok (.invokevirtual 76, 3) := by decide +kernel
theorem dX5_lookAt_61 : decode cX5_lookAt 61 = .ok (.lmul, 1) := by decide +kernel
theorem dX5_lookAt_62 : decode cX5_lookAt 62 = .ok (.invokestatic 36, 3) := by decide +kernel
theorem dX5_lookAt_65 : decode cX5_lookAt 65 = .ok (.iinc 3 1, 3) := by decide +kernel
theorem dX5_lookAt_68 : decode cX5_lookAt 68 = .ok (.goto (-66), 3) := by decide +kernel
theorem dX5_lookAt_71 : decode cX5_lookAt 71 = .ok (.return_, 1) := by decide +kernel
def L_X5_lookAt_2 (x2 : Int32) (v_p1_signCount : Int32) (a_p1_signNumbers : Nat → Int32)  : Nat → Int32 → (Nat → Int64) → (Nat → Int64) → Option ((Nat → Int64) × (Nat → Int64))
  | 0, _, _, _ => none
  | n + 1, x3_2, a_came_2, a_stayed_2 => (if 3 ≤ x3_2 then some (a_came_2, a_stayed_2) else (F_X4_longAt x3_2 3 a_stayed_2).bind (fun q26 => (F_X8_waysToSee x2 x3_2 x3_2 v_p1_signCount a_p1_signNumbers).bind (fun q33 => (F_X4_putLong x3_2 ((q26 * q33)) 3 a_stayed_2).bind (fun q37 => (F_X4_longAt x3_2 3 a_came_2).bind (fun q50 => (F_X8_waysToSee x2 ((if (0 : Int32) < (x3_2 - 1) then (x3_2 - 1) else 0)) x3_2 v_p1_signCount a_p1_signNumbers).bind (fun q58 => (F_X4_putLong x3_2 ((q50 * q58)) 3 a_came_2).bind (fun q62 => L_X5_lookAt_2 x2 v_p1_signCount a_p1_signNumbers n ((x3_2 + 1)) q62 q37)))))))
def F_X5_lookAt (x2 : Int32) (v_p1_signCount : Int32) (a_p1_signNumbers : Nat → Int32) (a_came : Nat → Int64) (a_stayed : Nat → Int64) : Option ((Nat → Int64) × (Nat → Int64)) := L_X5_lookAt_2 x2 v_p1_signCount a_p1_signNumbers 5000 0 a_came a_stayed
theorem hdV_X5_lookAt : yX5_lookAt.cls = RX5 ∧ yX5_lookAt.cls ≠ "java/lang/invoke/MethodHandle" ∧ yX5_lookAt.cls ≠ "java/lang/invoke/VarHandle" ∧ (parseMethodDescriptor yX5_lookAt.desc).map (fun d => d.parameters.length) = some 2 := by decide +kernel
set_option maxHeartbeats 4000000 in
set_option maxRecDepth 100000 in
theorem c_X5_lookAt (l : Launch) (G : GG) (x2 : Int32) (h_this : Nat) (h_p1 : Nat) (ad_this : Nat → Nat) (ad_p1 : Nat → Nat) (v_turned : Int64) (v_p1_signCount : Int32) (v_p1_houseCount : Int32) (v_p1_boatCount : Int32) (v_p1_workCount : Int32) (v_p1_turnCost : Int32) (v_p1_boatDayCost : Int32) (a_p1_signNumbers : Nat → Int32) (a_came : Nat → Int64) (a_stayed : Nat → Int64) (out : (Nat → Int64) × (Nat → Int64)) (hF : F_X5_lookAt x2 v_p1_signCount a_p1_signNumbers a_came a_stayed = some out) : CtrV l yX5_lookAt (WS yX5_lookAt cX5_lookAt 5 none) { frames := 4, cells := 0, slots := 0, locals := 92 } G [.ref h_this, .ref h_p1, .int x2] [(h_this, oX5 ad_this v_turned), (h_p1, oX8 ad_p1 v_p1_signCount v_p1_houseCount v_p1_boatCount v_p1_workCount v_p1_turnCost v_p1_boatDayCost), ((ad_p1 1), cI G 16 a_p1_signNumbers), ((ad_this 1), cJ G 3 a_came), ((ad_this 0), cJ G 3 a_stayed)] [(h_this, oX5 ad_this v_turned), (h_p1, oX8 ad_p1 v_p1_signCount v_p1_houseCount v_p1_boatCount v_p1_workCount v_p1_turnCost v_p1_boatDayCost), ((ad_p1 1), cI G 16 a_p1_signNumbers), ((ad_this 1), cJ G 3 out.1), ((ad_this 0), cJ G 3 out.2)] := by
  refine startV (cc := cX5_lookAt) (maxL := 5) (by decide) rfl (Nat.le_of_ble_eq_true rfl) ?_
  intro p e s m args below meth c A Q hx hb hml hts hown hc hA hret ls H locs hl hW
  have hown : s.vm.findClass RX5 = some m.cls := hown
  have hg : ∀ w ∈ GOODS, w.before _ s = true := fun w h => hts w (List.mem_cons_of_mem _ h)
  have hl : lv_has ls 5 [(0, .ref h_this), (1, .ref h_p1), (2, .int x2)] := hl
  rw [F_X5_lookAt] at hF
  refine lv_iconst (v := 0) hx hb dX5_lookAt_0 (by decide) ?_
  refine lv_istore_n (lv' := [(3, .int 0), (0, .ref h_this), (1, .ref h_p1), (2, .int x2)]) hx hb dX5_lookAt_1 rfl hl (by decide) rfl (fun ls hl => ?_)
  have L_2 : ∀ (n : Nat) (x3_2 : Int32) (a_came_2 : Nat → Int64) (a_stayed_2 : Nat → Int64) (ls : Array Slot) (H : Heap) (locs : List Loc), L_X5_lookAt_2 x2 v_p1_signCount a_p1_signNumbers n x3_2 a_came_2 a_stayed_2 = some out → lv_has ls 5 [(0, .ref h_this), (1, .ref h_p1), (2, .int x2), (3, .int x3_2)] → Wd G A s.heap [(h_this, oX5 ad_this v_turned), (h_p1, oX8 ad_p1 v_p1_signCount v_p1_houseCount v_p1_boatCount v_p1_workCount v_p1_turnCost v_p1_boatDayCost), ((ad_p1 1), cI G 16 a_p1_signNumbers), ((ad_this 1), cJ G 3 a_came_2), ((ad_this 0), cJ G 3 a_stayed_2)] H locs → W p l e ({ frames := 4, cells := 0, slots := 0, locals := 92 } : Room) s m args below meth c H locs 0 0 Q (F0 m 2 ls []) := by
    intro n
    induction n with
    | zero => intro x3_2 a_came_2 a_stayed_2 ls H locs hF hl hW; have h0 : none = some out := hF; cases h0
    | succ n ih =>
      intro x3_2 a_came_2 a_stayed_2 ls H locs hF hl hW
      rw [L_X5_lookAt_2] at hF
      refine lv_iload_n hx hb dX5_lookAt_2 rfl (lv_at hl 3 rfl) ?_
      refine lv_iconst (v := 3) hx hb dX5_lookAt_3 (by decide) ?_
      refine lv_icmp_ge (tgt := 71) hx hb dX5_lookAt_4 (by decide) (fun c_4 => ?_) (fun c_4 => ?_)
      · have hF := ite_t hF c_4
        obtain rfl := Option.some.inj hF
        exact hret _ _ _ _ hW dX5_lookAt_71
      · have hF := ite_f hF c_4
        refine lv_iconst (v := 0) hx hb dX5_lookAt_7 (by decide) ?_
        refine lv_iload_n hx hb dX5_lookAt_8 rfl (lv_at hl 3 rfl) ?_
        refine lv_iconst (v := 1) hx hb dX5_lookAt_9 (by decide) ?_
        refine lv_isub hx hb dX5_lookAt_10 ?_
        refine va_mmax hx hb (hml.trans hl.1.symm) hown (hg _ wd_3_14) (hg _ wd_3_15) (hg _ wd_1_16) (hg _ wd_3_16) (Nat.le_of_ble_eq_true rfl) (Nat.le_of_ble_eq_true rfl) (Nat.zero_le _) (Nat.zero_le _) dX5_lookAt_11 ?_
        refine lv_istore (lv' := [(4, .int ((if (0 : Int32) < (x3_2 - 1) then (x3_2 - 1) else 0))), (0, .ref h_this), (1, .ref h_p1), (2, .int x2), (3, .int x3_2)]) hx hb dX5_lookAt_14 hl (by decide) rfl (fun ls hl => ?_)
        refine lv_aload_n hx hb dX5_lookAt_16 rfl (lv_at hl 1 rfl) ?_
        refine va_get (D := G.1) (ci := 4) (v := .ref ((ad_this 0))) (C := RX5) (T := TX5) (N := 3) hx hb hg hu_X5 hown hc.1 hW.1 0 rfl rfl 0 (by decide) (hg _ wd_1_141) (fun _ h9 => h9) rfl dX5_lookAt_17 ?_
        refine lv_iload_n hx hb dX5_lookAt_20 rfl (lv_at hl 4 rfl) ?_
        refine lv_aload_n hx hb dX5_lookAt_21 rfl (lv_at hl 1 rfl) ?_
        refine va_get (D := G.1) (ci := 4) (v := .ref ((ad_this 0))) (C := RX5) (T := TX5) (N := 3) hx hb hg hu_X5 hown hc.1 hW.1 0 rfl rfl 0 (by decide) (hg _ wd_1_141) (fun _ h9 => h9) rfl dX5_lookAt_22 ?_
        refine lv_iload_n hx hb dX5_lookAt_25 rfl (lv_at hl 4 rfl) ?_
        obtain ⟨q26, c_26, hF⟩ := bd_el hF
        refine wcJ (ws' := [(h_this, oX5 ad_this v_turned), (h_p1, oX8 ad_p1 v_p1_signCount v_p1_houseCount v_p1_boatCount v_p1_workCount v_p1_turnCost v_p1_boatDayCost), ((ad_p1 1), cI G 16 a_p1_signNumbers), ((ad_this 1), cJ G 3 a_came_2), ((ad_this 0), cJ G 3 a_stayed_2)]) (wc := [((ad_this 0), cJ G 3 a_stayed_2)]) (wr := [(h_this, oX5 ad_this v_turned), (h_p1, oX8 ad_p1 v_p1_signCount v_p1_houseCount v_p1_boatCount v_p1_workCount v_p1_turnCost v_p1_boatDayCost), ((ad_p1 1), cI G 16 a_p1_signNumbers), ((ad_this 1), cJ G 3 a_came_2)]) (w1 := [((ad_this 0), cJ G 3 a_stayed_2)]) (va_runS (As := [.ref ((ad_this 0)), .int x3_2]) (rest := [.int x3_2, .ref ((ad_this 0))]) ⟨hx, hb, hml, hown, hg⟩ (c_X4_longAt l G x3_2 3 ((ad_this 0)) a_stayed_2 q26 c_26 H.size) (va_cwS 2 hg (gS wd_3_6 wd_3_7 wd_1_14 wd_3_8) rfl rfl rfl hdS_X4_longAt ⟨(Nat.le_of_ble_eq_true rfl), (Nat.le_of_ble_eq_true rfl)⟩) (preS hc hW [4] rfl (by decide)) rfl rfl hl.1 rfl (lv_room (Nat.le_of_ble_eq_true rfl)) dX5_lookAt_26 ⟨Nat.zero_le _, Nat.zero_le _⟩) hA hW [4] [0, 1, 2, 3] [0, 1, 2, 3, 4] rfl rfl (by decide) (by decide) rfl (by decide) (fun H locs hW => ?_)
        refine lv_aload_n hx hb dX5_lookAt_29 rfl (lv_at hl 2 rfl) ?_
        refine lv_iload_n hx hb dX5_lookAt_30 rfl (lv_at hl 3 rfl) ?_
        refine lv_iload_n hx hb dX5_lookAt_31 rfl (lv_at hl 4 rfl) ?_
        refine lv_iload_n hx hb dX5_lookAt_32 rfl (lv_at hl 4 rfl) ?_
        obtain ⟨q33, c_33, hF⟩ := bd_el hF
        refine wcJ (ws' := [(h_this, oX5 ad_this v_turned), (h_p1, oX8 ad_p1 v_p1_signCount v_p1_houseCount v_p1_boatCount v_p1_workCount v_p1_turnCost v_p1_boatDayCost), ((ad_p1 1), cI G 16 a_p1_signNumbers), ((ad_this 1), cJ G 3 a_came_2), ((ad_this 0), cJ G 3 a_stayed_2)]) (wc := [(h_p1, oX8 ad_p1 v_p1_signCount v_p1_houseCount v_p1_boatCount v_p1_workCount v_p1_turnCost v_p1_boatDayCost), ((ad_p1 1), cI G 16 a_p1_signNumbers)]) (wr := [(h_this, oX5 ad_this v_turned), ((ad_this 1), cJ G 3 a_came_2), ((ad_this 0), cJ G 3 a_stayed_2)]) (w1 := [(h_p1, oX8 ad_p1 v_p1_signCount v_p1_houseCount v_p1_boatCount v_p1_workCount v_p1_turnCost v_p1_boatDayCost), ((ad_p1 1), cI G 16 a_p1_signNumbers)]) (va_runV (As := [.int x2, .int x3_2, .int x3_2]) (rest := [.long q26, .int x3_2, .ref ((ad_this 0))]) ⟨hx, hb, hml, hown, hg⟩ (c_X8_waysToSee l G x2 x3_2 x3_2 h_p1 ad_p1 v_p1_signCount v_p1_houseCount v_p1_boatCount v_p1_workCount v_p1_turnCost v_p1_boatDayCost a_p1_signNumbers q33 c_33 H.size) (cwV 3 hg (gV wd_3_17 wd_3_18 wd_3_19 wd_1_4 wd_3_20) rfl rfl rfl hdV_X8_waysToSee ⟨(Nat.le_of_ble_eq_true rfl), (Nat.le_of_ble_eq_true rfl)⟩) (preV hc hW [1, 2] rfl (by decide) rfl rfl) rfl rfl hl.1 rfl (lv_room (Nat.le_of_ble_eq_true rfl)) dX5_lookAt_33 ⟨Nat.zero_le _, Nat.zero_le _⟩) hA hW [1, 2] [0, 3, 4] [0, 3, 4, 1, 2] rfl rfl (by decide) (by decide) rfl (by decide) (fun H locs hW => ?_)
        refine lv_lmul hx hb dX5_lookAt_36 ?_
        obtain ⟨q37, c_37, hF⟩ := bd_el hF
        refine wcV (ws' := [(h_this, oX5 ad_this v_turned), (h_p1, oX8 ad_p1 v_p1_signCount v_p1_houseCount v_p1_boatCount v_p1_workCount v_p1_turnCost v_p1_boatDayCost), ((ad_p1 1), cI G 16 a_p1_signNumbers), ((ad_this 1), cJ G 3 a_came_2), ((ad_this 0), cJ G 3 q37)]) (wc := [((ad_this 0), cJ G 3 a_stayed_2)]) (wr := [(h_this, oX5 ad_this v_turned), (h_p1, oX8 ad_p1 v_p1_signCount v_p1_houseCount v_p1_boatCount v_p1_workCount v_p1_turnCost v_p1_boatDayCost), ((ad_p1 1), cI G 16 a_p1_signNumbers), ((ad_this 1), cJ G 3 a_came_2)]) (w1 := [((ad_this 0), cJ G 3 q37)]) (va_runS (As := [.ref ((ad_this 0)), .int x3_2, .long ((q26 * q33))]) (rest := []) ⟨hx, hb, hml, hown, hg⟩ (c_X4_putLong l G x3_2 ((q26 * q33)) 3 ((ad_this 0)) a_stayed_2 q37 c_37 H.size) (va_cwS 3 hg (gS wd_2_225 wd_2_226 wd_1_14 wd_2_227) rfl rfl rfl hdS_X4_putLong ⟨(Nat.le_of_ble_eq_true rfl), (Nat.le_of_ble_eq_true rfl)⟩) (preS hc hW [4] rfl (by decide)) rfl rfl hl.1 rfl (lv_room (Nat.le_of_ble_eq_true rfl)) dX5_lookAt_37 ⟨Nat.zero_le _, Nat.zero_le _⟩) hA hW [4] [0, 1, 2, 3] [0, 1, 2, 3, 4] rfl rfl (by decide) (by decide) rfl (by decide) (fun H locs hW => ?_)
        refine lv_aload_n hx hb dX5_lookAt_40 rfl (lv_at hl 1 rfl) ?_
        refine va_get (D := G.1) (ci := 4) (v := .ref ((ad_this 1))) (C := RX5) (T := TX5) (N := 3) hx hb hg hu_X5 hown hc.1 hW.1 0 rfl rfl 1 (by decide) (hg _ wd_1_142) (fun _ h9 => h9) rfl dX5_lookAt_41 ?_
        refine lv_iload_n hx hb dX5_lookAt_44 rfl (lv_at hl 4 rfl) ?_
        refine lv_aload_n hx hb dX5_lookAt_45 rfl (lv_at hl 1 rfl) ?_
        refine va_get (D := G.1) (ci := 4) (v := .ref ((ad_this 1))) (C := RX5) (T := TX5) (N := 3) hx hb hg hu_X5 hown hc.1 hW.1 0 rfl rfl 1 (by decide) (hg _ wd_1_142) (fun _ h9 => h9) rfl dX5_lookAt_46 ?_
        refine lv_iload_n hx hb dX5_lookAt_49 rfl (lv_at hl 4 rfl) ?_
        obtain ⟨q50, c_50, hF⟩ := bd_el hF
        refine wcJ (ws' := [(h_this, oX5 ad_this v_turned), (h_p1, oX8 ad_p1 v_p1_signCount v_p1_houseCount v_p1_boatCount v_p1_workCount v_p1_turnCost v_p1_boatDayCost), ((ad_p1 1), cI G 16 a_p1_signNumbers), ((ad_this 1), cJ G 3 a_came_2), ((ad_this 0), cJ G 3 q37)]) (wc := [((ad_this 1), cJ G 3 a_came_2)]) (wr := [(h_this, oX5 ad_this v_turned), (h_p1, oX8 ad_p1 v_p1_signCount v_p1_houseCount v_p1_boatCount v_p1_workCount v_p1_turnCost v_p1_boatDayCost), ((ad_p1 1), cI G 16 a_p1_signNumbers), ((ad_this 0), cJ G 3 q37)]) (w1 := [((ad_this 1), cJ G 3 a_came_2)]) (va_runS (As := [.ref ((ad_this 1)), .int x3_2]) (rest := [.int x3_2, .ref ((ad_this 1))]) ⟨hx, hb, hml, hown, hg⟩ (c_X4_longAt l G x3_2 3 ((ad_this 1)) a_came_2 q50 c_50 H.size) (va_cwS 2 hg (gS wd_3_6 wd_3_7 wd_1_14 wd_3_8) rfl rfl rfl hdS_X4_longAt ⟨(Nat.le_of_ble_eq_true rfl), (Nat.le_of_ble_eq_true rfl)⟩) (preS hc hW [3] rfl (by decide)) rfl rfl hl.1 rfl (lv_room (Nat.le_of_ble_eq_true rfl)) dX5_lookAt_50 ⟨Nat.zero_le _, Nat.zero_le _⟩) hA hW [3] [0, 1, 2, 4] [0, 1, 2, 4, 3] rfl rfl (by decide) (by decide) rfl (by decide) (fun H locs hW => ?_)
        refine lv_aload_n hx hb dX5_lookAt_53 rfl (lv_at hl 2 rfl) ?_
        refine lv_iload_n hx hb dX5_lookAt_54 rfl (lv_at hl 3 rfl) ?_
        refine lv_iload hx hb dX5_lookAt_55 (lv_at hl 0 rfl) ?_
        refine lv_iload_n hx hb dX5_lookAt_57 rfl (lv_at hl 4 rfl) ?_
        obtain ⟨q58, c_58, hF⟩ := bd_el hF
        refine wcJ (ws' := [(h_this, oX5 ad_this v_turned), (h_p1, oX8 ad_p1 v_p1_signCount v_p1_houseCount v_p1_boatCount v_p1_workCount v_p1_turnCost v_p1_boatDayCost), ((ad_p1 1), cI G 16 a_p1_signNumbers), ((ad_this 1), cJ G 3 a_came_2), ((ad_this 0), cJ G 3 q37)]) (wc := [(h_p1, oX8 ad_p1 v_p1_signCount v_p1_houseCount v_p1_boatCount v_p1_workCount v_p1_turnCost v_p1_boatDayCost), ((ad_p1 1), cI G 16 a_p1_signNumbers)]) (wr := [(h_this, oX5 ad_this v_turned), ((ad_this 1), cJ G 3 a_came_2), ((ad_this 0), cJ G 3 q37)]) (w1 := [(h_p1, oX8 ad_p1 v_p1_signCount v_p1_houseCount v_p1_boatCount v_p1_workCount v_p1_turnCost v_p1_boatDayCost), ((ad_p1 1), cI G 16 a_p1_signNumbers)]) (va_runV (As := [.int x2, .int ((if (0 : Int32) < (x3_2 - 1) then (x3_2 - 1) else 0)), .int x3_2]) (rest := [.long q50, .int x3_2, .ref ((ad_this 1))]) ⟨hx, hb, hml, hown, hg⟩ (c_X8_waysToSee l G x2 ((if (0 : Int32) < (x3_2 - 1) then (x3_2 - 1) else 0)) x3_2 h_p1 ad_p1 v_p1_signCount v_p1_houseCount v_p1_boatCount v_p1_workCount v_p1_turnCost v_p1_boatDayCost a_p1_signNumbers q58 c_58 H.size) (cwV 3 hg (gV wd_3_17 wd_3_18 wd_3_19 wd_1_4 wd_3_20) rfl rfl rfl hdV_X8_waysToSee ⟨(Nat.le_of_ble_eq_true rfl), (Nat.le_of_ble_eq_true rfl)⟩) (preV hc hW [1, 2] rfl (by decide) rfl rfl) rfl rfl hl.1 rfl (lv_room (Nat.le_of_ble_eq_true rfl)) dX5_lookAt_58 ⟨Nat.zero_le _, Nat.zero_le _⟩) hA hW [1, 2] [0, 3, 4] [0, 3, 4, 1, 2] rfl rfl (by decide) (by decide) rfl (by decide) (fun H locs hW => ?_)
        refine lv_lmul hx hb dX5_lookAt_61 ?_
        obtain ⟨q62, c_62, hF⟩ := bd_el hF
        refine wcV (ws' := [(h_this, oX5 ad_this v_turned), (h_p1, oX8 ad_p1 v_p1_signCount v_p1_houseCount v_p1_boatCount v_p1_workCount v_p1_turnCost v_p1_boatDayCost), ((ad_p1 1), cI G 16 a_p1_signNumbers), ((ad_this 1), cJ G 3 q62), ((ad_this 0), cJ G 3 q37)]) (wc := [((ad_this 1), cJ G 3 a_came_2)]) (wr := [(h_this, oX5 ad_this v_turned), (h_p1, oX8 ad_p1 v_p1_signCount v_p1_houseCount v_p1_boatCount v_p1_workCount v_p1_turnCost v_p1_boatDayCost), ((ad_p1 1), cI G 16 a_p1_signNumbers), ((ad_this 0), cJ G 3 q37)]) (w1 := [((ad_this 1), cJ G 3 q62)]) (va_runS (As := [.ref ((ad_this 1)), .int x3_2, .long ((q50 * q58))]) (rest := []) ⟨hx, hb, hml, hown, hg⟩ (c_X4_putLong l G x3_2 ((q50 * q58)) 3 ((ad_this 1)) a_came_2 q62 c_62 H.size) (va_cwS 3 hg (gS wd_2_225 wd_2_226 wd_1_14 wd_2_227) rfl rfl rfl hdS_X4_putLong ⟨(Nat.le_of_ble_eq_true rfl), (Nat.le_of_ble_eq_true rfl)⟩) (preS hc hW [3] rfl (by decide)) rfl rfl hl.1 rfl (lv_room (Nat.le_of_ble_eq_true rfl)) dX5_lookAt_62 ⟨Nat.zero_le _, Nat.zero_le _⟩) hA hW [3] [0, 1, 2, 4] [0, 1, 2, 4, 3] rfl rfl (by decide) (by decide) rfl (by decide) (fun H locs hW => ?_)
        refine lv_iinc (v := (x3_2 + 1)) (lv' := [(3, .int ((x3_2 + 1))), (4, .int ((if (0 : Int32) < (x3_2 - 1) then (x3_2 - 1) else 0))), (0, .ref h_this), (1, .ref h_p1), (2, .int x2)]) hx hb dX5_lookAt_65 hl (k := 4) rfl rfl (by decide) rfl (fun ls hl => ?_)
        refine lv_goto (tgt := 2) hx hb dX5_lookAt_68 (by decide) ?_
        exact ih ((x3_2 + 1)) q62 q37 _ _ _ hF (lv_sub hl [2, 3, 4, 0] rfl) hW
  exact L_2 5000 0 a_came a_stayed _ _ _ hF (lv_sub hl [1, 2, 3, 0] rfl) hW
theorem dX5_passDiary_0 : decode cX5_passDiary 0 = .ok (.iconst 0, 1) := by decide +kernel
theorem dX5_passDiary_1 : decode cX5_passDiary 1 = .ok (.istore 4, 2) := by decide +kernel
theorem dX5_passDiary_3 : decode cX5_passDiary 3 = .ok (.iload 4, 2) := by decide +kernel
theorem dX5_passDiary_5 : decode cX5_passDiary 5 = .ok (.iconst 3, 1) := by decide +kernel
theorem dX5_passDiary_6 : decode cX5_passDiary 6 = .ok (.if_icmp .ge 38, 3) := by decide +kernel
theorem dX5_passDiary_9 : decode cX5_passDiary 9 = .ok (.aload_n 0, 1) := by decide +kernel
theorem dX5_passDiary_10 : decode cX5_passDiary 10 = .ok (.getfield 9, 3) := by decide +kernel
theorem dX5_passDiary_13 : decode cX5_passDiary 13 = .ok (.iload 4, 2) := by decide +kernel
theorem dX5_passDiary_15 : decode cX5_passDiary 15 = .ok (.iload 4, 2) := by decide +kernel
theorem dX5_passDiary_17 : decode cX5_passDiary 17 = .ok (.ifCond .ne 7, 3) := by decide +kernel
theorem dX5_passDiary_20 : decode cX5_passDiary 20 = .ok (.lconst 1, 1) := by decide +kernel
theorem dX5_passDiary_21 : decode cX5_passDiary 21 = .ok (.goto 4, 3) := by decide +kernel
theorem dX5_passDiary_24 : decode cX5_passDiary 24 = .ok (.lconst 0, 1) := by decide +kernel
theorem dX5_passDiary_25 : decode cX5_passDiary 25 = .ok (.invokestatic 36, 3) := by decide +kernel
theorem dX5_passDiary_28 : decode cX5_passDiary 28 = .ok (.aload_n 0, 1) := by decide +kernel
theorem dX5_passDiary_29 : decode cX5_passDiary 29 = .ok (.getfield 15, 3) := by decide +kernel
theorem dX5_passDiary_32 : decode cX5_passDiary 32 = .ok (.iload 4, 2) := by decide +kernel
theorem dX5_passDiary_34 : decode cX5_passDiary 34 = .ok (.lconst 0, 1) := by decide +kernel
theorem dX5_passDiary_35 : decode cX5_passDiary 35 = .ok (.invokestatic 36, 3) := by decide +kernel
theorem dX5_passDiary_38 : decode cX5_passDiary 38 = .ok (.iinc 4 1, 3) := by decide +kernel
theorem dX5_passDiary_41 : decode cX5_passDiary 41 = .ok (.goto (-38), 3) := by decide +kernel
theorem dX5_passDiary_44 : decode cX5_passDiary 44 = .ok (.iconst 0, 1) := by decide +kernel
theorem dX5_passDiary_45 : decode cX5_passDiary 45 = .ok (.istore 4, 2) := by decide +kernel
theorem dX5_passDiary_47 : decode cX5_passDiary 47 = .ok (.iload 4, 2) := by decide +kernel
theorem dX5_passDiary_49 : decode cX5_passDiary 49 = .ok (.aload_n 2, 1) := by decide +kernel
theorem dX5_passDiary_50 : decode cX5_passDiary 50 = .ok (.getfield 40, 3) := by decide +kernel
theorem dX5_passDiary_53 : decode cX5_passDiary 53 = .ok (.if_icmp .ge 41, 3) := by decide +kernel
theorem dX5_passDiary_56 : decode cX5_passDiary 56 = .ok (.aload_n 0, 1) := by decide +kernel
theorem dX5_passDiary_57 : decode cX5_passDiary 57 = .ok (.aload_n 1, 1) := by decide +kernel
theorem dX5_passDiary_58 : decode cX5_passDiary 58 = .ok (.aload_n 1, 1) := by decide +kernel
theorem dX5_passDiary_59 : decode cX5_passDiary 59 = .ok (.aload_n 2, 1) := by decide +kernel
theorem dX5_passDiary_60 : decode cX5_passDiary 60 = .ok (.iload 4, 2) := by decide +kernel
theorem dX5_passDiary_62 : decode cX5_passDiary 62 = .ok (.invokevirtual 46, 3) := by decide +kernel
theorem dX5_passDiary_65 : decode cX5_passDiary 65 = .ok (.invokevirtual 50, 3) := by decide +kernel
theorem dX5_passDiary_68 : decode cX5_passDiary 68 = .ok (.invokevirtual 55, 3) := by decide +kernel
theorem dX5_passDiary_71 : decode cX5_passDiary 71 = .ok (.iload 4, 2) := by decide +kernel
theorem dX5_passDiary_73 : decode cX5_passDiary 73 = .ok (.iload_n 3, 1) := by decide +kernel
theorem dX5_passDiary_74 : decode cX5_passDiary 74 = .ok (.if_icmp .eq 14, 3) := by decide +kernel
theorem dX5_passDiary_77 : decode cX5_passDiary 77 = .ok (.aload_n 0, 1) := by decide +kernel
theorem dX5_passDiary_78 : decode cX5_passDiary 78 = .ok (.aload_n 1, 1) := by decide +kernel
theorem dX5_passDiary_79 : decode cX5_passDiary 79 = .ok (.aload_n 2, 1) := by decide +kernel
theorem dX5_passDiary_80 : decode cX5_passDiary 80 = .ok (.iload 4, 2) := by decide +kernel
theorem dX5_passDiary_82 : decode cX5_passDiary 82 = .ok (.invokevirtual 59, 3) := by decide +kernel
theorem dX5_passDiary_85 : decode cX5_passDiary 85 = .ok (.invokevirtual 62, 3) := by decide +kernel
theorem dX5_passDiary_88 : decode cX5_passDiary 88 = .ok (.iinc 4 1, 3) := by decide +kernel
theorem dX5_passDiary_91 : decode cX5_passDiary 91 = .ok (.goto (-44), 3) := by decide +kernel
theorem dX5_passDiary_94 : decode cX5_passDiary 94 = .ok (.aload_n 0, 1) := by decide +kernel
theorem dX5_passDiary_95 : decode cX5_passDiary 95 = .ok (.lconst 0, 1) := by decide +kernel
theorem dX5_passDiary_96 : decode cX5_passDiary 96 = .ok (.putfield 32, 3) := by decide +kernel
theorem dX5_passDiary_99 : decode cX5_passDiary 99 = .ok (.return_, 1) := by decide +kernel
def L_X5_passDiary_47 (x3 : Int32) (v_p1_signCount : Int32) (v_p1_workCount : Int32) (a_p1_lighter : Nat → Int32) (a_p1_signNumbers : Nat → Int32) (a_p1_workNoise : Nat → Int32) (v_p2_days : Int32) (a_p2_signs : Nat → Int32) (a_p2_works : Nat → Int32) (k_94 : Int64 → (Nat → Int64) → (Nat → Int64) → Option (Int64 × (Nat → Int64) × (Nat → Int64))) : Nat → Int32 → Int64 → (Nat → Int64) → (Nat → Int64) → Option (Int64 × (Nat → Int64) × (Nat → Int64))
  | 0, _, _, _, _ => none
  | n + 1, x4_47, v_turned_47, a_came_47, a_stayed_47 => (if v_p2_days ≤ x4_47 then k_94 v_turned_47 a_came_47 a_stayed_47 else (F_X1_worksOn x4_47 a_p2_works).bind (fun q62 => (F_X8_noiseOf q62 v_p1_workCount a_p1_workNoise).bind (fun q65 => (F_X5_goOn q65 v_turned_47 a_p1_lighter a_came_47 a_stayed_47).bind (fun q68 => jn (fun (a_came_88 : Nat → Int64) (a_stayed_88 : Nat → Int64) => L_X5_passDiary_47 x3 v_p1_signCount v_p1_workCount a_p1_lighter a_p1_signNumbers a_p1_workNoise v_p2_days a_p2_signs a_p2_works k_94 n ((x4_47 + 1)) q68.1 a_came_88 a_stayed_88) (fun k_88 => (if x4_47 = x3 then k_88 q68.2.1 q68.2.2 else (F_X1_signsOn x4_47 a_p2_signs).bind (fun q82 => (F_X5_lookAt q82 v_p1_signCount a_p1_signNumbers q68.2.1 q68.2.2).bind (fun q85 => k_88 q85.1 q85.2))))))))
def L_X5_passDiary_3 (k_44 : (Nat → Int64) → (Nat → Int64) → Option (Int64 × (Nat → Int64) × (Nat → Int64))) : Nat → Int32 → (Nat → Int64) → (Nat → Int64) → Option (Int64 × (Nat → Int64) × (Nat → Int64))
  | 0, _, _, _ => none
  | n + 1, x4_3, a_came_3, a_stayed_3 => (if 3 ≤ x4_3 then k_44 a_came_3 a_stayed_3 else jn (fun (j0_25 : Int64) => (F_X4_putLong x4_3 j0_25 3 a_stayed_3).bind (fun q25 => (F_X4_putLong x4_3 0 3 a_came_3).bind (fun q35 => L_X5_passDiary_3 k_44 n ((x4_3 + 1)) q35 q25))) (fun k_25 => (if x4_3 = 0 then k_25 1 else k_25 0)))
def F_X5_passDiary (x3 : Int32) (v_turned : Int64) (v_p1_signCount : Int32) (v_p1_workCount : Int32) (a_p1_lighter : Nat → Int32) (a_p1_signNumbers : Nat → Int32) (a_p1_workNoise : Nat → Int32) (v_p2_days : Int32) (a_p2_signs : Nat → Int32) (a_p2_works : Nat → Int32) (a_came : Nat → Int64) (a_stayed : Nat → Int64) : Option (Int64 × (Nat → Int64) × (Nat → Int64)) := jn (fun (a_came_44 : Nat → Int64) (a_stayed_44 : Nat → Int64) => jn (fun (v_turned_94 : Int64) (a_came_94 : Nat → Int64) (a_stayed_94 : Nat → Int64) => some (0, a_came_94, a_stayed_94)) (fun k_94 => L_X5_passDiary_47 x3 v_p1_signCount v_p1_workCount a_p1_lighter a_p1_signNumbers a_p1_workNoise v_p2_days a_p2_signs a_p2_works k_94 5000 0 v_turned a_came_44 a_stayed_44)) (fun k_44 => L_X5_passDiary_3 k_44 5000 0 a_came a_stayed)
theorem hdV_X5_passDiary : yX5_passDiary.cls = RX5 ∧ yX5_passDiary.cls ≠ "java/lang/invoke/MethodHandle" ∧ yX5_passDiary.cls ≠ "java/lang/invoke/VarHandle" ∧ (parseMethodDescriptor yX5_passDiary.desc).map (fun d => d.parameters.length) = some 3 := by decide +kernel
set_option maxHeartbeats 4000000 in
set_option maxRecDepth 100000 in
theorem c_X5_passDiary (l : Launch) (G : GG) (x3 : Int32) (h_this : Nat) (h_p1 : Nat) (h_p2 : Nat) (ad_this : Nat → Nat) (ad_p1 : Nat → Nat) (ad_p2 : Nat → Nat) (v_turned : Int64) (v_p1_signCount : Int32) (v_p1_houseCount : Int32) (v_p1_boatCount : Int32) (v_p1_workCount : Int32) (v_p1_turnCost : Int32) (v_p1_boatDayCost : Int32) (a_p1_lighter : Nat → Int32) (a_p1_signNumbers : Nat → Int32) (a_p1_workNoise : Nat → Int32) (v_p2_days : Int32) (a_p2_signs : Nat → Int32) (a_p2_works : Nat → Int32) (a_came : Nat → Int64) (a_stayed : Nat → Int64) (out : Int64 × (Nat → Int64) × (Nat → Int64)) (hF : F_X5_passDiary x3 v_turned v_p1_signCount v_p1_workCount a_p1_lighter a_p1_signNumbers a_p1_workNoise v_p2_days a_p2_signs a_p2_works a_came a_stayed = some out) : CtrV l yX5_passDiary (WS yX5_passDiary cX5_passDiary 5 none) { frames := 5, cells := 0, slots := 0, locals := 116 } G [.ref h_this, .ref h_p1, .ref h_p2, .int x3] [(h_this, oX5 ad_this v_turned), (h_p1, oX8 ad_p1 v_p1_signCount v_p1_houseCount v_p1_boatCount v_p1_workCount v_p1_turnCost v_p1_boatDayCost), ((ad_p1 0), cI G 3 a_p1_lighter), ((ad_p1 1), cI G 16 a_p1_signNumbers), ((ad_p1 5), cI G 5 a_p1_workNoise), (h_p2, oX1 ad_p2 v_p2_days), ((ad_p2 0), cI G 5 a_p2_signs), ((ad_p2 1), cI G 5 a_p2_works), ((ad_this 1), cJ G 3 a_came), ((ad_this 0), cJ G 3 a_stayed)] [(h_this, oX5 ad_this out.1), (h_p1, oX8 ad_p1 v_p1_signCount v_p1_houseCount v_p1_boatCount v_p1_workCount v_p1_turnCost v_p1_boatDayCost), ((ad_p1 0), cI G 3 a_p1_lighter), ((ad_p1 1), cI G 16 a_p1_signNumbers), ((ad_p1 5), cI G 5 a_p1_workNoise), (h_p2, oX1 ad_p2 v_p2_days), ((ad_p2 0), cI G 5 a_p2_signs), ((ad_p2 1), cI G 5 a_p2_works), ((ad_this 1), cJ G 3 out.2.1), ((ad_this 0), cJ G 3 out.2.2)] := by
  refine startV (cc := cX5_passDiary) (maxL := 5) (by decide) rfl (Nat.le_of_ble_eq_true rfl) ?_
  intro p e s m args below meth c A Q hx hb hml hts hown hc hA hret ls H locs hl hW
  have hown : s.vm.findClass RX5 = some m.cls := hown
  have hg : ∀ w ∈ GOODS, w.before _ s = true := fun w h => hts w (List.mem_cons_of_mem _ h)
  have hl : lv_has ls 5 [(0, .ref h_this), (1, .ref h_p1), (2, .ref h_p2), (3, .int x3)] := hl
  rw [F_X5_passDiary] at hF
  refine lv_iconst (v := 0) hx hb dX5_passDiary_0 (by decide) ?_
  refine lv_istore (lv' := [(4, .int 0), (0, .ref h_this), (1, .ref h_p1), (2, .ref h_p2), (3, .int x3)]) hx hb dX5_passDiary_1 hl (by decide) rfl (fun ls hl => ?_)
  obtain ⟨k_44, e_44, hF⟩ := jn_el hF
  have J_44 : ∀ (a_came_44 : Nat → Int64) (a_stayed_44 : Nat → Int64) (ls : Array Slot) (H : Heap) (locs : List Loc), k_44 a_came_44 a_stayed_44 = some out → lv_has ls 5 [(0, .ref h_this), (1, .ref h_p1), (2, .ref h_p2), (3, .int x3)] → Wd G A s.heap [(h_this, oX5 ad_this v_turned), (h_p1, oX8 ad_p1 v_p1_signCount v_p1_houseCount v_p1_boatCount v_p1_workCount v_p1_turnCost v_p1_boatDayCost), ((ad_p1 0), cI G 3 a_p1_lighter), ((ad_p1 1), cI G 16 a_p1_signNumbers), ((ad_p1 5), cI G 5 a_p1_workNoise), (h_p2, oX1 ad_p2 v_p2_days), ((ad_p2 0), cI G 5 a_p2_signs), ((ad_p2 1), cI G 5 a_p2_works), ((ad_this 1), cJ G 3 a_came_44), ((ad_this 0), cJ G 3 a_stayed_44)] H locs → W p l e ({ frames := 5, cells := 0, slots := 0, locals := 116 } : Room) s m args below meth c H locs 0 0 Q (F0 m 44 ls []) := by
    intro a_came_44 a_stayed_44 ls H locs hF hl hW
    rw [e_44] at hF
    dsimp only at hF
    refine lv_iconst (v := 0) hx hb dX5_passDiary_44 (by decide) ?_
    refine lv_istore (lv' := [(4, .int 0), (0, .ref h_this), (1, .ref h_p1), (2, .ref h_p2), (3, .int x3)]) hx hb dX5_passDiary_45 hl (by decide) rfl (fun ls hl => ?_)
    obtain ⟨k_94, e_94, hF⟩ := jn_el hF
    have J_94 : ∀ (v_turned_94 : Int64) (a_came_94 : Nat → Int64) (a_stayed_94 : Nat → Int64) (ls : Array Slot) (H : Heap) (locs : List Loc), k_94 v_turned_94 a_came_94 a_stayed_94 = some out → lv_has ls 5 [(0, .ref h_this)] → Wd G A s.heap [(h_this, oX5 ad_this v_turned_94), (h_p1, oX8 ad_p1 v_p1_signCount v_p1_houseCount v_p1_boatCount v_p1_workCount v_p1_turnCost v_p1_boatDayCost), ((ad_p1 0), cI G 3 a_p1_lighter), ((ad_p1 1), cI G 16 a_p1_signNumbers), ((ad_p1 5), cI G 5 a_p1_workNoise), (h_p2, oX1 ad_p2 v_p2_days), ((ad_p2 0), cI G 5 a_p2_signs), ((ad_p2 1), cI G 5 a_p2_works), ((ad_this 1), cJ G 3 a_came_94), ((ad_this 0), cJ G 3 a_stayed_94)] H locs → W p l e ({ frames := 5, cells := 0, slots := 0, locals := 116 } : Room) s m args below meth c H locs 0 0 Q (F0 m 94 ls []) := by
      intro v_turned_94 a_came_94 a_stayed_94 ls H locs hF hl hW
      rw [e_94] at hF
      dsimp only at hF
      refine lv_aload_n hx hb dX5_passDiary_94 rfl (lv_at hl 0 rfl) ?_
      refine lv_lconst (v := 0) hx hb dX5_passDiary_95 (by decide) ?_
      refine va_put (D := G.1) (ci := 4) (v := .long 0) (ty := .long) (C := RX5) (T := TX5) (N := 3) hx hb hg hu_X5 tyX5 tyX5_ok nmX5 hown hc.1 hW.1 hW.2.1 hW.2.2 0 rfl rfl 2 (by decide) (hg _ wd_1_143) (fun _ h9 => h9) rfl (by decide +kernel) rfl rfl (Nat.le_of_ble_eq_true rfl) dX5_passDiary_96 (fun H locs hP hD hS => ?_)
      have hW : Wd G A s.heap [(h_this, oX5 ad_this 0), (h_p1, oX8 ad_p1 v_p1_signCount v_p1_houseCount v_p1_boatCount v_p1_workCount v_p1_turnCost v_p1_boatDayCost), ((ad_p1 0), cI G 3 a_p1_lighter), ((ad_p1 1), cI G 16 a_p1_signNumbers), ((ad_p1 5), cI G 5 a_p1_workNoise), (h_p2, oX1 ad_p2 v_p2_days), ((ad_p2 0), cI G 5 a_p2_signs), ((ad_p2 1), cI G 5 a_p2_works), ((ad_this 1), cJ G 3 a_came_94), ((ad_this 0), cJ G 3 a_stayed_94)] H locs := ⟨hP, hD, hS⟩
      obtain rfl := Option.some.inj hF
      exact hret _ _ _ _ hW dX5_passDiary_99
    have L_47 : ∀ (n : Nat) (x4_47 : Int32) (v_turned_47 : Int64) (a_came_47 : Nat → Int64) (a_stayed_47 : Nat → Int64) (ls : Array Slot) (H : Heap) (locs : List Loc), L_X5_passDiary_47 x3 v_p1_signCount v_p1_workCount a_p1_lighter a_p1_signNumbers a_p1_workNoise v_p2_days a_p2_signs a_p2_works k_94 n x4_47 v_turned_47 a_came_47 a_stayed_47 = some out → lv_has ls 5 [(0, .ref h_this), (1, .ref h_p1), (2, .ref h_p2), (3, .int x3), (4, .int x4_47)] → Wd G A s.heap [(h_this, oX5 ad_this v_turned_47), (h_p1, oX8 ad_p1 v_p1_signCount v_p1_houseCount v_p1_boatCount v_p1_workCount v_p1_turnCost v_p1_boatDayCost), ((ad_p1 0), cI G 3 a_p1_lighter), ((ad_p1 1), cI G 16 a_p1_signNumbers), ((ad_p1 5), cI G 5 a_p1_workNoise), (h_p2, oX1 ad_p2 v_p2_days), ((ad_p2 0), cI G 5 a_p2_signs), ((ad_p2 1), cI G 5 a_p2_works), ((ad_this 1), cJ G 3 a_came_47), ((ad_this 0), cJ G 3 a_stayed_47)] H locs → W p l e ({ frames := 5, cells := 0, slots := 0, locals := 116 } : Room) s m args below meth c H locs 0 0 Q (F0 m 47 ls []) := by
      intro n
      induction n with
      | zero => intro x4_47 v_turned_47 a_came_47 a_stayed_47 ls H locs hF hl hW; have h0 : none = some out := hF; cases h0
      | succ n ih =>
        intro x4_47 v_turned_47 a_came_47 a_stayed_47 ls H locs hF hl hW
        rw [L_X5_passDiary_47] at hF
        refine lv_iload hx hb dX5_passDiary_47 (lv_at hl 4 rfl) ?_
        refine lv_aload_n hx hb dX5_passDiary_49 rfl (lv_at hl 2 rfl) ?_
        refine va_get (D := G.1) (ci := 1) (v := .int v_p2_days) (C := RX1) (T := TX1) (N := 3) hx hb hg hu_X1 hown hc.1 hW.1 5 rfl rfl 2 (by decide) (hg _ wd_1_127) (fun _ h9 => h9) rfl dX5_passDiary_50 ?_
        refine lv_icmp_ge (tgt := 94) hx hb dX5_passDiary_53 (by decide) (fun c_53 => ?_) (fun c_53 => ?_)
        · have hF := ite_t hF c_53
          exact J_94 v_turned_47 a_came_47 a_stayed_47 _ _ _ hF (lv_sub hl [0] rfl) hW
        · have hF := ite_f hF c_53
          refine lv_aload_n hx hb dX5_passDiary_56 rfl (lv_at hl 0 rfl) ?_
          refine lv_aload_n hx hb dX5_passDiary_57 rfl (lv_at hl 1 rfl) ?_
          refine lv_aload_n hx hb dX5_passDiary_58 rfl (lv_at hl 1 rfl) ?_
          refine lv_aload_n hx hb dX5_passDiary_59 rfl (lv_at hl 2 rfl) ?_
          refine lv_iload hx hb dX5_passDiary_60 (lv_at hl 4 rfl) ?_
          obtain ⟨q62, c_62, hF⟩ := bd_el hF
          refine wcI (ws' := [(h_this, oX5 ad_this v_turned_47), (h_p1, oX8 ad_p1 v_p1_signCount v_p1_houseCount v_p1_boatCount v_p1_workCount v_p1_turnCost v_p1_boatDayCost), ((ad_p1 0), cI G 3 a_p1_lighter), ((ad_p1 1), cI G 16 a_p1_signNumbers), ((ad_p1 5), cI G 5 a_p1_workNoise), (h_p2, oX1 ad_p2 v_p2_days), ((ad_p2 0), cI G 5 a_p2_signs), ((ad_p2 1), cI G 5 a_p2_works), ((ad_this 1), cJ G 3 a_came_47), ((ad_this 0), cJ G 3 a_stayed_47)]) (wc := [(h_p2, oX1 ad_p2 v_p2_days), ((ad_p2 1), cI G 5 a_p2_works)]) (wr := [(h_this, oX5 ad_this v_turned_47), (h_p1, oX8 ad_p1 v_p1_signCount v_p1_houseCount v_p1_boatCount v_p1_workCount v_p1_turnCost v_p1_boatDayCost), ((ad_p1 0), cI G 3 a_p1_lighter), ((ad_p1 1), cI G 16 a_p1_signNumbers), ((ad_p1 5), cI G 5 a_p1_workNoise), ((ad_p2 0), cI G 5 a_p2_signs), ((ad_this 1), cJ G 3 a_came_47), ((ad_this 0), cJ G 3 a_stayed_47)]) (w1 := [(h_p2, oX1 ad_p2 v_p2_days), ((ad_p2 1), cI G 5 a_p2_works)]) (va_runV (As := [.int x4_47]) (rest := [.ref h_p1, .ref h_p1, .ref h_this]) ⟨hx, hb, hml, hown, hg⟩ (c_X1_worksOn l G x4_47 h_p2 ad_p2 v_p2_days a_p2_works q62 c_62 H.size) (cwV 1 hg (gV wd_2_228 wd_2_205 wd_2_206 wd_1_5 wd_2_207) rfl rfl rfl hdV_X1_worksOn ⟨(Nat.le_of_ble_eq_true rfl), (Nat.le_of_ble_eq_true rfl)⟩) (preV hc hW [5, 7] rfl (by decide) rfl rfl) rfl rfl hl.1 rfl (lv_room (Nat.le_of_ble_eq_true rfl)) dX5_passDiary_62 ⟨Nat.zero_le _, Nat.zero_le _⟩) hA hW [5, 7] [0, 1, 2, 3, 4, 6, 8, 9] [0, 1, 2, 3, 4, 8, 5, 9, 6, 7] rfl rfl (by decide) (by decide) rfl (by decide) (fun H locs hW => ?_)
          obtain ⟨q65, c_65, hF⟩ := bd_el hF
          refine wcI (ws' := [(h_this, oX5 ad_this v_turned_47), (h_p1, oX8 ad_p1 v_p1_signCount v_p1_houseCount v_p1_boatCount v_p1_workCount v_p1_turnCost v_p1_boatDayCost), ((ad_p1 0), cI G 3 a_p1_lighter), ((ad_p1 1), cI G 16 a_p1_signNumbers), ((ad_p1 5), cI G 5 a_p1_workNoise), (h_p2, oX1 ad_p2 v_p2_days), ((ad_p2 0), cI G 5 a_p2_signs), ((ad_p2 1), cI G 5 a_p2_works), ((ad_this 1), cJ G 3 a_came_47), ((ad_this 0), cJ G 3 a_stayed_47)]) (wc := [(h_p1, oX8 ad_p1 v_p1_signCount v_p1_houseCount v_p1_boatCount v_p1_workCount v_p1_turnCost v_p1_boatDayCost), ((ad_p1 5), cI G 5 a_p1_workNoise)]) (wr := [(h_this, oX5 ad_this v_turned_47), ((ad_p1 0), cI G 3 a_p1_lighter), ((ad_p1 1), cI G 16 a_p1_signNumbers), (h_p2, oX1 ad_p2 v_p2_days), ((ad_p2 0), cI G 5 a_p2_signs), ((ad_p2 1), cI G 5 a_p2_works), ((ad_this 1), cJ G 3 a_came_47), ((ad_this 0), cJ G 3 a_stayed_47)]) (w1 := [(h_p1, oX8 ad_p1 v_p1_signCount v_p1_houseCount v_p1_boatCount v_p1_workCount v_p1_turnCost v_p1_boatDayCost), ((ad_p1 5), cI G 5 a_p1_workNoise)]) (va_runV (As := [.int q62]) (rest := [.ref h_p1, .ref h_this]) ⟨hx, hb, hml, hown, hg⟩ (c_X8_noiseOf l G q62 h_p1 ad_p1 v_p1_signCount v_p1_houseCount v_p1_boatCount v_p1_workCount v_p1_turnCost v_p1_boatDayCost a_p1_workNoise q65 c_65 H.size) (cwV 1 hg (gV wd_2_229 wd_2_173 wd_2_174 wd_1_4 wd_2_175) rfl rfl rfl hdV_X8_noiseOf ⟨(Nat.le_of_ble_eq_true rfl), (Nat.le_of_ble_eq_true rfl)⟩) (preV hc hW [1, 4] rfl (by decide) rfl rfl) rfl rfl hl.1 rfl (lv_room (Nat.le_of_ble_eq_true rfl)) dX5_passDiary_65 ⟨Nat.zero_le _, Nat.zero_le _⟩) hA hW [1, 4] [0, 2, 3, 5, 6, 7, 8, 9] [0, 8, 1, 2, 9, 3, 4, 5, 6, 7] rfl rfl (by decide) (by decide) rfl (by decide) (fun H locs hW => ?_)
          obtain ⟨q68, c_68, hF⟩ := bd_el hF
          refine wcV (ws' := [(h_this, oX5 ad_this q68.1), (h_p1, oX8 ad_p1 v_p1_signCount v_p1_houseCount v_p1_boatCount v_p1_workCount v_p1_turnCost v_p1_boatDayCost), ((ad_p1 0), cI G 3 a_p1_lighter), ((ad_p1 1), cI G 16 a_p1_signNumbers), ((ad_p1 5), cI G 5 a_p1_workNoise), (h_p2, oX1 ad_p2 v_p2_days), ((ad_p2 0), cI G 5 a_p2_signs), ((ad_p2 1), cI G 5 a_p2_works), ((ad_this 1), cJ G 3 q68.2.1), ((ad_this 0), cJ G 3 q68.2.2)]) (wc := [(h_this, oX5 ad_this v_turned_47), (h_p1, oX8 ad_p1 v_p1_signCount v_p1_houseCount v_p1_boatCount v_p1_workCount v_p1_turnCost v_p1_boatDayCost), ((ad_p1 0), cI G 3 a_p1_lighter), ((ad_this 1), cJ G 3 a_came_47), ((ad_this 0), cJ G 3 a_stayed_47)]) (wr := [((ad_p1 1), cI G 16 a_p1_signNumbers), ((ad_p1 5), cI G 5 a_p1_workNoise), (h_p2, oX1 ad_p2 v_p2_days), ((ad_p2 0), cI G 5 a_p2_signs), ((ad_p2 1), cI G 5 a_p2_works)]) (w1 := [(h_this, oX5 ad_this q68.1), (h_p1, oX8 ad_p1 v_p1_signCount v_p1_houseCount v_p1_boatCount v_p1_workCount v_p1_turnCost v_p1_boatDayCost), ((ad_p1 0), cI G 3 a_p1_lighter), ((ad_this 1), cJ G 3 q68.2.1), ((ad_this 0), cJ G 3 q68.2.2)]) (va_runV (As := [.ref h_p1, .int q65]) (rest := []) ⟨hx, hb, hml, hown, hg⟩ (c_X5_goOn l G q65 h_this h_p1 ad_this ad_p1 v_turned_47 v_p1_signCount v_p1_houseCount v_p1_boatCount v_p1_workCount v_p1_turnCost v_p1_boatDayCost a_p1_lighter a_came_47 a_stayed_47 q68 c_68 H.size) (cwV 2 hg (gV wd_2_230 wd_2_231 wd_2_232 wd_1_6 wd_2_233) rfl rfl rfl hdV_X5_goOn ⟨(Nat.le_of_ble_eq_true rfl), (Nat.le_of_ble_eq_true rfl)⟩) (preV hc hW [0, 1, 2, 8, 9] rfl (by decide) rfl rfl) rfl rfl hl.1 rfl (lv_room (Nat.le_of_ble_eq_true rfl)) dX5_passDiary_68 ⟨Nat.zero_le _, Nat.zero_le _⟩) hA hW [0, 1, 2, 8, 9] [3, 4, 5, 6, 7] [5, 6, 7, 0, 1, 2, 3, 4, 8, 9] rfl rfl (by decide) (by decide) rfl (by decide) (fun H locs hW => ?_)
          refine lv_iload hx hb dX5_passDiary_71 (lv_at hl 4 rfl) ?_
          refine lv_iload_n hx hb dX5_passDiary_73 rfl (lv_at hl 3 rfl) ?_
          obtain ⟨k_88, e_88, hF⟩ := jn_el hF
          have J_88 : ∀ (a_came_88 : Nat → Int64) (a_stayed_88 : Nat → Int64) (ls : Array Slot) (H : Heap) (locs : List Loc), k_88 a_came_88 a_stayed_88 = some out → lv_has ls 5 [(0, .ref h_this), (1, .ref h_p1), (2, .ref h_p2), (3, .int x3), (4, .int x4_47)] → Wd G A s.heap [(h_this, oX5 ad_this q68.1), (h_p1, oX8 ad_p1 v_p1_signCount v_p1_houseCount v_p1_boatCount v_p1_workCount v_p1_turnCost v_p1_boatDayCost), ((ad_p1 0), cI G 3 a_p1_lighter), ((ad_p1 1), cI G 16 a_p1_signNumbers), ((ad_p1 5), cI G 5 a_p1_workNoise), (h_p2, oX1 ad_p2 v_p2_days), ((ad_p2 0), cI G 5 a_p2_signs), ((ad_p2 1), cI G 5 a_p2_works), ((ad_this 1), cJ G 3 a_came_88), ((ad_this 0), cJ G 3 a_stayed_88)] H locs → W p l e ({ frames := 5, cells := 0, slots := 0, locals := 116 } : Room) s m args below meth c H locs 0 0 Q (F0 m 88 ls []) := by
            intro a_came_88 a_stayed_88 ls H locs hF hl hW
            rw [e_88] at hF
            dsimp only at hF
            refine lv_iinc (v := (x4_47 + 1)) (lv' := [(4, .int ((x4_47 + 1))), (0, .ref h_this), (1, .ref h_p1), (2, .ref h_p2), (3, .int x3)]) hx hb dX5_passDiary_88 hl (k := 4) rfl rfl (by decide) rfl (fun ls hl => ?_)
            refine lv_goto (tgt := 47) hx hb dX5_passDiary_91 (by decide) ?_
            exact ih ((x4_47 + 1)) q68.1 a_came_88 a_stayed_88 _ _ _ hF (lv_sub hl [1, 2, 3, 4, 0] rfl) hW
          refine lv_icmp_eq (tgt := 88) hx hb dX5_passDiary_74 (by decide) (fun c_74 => ?_) (fun c_74 => ?_)
          · have hF := ite_t hF c_74
            exact J_88 q68.2.1 q68.2.2 _ _ _ hF (lv_sub hl [0, 1, 2, 3, 4] rfl) hW
          · have hF := ite_f hF c_74
            refine lv_aload_n hx hb dX5_passDiary_77 rfl (lv_at hl 0 rfl) ?_
            refine lv_aload_n hx hb dX5_passDiary_78 rfl (lv_at hl 1 rfl) ?_
            refine lv_aload_n hx hb dX5_passDiary_79 rfl (lv_at hl 2 rfl) ?_
            refine lv_iload hx hb dX5_passDiary_80 (lv_at hl 4 rfl) ?_
            obtain ⟨q82, c_82, hF⟩ := bd_el hF
            refine wcI (ws' := [(h_this, oX5 ad_this q68.1), (h_p1, oX8 ad_p1 v_p1_signCount v_p1_houseCount v_p1_boatCount v_p1_workCount v_p1_turnCost v_p1_boatDayCost), ((ad_p1 0), cI G 3 a_p1_lighter), ((ad_p1 1), cI G 16 a_p1_signNumbers), ((ad_p1 5), cI G 5 a_p1_workNoise), (h_p2, oX1 ad_p2 v_p2_days), ((ad_p2 0), cI G 5 a_p2_signs), ((ad_p2 1), cI G 5 a_p2_works), ((ad_this 1), cJ G 3 q68.2.1), ((ad_this 0), cJ G 3 q68.2.2)]) (wc := [(h_p2, oX1 ad_p2 v_p2_days), ((ad_p2 0), cI G 5 a_p2_signs)]) (wr := [(h_this, oX5 ad_this q68.1), (h_p1, oX8 ad_p1 v_p1_signCount v_p1_houseCount v_p1_boatCount v_p1_workCount v_p1_turnCost v_p1_boatDayCost), ((ad_p1 0), cI G 3 a_p1_lighter), ((ad_p1 1), cI G 16 a_p1_signNumbers), ((ad_p1 5), cI G 5 a_p1_workNoise), ((ad_p2 1), cI G 5 a_p2_works), ((ad_this 1), cJ G 3 q68.2.1), ((ad_this 0), cJ G 3 q68.2.2)]) (w1 := [(h_p2, oX1 ad_p2 v_p2_days), ((ad_p2 0), cI G 5 a_p2_signs)]) (va_runV (As := [.int x4_47]) (rest := [.ref h_p1, .ref h_this]) ⟨hx, hb, hml, hown, hg⟩ (c_X1_signsOn l G x4_47 h_p2 ad_p2 v_p2_days a_p2_signs q82 c_82 H.size) (cwV 1 hg (gV wd_3_9 wd_2_200 wd_2_201 wd_1_5 wd_2_202) rfl rfl rfl hdV_X1_signsOn ⟨(Nat.le_of_ble_eq_true rfl), (Nat.le_of_ble_eq_true rfl)⟩) (preV hc hW [5, 6] rfl (by decide) rfl rfl) rfl rfl hl.1 rfl (lv_room (Nat.le_of_ble_eq_true rfl)) dX5_passDiary_82 ⟨Nat.zero_le _, Nat.zero_le _⟩) hA hW [5, 6] [0, 1, 2, 3, 4, 7, 8, 9] [0, 1, 2, 3, 4, 8, 9, 5, 6, 7] rfl rfl (by decide) (by decide) rfl (by decide) (fun H locs hW => ?_)
            obtain ⟨q85, c_85, hF⟩ := bd_el hF
            refine wcV (ws' := [(h_this, oX5 ad_this q68.1), (h_p1, oX8 ad_p1 v_p1_signCount v_p1_houseCount v_p1_boatCount v_p1_workCount v_p1_turnCost v_p1_boatDayCost), ((ad_p1 0), cI G 3 a_p1_lighter), ((ad_p1 1), cI G 16 a_p1_signNumbers), ((ad_p1 5), cI G 5 a_p1_workNoise), (h_p2, oX1 ad_p2 v_p2_days), ((ad_p2 0), cI G 5 a_p2_signs), ((ad_p2 1), cI G 5 a_p2_works), ((ad_this 1), cJ G 3 q85.1), ((ad_this 0), cJ G 3 q85.2)]) (wc := [(h_this, oX5 ad_this q68.1), (h_p1, oX8 ad_p1 v_p1_signCount v_p1_houseCount v_p1_boatCount v_p1_workCount v_p1_turnCost v_p1_boatDayCost), ((ad_p1 1), cI G 16 a_p1_signNumbers), ((ad_this 1), cJ G 3 q68.2.1), ((ad_this 0), cJ G 3 q68.2.2)]) (wr := [((ad_p1 0), cI G 3 a_p1_lighter), ((ad_p1 5), cI G 5 a_p1_workNoise), (h_p2, oX1 ad_p2 v_p2_days), ((ad_p2 0), cI G 5 a_p2_signs), ((ad_p2 1), cI G 5 a_p2_works)]) (w1 := [(h_this, oX5 ad_this q68.1), (h_p1, oX8 ad_p1 v_p1_signCount v_p1_houseCount v_p1_boatCount v_p1_workCount v_p1_turnCost v_p1_boatDayCost), ((ad_p1 1), cI G 16 a_p1_signNumbers), ((ad_this 1), cJ G 3 q85.1), ((ad_this 0), cJ G 3 q85.2)]) (va_runV (As := [.ref h_p1, .int q82]) (rest := []) ⟨hx, hb, hml, hown, hg⟩ (c_X5_lookAt l G q82 h_this h_p1 ad_this ad_p1 q68.1 v_p1_signCount v_p1_houseCount v_p1_boatCount v_p1_workCount v_p1_turnCost v_p1_boatDayCost a_p1_signNumbers q68.2.1 q68.2.2 q85 c_85 H.size) (cwV 2 hg (gV wd_3_10 wd_3_12 wd_0_12 wd_1_6 wd_3_13) rfl rfl rfl hdV_X5_lookAt ⟨(Nat.le_of_ble_eq_true rfl), (Nat.le_of_ble_eq_true rfl)⟩) (preV hc hW [0, 1, 3, 8, 9] rfl (by decide) rfl rfl) rfl rfl hl.1 rfl (lv_room (Nat.le_of_ble_eq_true rfl)) dX5_passDiary_85 ⟨Nat.zero_le _, Nat.zero_le _⟩) hA hW [0, 1, 3, 8, 9] [2, 4, 5, 6, 7] [5, 6, 0, 7, 1, 2, 3, 4, 8, 9] rfl rfl (by decide) (by decide) rfl (by decide) (fun H locs hW => ?_)
            exact J_88 q85.1 q85.2 _ _ _ hF (lv_sub hl [0, 1, 2, 3, 4] rfl) hW
    exact L_47 5000 0 v_turned a_came_44 a_stayed_44 _ _ _ hF (lv_sub hl [1, 2, 3, 4, 0] rfl) hW
  have L_3 : ∀ (n : Nat) (x4_3 : Int32) (a_came_3 : Nat → Int64) (a_stayed_3 : Nat → Int64) (ls : Array Slot) (H : Heap) (locs : List Loc), L_X5_passDiary_3 k_44 n x4_3 a_came_3 a_stayed_3 = some out → lv_has ls 5 [(0, .ref h_this), (1, .ref h_p1), (2, .ref h_p2), (3, .int x3), (4, .int x4_3)] → Wd G A s.heap [(h_this, oX5 ad_this v_turned), (h_p1, oX8 ad_p1 v_p1_signCount v_p1_houseCount v_p1_boatCount v_p1_workCount v_p1_turnCost v_p1_boatDayCost), ((ad_p1 0), cI G 3 a_p1_lighter), ((ad_p1 1), cI G 16 a_p1_signNumbers), ((ad_p1 5), cI G 5 a_p1_workNoise), (h_p2, oX1 ad_p2 v_p2_days), ((ad_p2 0), cI G 5 a_p2_signs), ((ad_p2 1), cI G 5 a_p2_works), ((ad_this 1), cJ G 3 a_came_3), ((ad_this 0), cJ G 3 a_stayed_3)] H locs → W p l e ({ frames := 5, cells := 0, slots := 0, locals := 116 } : Room) s m args below meth c H locs 0 0 Q (F0 m 3 ls []) := by
    intro n
    induction n with
    | zero => intro x4_3 a_came_3 a_stayed_3 ls H locs hF hl hW; have h0 : none = some out := hF; cases h0
    | succ n ih =>
      intro x4_3 a_came_3 a_stayed_3 ls H locs hF hl hW
      rw [L_X5_passDiary_3] at hF
      refine lv_iload hx hb dX5_passDiary_3 (lv_at hl 4 rfl) ?_
      refine lv_iconst (v := 3) hx hb dX5_passDiary_5 (by decide) ?_
      refine lv_icmp_ge (tgt := 44) hx hb dX5_passDiary_6 (by decide) (fun c_6 => ?_) (fun c_6 => ?_)
      · have hF := ite_t hF c_6
        exact J_44 a_came_3 a_stayed_3 _ _ _ hF (lv_sub hl [0, 1, 2, 3] rfl) hW
      · have hF := ite_f hF c_6
        refine lv_aload_n hx hb dX5_passDiary_9 rfl (lv_at hl 0 rfl) ?_
        refine va_get (D := G.1) (ci := 4) (v := .ref ((ad_this 0))) (C := RX5) (T := TX5) (N := 3) hx hb hg hu_X5 hown hc.1 hW.1 0 rfl rfl 0 (by decide) (hg _ wd_1_141) (fun _ h9 => h9) rfl dX5_passDiary_10 ?_
        refine lv_iload hx hb dX5_passDiary_13 (lv_at hl 4 rfl) ?_
        refine lv_iload hx hb dX5_passDiary_15 (lv_at hl 4 rfl) ?_
        obtain ⟨k_25, e_25, hF⟩ := jn_el hF
        have J_25 : ∀ (j0_25 : Int64) (ls : Array Slot) (H : Heap) (locs : List Loc), k_25 j0_25 = some out → lv_has ls 5 [(0, .ref h_this), (1, .ref h_p1), (2, .ref h_p2), (3, .int x3), (4, .int x4_3)] → Wd G A s.heap [(h_this, oX5 ad_this v_turned), (h_p1, oX8 ad_p1 v_p1_signCount v_p1_houseCount v_p1_boatCount v_p1_workCount v_p1_turnCost v_p1_boatDayCost), ((ad_p1 0), cI G 3 a_p1_lighter), ((ad_p1 1), cI G 16 a_p1_signNumbers), ((ad_p1 5), cI G 5 a_p1_workNoise), (h_p2, oX1 ad_p2 v_p2_days), ((ad_p2 0), cI G 5 a_p2_signs), ((ad_p2 1), cI G 5 a_p2_works), ((ad_this 1), cJ G 3 a_came_3), ((ad_this 0), cJ G 3 a_stayed_3)] H locs → W p l e ({ frames := 5, cells := 0, slots := 0, locals := 116 } : Room) s m args below meth c H locs 0 0 Q (F0 m 25 ls [.long j0_25, .int x4_3, .ref ((ad_this 0))]) := by
          intro j0_25 ls H locs hF hl hW
          rw [e_25] at hF
          dsimp only at hF
          obtain ⟨q25, c_25, hF⟩ := bd_el hF
          refine wcV (ws' := [(h_this, oX5 ad_this v_turned), (h_p1, oX8 ad_p1 v_p1_signCount v_p1_houseCount v_p1_boatCount v_p1_workCount v_p1_turnCost v_p1_boatDayCost), ((ad_p1 0), cI G 3 a_p1_lighter), ((ad_p1 1), cI G 16 a_p1_signNumbers), ((ad_p1 5), cI G 5 a_p1_workNoise), (h_p2, oX1 ad_p2 v_p2_days), ((ad_p2 0), cI G 5 a_p2_signs), ((ad_p2 1), cI G 5 a_p2_works), ((ad_this 1), cJ G 3 a_came_3), ((ad_this 0), cJ G 3 q25)]) (wc := [((ad_this 0), cJ G 3 a_stayed_3)]) (wr := [(h_this, oX5 ad_this v_turned), (h_p1, oX8 ad_p1 v_p1_signCount v_p1_houseCount v_p1_boatCount v_p1_workCount v_p1_turnCost v_p1_boatDayCost), ((ad_p1 0), cI G 3 a_p1_lighter), ((ad_p1 1), cI G 16 a_p1_signNumbers), ((ad_p1 5), cI G 5 a_p1_workNoise), (h_p2, oX1 ad_p2 v_p2_days), ((ad_p2 0), cI G 5 a_p2_signs), ((ad_p2 1), cI G 5 a_p2_works), ((ad_this 1), cJ G 3 a_came_3)]) (w1 := [((ad_this 0), cJ G 3 q25)]) (va_runS (As := [.ref ((ad_this 0)), .int x4_3, .long j0_25]) (rest := []) ⟨hx, hb, hml, hown, hg⟩ (c_X4_putLong l G x4_3 j0_25 3 ((ad_this 0)) a_stayed_3 q25 c_25 H.size) (va_cwS 3 hg (gS wd_2_225 wd_2_226 wd_1_14 wd_2_227) rfl rfl rfl hdS_X4_putLong ⟨(Nat.le_of_ble_eq_true rfl), (Nat.le_of_ble_eq_true rfl)⟩) (preS hc hW [9] rfl (by decide)) rfl rfl hl.1 rfl (lv_room (Nat.le_of_ble_eq_true rfl)) dX5_passDiary_25 ⟨Nat.zero_le _, Nat.zero_le _⟩) hA hW [9] [0, 1, 2, 3, 4, 5, 6, 7, 8] [0, 1, 2, 3, 4, 5, 6, 7, 8, 9] rfl rfl (by decide) (by decide) rfl (by decide) (fun H locs hW => ?_)
          refine lv_aload_n hx hb dX5_passDiary_28 rfl (lv_at hl 0 rfl) ?_
          refine va_get (D := G.1) (ci := 4) (v := .ref ((ad_this 1))) (C := RX5) (T := TX5) (N := 3) hx hb hg hu_X5 hown hc.1 hW.1 0 rfl rfl 1 (by decide) (hg _ wd_1_142) (fun _ h9 => h9) rfl dX5_passDiary_29 ?_
          refine lv_iload hx hb dX5_passDiary_32 (lv_at hl 4 rfl) ?_
          refine lv_lconst (v := 0) hx hb dX5_passDiary_34 (by decide) ?_
          obtain ⟨q35, c_35, hF⟩ := bd_el hF
          refine wcV (ws' := [(h_this, oX5 ad_this v_turned), (h_p1, oX8 ad_p1 v_p1_signCount v_p1_houseCount v_p1_boatCount v_p1_workCount v_p1_turnCost v_p1_boatDayCost), ((ad_p1 0), cI G 3 a_p1_lighter), ((ad_p1 1), cI G 16 a_p1_signNumbers), ((ad_p1 5), cI G 5 a_p1_workNoise), (h_p2, oX1 ad_p2 v_p2_days), ((ad_p2 0), cI G 5 a_p2_signs), ((ad_p2 1), cI G 5 a_p2_works), ((ad_this 1), cJ G 3 q35), ((ad_this 0), cJ G 3 q25)]) (wc := [((ad_this 1), cJ G 3 a_came_3)]) (wr := [(h_this, oX5 ad_this v_turned), (h_p1, oX8 ad_p1 v_p1_signCount v_p1_houseCount v_p1_boatCount v_p1_workCount v_p1_turnCost v_p1_boatDayCost), ((ad_p1 0), cI G 3 a_p1_lighter), ((ad_p1 1), cI G 16 a_p1_signNumbers), ((ad_p1 5), cI G 5 a_p1_workNoise), (h_p2, oX1 ad_p2 v_p2_days), ((ad_p2 0), cI G 5 a_p2_signs), ((ad_p2 1), cI G 5 a_p2_works), ((ad_this 0), cJ G 3 q25)]) (w1 := [((ad_this 1), cJ G 3 q35)]) (va_runS (As := [.ref ((ad_this 1)), .int x4_3, .long 0]) (rest := []) ⟨hx, hb, hml, hown, hg⟩ (c_X4_putLong l G x4_3 0 3 ((ad_this 1)) a_came_3 q35 c_35 H.size) (va_cwS 3 hg (gS wd_2_225 wd_2_226 wd_1_14 wd_2_227) rfl rfl rfl hdS_X4_putLong ⟨(Nat.le_of_ble_eq_true rfl), (Nat.le_of_ble_eq_true rfl)⟩) (preS hc hW [8] rfl (by decide)) rfl rfl hl.1 rfl (lv_room (Nat.le_of_ble_eq_true rfl)) dX5_passDiary_35 ⟨Nat.zero_le _, Nat.zero_le _⟩) hA hW [8] [0, 1, 2, 3, 4, 5, 6, 7, 9] [0, 1, 2, 3, 4, 5, 6, 7, 9, 8] rfl rfl (by decide) (by decide) rfl (by decide) (fun H locs hW => ?_)
          refine lv_iinc (v := (x4_3 + 1)) (lv' := [(4, .int ((x4_3 + 1))), (0, .ref h_this), (1, .ref h_p1), (2, .ref h_p2), (3, .int x3)]) hx hb dX5_passDiary_38 hl (k := 4) rfl rfl (by decide) rfl (fun ls hl => ?_)
          refine lv_goto (tgt := 3) hx hb dX5_passDiary_41 (by decide) ?_
          exact ih ((x4_3 + 1)) q35 q25 _ _ _ hF (lv_sub hl [1, 2, 3, 4, 0] rfl) hW
        refine lv_if_ne (tgt := 24) hx hb dX5_passDiary_17 (by decide) (fun c_17 => ?_) (fun c_17 => ?_)
        · have hF := ite_f hF c_17
          refine lv_lconst (v := 0) hx hb dX5_passDiary_24 (by decide) ?_
          exact J_25 0 _ _ _ hF (lv_sub hl [0, 1, 2, 3, 4] rfl) hW
        · have hF := ite_t hF c_17
          refine lv_lconst (v := 1) hx hb dX5_passDiary_20 (by decide) ?_
          refine lv_goto (tgt := 25) hx hb dX5_passDiary_21 (by decide) ?_
          exact J_25 1 _ _ _ hF (lv_sub hl [0, 1, 2, 3, 4] rfl) hW
  exact L_3 5000 0 a_came a_stayed _ _ _ hF (lv_sub hl [1, 2, 3, 4, 0] rfl) hW
theorem dX5_sightings_0 : decode cX5_sightings 0 = .ok (.lconst 0, 1) := by decide +kernel
theorem dX5_sightings_1 : decode cX5_sightings 1 = .ok (.lstore_n 3, 1) := by decide +kernel
theorem dX5_sightings_2 : decode cX5_sightings 2 = .ok (.iconst 0, 1) := by decide +kernel
theorem dX5_sightings_3 : decode cX5_sightings 3 = .ok (.istore 5, 2) := by decide +kernel
theorem dX5_sightings_5 : decode cX5_sightings 5 = .ok (.iload 5, 2) := by decide +kernel
theorem dX5_sightings_7 : decode cX5_sightings 7 = .ok (.iconst 3, 1) := by decide +kernel
theorem dX5_sightings_8 : decode cX5_sightings 8 = .ok (.if_icmp .ge 65, 3) := by decide +kernel
theorem dX5_sightings_11 : decode cX5_sightings 11 = .ok (.iconst 0, 1) := by decide +kernel
theorem dX5_sightings_12 : decode cX5_sightings 12 = .ok (.iload 5, 2) := by decide +kernel
theorem dX5_sightings_14 : decode cX5_sightings 14 = .ok (.iconst 1, 1) := by decide +kernel
theorem dX5_sightings_15 : decode cX5_sightings 15 = .ok (.isub, 1) := by decide +kernel
theorem dX5_sightings_16 : decode cX5_sightings 16 = .ok (.invokestatic 71, 3) := by decide +kernel
theorem dX5_sightings_19 : decode cX5_sightings 19 = .ok (.istore 6, 2) := by decide +kernel
theorem dX5_sightings_21 : decode cX5_sightings 21 = .ok (.lload_n 3, 1) := by decide +kernel
theorem dX5_sightings_22 : decode cX5_sightings 22 = .ok (.aload_n 0, 1) := by decide +kernel
theorem dX5_sightings_23 : decode cX5_sightings 23 = .ok (.getfield 9, 3) := by decide +kernel
theorem dX5_sightings_26 : decode cX5_sightings 26 = .ok (.iload 5, 2) := by decide +kernel
theorem dX5_sightings_28 : decode cX5_sightings 28 = .ok (.invokestatic 18, 3) := by decide +kernel
theorem dX5_sightings_31 : decode cX5_sightings 31 = .ok (.aload_n 1, 1) := by decide +kernel
theorem dX5_sightings_32 : decode cX5_sightings 32 = .ok (.iload_n 2, 1) := by decide +kernel
theorem dX5_sightings_33 : decode cX5_sightings 33 = .ok (.iload 5, 2) := by decide +kernel
theorem dX5_sightings_35 : decode cX5_sightings 35 = .ok (.iload 5, 2) := by decide +kernel
theorem dX5_sightings_37 : decode cX5_sightings 37 = .ok (.invokevirtual 80, 3) := by decide +kernel
theorem dX5_sightings_40 : decode cX5_sightings 40 = .ok (.i2l, 1) := by decide +kernel
theorem dX5_sightings_41 : decode cX5_sightings 41 = .ok (.lmul, 1) := by decide +kernel
theorem dX5_sightings_42 : decode cX5_sightings 42 = .ok (.ladd, 1) := by decide +kernel
theorem dX5_sightings_43 : decode cX5_sightings 43 = .ok (.lstore_n 3, 1) := by decide +kernel
theorem dX5_sightings_44 : decode cX5_sightings 44 = .ok (.lload_n 3, 1) := by decide +kernel
theorem dX5_sightings_45 : decode cX5_sightings 45 = .ok (.aload_n 0, 1) := by decide +kernel
theorem dX5_sightings_46 : decode cX5_sightings 46 = .ok (.getfield 15, 3) := by decide +kernel
theorem dX5_sightings_49 : decode cX5_sightings 49 = .ok (.iload 5, 2) := by decide +kernel
theorem dX5_sightings_51 : decode cX5_sightings 51 = .ok (.invokestatic 18, 3) := by decide +kernel
theorem dX5_sightings_54 : decode cX5_sightings 54 = .ok (.aload_n 1, 1) := by decide +kernel
theorem dX5_sightings_55 : decode cX5_sightings 55 = .ok (.iload_n 2, 1) := by decide +kernel
theorem dX5_sightings_56 : decode cX5_sightings 56 = .ok (.iload 6, 2) := by decide +kernel
theorem dX5_sightings_58 : decode cX5_sightings 58 = .ok (.iload 5, 2) := by decide +kernel
theorem dX5_sightings_60 : decode cX5_sightings 60 = .ok (.invokevirtual 80, 3) := by decide +kernel
theorem dX5_sightings_63 : decode cX5_sightings 63 = .ok (.i2l, 1) := by decide +kernel
theorem dX5_sightings_64 : decode cX5_sightings 64 = .ok (.lmul, 1) := by decide +kernel
theorem dX5_sightings_65 : decode cX5_sightings 65 = .ok (.ladd, 1) := by decide +kernel
theorem dX5_sightings_66 : decode cX5_sightings 66 = .ok (.lstore_n 3, 1) := by decide +kernel
theorem dX5_sightings_67 : decode cX5_sightings 67 = .ok (.iinc 5 1, 3) := by decide +kernel
theorem dX5_sightings_70 : decode cX5_sightings 70 = .ok (.goto (-65), 3) := by decide +kernel
theorem dX5_sightings_73 : decode cX5_sightings 73 = .ok (.lload_n 3, 1) := by decide +kernel
theorem dX5_sightings_74 : decode cX5_sightings 74 = .ok (.lreturn, 1) := by decide +kernel
def L_X5_sightings_5 (x2 : Int32) (a_p1_signNumbers : Nat → Int32) (a_came : Nat → Int64) (a_stayed : Nat → Int64)  : Nat → Int64 → Int32 → Option (Int64)
  | 0, _, _ => none
  | n + 1, x3_5, x5_5 => (if 3 ≤ x5_5 then some (x3_5) else (F_X4_longAt x5_5 3 a_stayed).bind (fun q28 => (F_X8_shareOf x2 x5_5 x5_5 a_p1_signNumbers).bind (fun q37 => (F_X4_longAt x5_5 3 a_came).bind (fun q51 => (F_X8_shareOf x2 ((if (0 : Int32) < (x5_5 - 1) then (x5_5 - 1) else 0)) x5_5 a_p1_signNumbers).bind (fun q60 => L_X5_sightings_5 x2 a_p1_signNumbers a_came a_stayed n (((x3_5 + (q28 * (Int32.toInt64 q37))) + (q51 * (Int32.toInt64 q60)))) ((x5_5 + 1)))))))
def F_X5_sightings (x2 : Int32) (a_p1_signNumbers : Nat → Int32) (a_came : Nat → Int64) (a_stayed : Nat → Int64) : Option (Int64) := L_X5_sightings_5 x2 a_p1_signNumbers a_came a_stayed 5000 0 0
theorem hdV_X5_sightings : yX5_sightings.cls = RX5 ∧ yX5_sightings.cls ≠ "java/lang/invoke/MethodHandle" ∧ yX5_sightings.cls ≠ "java/lang/invoke/VarHandle" ∧ (parseMethodDescriptor yX5_sightings.desc).map (fun d => d.parameters.length) = some 2 := by decide +kernel
set_option maxHeartbeats 4000000 in
set_option maxRecDepth 100000 in
theorem c_X5_sightings (l : Launch) (G : GG) (x2 : Int32) (h_this : Nat) (h_p1 : Nat) (ad_this : Nat → Nat) (ad_p1 : Nat → Nat) (v_turned : Int64) (v_p1_signCount : Int32) (v_p1_houseCount : Int32) (v_p1_boatCount : Int32) (v_p1_workCount : Int32) (v_p1_turnCost : Int32) (v_p1_boatDayCost : Int32) (a_p1_signNumbers : Nat → Int32) (a_came : Nat → Int64) (a_stayed : Nat → Int64) (out : Int64) (hF : F_X5_sightings x2 a_p1_signNumbers a_came a_stayed = some out) : CtrJ l yX5_sightings (WS yX5_sightings cX5_sightings 7 (some .long)) { frames := 4, cells := 0, slots := 0, locals := 90 } G [.ref h_this, .ref h_p1, .int x2] [(h_this, oX5 ad_this v_turned), (h_p1, oX8 ad_p1 v_p1_signCount v_p1_houseCount v_p1_boatCount v_p1_workCount v_p1_turnCost v_p1_boatDayCost), ((ad_p1 1), cI G 16 a_p1_signNumbers), ((ad_this 1), cJ G 3 a_came), ((ad_this 0), cJ G 3 a_stayed)] [(h_this, oX5 ad_this v_turned), (h_p1, oX8 ad_p1 v_p1_signCount v_p1_houseCount v_p1_boatCount v_p1_workCount v_p1_turnCost v_p1_boatDayCost), ((ad_p1 1), cI G 16 a_p1_signNumbers), ((ad_this 1), cJ G 3 a_came), ((ad_this 0), cJ G 3 a_stayed)] out := by
  refine startJ (cc := cX5_sightings) (maxL := 7) (by decide) rfl (Nat.le_of_ble_eq_true rfl) ?_
  intro p e s m args below meth c A Q hx hb hml hts hown hc hA hret ls H locs hl hW
  have hown : s.vm.findClass RX5 = some m.cls := hown
  have hg : ∀ w ∈ GOODS, w.before _ s = true := fun w h => hts w (List.mem_cons_of_mem _ h)
  have hl : lv_has ls 7 [(0, .ref h_this), (1, .ref h_p1), (2, .int x2)] := hl
  rw [F_X5_sightings] at hF
  refine lv_lconst (v := 0) hx hb dX5_sightings_0 (by decide) ?_
  refine lv_lstore_n (lv' := [(3, .long 0), (0, .ref h_this), (1, .ref h_p1), (2, .int x2)]) hx hb dX5_sightings_1 rfl hl (by decide) rfl (fun ls hl => ?_)
  refine lv_iconst (v := 0) hx hb dX5_sightings_2 (by decide) ?_
  refine lv_istore (lv' := [(5, .int 0), (3, .long 0), (0, .ref h_this), (1, .ref h_p1), (2, .int x2)]) hx hb dX5_sightings_3 hl (by decide) rfl (fun ls hl => ?_)
  have L_5 : ∀ (n : Nat) (x3_5 : Int64) (x5_5 : Int32) (ls : Array Slot) (H : Heap) (locs : List Loc), L_X5_sightings_5 x2 a_p1_signNumbers a_came a_stayed n x3_5 x5_5 = some out → lv_has ls 7 [(0, .ref h_this), (1, .ref h_p1), (2, .int x2), (3, .long x3_5), (5, .int x5_5)] → Wd G A s.heap [(h_this, oX5 ad_this v_turned), (h_p1, oX8 ad_p1 v_p1_signCount v_p1_houseCount v_p1_boatCount v_p1_workCount v_p1_turnCost v_p1_boatDayCost), ((ad_p1 1), cI G 16 a_p1_signNumbers), ((ad_this 1), cJ G 3 a_came), ((ad_this 0), cJ G 3 a_stayed)] H locs → W p l e ({ frames := 4, cells := 0, slots := 0, locals := 90 } : Room) s m args below meth c H locs 0 0 Q (F0 m 5 ls []) := by
    intro n
    induction n with
    | zero => intro x3_5 x5_5 ls H locs hF hl hW; have h0 : none = some out := hF; cases h0
    | succ n ih =>
      intro x3_5 x5_5 ls H locs hF hl hW
      rw [L_X5_sightings_5] at hF
      refine lv_iload hx hb dX5_sightings_5 (lv_at hl 4 rfl) ?_
      refine lv_iconst (v := 3) hx hb dX5_sightings_7 (by decide) ?_
      refine lv_icmp_ge (tgt := 73) hx hb dX5_sightings_8 (by decide) (fun c_8 => ?_) (fun c_8 => ?_)
      · have hF := ite_t hF c_8
        refine lv_lload_n hx hb dX5_sightings_73 rfl (lv_at hl 3 rfl) ?_
        obtain rfl := Option.some.inj hF
        exact hret _ _ _ _ hW dX5_sightings_74
      · have hF := ite_f hF c_8
        refine lv_iconst (v := 0) hx hb dX5_sightings_11 (by decide) ?_
        refine lv_iload hx hb dX5_sightings_12 (lv_at hl 4 rfl) ?_
        refine lv_iconst (v := 1) hx hb dX5_sightings_14 (by decide) ?_
        refine lv_isub hx hb dX5_sightings_15 ?_
        refine va_mmax hx hb (hml.trans hl.1.symm) hown (hg _ wd_3_14) (hg _ wd_3_15) (hg _ wd_1_16) (hg _ wd_3_16) (Nat.le_of_ble_eq_true rfl) (Nat.le_of_ble_eq_true rfl) (Nat.zero_le _) (Nat.zero_le _) dX5_sightings_16 ?_
        refine lv_istore (lv' := [(6, .int ((if (0 : Int32) < (x5_5 - 1) then (x5_5 - 1) else 0))), (0, .ref h_this), (1, .ref h_p1), (2, .int x2), (3, .long x3_5), (5, .int x5_5)]) hx hb dX5_sightings_19 hl (by decide) rfl (fun ls hl => ?_)
        refine lv_lload_n hx hb dX5_sightings_21 rfl (lv_at hl 4 rfl) ?_
        refine lv_aload_n hx hb dX5_sightings_22 rfl (lv_at hl 1 rfl) ?_
        refine va_get (D := G.1) (ci := 4) (v := .ref ((ad_this 0))) (C := RX5) (T := TX5) (N := 3) hx hb hg hu_X5 hown hc.1 hW.1 0 rfl rfl 0 (by decide) (hg _ wd_1_141) (fun _ h9 => h9) rfl dX5_sightings_23 ?_
        refine lv_iload hx hb dX5_sightings_26 (lv_at hl 5 rfl) ?_
        obtain ⟨q28, c_28, hF⟩ := bd_el hF
        refine wcJ (ws' := [(h_this, oX5 ad_this v_turned), (h_p1, oX8 ad_p1 v_p1_signCount v_p1_houseCount v_p1_boatCount v_p1_workCount v_p1_turnCost v_p1_boatDayCost), ((ad_p1 1), cI G 16 a_p1_signNumbers), ((ad_this 1), cJ G 3 a_came), ((ad_this 0), cJ G 3 a_stayed)]) (wc := [((ad_this 0), cJ G 3 a_stayed)]) (wr := [(h_this, oX5 ad_this v_turned), (h_p1, oX8 ad_p1 v_p1_signCount v_p1_houseCount v_p1_boatCount v_p1_workCount v_p1_turnCost v_p1_boatDayCost), ((ad_p1 1), cI G 16 a_p1_signNumbers), ((ad_this 1), cJ G 3 a_came)]) (w1 := [((ad_this 0), cJ G 3 a_stayed)]) (va_runS (As := [.ref ((ad_this 0)), .int x5_5]) (rest := [.long x3_5]) ⟨hx, hb, hml, hown, hg⟩ (c_X4_longAt l G x5_5 3 ((ad_this 0)) a_stayed q28 c_28 H.size) (va_cwS 2 hg (gS wd_3_6 wd_3_7 wd_1_14 wd_3_8) rfl rfl rfl hdS_X4_longAt ⟨(Nat.le_of_ble_eq_true rfl), (Nat.le_of_ble_eq_true rfl)⟩) (preS hc hW [4] rfl (by decide)) rfl rfl hl.1 rfl (lv_room (Nat.le_of_ble_eq_true rfl)) dX5_sightings_28 ⟨Nat.zero_le _, Nat.zero_le _⟩) hA hW [4] [0, 1, 2, 3] [0, 1, 2, 3, 4] rfl rfl (by decide) (by decide) rfl (by decide) (fun H locs hW => ?_)
        refine lv_aload_n hx hb dX5_sightings_31 rfl (lv_at hl 2 rfl) ?_
        refine lv_iload_n hx hb dX5_sightings_32 rfl (lv_at hl 3 rfl) ?_
        refine lv_iload hx hb dX5_sightings_33 (lv_at hl 5 rfl) ?_
        refine lv_iload hx hb dX5_sightings_35 (lv_at hl 5 rfl) ?_
        obtain ⟨q37, c_37, hF⟩ := bd_el hF
        refine wcI (ws' := [(h_this, oX5 ad_this v_turned), (h_p1, oX8 ad_p1 v_p1_signCount v_p1_houseCount v_p1_boatCount v_p1_workCount v_p1_turnCost v_p1_boatDayCost), ((ad_p1 1), cI G 16 a_p1_signNumbers), ((ad_this 1), cJ G 3 a_came), ((ad_this 0), cJ G 3 a_stayed)]) (wc := [(h_p1, oX8 ad_p1 v_p1_signCount v_p1_houseCount v_p1_boatCount v_p1_workCount v_p1_turnCost v_p1_boatDayCost), ((ad_p1 1), cI G 16 a_p1_signNumbers)]) (wr := [(h_this, oX5 ad_this v_turned), ((ad_this 1), cJ G 3 a_came), ((ad_this 0), cJ G 3 a_stayed)]) (w1 := [(h_p1, oX8 ad_p1 v_p1_signCount v_p1_houseCount v_p1_boatCount v_p1_workCount v_p1_turnCost v_p1_boatDayCost), ((ad_p1 1), cI G 16 a_p1_signNumbers)]) (va_runV (As := [.int x2, .int x5_5, .int x5_5]) (rest := [.long q28, .long x3_5]) ⟨hx, hb, hml, hown, hg⟩ (c_X8_shareOf l G x2 x5_5 x5_5 h_p1 ad_p1 v_p1_signCount v_p1_houseCount v_p1_boatCount v_p1_workCount v_p1_turnCost v_p1_boatDayCost a_p1_signNumbers q37 c_37 H.size) (cwV 3 hg (gV wd_3_72 wd_3_73 wd_3_74 wd_1_4 wd_3_75) rfl rfl rfl hdV_X8_shareOf ⟨(Nat.le_of_ble_eq_true rfl), (Nat.le_of_ble_eq_true rfl)⟩) (preV hc hW [1, 2] rfl (by decide) rfl rfl) rfl rfl hl.1 rfl (lv_room (Nat.le_of_ble_eq_true rfl)) dX5_sightings_37 ⟨Nat.zero_le _, Nat.zero_le _⟩) hA hW [1, 2] [0, 3, 4] [0, 3, 4, 1, 2] rfl rfl (by decide) (by decide) rfl (by decide) (fun H locs hW => ?_)
        refine lv_i2l (v := (Int32.toInt64 q37)) hx hb dX5_sightings_40 rfl ?_
        refine lv_lmul hx hb dX5_sightings_41 ?_
        refine lv_ladd hx hb dX5_sightings_42 ?_
        refine lv_lstore_n (lv' := [(3, .long ((x3_5 + (q28 * (Int32.toInt64 q37))))), (6, .int ((if (0 : Int32) < (x5_5 - 1) then (x5_5 - 1) else 0))), (0, .ref h_this), (1, .ref h_p1), (2, .int x2), (5, .int x5_5)]) hx hb dX5_sightings_43 rfl hl (by decide) rfl (fun ls hl => ?_)
        refine lv_lload_n hx hb dX5_sightings_44 rfl (lv_at hl 0 rfl) ?_
        refine lv_aload_n hx hb dX5_sightings_45 rfl (lv_at hl 2 rfl) ?_
        refine va_get (D := G.1) (ci := 4) (v := .ref ((ad_this 1))) (C := RX5) (T := TX5) (N := 3) hx hb hg hu_X5 hown hc.1 hW.1 0 rfl rfl 1 (by decide) (hg _ wd_1_142) (fun _ h9 => h9) rfl dX5_sightings_46 ?_
        refine lv_iload hx hb dX5_sightings_49 (lv_at hl 5 rfl) ?_
        obtain ⟨q51, c_51, hF⟩ := bd_el hF
        refine wcJ (ws' := [(h_this, oX5 ad_this v_turned), (h_p1, oX8 ad_p1 v_p1_signCount v_p1_houseCount v_p1_boatCount v_p1_workCount v_p1_turnCost v_p1_boatDayCost), ((ad_p1 1), cI G 16 a_p1_signNumbers), ((ad_this 1), cJ G 3 a_came), ((ad_this 0), cJ G 3 a_stayed)]) (wc := [((ad_this 1), cJ G 3 a_came)]) (wr := [(h_this, oX5 ad_this v_turned), (h_p1, oX8 ad_p1 v_p1_signCount v_p1_houseCount v_p1_boatCount v_p1_workCount v_p1_turnCost v_p1_boatDayCost), ((ad_p1 1), cI G 16 a_p1_signNumbers), ((ad_this 0), cJ G 3 a_stayed)]) (w1 := [((ad_this 1), cJ G 3 a_came)]) (va_runS (As := [.ref ((ad_this 1)), .int x5_5]) (rest := [.long ((x3_5 + (q28 * (Int32.toInt64 q37))))]) ⟨hx, hb, hml, hown, hg⟩ (c_X4_longAt l G x5_5 3 ((ad_this 1)) a_came q51 c_51 H.size) (va_cwS 2 hg (gS wd_3_6 wd_3_7 wd_1_14 wd_3_8) rfl rfl rfl hdS_X4_longAt ⟨(Nat.le_of_ble_eq_true rfl), (Nat.le_of_ble_eq_true rfl)⟩) (preS hc hW [3] rfl (by decide)) rfl rfl hl.1 rfl (lv_room (Nat.le_of_ble_eq_true rfl)) dX5_sightings_51 ⟨Nat.zero_le _, Nat.zero_le _⟩) hA hW [3] [0, 1, 2, 4] [0, 1, 2, 4, 3] rfl rfl (by decide) (by decide) rfl (by decide) (fun H locs hW => ?_)
        refine lv_aload_n hx hb dX5_sightings_54 rfl (lv_at hl 3 rfl) ?_
        refine lv_iload_n hx hb dX5_sightings_55 rfl (lv_at hl 4 rfl) ?_
        refine lv_iload hx hb dX5_sightings_56 (lv_at hl 1 rfl) ?_
        refine lv_iload hx hb dX5_sightings_58 (lv_at hl 5 rfl) ?_
        obtain ⟨q60, c_60, hF⟩ := bd_el hF
        refine wcI (ws' := [(h_this, oX5 ad_this v_turned), (h_p1, oX8 ad_p1 v_p1_signCount v_p1_houseCount v_p1_boatCount v_p1_workCount v_p1_turnCost v_p1_boatDayCost), ((ad_p1 1), cI G 16 a_p1_signNumbers), ((ad_this 1), cJ G 3 a_came), ((ad_this 0), cJ G 3 a_stayed)]) (wc := [(h_p1, oX8 ad_p1 v_p1_signCount v_p1_houseCount v_p1_boatCount v_p1_workCount v_p1_turnCost v_p1_boatDayCost), ((ad_p1 1), cI G 16 a_p1_signNumbers)]) (wr := [(h_this, oX5 ad_this v_turned), ((ad_this 1), cJ G 3 a_came), ((ad_this 0), cJ G 3 a_stayed)]) (w1 := [(h_p1, oX8 ad_p1 v_p1_signCount v_p1_houseCount v_p1_boatCount v_p1_workCount v_p1_turnCost v_p1_boatDayCost), ((ad_p1 1), cI G 16 a_p1_signNumbers)]) (va_runV (As := [.int x2, .int ((if (0 : Int32) < (x5_5 - 1) then (x5_5 - 1) else 0)), .int x5_5]) (rest := [.long q51, .long ((x3_5 + (q28 * (Int32.toInt64 q37))))]) ⟨hx, hb, hml, hown, hg⟩ (c_X8_shareOf l G x2 ((if (0 : Int32) < (x5_5 - 1) then (x5_5 - 1) else 0)) x5_5 h_p1 ad_p1 v_p1_signCount v_p1_houseCount v_p1_boatCount v_p1_workCount v_p1_turnCost v_p1_boatDayCost a_p1_signNumbers q60 c_60 H.size) (cwV 3 hg (gV wd_3_72 wd_3_73 wd_3_74 wd_1_4 wd_3_75) rfl rfl rfl hdV_X8_shareOf ⟨(Nat.le_of_ble_eq_true rfl), (Nat.le_of_ble_eq_true rfl)⟩) (preV hc hW [1, 2] rfl (by decide) rfl rfl) rfl rfl hl.1 rfl (lv_room (Nat.le_of_ble_eq_true rfl)) dX5_sightings_60 ⟨Nat.zero_le _, Nat.zero_le _⟩) hA hW [1, 2] [0, 3, 4] [0, 3, 4, 1, 2] rfl rfl (by decide) (by decide) rfl (by decide) (fun H locs hW => ?_)
        refine lv_i2l (v := (Int32.toInt64 q60)) hx hb dX5_sightings_63 rfl ?_
        refine lv_lmul hx hb dX5_sightings_64 ?_
        refine lv_ladd hx hb dX5_sightings_65 ?_
        refine lv_lstore_n (lv' := [(3, .long (((x3_5 + (q28 * (Int32.toInt64 q37))) + (q51 * (Int32.toInt64 q60))))), (6, .int ((if (0 : Int32) < (x5_5 - 1) then (x5_5 - 1) else 0))), (0, .ref h_this), (1, .ref h_p1), (2, .int x2), (5, .int x5_5)]) hx hb dX5_sightings_66 rfl hl (by decide) rfl (fun ls hl => ?_)
        refine lv_iinc (v := (x5_5 + 1)) (lv' := [(5, .int ((x5_5 + 1))), (3, .long (((x3_5 + (q28 * (Int32.toInt64 q37))) + (q51 * (Int32.toInt64 q60))))), (6, .int ((if (0 : Int32) < (x5_5 - 1) then (x5_5 - 1) else 0))), (0, .ref h_this), (1, .ref h_p1), (2, .int x2)]) hx hb dX5_sightings_67 hl (k := 5) rfl rfl (by decide) rfl (fun ls hl => ?_)
        refine lv_goto (tgt := 5) hx hb dX5_sightings_70 (by decide) ?_
        exact ih (((x3_5 + (q28 * (Int32.toInt64 q37))) + (q51 * (Int32.toInt64 q60)))) ((x5_5 + 1)) _ _ _ hF (lv_sub hl [3, 4, 5, 1, 0] rfl) hW
  exact L_5 5000 0 0 _ _ _ hF (lv_sub hl [2, 3, 4, 1, 0] rfl) hW
