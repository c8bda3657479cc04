theorem dX8_startOver_0 : decode cX8_startOver 0 = .ok (.iconst 0, 1) := by decide +kernel
theorem dX8_startOver_1 : decode cX8_startOver 1 = .ok (.istore_n 1, 1) := by decide +kernel
theorem dX8_startOver_2 : decode cX8_startOver 2 = .ok (.iload_n 1, 1) := by decide +kernel
theorem dX8_startOver_3 : decode cX8_startOver 3 = .ok (.iconst 3, 1) := by decide +kernel
theorem dX8_startOver_4 : decode cX8_startOver 4 = .ok (.if_icmp .ge 18, 3) := by decide +kernel
theorem dX8_startOver_7 : decode cX8_startOver 7 = .ok (.aload_n 0, 1) := by decide +kernel
theorem dX8_startOver_8 : decode cX8_startOver 8 = .ok (.getfield 9, 3) := by decide +kernel
theorem dX8_startOver_11 : decode cX8_startOver 11 = .ok (.iload_n 1, 1) := by decide +kernel
theorem dX8_startOver_12 : decode cX8_startOver 12 = .ok (.iconst 1, 1) := by decide +kernel
theorem dX8_startOver_13 : decode cX8_startOver 13 = .ok (.invokestatic 55, 3) := by decide +kernel
theorem dX8_startOver_16 : decode cX8_startOver 16 = .ok (.iinc 1 1, 3) := by decide +kernel
theorem dX8_startOver_19 : decode cX8_startOver 19 = .ok (.goto (-17), 3) := by decide +kernel
theorem dX8_startOver_22 : decode cX8_startOver 22 = .ok (.aload_n 0, 1) := by decide +kernel
theorem dX8_startOver_23 : decode cX8_startOver 23 = .ok (.bipush 60, 2) := by decide +kernel
theorem dX8_startOver_25 : decode cX8_startOver 25 = .ok (.putfield 61, 3) := by decide +kernel
theorem dX8_startOver_28 : decode cX8_startOver 28 = .ok (.aload_n 0, 1) := by decide +kernel
theorem dX8_startOver_29 : decode cX8_startOver 29 = .ok (.iconst 5, 1) := by decide +kernel
theorem dX8_startOver_30 : decode cX8_startOver 30 = .ok (.putfield 64, 3) := by decide +kernel
theorem dX8_startOver_33 : decode cX8_startOver 33 = .ok (.aload_n 0, 1) := by decide +kernel
theorem dX8_startOver_34 : decode cX8_startOver 34 = .ok (.iconst 0, 1) := by decide +kernel
theorem dX8_startOver_35 : decode cX8_startOver 35 = .ok (.putfield 67, 3) := by decide +kernel
theorem dX8_startOver_38 : decode cX8_startOver 38 = .ok (.aload_n 0, 1) := by decide +kernel
theorem dX8_startOver_39 : decode cX8_startOver 39 = .ok (.iconst 0, 1) := by decide +kernel
theorem dX8_startOver_40 : decode cX8_startOver 40 = .ok (.putfield 70, 3) := by decide +kernel
theorem dX8_startOver_43 : decode cX8_startOver 43 = .ok (.aload_n 0, 1) := by decide +kernel
theorem dX8_startOver_44 : decode cX8_startOver 44 = .ok (.iconst 0, 1) := by decide +kernel
theorem dX8_startOver_45 : decode cX8_startOver 45 = .ok (.putfield 73, 3) := by decide +kernel
theorem dX8_startOver_48 : decode cX8_startOver 48 = .ok (.aload_n 0, 1) := by decide +kernel
theorem dX8_startOver_49 : decode cX8_startOver 49 = .ok (.iconst 0, 1) := by decide +kernel
theorem dX8_startOver_50 : decode cX8_startOver 50 = .ok (.putfield 76, 3) := by decide +kernel
theorem dX8_startOver_53 : decode cX8_startOver 53 = .ok (.return_, 1) := by decide +kernel
def L_X8_startOver_2 (k_22 : (Nat → Int32) → Option (Int32 × Int32 × Int32 × Int32 × Int32 × Int32 × (Nat → Int32))) : Nat → Int32 → (Nat → Int32) → Option (Int32 × Int32 × Int32 × Int32 × Int32 × Int32 × (Nat → Int32))
  | 0, _, _ => none
  | n + 1, x1_2, a_lighter_2 => (if 3 ≤ x1_2 then k_22 a_lighter_2 else (F_X4_put x1_2 1 3 a_lighter_2).bind (fun q13 => L_X8_startOver_2 k_22 n ((x1_2 + 1)) q13))
def F_X8_startOver (v_boatCount : Int32) (v_boatDayCost : Int32) (v_houseCount : Int32) (v_signCount : Int32) (v_turnCost : Int32) (v_workCount : Int32) (a_lighter : Nat → Int32) : Option (Int32 × Int32 × Int32 × Int32 × Int32 × Int32 × (Nat → Int32)) := jn (fun (a_lighter_22 : Nat → Int32) => some (0, 5, 0, 0, 60, 0, a_lighter_22)) (fun k_22 => L_X8_startOver_2 k_22 5000 0 a_lighter)
theorem hdV_X8_startOver : yX8_startOver.cls = RX8 ∧ yX8_startOver.cls ≠ "java/lang/invoke/MethodHandle" ∧ yX8_startOver.cls ≠ "java/lang/invoke/VarHandle" ∧ (parseMethodDescriptor yX8_startOver.desc).map (fun d => d.parameters.length) = some 0 := by decide +kernel
set_option maxHeartbeats 4000000 in
set_option maxRecDepth 100000 in
theorem c_X8_startOver (l : Launch) (G : GG) (h_this : Nat) (ad_this : Nat → Nat) (v_signCount : Int32) (v_houseCount : Int32) (v_boatCount : Int32) (v_workCount : Int32) (v_turnCost : Int32) (v_boatDayCost : Int32) (a_lighter : Nat → Int32) (out : Int32 × Int32 × Int32 × Int32 × Int32 × Int32 × (Nat → Int32)) (hF : F_X8_startOver v_boatCount v_boatDayCost v_houseCount v_signCount v_turnCost v_workCount a_lighter = some out) : CtrV l yX8_startOver (WS yX8_startOver cX8_startOver 2 none) { frames := 1, cells := 0, slots := 0, locals := 22 } G [.ref h_this] [(h_this, oX8 ad_this v_signCount v_houseCount v_boatCount v_workCount v_turnCost v_boatDayCost), ((ad_this 0), cI G 3 a_lighter)] [(h_this, oX8 ad_this out.2.2.2.1 out.2.2.1 out.1 out.2.2.2.2.2.1 out.2.2.2.2.1 out.2.1), ((ad_this 0), cI G 3 out.2.2.2.2.2.2)] := by
  refine startV (cc := cX8_startOver) (maxL := 2) (by decide) rfl (Nat.le_of_ble_eq_true rfl) ?_
  intro p e s m args below meth c A Q hx hb hml hts hown hc hA hret ls H locs hl hW
  have hown : s.vm.findClass RX8 = some m.cls := hown
  have hg : ∀ w ∈ GOODS, w.before _ s = true := fun w h => hts w (List.mem_cons_of_mem _ h)
  have hl : lv_has ls 2 [(0, .ref h_this)] := hl
  rw [F_X8_startOver] at hF
  refine lv_iconst (v := 0) hx hb dX8_startOver_0 (by decide) ?_
  refine lv_istore_n (lv' := [(1, .int 0), (0, .ref h_this)]) hx hb dX8_startOver_1 rfl hl (by decide) rfl (fun ls hl => ?_)
  obtain ⟨k_22, e_22, hF⟩ := jn_el hF
  have J_22 : ∀ (a_lighter_22 : Nat → Int32) (ls : Array Slot) (H : Heap) (locs : List Loc), k_22 a_lighter_22 = some out → lv_has ls 2 [(0, .ref h_this)] → Wd G A s.heap [(h_this, oX8 ad_this v_signCount v_houseCount v_boatCount v_workCount v_turnCost v_boatDayCost), ((ad_this 0), cI G 3 a_lighter_22)] H locs → W p l e ({ frames := 1, cells := 0, slots := 0, locals := 22 } : Room) s m args below meth c H locs 0 0 Q (F0 m 22 ls []) := by
    intro a_lighter_22 ls H locs hF hl hW
    rw [e_22] at hF
    dsimp only at hF
    refine lv_aload_n hx hb dX8_startOver_22 rfl (lv_at hl 0 rfl) ?_
    refine lv_bipush (v := 60) hx hb dX8_startOver_23 (by decide) ?_
    refine va_put (D := G.1) (ci := 7) (v := .int 60) (ty := .int) (C := RX8) (T := TX8) (N := 13) hx hb hg hu_X8 tyX8 tyX8_ok nmX8 hown hc.1 hW.1 hW.2.1 hW.2.2 0 rfl rfl 11 (by decide) (hg _ wd_1_86) (fun _ h9 => h9) rfl (by decide +kernel) rfl rfl (Nat.le_of_ble_eq_true rfl) dX8_startOver_25 (fun H locs hP hD hS => ?_)
    have hW : Wd G A s.heap [(h_this, oX8 ad_this v_signCount v_houseCount v_boatCount v_workCount 60 v_boatDayCost), ((ad_this 0), cI G 3 a_lighter_22)] H locs := ⟨hP, hD, hS⟩
    refine lv_aload_n hx hb dX8_startOver_28 rfl (lv_at hl 0 rfl) ?_
    refine lv_iconst (v := 5) hx hb dX8_startOver_29 (by decide) ?_
    refine va_put (D := G.1) (ci := 7) (v := .int 5) (ty := .int) (C := RX8) (T := TX8) (N := 13) hx hb hg hu_X8 tyX8 tyX8_ok nmX8 hown hc.1 hW.1 hW.2.1 hW.2.2 0 rfl rfl 12 (by decide) (hg _ wd_1_88) (fun _ h9 => h9) rfl (by decide +kernel) rfl rfl (Nat.le_of_ble_eq_true rfl) dX8_startOver_30 (fun H locs hP hD hS => ?_)
    have hW : Wd G A s.heap [(h_this, oX8 ad_this v_signCount v_houseCount v_boatCount v_workCount 60 5), ((ad_this 0), cI G 3 a_lighter_22)] H locs := ⟨hP, hD, hS⟩
    refine lv_aload_n hx hb dX8_startOver_33 rfl (lv_at hl 0 rfl) ?_
    refine lv_iconst (v := 0) hx hb dX8_startOver_34 (by decide) ?_
    refine va_put (D := G.1) (ci := 7) (v := .int 0) (ty := .int) (C := RX8) (T := TX8) (N := 13) hx hb hg hu_X8 tyX8 tyX8_ok nmX8 hown hc.1 hW.1 hW.2.1 hW.2.2 0 rfl rfl 7 (by decide) (hg _ wd_1_76) (fun _ h9 => h9) rfl (by decide +kernel) rfl rfl (Nat.le_of_ble_eq_true rfl) dX8_startOver_35 (fun H locs hP hD hS => ?_)
    have hW : Wd G A s.heap [(h_this, oX8 ad_this 0 v_houseCount v_boatCount v_workCount 60 5), ((ad_this 0), cI G 3 a_lighter_22)] H locs := ⟨hP, hD, hS⟩
    refine lv_aload_n hx hb dX8_startOver_38 rfl (lv_at hl 0 rfl) ?_
    refine lv_iconst (v := 0) hx hb dX8_startOver_39 (by decide) ?_
    refine va_put (D := G.1) (ci := 7) (v := .int 0) (ty := .int) (C := RX8) (T := TX8) (N := 13) hx hb hg hu_X8 tyX8 tyX8_ok nmX8 hown hc.1 hW.1 hW.2.1 hW.2.2 0 rfl rfl 8 (by decide) (hg _ wd_1_78) (fun _ h9 => h9) rfl (by decide +kernel) rfl rfl (Nat.le_of_ble_eq_true rfl) dX8_startOver_40 (fun H locs hP hD hS => ?_)
    have hW : Wd G A s.heap [(h_this, oX8 ad_this 0 0 v_boatCount v_workCount 60 5), ((ad_this 0), cI G 3 a_lighter_22)] H locs := ⟨hP, hD, hS⟩
    refine lv_aload_n hx hb dX8_startOver_43 rfl (lv_at hl 0 rfl) ?_
    refine lv_iconst (v := 0) hx hb dX8_startOver_44 (by decide) ?_
    refine va_put (D := G.1) (ci := 7) (v := .int 0) (ty := .int) (C := RX8) (T := TX8) (N := 13) hx hb hg hu_X8 tyX8 tyX8_ok nmX8 hown hc.1 hW.1 hW.2.1 hW.2.2 0 rfl rfl 9 (by decide) (hg _ wd_1_82) (fun _ h9 => h9) rfl (by decide +kernel) rfl rfl (Nat.le_of_ble_eq_true rfl) dX8_startOver_45 (fun H locs hP hD hS => ?_)
    have hW : Wd G A s.heap [(h_this, oX8 ad_this 0 0 0 v_workCount 60 5), ((ad_this 0), cI G 3 a_lighter_22)] H locs := ⟨hP, hD, hS⟩
    refine lv_aload_n hx hb dX8_startOver_48 rfl (lv_at hl 0 rfl) ?_
    refine lv_iconst (v := 0) hx hb dX8_startOver_49 (by decide) ?_
    refine va_put (D := G.1) (ci := 7) (v := .int 0) (ty := .int) (C := RX8) (T := TX8) (N := 13) hx hb hg hu_X8 tyX8 tyX8_ok nmX8 hown hc.1 hW.1 hW.2.1 hW.2.2 0 rfl rfl 10 (by decide) (hg _ wd_1_84) (fun _ h9 => h9) rfl (by decide +kernel) rfl rfl (Nat.le_of_ble_eq_true rfl) dX8_startOver_50 (fun H locs hP hD hS => ?_)
    have hW : Wd G A s.heap [(h_this, oX8 ad_this 0 0 0 0 60 5), ((ad_this 0), cI G 3 a_lighter_22)] H locs := ⟨hP, hD, hS⟩
    obtain rfl := Option.some.inj hF
    exact hret _ _ _ _ hW dX8_startOver_53
  have L_2 : ∀ (n : Nat) (x1_2 : Int32) (a_lighter_2 : Nat → Int32) (ls : Array Slot) (H : Heap) (locs : List Loc), L_X8_startOver_2 k_22 n x1_2 a_lighter_2 = some out → lv_has ls 2 [(0, .ref h_this), (1, .int x1_2)] → Wd G A s.heap [(h_this, oX8 ad_this v_signCount v_houseCount v_boatCount v_workCount v_turnCost v_boatDayCost), ((ad_this 0), cI G 3 a_lighter_2)] H locs → W p l e ({ frames := 1, cells := 0, slots := 0, locals := 22 } : Room) s m args below meth c H locs 0 0 Q (F0 m 2 ls []) := by
    intro n
    induction n with
    | zero => intro x1_2 a_lighter_2 ls H locs hF hl hW; have h0 : none = some out := hF; cases h0
    | succ n ih =>
      intro x1_2 a_lighter_2 ls H locs hF hl hW
      rw [L_X8_startOver_2] at hF
      refine lv_iload_n hx hb dX8_startOver_2 rfl (lv_at hl 1 rfl) ?_
      refine lv_iconst (v := 3) hx hb dX8_startOver_3 (by decide) ?_
      refine lv_icmp_ge (tgt := 22) hx hb dX8_startOver_4 (by decide) (fun c_4 => ?_) (fun c_4 => ?_)
      · have hF := ite_t hF c_4
        exact J_22 a_lighter_2 _ _ _ hF (lv_sub hl [0] rfl) hW
      · have hF := ite_f hF c_4
        refine lv_aload_n hx hb dX8_startOver_7 rfl (lv_at hl 0 rfl) ?_
        refine va_get (D := G.1) (ci := 7) (v := .ref ((ad_this 0))) (C := RX8) (T := TX8) (N := 13) hx hb hg hu_X8 hown hc.1 hW.1 0 rfl rfl 0 (by decide) (hg _ wd_1_69) (fun _ h9 => h9) rfl dX8_startOver_8 ?_
        refine lv_iload_n hx hb dX8_startOver_11 rfl (lv_at hl 1 rfl) ?_
        refine lv_iconst (v := 1) hx hb dX8_startOver_12 (by decide) ?_
        obtain ⟨q13, c_13, hF⟩ := bd_el hF
        refine wcV (ws' := [(h_this, oX8 ad_this v_signCount v_houseCount v_boatCount v_workCount v_turnCost v_boatDayCost), ((ad_this 0), cI G 3 q13)]) (wc := [((ad_this 0), cI G 3 a_lighter_2)]) (wr := [(h_this, oX8 ad_this v_signCount v_houseCount v_boatCount v_workCount v_turnCost v_boatDayCost)]) (w1 := [((ad_this 0), cI G 3 q13)]) (va_runS (As := [.ref ((ad_this 0)), .int x1_2, .int 1]) (rest := []) ⟨hx, hb, hml, hown, hg⟩ (c_X4_put l G x1_2 1 3 ((ad_this 0)) a_lighter_2 q13 c_13 H.size) (va_cwS 3 hg (gS wd_2_27 wd_2_17 wd_1_14 wd_2_18) rfl rfl rfl hdS_X4_put ⟨(Nat.le_of_ble_eq_true rfl), (Nat.le_of_ble_eq_true rfl)⟩) (preS hc hW [1] rfl (by decide)) rfl rfl hl.1 rfl (lv_room (Nat.le_of_ble_eq_true rfl)) dX8_startOver_13 ⟨Nat.zero_le _, Nat.zero_le _⟩) hA hW [1] [0] [0, 1] rfl rfl (by decide) (by decide) rfl (by decide) (fun H locs hW => ?_)
        refine lv_iinc (v := (x1_2 + 1)) (lv' := [(1, .int ((x1_2 + 1))), (0, .ref h_this)]) hx hb dX8_startOver_16 hl (k := 1) rfl rfl (by decide) rfl (fun ls hl => ?_)
        refine lv_goto (tgt := 2) hx hb dX8_startOver_19 (by decide) ?_
        exact ih ((x1_2 + 1)) q13 _ _ _ hF (lv_sub hl [1, 0] rfl) hW
  exact L_2 5000 0 a_lighter _ _ _ hF (lv_sub hl [1, 0] rfl) hW
theorem dX8_takeSleeps_0 : decode cX8_takeSleeps 0 = .ok (.iconst 0, 1) := by decide +kernel
theorem dX8_takeSleeps_1 : decode cX8_takeSleeps 1 = .ok (.istore_n 2, 1) := by decide +kernel
theorem dX8_takeSleeps_2 : decode cX8_takeSleeps 2 = .ok (.iload_n 2, 1) := by decide +kernel
theorem dX8_takeSleeps_3 : decode cX8_takeSleeps 3 = .ok (.iconst 3, 1) := by decide +kernel
theorem dX8_takeSleeps_4 : decode cX8_takeSleeps 4 = .ok (.if_icmp .ge 22, 3) := by decide +kernel
theorem dX8_takeSleeps_7 : decode cX8_takeSleeps 7 = .ok (.aload_n 0, 1) := by decide +kernel
theorem dX8_takeSleeps_8 : decode cX8_takeSleeps 8 = .ok (.getfield 9, 3) := by decide +kernel
theorem dX8_takeSleeps_11 : decode cX8_takeSleeps 11 = .ok (.iload_n 2, 1) := by decide +kernel
theorem dX8_takeSleeps_12 : decode cX8_takeSleeps 12 = .ok (.aload_n 1, 1) := by decide +kernel
theorem dX8_takeSleeps_13 : decode cX8_takeSleeps 13 = .ok (.iload_n 2, 1) := by decide +kernel
theorem dX8_takeSleeps_14 : decode cX8_takeSleeps 14 = .ok (.invokevirtual 100, 3) := by decide +kernel
theorem dX8_takeSleeps_17 : decode cX8_takeSleeps 17 = .ok (.invokestatic 55, 3) := by decide +kernel
theorem dX8_takeSleeps_20 : decode cX8_takeSleeps 20 = .ok (.iinc 2 1, 3) := by decide +kernel
theorem dX8_takeSleeps_23 : decode cX8_takeSleeps 23 = .ok (.goto (-21), 3) := by decide +kernel
theorem dX8_takeSleeps_26 : decode cX8_takeSleeps 26 = .ok (.iconst 1, 1) := by decide +kernel
theorem dX8_takeSleeps_27 : decode cX8_takeSleeps 27 = .ok (.ireturn, 1) := by decide +kernel
def L_X8_takeSleeps_2 (a_p1_numbers : Nat → Int32)  : Nat → Int32 → (Nat → Int32) → Option (Int32 × (Nat → Int32))
  | 0, _, _ => none
  | n + 1, x2_2, a_lighter_2 => (if 3 ≤ x2_2 then some (1, a_lighter_2) else (F_X3_numberAt x2_2 a_p1_numbers).bind (fun q14 => (F_X4_put x2_2 q14 3 a_lighter_2).bind (fun q17 => L_X8_takeSleeps_2 a_p1_numbers n ((x2_2 + 1)) q17)))
def F_X8_takeSleeps (a_p1_numbers : Nat → Int32) (a_lighter : Nat → Int32) : Option (Int32 × (Nat → Int32)) := L_X8_takeSleeps_2 a_p1_numbers 5000 0 a_lighter
theorem hdV_X8_takeSleeps : yX8_takeSleeps.cls = RX8 ∧ yX8_takeSleeps.cls ≠ "java/lang/invoke/MethodHandle" ∧ yX8_takeSleeps.cls ≠ "java/lang/invoke/VarHandle" ∧ (parseMethodDescriptor yX8_takeSleeps.desc).map (fun d => d.parameters.length) = some 1 := by decide +kernel
set_option maxHeartbeats 4000000 in
set_option maxRecDepth 100000 in
theorem c_X8_takeSleeps (l : Launch) (G : GG) (h_this : Nat) (h_p1 : Nat) (ad_this : Nat → Nat) (ad_p1 : Nat → Nat) (v_signCount : Int32) (v_houseCount : Int32) (v_boatCount : Int32) (v_workCount : Int32) (v_turnCost : Int32) (v_boatDayCost : Int32) (v_p1_numberCount : Int32) (v_p1_letter : Int32) (v_p1_end : Int32) (a_p1_numbers : Nat → Int32) (a_lighter : Nat → Int32) (out : Int32 × (Nat → Int32)) (hF : F_X8_takeSleeps a_p1_numbers a_lighter = some out) : CtrZ l yX8_takeSleeps (WS yX8_takeSleeps cX8_takeSleeps 3 (some .boolean)) { frames := 2, cells := 0, slots := 0, locals := 42 } G [.ref h_this, .ref h_p1] [(h_this, oX8 ad_this v_signCount v_houseCount v_boatCount v_workCount v_turnCost v_boatDayCost), (h_p1, oX3 ad_p1 v_p1_numberCount v_p1_letter v_p1_end), ((ad_p1 0), cI G 4 a_p1_numbers), ((ad_this 0), cI G 3 a_lighter)] [(h_this, oX8 ad_this v_signCount v_houseCount v_boatCount v_workCount v_turnCost v_boatDayCost), (h_p1, oX3 ad_p1 v_p1_numberCount v_p1_letter v_p1_end), ((ad_p1 0), cI G 4 a_p1_numbers), ((ad_this 0), cI G 3 out.2)] out.1 := by
  refine startZ (cc := cX8_takeSleeps) (maxL := 3) (by decide) rfl (Nat.le_of_ble_eq_true rfl) ?_
  intro p e s m args below meth c A Q hx hb hml hts hown hc hA hret ls H locs hl hW
  have hown : s.vm.findClass RX8 = some m.cls := hown
  have hg : ∀ w ∈ GOODS, w.before _ s = true := fun w h => hts w (List.mem_cons_of_mem _ h)
  have hl : lv_has ls 3 [(0, .ref h_this), (1, .ref h_p1)] := hl
  rw [F_X8_takeSleeps] at hF
  refine lv_iconst (v := 0) hx hb dX8_takeSleeps_0 (by decide) ?_
  refine lv_istore_n (lv' := [(2, .int 0), (0, .ref h_this), (1, .ref h_p1)]) hx hb dX8_takeSleeps_1 rfl hl (by decide) rfl (fun ls hl => ?_)
  have L_2 : ∀ (n : Nat) (x2_2 : Int32) (a_lighter_2 : Nat → Int32) (ls : Array Slot) (H : Heap) (locs : List Loc), L_X8_takeSleeps_2 a_p1_numbers n x2_2 a_lighter_2 = some out → lv_has ls 3 [(0, .ref h_this), (1, .ref h_p1), (2, .int x2_2)] → Wd G A s.heap [(h_this, oX8 ad_this v_signCount v_houseCount v_boatCount v_workCount v_turnCost v_boatDayCost), (h_p1, oX3 ad_p1 v_p1_numberCount v_p1_letter v_p1_end), ((ad_p1 0), cI G 4 a_p1_numbers), ((ad_this 0), cI G 3 a_lighter_2)] H locs → W p l e ({ frames := 2, cells := 0, slots := 0, locals := 42 } : Room) s m args below meth c H locs 0 0 Q (F0 m 2 ls []) := by
    intro n
    induction n with
    | zero => intro x2_2 a_lighter_2 ls H locs hF hl hW; have h0 : none = some out := hF; cases h0
    | succ n ih =>
      intro x2_2 a_lighter_2 ls H locs hF hl hW
      rw [L_X8_takeSleeps_2] at hF
      refine lv_iload_n hx hb dX8_takeSleeps_2 rfl (lv_at hl 2 rfl) ?_
      refine lv_iconst (v := 3) hx hb dX8_takeSleeps_3 (by decide) ?_
      refine lv_icmp_ge (tgt := 26) hx hb dX8_takeSleeps_4 (by decide) (fun c_4 => ?_) (fun c_4 => ?_)
      · have hF := ite_t hF c_4
        refine lv_iconst (v := 1) hx hb dX8_takeSleeps_26 (by decide) ?_
        obtain rfl := Option.some.inj hF
        exact hret _ _ _ _ hW (Or.inr rfl) dX8_takeSleeps_27
      · have hF := ite_f hF c_4
        refine lv_aload_n hx hb dX8_takeSleeps_7 rfl (lv_at hl 0 rfl) ?_
        refine va_get (D := G.1) (ci := 7) (v := .ref ((ad_this 0))) (C := RX8) (T := TX8) (N := 13) hx hb hg hu_X8 hown hc.1 hW.1 0 rfl rfl 0 (by decide) (hg _ wd_1_69) (fun _ h9 => h9) rfl dX8_takeSleeps_8 ?_
        refine lv_iload_n hx hb dX8_takeSleeps_11 rfl (lv_at hl 2 rfl) ?_
        refine lv_aload_n hx hb dX8_takeSleeps_12 rfl (lv_at hl 1 rfl) ?_
        refine lv_iload_n hx hb dX8_takeSleeps_13 rfl (lv_at hl 2 rfl) ?_
        obtain ⟨q14, c_14, hF⟩ := bd_el hF
        refine wcI (ws' := [(h_this, oX8 ad_this v_signCount v_houseCount v_boatCount v_workCount v_turnCost v_boatDayCost), (h_p1, oX3 ad_p1 v_p1_numberCount v_p1_letter v_p1_end), ((ad_p1 0), cI G 4 a_p1_numbers), ((ad_this 0), cI G 3 a_lighter_2)]) (wc := [(h_p1, oX3 ad_p1 v_p1_numberCount v_p1_letter v_p1_end), ((ad_p1 0), cI G 4 a_p1_numbers)]) (wr := [(h_this, oX8 ad_this v_signCount v_houseCount v_boatCount v_workCount v_turnCost v_boatDayCost), ((ad_this 0), cI G 3 a_lighter_2)]) (w1 := [(h_p1, oX3 ad_p1 v_p1_numberCount v_p1_letter v_p1_end), ((ad_p1 0), cI G 4 a_p1_numbers)]) (va_runV (As := [.int x2_2]) (rest := [.int x2_2, .ref ((ad_this 0))]) ⟨hx, hb, hml, hown, hg⟩ (c_X3_numberAt l G x2_2 h_p1 ad_p1 v_p1_numberCount v_p1_letter v_p1_end a_p1_numbers q14 c_14 H.size) (cwV 1 hg (gV wd_2_67 wd_2_68 wd_2_69 wd_1_3 wd_2_70) rfl rfl rfl hdV_X3_numberAt ⟨(Nat.le_of_ble_eq_true rfl), (Nat.le_of_ble_eq_true rfl)⟩) (preV hc hW [1, 2] rfl (by decide) rfl rfl) rfl rfl hl.1 rfl (lv_room (Nat.le_of_ble_eq_true rfl)) dX8_takeSleeps_14 ⟨Nat.zero_le _, Nat.zero_le _⟩) hA hW [1, 2] [0, 3] [0, 2, 3, 1] rfl rfl (by decide) (by decide) rfl (by decide) (fun H locs hW => ?_)
        obtain ⟨q17, c_17, hF⟩ := bd_el hF
        refine wcV (ws' := [(h_this, oX8 ad_this v_signCount v_houseCount v_boatCount v_workCount v_turnCost v_boatDayCost), (h_p1, oX3 ad_p1 v_p1_numberCount v_p1_letter v_p1_end), ((ad_p1 0), cI G 4 a_p1_numbers), ((ad_this 0), cI G 3 q17)]) (wc := [((ad_this 0), cI G 3 a_lighter_2)]) (wr := [(h_this, oX8 ad_this v_signCount v_houseCount v_boatCount v_workCount v_turnCost v_boatDayCost), (h_p1, oX3 ad_p1 v_p1_numberCount v_p1_letter v_p1_end), ((ad_p1 0), cI G 4 a_p1_numbers)]) (w1 := [((ad_this 0), cI G 3 q17)]) (va_runS (As := [.ref ((ad_this 0)), .int x2_2, .int q14]) (rest := []) ⟨hx, hb, hml, hown, hg⟩ (c_X4_put l G x2_2 q14 3 ((ad_this 0)) a_lighter_2 q17 c_17 H.size) (va_cwS 3 hg (gS wd_2_27 wd_2_17 wd_1_14 wd_2_18) rfl rfl rfl hdS_X4_put ⟨(Nat.le_of_ble_eq_true rfl), (Nat.le_of_ble_eq_true rfl)⟩) (preS hc hW [3] rfl (by decide)) rfl rfl hl.1 rfl (lv_room (Nat.le_of_ble_eq_true rfl)) dX8_takeSleeps_17 ⟨Nat.zero_le _, Nat.zero_le _⟩) hA hW [3] [0, 1, 2] [0, 1, 2, 3] rfl rfl (by decide) (by decide) rfl (by decide) (fun H locs hW => ?_)
        refine lv_iinc (v := (x2_2 + 1)) (lv' := [(2, .int ((x2_2 + 1))), (0, .ref h_this), (1, .ref h_p1)]) hx hb dX8_takeSleeps_20 hl (k := 2) rfl rfl (by decide) rfl (fun ls hl => ?_)
        refine lv_goto (tgt := 2) hx hb dX8_takeSleeps_23 (by decide) ?_
        exact ih ((x2_2 + 1)) q17 _ _ _ hF (lv_sub hl [1, 2, 0] rfl) hW
  exact L_2 5000 0 a_lighter _ _ _ hF (lv_sub hl [1, 2, 0] rfl) hW
theorem dX8_takeSign_0 : decode cX8_takeSign 0 = .ok (.aload_n 0, 1) := by decide +kernel
theorem dX8_takeSign_1 : decode cX8_takeSign 1 = .ok (.getfield 67, 3) := by decide +kernel
theorem dX8_takeSign_4 : decode cX8_takeSign 4 = .ok (.iconst 4, 1) := by decide +kernel
theorem dX8_takeSign_5 : decode cX8_takeSign 5 = .ok (.if_icmp .lt 5, 3) := by decide +kernel
theorem dX8_takeSign_8 : decode cX8_takeSign 8 = .ok (.iconst 0, 1) := by decide +kernel
theorem dX8_takeSign_9 : decode cX8_takeSign 9 = .ok (.ireturn, 1) := by decide +kernel
theorem dX8_takeSign_10 : decode cX8_takeSign 10 = .ok (.iconst 0, 1) := by decide +kernel
theorem dX8_takeSign_11 : decode cX8_takeSign 11 = .ok (.istore_n 2, 1) := by decide +kernel
theorem dX8_takeSign_12 : decode cX8_takeSign 12 = .ok (.iload_n 2, 1) := by decide +kernel
theorem dX8_takeSign_13 : decode cX8_takeSign 13 = .ok (.iconst 4, 1) := by decide +kernel
theorem dX8_takeSign_14 : decode cX8_takeSign 14 = .ok (.if_icmp .ge 29, 3) := by decide +kernel
theorem dX8_takeSign_17 : decode cX8_takeSign 17 = .ok (.aload_n 0, 1) := by decide +kernel
theorem dX8_takeSign_18 : decode cX8_takeSign 18 = .ok (.getfield 15, 3) := by decide +kernel
theorem dX8_takeSign_21 : decode cX8_takeSign 21 = .ok (.aload_n 0, 1) := by decide +kernel
theorem dX8_takeSign_22 : decode cX8_takeSign 22 = .ok (.getfield 67, 3) := by decide +kernel
theorem dX8_takeSign_25 : decode cX8_takeSign 25 = .ok (.iconst 4, 1) := by decide +kernel
theorem dX8_takeSign_26 : decode cX8_takeSign 26 = .ok (.imul, 1) := by decide +kernel
theorem dX8_takeSign_27 : decode cX8_takeSign 27 = .ok (.iload_n 2, 1) := by decide +kernel
theorem dX8_takeSign_28 : decode cX8_takeSign 28 = .ok (.iadd, 1) := by decide +kernel
theorem dX8_takeSign_29 : decode cX8_takeSign 29 = .ok (.aload_n 1, 1) := by decide +kernel
theorem dX8_takeSign_30 : decode cX8_takeSign 30 = .ok (.iload_n 2, 1) := by decide +kernel
theorem dX8_takeSign_31 : decode cX8_takeSign 31 = .ok (.invokevirtual 100, 3) := by decide +kernel
theorem dX8_takeSign_34 : decode cX8_takeSign 34 = .ok (.invokestatic 55, 3) := by decide +kernel
theorem dX8_takeSign_37 : decode cX8_takeSign 37 = .ok (.iinc 2 1, 3) := by decide +kernel
theorem dX8_takeSign_40 : decode cX8_takeSign 40 = .ok (.goto (-28), 3) := by decide +kernel
theorem dX8_takeSign_43 : decode cX8_takeSign 43 = .ok (.aload_n 0, 1) := by decide +kernel
theorem dX8_takeSign_44 : decode cX8_takeSign 44 = .ok (.dup, 1) := by decide +kernel
theorem dX8_takeSign_45 : decode cX8_takeSign 45 = .ok (.getfield 67, 3) := by decide +kernel
theorem dX8_takeSign_48 : decode cX8_takeSign 48 = .ok (.iconst 1, 1) := by decide +kernel
theorem dX8_takeSign_49 : decode cX8_takeSign 49 = .ok (.iadd, 1) := by decide +kernel
theorem dX8_takeSign_50 : decode cX8_takeSign 50 = .ok (.putfield 67, 3) := by decide +kernel
theorem dX8_takeSign_53 : decode cX8_takeSign 53 = .ok (.iconst 1, 1) := by decide +kernel
theorem dX8_takeSign_54 : decode cX8_takeSign 54 = .ok (.ireturn, 1) := by decide +kernel
def L_X8_takeSign_12 (v_signCount : Int32) (a_p1_numbers : Nat → Int32) (k_43 : (Nat → Int32) → Option (Int32 × Int32 × (Nat → Int32))) : Nat → Int32 → (Nat → Int32) → Option (Int32 × Int32 × (Nat → Int32))
  | 0, _, _ => none
  | n + 1, x2_12, a_signNumbers_12 => (if 4 ≤ x2_12 then k_43 a_signNumbers_12 else (F_X3_numberAt x2_12 a_p1_numbers).bind (fun q31 => (F_X4_put (((v_signCount * 4) + x2_12)) q31 16 a_signNumbers_12).bind (fun q34 => L_X8_takeSign_12 v_signCount a_p1_numbers k_43 n ((x2_12 + 1)) q34)))
def F_X8_takeSign (v_signCount : Int32) (a_p1_numbers : Nat → Int32) (a_signNumbers : Nat → Int32) : Option (Int32 × Int32 × (Nat → Int32)) := (if v_signCount < 4 then jn (fun (a_signNumbers_43 : Nat → Int32) => some (1, (v_signCount + 1), a_signNumbers_43)) (fun k_43 => L_X8_takeSign_12 v_signCount a_p1_numbers k_43 5000 0 a_signNumbers) else some (0, v_signCount, a_signNumbers))
theorem hdV_X8_takeSign : yX8_takeSign.cls = RX8 ∧ yX8_takeSign.cls ≠ "java/lang/invoke/MethodHandle" ∧ yX8_takeSign.cls ≠ "java/lang/invoke/VarHandle" ∧ (parseMethodDescriptor yX8_takeSign.desc).map (fun d => d.parameters.length) = some 1 := by decide +kernel
set_option maxHeartbeats 4000000 in
set_option maxRecDepth 100000 in
theorem c_X8_takeSign (l : Launch) (G : GG) (h_this : Nat) (h_p1 : Nat) (ad_this : Nat → Nat) (ad_p1 : Nat → Nat) (v_signCount : Int32) (v_houseCount : Int32) (v_boatCount : Int32) (v_workCount : Int32) (v_turnCost : Int32) (v_boatDayCost : Int32) (v_p1_numberCount : Int32) (v_p1_letter : Int32) (v_p1_end : Int32) (a_p1_numbers : Nat → Int32) (a_signNumbers : Nat → Int32) (out : Int32 × Int32 × (Nat → Int32)) (hF : F_X8_takeSign v_signCount a_p1_numbers a_signNumbers = some out) : CtrZ l yX8_takeSign (WS yX8_takeSign cX8_takeSign 3 (some .boolean)) { frames := 2, cells := 0, slots := 0, locals := 42 } G [.ref h_this, .ref h_p1] [(h_this, oX8 ad_this v_signCount v_houseCount v_boatCount v_workCount v_turnCost v_boatDayCost), (h_p1, oX3 ad_p1 v_p1_numberCount v_p1_letter v_p1_end), ((ad_p1 0), cI G 4 a_p1_numbers), ((ad_this 1), cI G 16 a_signNumbers)] [(h_this, oX8 ad_this out.2.1 v_houseCount v_boatCount v_workCount v_turnCost v_boatDayCost), (h_p1, oX3 ad_p1 v_p1_numberCount v_p1_letter v_p1_end), ((ad_p1 0), cI G 4 a_p1_numbers), ((ad_this 1), cI G 16 out.2.2)] out.1 := by
  refine startZ (cc := cX8_takeSign) (maxL := 3) (by decide) rfl (Nat.le_of_ble_eq_true rfl) ?_
  intro p e s m args below meth c A Q hx hb hml hts hown hc hA hret ls H locs hl hW
  have hown : s.vm.findClass RX8 = some m.cls := hown
  have hg : ∀ w ∈ GOODS, w.before _ s = true := fun w h => hts w (List.mem_cons_of_mem _ h)
  have hl : lv_has ls 3 [(0, .ref h_this), (1, .ref h_p1)] := hl
  rw [F_X8_takeSign] at hF
  refine lv_aload_n hx hb dX8_takeSign_0 rfl (lv_at hl 0 rfl) ?_
  refine va_get (D := G.1) (ci := 7) (v := .int v_signCount) (C := RX8) (T := TX8) (N := 13) hx hb hg hu_X8 hown hc.1 hW.1 0 rfl rfl 7 (by decide) (hg _ wd_1_76) (fun _ h9 => h9) rfl dX8_takeSign_1 ?_
  refine lv_iconst (v := 4) hx hb dX8_takeSign_4 (by decide) ?_
  refine lv_icmp_lt (tgt := 10) hx hb dX8_takeSign_5 (by decide) (fun c_5 => ?_) (fun c_5 => ?_)
  · have hF := ite_t hF c_5
    refine lv_iconst (v := 0) hx hb dX8_takeSign_10 (by decide) ?_
    refine lv_istore_n (lv' := [(2, .int 0), (0, .ref h_this), (1, .ref h_p1)]) hx hb dX8_takeSign_11 rfl hl (by decide) rfl (fun ls hl => ?_)
    obtain ⟨k_43, e_43, hF⟩ := jn_el hF
    have J_43 : ∀ (a_signNumbers_43 : Nat → Int32) (ls : Array Slot) (H : Heap) (locs : List Loc), k_43 a_signNumbers_43 = some out → lv_has ls 3 [(0, .ref h_this)] → Wd G A s.heap [(h_this, oX8 ad_this v_signCount v_houseCount v_boatCount v_workCount v_turnCost v_boatDayCost), (h_p1, oX3 ad_p1 v_p1_numberCount v_p1_letter v_p1_end), ((ad_p1 0), cI G 4 a_p1_numbers), ((ad_this 1), cI G 16 a_signNumbers_43)] H locs → W p l e ({ frames := 2, cells := 0, slots := 0, locals := 42 } : Room) s m args below meth c H locs 0 0 Q (F0 m 43 ls []) := by
      intro a_signNumbers_43 ls H locs hF hl hW
      rw [e_43] at hF
      dsimp only at hF
      refine lv_aload_n hx hb dX8_takeSign_43 rfl (lv_at hl 0 rfl) ?_
      refine lv_dup hx hb dX8_takeSign_44 rfl ?_
      refine va_get (D := G.1) (ci := 7) (v := .int v_signCount) (C := RX8) (T := TX8) (N := 13) hx hb hg hu_X8 hown hc.1 hW.1 0 rfl rfl 7 (by decide) (hg _ wd_1_76) (fun _ h9 => h9) rfl dX8_takeSign_45 ?_
      refine lv_iconst (v := 1) hx hb dX8_takeSign_48 (by decide) ?_
      refine lv_iadd hx hb dX8_takeSign_49 ?_
      refine va_put (D := G.1) (ci := 7) (v := .int ((v_signCount + 1))) (ty := .int) (C := RX8) (T := TX8) (N := 13) hx hb hg hu_X8 tyX8 tyX8_ok nmX8 hown hc.1 hW.1 hW.2.1 hW.2.2 0 rfl rfl 7 (by decide) (hg _ wd_1_76) (fun _ h9 => h9) rfl (by decide +kernel) rfl rfl (Nat.le_of_ble_eq_true rfl) dX8_takeSign_50 (fun H locs hP hD hS => ?_)
      have hW : Wd G A s.heap [(h_this, oX8 ad_this ((v_signCount + 1)) v_houseCount v_boatCount v_workCount v_turnCost v_boatDayCost), (h_p1, oX3 ad_p1 v_p1_numberCount v_p1_letter v_p1_end), ((ad_p1 0), cI G 4 a_p1_numbers), ((ad_this 1), cI G 16 a_signNumbers_43)] H locs := ⟨hP, hD, hS⟩
      refine lv_iconst (v := 1) hx hb dX8_takeSign_53 (by decide) ?_
      obtain rfl := Option.some.inj hF
      exact hret _ _ _ _ hW (Or.inr rfl) dX8_takeSign_54
    have L_12 : ∀ (n : Nat) (x2_12 : Int32) (a_signNumbers_12 : Nat → Int32) (ls : Array Slot) (H : Heap) (locs : List Loc), L_X8_takeSign_12 v_signCount a_p1_numbers k_43 n x2_12 a_signNumbers_12 = some out → lv_has ls 3 [(0, .ref h_this), (1, .ref h_p1), (2, .int x2_12)] → Wd G A s.heap [(h_this, oX8 ad_this v_signCount v_houseCount v_boatCount v_workCount v_turnCost v_boatDayCost), (h_p1, oX3 ad_p1 v_p1_numberCount v_p1_letter v_p1_end), ((ad_p1 0), cI G 4 a_p1_numbers), ((ad_this 1), cI G 16 a_signNumbers_12)] H locs → W p l e ({ frames := 2, cells := 0, slots := 0, locals := 42 } : Room) s m args below meth c H locs 0 0 Q (F0 m 12 ls []) := by
      intro n
      induction n with
      | zero => intro x2_12 a_signNumbers_12 ls H locs hF hl hW; have h0 : none = some out := hF; cases h0
      | succ n ih =>
        intro x2_12 a_signNumbers_12 ls H locs hF hl hW
        rw [L_X8_takeSign_12] at hF
        refine lv_iload_n hx hb dX8_takeSign_12 rfl (lv_at hl 2 rfl) ?_
        refine lv_iconst (v := 4) hx hb dX8_takeSign_13 (by decide) ?_
        refine lv_icmp_ge (tgt := 43) hx hb dX8_takeSign_14 (by decide) (fun c_14 => ?_) (fun c_14 => ?_)
        · have hF := ite_t hF c_14
          exact J_43 a_signNumbers_12 _ _ _ hF (lv_sub hl [0] rfl) hW
        · have hF := ite_f hF c_14
          refine lv_aload_n hx hb dX8_takeSign_17 rfl (lv_at hl 0 rfl) ?_
          refine va_get (D := G.1) (ci := 7) (v := .ref ((ad_this 1))) (C := RX8) (T := TX8) (N := 13) hx hb hg hu_X8 hown hc.1 hW.1 0 rfl rfl 1 (by decide) (hg _ wd_1_70) (fun _ h9 => h9) rfl dX8_takeSign_18 ?_
          refine lv_aload_n hx hb dX8_takeSign_21 rfl (lv_at hl 0 rfl) ?_
          refine va_get (D := G.1) (ci := 7) (v := .int v_signCount) (C := RX8) (T := TX8) (N := 13) hx hb hg hu_X8 hown hc.1 hW.1 0 rfl rfl 7 (by decide) (hg _ wd_1_76) (fun _ h9 => h9) rfl dX8_takeSign_22 ?_
          refine lv_iconst (v := 4) hx hb dX8_takeSign_25 (by decide) ?_
          refine lv_imul hx hb dX8_takeSign_26 ?_
          refine lv_iload_n hx hb dX8_takeSign_27 rfl (lv_at hl 2 rfl) ?_
          refine lv_iadd hx hb dX8_takeSign_28 ?_
          refine lv_aload_n hx hb dX8_takeSign_29 rfl (lv_at hl 1 rfl) ?_
          refine lv_iload_n hx hb dX8_takeSign_30 rfl (lv_at hl 2 rfl) ?_
          obtain ⟨q31, c_31, hF⟩ := bd_el hF
          refine wcI (ws' := [(h_this, oX8 ad_this v_signCount v_houseCount v_boatCount v_workCount v_turnCost v_boatDayCost), (h_p1, oX3 ad_p1 v_p1_numberCount v_p1_letter v_p1_end), ((ad_p1 0), cI G 4 a_p1_numbers), ((ad_this 1), cI G 16 a_signNumbers_12)]) (wc := [(h_p1, oX3 ad_p1 v_p1_numberCount v_p1_letter v_p1_end), ((ad_p1 0), cI G 4 a_p1_numbers)]) (wr := [(h_this, oX8 ad_this v_signCount v_houseCount v_boatCount v_workCount v_turnCost v_boatDayCost), ((ad_this 1), cI G 16 a_signNumbers_12)]) (w1 := [(h_p1, oX3 ad_p1 v_p1_numberCount v_p1_letter v_p1_end), ((ad_p1 0), cI G 4 a_p1_numbers)]) (va_runV (As := [.int x2_12]) (rest := [.int (((v_signCount * 4) + x2_12)), .ref ((ad_this 1))]) ⟨hx, hb, hml, hown, hg⟩ (c_X3_numberAt l G x2_12 h_p1 ad_p1 v_p1_numberCount v_p1_letter v_p1_end a_p1_numbers q31 c_31 H.size) (cwV 1 hg (gV wd_2_67 wd_2_68 wd_2_69 wd_1_3 wd_2_70) rfl rfl rfl hdV_X3_numberAt ⟨(Nat.le_of_ble_eq_true rfl), (Nat.le_of_ble_eq_true rfl)⟩) (preV hc hW [1, 2] rfl (by decide) rfl rfl) rfl rfl hl.1 rfl (lv_room (Nat.le_of_ble_eq_true rfl)) dX8_takeSign_31 ⟨Nat.zero_le _, Nat.zero_le _⟩) hA hW [1, 2] [0, 3] [0, 2, 3, 1] rfl rfl (by decide) (by decide) rfl (by decide) (fun H locs hW => ?_)
          obtain ⟨q34, c_34, hF⟩ := bd_el hF
          refine wcV (ws' := [(h_this, oX8 ad_this v_signCount v_houseCount v_boatCount v_workCount v_turnCost v_boatDayCost), (h_p1, oX3 ad_p1 v_p1_numberCount v_p1_letter v_p1_end), ((ad_p1 0), cI G 4 a_p1_numbers), ((ad_this 1), cI G 16 q34)]) (wc := [((ad_this 1), cI G 16 a_signNumbers_12)]) (wr := [(h_this, oX8 ad_this v_signCount v_houseCount v_boatCount v_workCount v_turnCost v_boatDayCost), (h_p1, oX3 ad_p1 v_p1_numberCount v_p1_letter v_p1_end), ((ad_p1 0), cI G 4 a_p1_numbers)]) (w1 := [((ad_this 1), cI G 16 q34)]) (va_runS (As := [.ref ((ad_this 1)), .int (((v_signCount * 4) + x2_12)), .int q31]) (rest := []) ⟨hx, hb, hml, hown, hg⟩ (c_X4_put l G (((v_signCount * 4) + x2_12)) q31 16 ((ad_this 1)) a_signNumbers_12 q34 c_34 H.size) (va_cwS 3 hg (gS wd_2_27 wd_2_17 wd_1_14 wd_2_18) rfl rfl rfl hdS_X4_put ⟨(Nat.le_of_ble_eq_true rfl), (Nat.le_of_ble_eq_true rfl)⟩) (preS hc hW [3] rfl (by decide)) rfl rfl hl.1 rfl (lv_room (Nat.le_of_ble_eq_true rfl)) dX8_takeSign_34 ⟨Nat.zero_le _, Nat.zero_le _⟩) hA hW [3] [0, 1, 2] [0, 1, 2, 3] rfl rfl (by decide) (by decide) rfl (by decide) (fun H locs hW => ?_)
          refine lv_iinc (v := (x2_12 + 1)) (lv' := [(2, .int ((x2_12 + 1))), (0, .ref h_this), (1, .ref h_p1)]) hx hb dX8_takeSign_37 hl (k := 2) rfl rfl (by decide) rfl (fun ls hl => ?_)
          refine lv_goto (tgt := 12) hx hb dX8_takeSign_40 (by decide) ?_
          exact ih ((x2_12 + 1)) q34 _ _ _ hF (lv_sub hl [1, 2, 0] rfl) hW
    exact L_12 5000 0 a_signNumbers _ _ _ hF (lv_sub hl [1, 2, 0] rfl) hW
  · have hF := ite_f hF c_5
    refine lv_iconst (v := 0) hx hb dX8_takeSign_8 (by decide) ?_
    obtain rfl := Option.some.inj hF
    exact hret _ _ _ _ hW (Or.inl rfl) dX8_takeSign_9
theorem dX8_takeHouse_0 : decode cX8_takeHouse 0 = .ok (.aload_n 0, 1) := by decide +kernel
theorem dX8_takeHouse_1 : decode cX8_takeHouse 1 = .ok (.getfield 70, 3) := by decide +kernel
theorem dX8_takeHouse_4 : decode cX8_takeHouse 4 = .ok (.bipush 6, 2) := by decide +kernel
theorem dX8_takeHouse_6 : decode cX8_takeHouse 6 = .ok (.if_icmp .lt 5, 3) := by decide +kernel
theorem dX8_takeHouse_9 : decode cX8_takeHouse 9 = .ok (.iconst 0, 1) := by decide +kernel
theorem dX8_takeHouse_10 : decode cX8_takeHouse 10 = .ok (.ireturn, 1) := by decide +kernel
theorem dX8_takeHouse_11 : decode cX8_takeHouse 11 = .ok (.aload_n 0, 1) := by decide +kernel
theorem dX8_takeHouse_12 : decode cX8_takeHouse 12 = .ok (.getfield 18, 3) := by decide +kernel
theorem dX8_takeHouse_15 : decode cX8_takeHouse 15 = .ok (.aload_n 0, 1) := by decide +kernel
theorem dX8_takeHouse_16 : decode cX8_takeHouse 16 = .ok (.getfield 70, 3) := by decide +kernel
theorem dX8_takeHouse_19 : decode cX8_takeHouse 19 = .ok (.aload_n 1, 1) := by decide +kernel
theorem dX8_takeHouse_20 : decode cX8_takeHouse 20 = .ok (.iconst 0, 1) := by decide +kernel
theorem dX8_takeHouse_21 : decode cX8_takeHouse 21 = .ok (.invokevirtual 100, 3) := by decide +kernel
theorem dX8_takeHouse_24 : decode cX8_takeHouse 24 = .ok (.invokestatic 55, 3) := by decide +kernel
theorem dX8_takeHouse_27 : decode cX8_takeHouse 27 = .ok (.aload_n 0, 1) := by decide +kernel
theorem dX8_takeHouse_28 : decode cX8_takeHouse 28 = .ok (.getfield 21, 3) := by decide +kernel
theorem dX8_takeHouse_31 : decode cX8_takeHouse 31 = .ok (.aload_n 0, 1) := by decide +kernel
theorem dX8_takeHouse_32 : decode cX8_takeHouse 32 = .ok (.getfield 70, 3) := by decide +kernel
theorem dX8_takeHouse_35 : decode cX8_takeHouse 35 = .ok (.aload_n 1, 1) := by decide +kernel
theorem dX8_takeHouse_36 : decode cX8_takeHouse 36 = .ok (.iconst 1, 1) := by decide +kernel
theorem dX8_takeHouse_37 : decode cX8_takeHouse 37 = .ok (.invokevirtual 100, 3) := by decide +kernel
theorem dX8_takeHouse_40 : decode cX8_takeHouse 40 = .ok (.invokestatic 55, 3) := by decide +kernel
theorem dX8_takeHouse_43 : decode cX8_takeHouse 43 = .ok (.aload_n 0, 1) := by decide +kernel
theorem dX8_takeHouse_44 : decode cX8_takeHouse 44 = .ok (.dup, 1) := by decide +kernel
theorem dX8_takeHouse_45 : decode cX8_takeHouse 45 = .ok (.getfield 70, 3) := by decide +kernel
theorem dX8_takeHouse_48 : decode cX8_takeHouse 48 = .ok (.iconst 1, 1) := by decide +kernel
theorem dX8_takeHouse_49 : decode cX8_takeHouse 49 = .ok (.iadd, 1) := by decide +kernel
theorem dX8_takeHouse_50 : decode cX8_takeHouse 50 = .ok (.putfield 70, 3) := by decide +kernel
theorem dX8_takeHouse_53 : decode cX8_takeHouse 53 = .ok (.iconst 1, 1) := by decide +kernel
theorem dX8_takeHouse_54 : decode cX8_takeHouse 54 = .ok (.ireturn, 1) := by decide +kernel
def F_X8_takeHouse (v_houseCount : Int32) (a_p1_numbers : Nat → Int32) (a_houseMinutes : Nat → Int32) (a_housePeople : Nat → Int32) : Option (Int32 × Int32 × (Nat → Int32) × (Nat → Int32)) := (if v_houseCount < 6 then (F_X3_numberAt 0 a_p1_numbers).bind (fun q21 => (F_X4_put v_houseCount q21 6 a_housePeople).bind (fun q24 => (F_X3_numberAt 1 a_p1_numbers).bind (fun q37 => (F_X4_put v_houseCount q37 6 a_houseMinutes).bind (fun q40 => some (1, (v_houseCount + 1), q40, q24))))) else some (0, v_houseCount, a_houseMinutes, a_housePeople))
theorem hdV_X8_takeHouse : yX8_takeHouse.cls = RX8 ∧ yX8_takeHouse.cls ≠ "java/lang/invoke/MethodHandle" ∧ yX8_takeHouse.cls ≠ "java/lang/invoke/VarHandle" ∧ (parseMethodDescriptor yX8_takeHouse.desc).map (fun d => d.parameters.length) = some 1 := by decide +kernel
set_option maxHeartbeats 4000000 in
set_option maxRecDepth 100000 in
theorem c_X8_takeHouse (l : Launch) (G : GG) (h_this : Nat) (h_p1 : Nat) (ad_this : Nat → Nat) (ad_p1 : Nat → Nat) (v_signCount : Int32) (v_houseCount : Int32) (v_boatCount : Int32) (v_workCount : Int32) (v_turnCost : Int32) (v_boatDayCost : Int32) (v_p1_numberCount : Int32) (v_p1_letter : Int32) (v_p1_end : Int32) (a_p1_numbers : Nat → Int32) (a_houseMinutes : Nat → Int32) (a_housePeople : Nat → Int32) (out : Int32 × Int32 × (Nat → Int32) × (Nat → Int32)) (hF : F_X8_takeHouse v_houseCount a_p1_numbers a_houseMinutes a_housePeople = some out) : CtrZ l yX8_takeHouse (WS yX8_takeHouse cX8_takeHouse 2 (some .boolean)) { frames := 2, cells := 0, slots := 0, locals := 42 } G [.ref h_this, .ref h_p1] [(h_this, oX8 ad_this v_signCount v_houseCount v_boatCount v_workCount v_turnCost v_boatDayCost), (h_p1, oX3 ad_p1 v_p1_numberCount v_p1_letter v_p1_end), ((ad_p1 0), cI G 4 a_p1_numbers), ((ad_this 3), cI G 6 a_houseMinutes), ((ad_this 2), cI G 6 a_housePeople)] [(h_this, oX8 ad_this v_signCount out.2.1 v_boatCount v_workCount v_turnCost v_boatDayCost), (h_p1, oX3 ad_p1 v_p1_numberCount v_p1_letter v_p1_end), ((ad_p1 0), cI G 4 a_p1_numbers), ((ad_this 3), cI G 6 out.2.2.1), ((ad_this 2), cI G 6 out.2.2.2)] out.1 := by
  refine startZ (cc := cX8_takeHouse) (maxL := 2) (by decide) rfl (Nat.le_of_ble_eq_true rfl) ?_
  intro p e s m args below meth c A Q hx hb hml hts hown hc hA hret ls H locs hl hW
  have hown : s.vm.findClass RX8 = some m.cls := hown
  have hg : ∀ w ∈ GOODS, w.before _ s = true := fun w h => hts w (List.mem_cons_of_mem _ h)
  have hl : lv_has ls 2 [(0, .ref h_this), (1, .ref h_p1)] := hl
  rw [F_X8_takeHouse] at hF
  refine lv_aload_n hx hb dX8_takeHouse_0 rfl (lv_at hl 0 rfl) ?_
  refine va_get (D := G.1) (ci := 7) (v := .int v_houseCount) (C := RX8) (T := TX8) (N := 13) hx hb hg hu_X8 hown hc.1 hW.1 0 rfl rfl 8 (by decide) (hg _ wd_1_78) (fun _ h9 => h9) rfl dX8_takeHouse_1 ?_
  refine lv_bipush (v := 6) hx hb dX8_takeHouse_4 (by decide) ?_
  refine lv_icmp_lt (tgt := 11) hx hb dX8_takeHouse_6 (by decide) (fun c_6 => ?_) (fun c_6 => ?_)
  · have hF := ite_t hF c_6
    refine lv_aload_n hx hb dX8_takeHouse_11 rfl (lv_at hl 0 rfl) ?_
    refine va_get (D := G.1) (ci := 7) (v := .ref ((ad_this 2))) (C := RX8) (T := TX8) (N := 13) hx hb hg hu_X8 hown hc.1 hW.1 0 rfl rfl 2 (by decide) (hg _ wd_1_71) (fun _ h9 => h9) rfl dX8_takeHouse_12 ?_
    refine lv_aload_n hx hb dX8_takeHouse_15 rfl (lv_at hl 0 rfl) ?_
    refine va_get (D := G.1) (ci := 7) (v := .int v_houseCount) (C := RX8) (T := TX8) (N := 13) hx hb hg hu_X8 hown hc.1 hW.1 0 rfl rfl 8 (by decide) (hg _ wd_1_78) (fun _ h9 => h9) rfl dX8_takeHouse_16 ?_
    refine lv_aload_n hx hb dX8_takeHouse_19 rfl (lv_at hl 1 rfl) ?_
    refine lv_iconst (v := 0) hx hb dX8_takeHouse_20 (by decide) ?_
    obtain ⟨q21, c_21, hF⟩ := bd_el hF
    refine wcI (ws' := [(h_this, oX8 ad_this v_signCount v_houseCount v_boatCount v_workCount v_turnCost v_boatDayCost), (h_p1, oX3 ad_p1 v_p1_numberCount v_p1_letter v_p1_end), ((ad_p1 0), cI G 4 a_p1_numbers), ((ad_this 3), cI G 6 a_houseMinutes), ((ad_this 2), cI G 6 a_housePeople)]) (wc := [(h_p1, oX3 ad_p1 v_p1_numberCount v_p1_letter v_p1_end), ((ad_p1 0), cI G 4 a_p1_numbers)]) (wr := [(h_this, oX8 ad_this v_signCount v_houseCount v_boatCount v_workCount v_turnCost v_boatDayCost), ((ad_this 3), cI G 6 a_houseMinutes), ((ad_this 2), cI G 6 a_housePeople)]) (w1 := [(h_p1, oX3 ad_p1 v_p1_numberCount v_p1_letter v_p1_end), ((ad_p1 0), cI G 4 a_p1_numbers)]) (va_runV (As := [.int 0]) (rest := [.int v_houseCount, .ref ((ad_this 2))]) ⟨hx, hb, hml, hown, hg⟩ (c_X3_numberAt l G 0 h_p1 ad_p1 v_p1_numberCount v_p1_letter v_p1_end a_p1_numbers q21 c_21 H.size) (cwV 1 hg (gV wd_2_67 wd_2_68 wd_2_69 wd_1_3 wd_2_70) rfl rfl rfl hdV_X3_numberAt ⟨(Nat.le_of_ble_eq_true rfl), (Nat.le_of_ble_eq_true rfl)⟩) (preV hc hW [1, 2] rfl (by decide) rfl rfl) rfl rfl hl.1 rfl (lv_room (Nat.le_of_ble_eq_true rfl)) dX8_takeHouse_21 ⟨Nat.zero_le _, Nat.zero_le _⟩) hA hW [1, 2] [0, 3, 4] [0, 3, 4, 1, 2] rfl rfl (by decide) (by decide) rfl (by decide) (fun H locs hW => ?_)
    obtain ⟨q24, c_24, hF⟩ := bd_el hF
    refine wcV (ws' := [(h_this, oX8 ad_this v_signCount v_houseCount v_boatCount v_workCount v_turnCost v_boatDayCost), (h_p1, oX3 ad_p1 v_p1_numberCount v_p1_letter v_p1_end), ((ad_p1 0), cI G 4 a_p1_numbers), ((ad_this 3), cI G 6 a_houseMinutes), ((ad_this 2), cI G 6 q24)]) (wc := [((ad_this 2), cI G 6 a_housePeople)]) (wr := [(h_this, oX8 ad_this v_signCount v_houseCount v_boatCount v_workCount v_turnCost v_boatDayCost), (h_p1, oX3 ad_p1 v_p1_numberCount v_p1_letter v_p1_end), ((ad_p1 0), cI G 4 a_p1_numbers), ((ad_this 3), cI G 6 a_houseMinutes)]) (w1 := [((ad_this 2), cI G 6 q24)]) (va_runS (As := [.ref ((ad_this 2)), .int v_houseCount, .int q21]) (rest := []) ⟨hx, hb, hml, hown, hg⟩ (c_X4_put l G v_houseCount q21 6 ((ad_this 2)) a_housePeople q24 c_24 H.size) (va_cwS 3 hg (gS wd_2_27 wd_2_17 wd_1_14 wd_2_18) rfl rfl rfl hdS_X4_put ⟨(Nat.le_of_ble_eq_true rfl), (Nat.le_of_ble_eq_true rfl)⟩) (preS hc hW [4] rfl (by decide)) rfl rfl hl.1 rfl (lv_room (Nat.le_of_ble_eq_true rfl)) dX8_takeHouse_24 ⟨Nat.zero_le _, Nat.zero_le _⟩) hA hW [4] [0, 1, 2, 3] [0, 1, 2, 3, 4] rfl rfl (by decide) (by decide) rfl (by decide) (fun H locs hW => ?_)
    refine lv_aload_n hx hb dX8_takeHouse_27 rfl (lv_at hl 0 rfl) ?_
    refine va_get (D := G.1) (ci := 7) (v := .ref ((ad_this 3))) (C := RX8) (T := TX8) (N := 13) hx hb hg hu_X8 hown hc.1 hW.1 0 rfl rfl 3 (by decide) (hg _ wd_1_72) (fun _ h9 => h9) rfl dX8_takeHouse_28 ?_
    refine lv_aload_n hx hb dX8_takeHouse_31 rfl (lv_at hl 0 rfl) ?_
    refine va_get (D := G.1) (ci := 7) (v := .int v_houseCount) (C := RX8) (T := TX8) (N := 13) hx hb hg hu_X8 hown hc.1 hW.1 0 rfl rfl 8 (by decide) (hg _ wd_1_78) (fun _ h9 => h9) rfl dX8_takeHouse_32 ?_
    refine lv_aload_n hx hb dX8_takeHouse_35 rfl (lv_at hl 1 rfl) ?_
    refine lv_iconst (v := 1) hx hb dX8_takeHouse_36 (by decide) ?_
    obtain ⟨q37, c_37, hF⟩ := bd_el hF
    refine wcI (ws' := [(h_this, oX8 ad_this v_signCount v_houseCount v_boatCount v_workCount v_turnCost v_boatDayCost), (h_p1, oX3 ad_p1 v_p1_numberCount v_p1_letter v_p1_end), ((ad_p1 0), cI G 4 a_p1_numbers), ((ad_this 3), cI G 6 a_houseMinutes), ((ad_this 2), cI G 6 q24)]) (wc := [(h_p1, oX3 ad_p1 v_p1_numberCount v_p1_letter v_p1_end), ((ad_p1 0), cI G 4 a_p1_numbers)]) (wr := [(h_this, oX8 ad_this v_signCount v_houseCount v_boatCount v_workCount v_turnCost v_boatDayCost), ((ad_this 3), cI G 6 a_houseMinutes), ((ad_this 2), cI G 6 q24)]) (w1 := [(h_p1, oX3 ad_p1 v_p1_numberCount v_p1_letter v_p1_end), ((ad_p1 0), cI G 4 a_p1_numbers)]) (va_runV (As := [.int 1]) (rest := [.int v_houseCount, .ref ((ad_this 3))]) ⟨hx, hb, hml, hown, hg⟩ (c_X3_numberAt l G 1 h_p1 ad_p1 v_p1_numberCount v_p1_letter v_p1_end a_p1_numbers q37 c_37 H.size) (cwV 1 hg (gV wd_2_67 wd_2_68 wd_2_69 wd_1_3 wd_2_70) rfl rfl rfl hdV_X3_numberAt ⟨(Nat.le_of_ble_eq_true rfl), (Nat.le_of_ble_eq_true rfl)⟩) (preV hc hW [1, 2] rfl (by decide) rfl rfl) rfl rfl hl.1 rfl (lv_room (Nat.le_of_ble_eq_true rfl)) dX8_takeHouse_37 ⟨Nat.zero_le _, Nat.zero_le _⟩) hA hW [1, 2] [0, 3, 4] [0, 3, 4, 1, 2] rfl rfl (by decide) (by decide) rfl (by decide) (fun H locs hW => ?_)
    obtain ⟨q40, c_40, hF⟩ := bd_el hF
    refine wcV (ws' := [(h_this, oX8 ad_this v_signCount v_houseCount v_boatCount v_workCount v_turnCost v_boatDayCost), (h_p1, oX3 ad_p1 v_p1_numberCount v_p1_letter v_p1_end), ((ad_p1 0), cI G 4 a_p1_numbers), ((ad_this 3), cI G 6 q40), ((ad_this 2), cI G 6 q24)]) (wc := [((ad_this 3), cI G 6 a_houseMinutes)]) (wr := [(h_this, oX8 ad_this v_signCount v_houseCount v_boatCount v_workCount v_turnCost v_boatDayCost), (h_p1, oX3 ad_p1 v_p1_numberCount v_p1_letter v_p1_end), ((ad_p1 0), cI G 4 a_p1_numbers), ((ad_this 2), cI G 6 q24)]) (w1 := [((ad_this 3), cI G 6 q40)]) (va_runS (As := [.ref ((ad_this 3)), .int v_houseCount, .int q37]) (rest := []) ⟨hx, hb, hml, hown, hg⟩ (c_X4_put l G v_houseCount q37 6 ((ad_this 3)) a_houseMinutes q40 c_40 H.size) (va_cwS 3 hg (gS wd_2_27 wd_2_17 wd_1_14 wd_2_18) rfl rfl rfl hdS_X4_put ⟨(Nat.le_of_ble_eq_true rfl), (Nat.le_of_ble_eq_true rfl)⟩) (preS hc hW [3] rfl (by decide)) rfl rfl hl.1 rfl (lv_room (Nat.le_of_ble_eq_true rfl)) dX8_takeHouse_40 ⟨Nat.zero_le _, Nat.zero_le _⟩) hA hW [3] [0, 1, 2, 4] [0, 1, 2, 4, 3] rfl rfl (by decide) (by decide) rfl (by decide) (fun H locs hW => ?_)
    refine lv_aload_n hx hb dX8_takeHouse_43 rfl (lv_at hl 0 rfl) ?_
    refine lv_dup hx hb dX8_takeHouse_44 rfl ?_
    refine va_get (D := G.1) (ci := 7) (v := .int v_houseCount) (C := RX8) (T := TX8) (N := 13) hx hb hg hu_X8 hown hc.1 hW.1 0 rfl rfl 8 (by decide) (hg _ wd_1_78) (fun _ h9 => h9) rfl dX8_takeHouse_45 ?_
    refine lv_iconst (v := 1) hx hb dX8_takeHouse_48 (by decide) ?_
    refine lv_iadd hx hb dX8_takeHouse_49 ?_
    refine va_put (D := G.1) (ci := 7) (v := .int ((v_houseCount + 1))) (ty := .int) (C := RX8) (T := TX8) (N := 13) hx hb hg hu_X8 tyX8 tyX8_ok nmX8 hown hc.1 hW.1 hW.2.1 hW.2.2 0 rfl rfl 8 (by decide) (hg _ wd_1_78) (fun _ h9 => h9) rfl (by decide +kernel) rfl rfl (Nat.le_of_ble_eq_true rfl) dX8_takeHouse_50 (fun H locs hP hD hS => ?_)
    have hW : Wd G A s.heap [(h_this, oX8 ad_this v_signCount ((v_houseCount + 1)) v_boatCount v_workCount v_turnCost v_boatDayCost), (h_p1, oX3 ad_p1 v_p1_numberCount v_p1_letter v_p1_end), ((ad_p1 0), cI G 4 a_p1_numbers), ((ad_this 3), cI G 6 q40), ((ad_this 2), cI G 6 q24)] H locs := ⟨hP, hD, hS⟩
    refine lv_iconst (v := 1) hx hb dX8_takeHouse_53 (by decide) ?_
    obtain rfl := Option.some.inj hF
    exact hret _ _ _ _ hW (Or.inr rfl) dX8_takeHouse_54
  · have hF := ite_f hF c_6
    refine lv_iconst (v := 0) hx hb dX8_takeHouse_9 (by decide) ?_
    obtain rfl := Option.some.inj hF
    exact hret _ _ _ _ hW (Or.inl rfl) dX8_takeHouse_10
theorem dX8_takeBoat_0 : decode cX8_takeBoat 0 = .ok (.aload_n 0, 1) := by decide +kernel
theorem dX8_takeBoat_1 : decode cX8_takeBoat 1 = .ok (.getfield 73, 3) := by decide +kernel
theorem dX8_takeBoat_4 : decode cX8_takeBoat 4 = .ok (.iconst 4, 1) := by decide +kernel
theorem dX8_takeBoat_5 : decode cX8_takeBoat 5 = .ok (.if_icmp .lt 5, 3) := by decide +kernel
theorem dX8_takeBoat_8 : decode cX8_takeBoat 8 = .ok (.iconst 0, 1) := by decide +kernel
theorem dX8_takeBoat_9 : decode cX8_takeBoat 9 = .ok (.ireturn, 1) := by decide +kernel
theorem dX8_takeBoat_10 : decode cX8_takeBoat 10 = .ok (.aload_n 0, 1) := by decide +kernel
theorem dX8_takeBoat_11 : decode cX8_takeBoat 11 = .ok (.getfield 24, 3) := by decide +kernel
theorem dX8_takeBoat_14 : decode cX8_takeBoat 14 = .ok (.aload_n 0, 1) := by decide +kernel
theorem dX8_takeBoat_15 : decode cX8_takeBoat 15 = .ok (.getfield 73, 3) := by decide +kernel
theorem dX8_takeBoat_18 : decode cX8_takeBoat 18 = .ok (.aload_n 1, 1) := by decide +kernel
theorem dX8_takeBoat_19 : decode cX8_takeBoat 19 = .ok (.iconst 0, 1) := by decide +kernel
theorem dX8_takeBoat_20 : decode cX8_takeBoat 20 = .ok (.invokevirtual 100, 3) := by decide +kernel
theorem dX8_takeBoat_23 : decode cX8_takeBoat 23 = .ok (.invokestatic 55, 3) := by decide +kernel
theorem dX8_takeBoat_26 : decode cX8_takeBoat 26 = .ok (.aload_n 0, 1) := by decide +kernel
theorem dX8_takeBoat_27 : decode cX8_takeBoat 27 = .ok (.dup, 1) := by decide +kernel
theorem dX8_takeBoat_28 : decode cX8_takeBoat 28 = .ok (.getfield 73, 3) := by decide +kernel
theorem dX8_takeBoat_31 : decode cX8_takeBoat 31 = .ok (.iconst 1, 1) := by decide +kernel
theorem dX8_takeBoat_32 : decode cX8_takeBoat 32 = .ok (.iadd, 1) := by decide +kernel
theorem dX8_takeBoat_33 : decode cX8_takeBoat 33 = .ok (.putfield 73, 3) := by decide +kernel
theorem dX8_takeBoat_36 : decode cX8_takeBoat 36 = .ok (.iconst 1, 1) := by decide +kernel
theorem dX8_takeBoat_37 : decode cX8_takeBoat 37 = .ok (.ireturn, 1) := by decide +kernel
def F_X8_takeBoat (v_boatCount : Int32) (a_p1_numbers : Nat → Int32) (a_boatRoom : Nat → Int32) : Option (Int32 × Int32 × (Nat → Int32)) := (if v_boatCount < 4 then (F_X3_numberAt 0 a_p1_numbers).bind (fun q20 => (F_X4_put v_boatCount q20 4 a_boatRoom).bind (fun q23 => some (1, (v_boatCount + 1), q23))) else some (0, v_boatCount, a_boatRoom))
theorem hdV_X8_takeBoat : yX8_takeBoat.cls = RX8 ∧ yX8_takeBoat.cls ≠ "java/lang/invoke/MethodHandle" ∧ yX8_takeBoat.cls ≠ "java/lang/invoke/VarHandle" ∧ (parseMethodDescriptor yX8_takeBoat.desc).map (fun d => d.parameters.length) = some 1 := by decide +kernel
set_option maxHeartbeats 4000000 in
set_option maxRecDepth 100000 in
theorem c_X8_takeBoat (l : Launch) (G : GG) (h_this : Nat) (h_p1 : Nat) (ad_this : Nat → Nat) (ad_p1 : Nat → Nat) (v_signCount : Int32) (v_houseCount : Int32) (v_boatCount : Int32) (v_workCount : Int32) (v_turnCost : Int32) (v_boatDayCost : Int32) (v_p1_numberCount : Int32) (v_p1_letter : Int32) (v_p1_end : Int32) (a_p1_numbers : Nat → Int32) (a_boatRoom : Nat → Int32) (out : Int32 × Int32 × (Nat → Int32)) (hF : F_X8_takeBoat v_boatCount a_p1_numbers a_boatRoom = some out) : CtrZ l yX8_takeBoat (WS yX8_takeBoat cX8_takeBoat 2 (some .boolean)) { frames := 2, cells := 0, slots := 0, locals := 42 } G [.ref h_this, .ref h_p1] [(h_this, oX8 ad_this v_signCount v_houseCount v_boatCount v_workCount v_turnCost v_boatDayCost), (h_p1, oX3 ad_p1 v_p1_numberCount v_p1_letter v_p1_end), ((ad_p1 0), cI G 4 a_p1_numbers), ((ad_this 4), cI G 4 a_boatRoom)] [(h_this, oX8 ad_this v_signCount v_houseCount out.2.1 v_workCount v_turnCost v_boatDayCost), (h_p1, oX3 ad_p1 v_p1_numberCount v_p1_letter v_p1_end), ((ad_p1 0), cI G 4 a_p1_numbers), ((ad_this 4), cI G 4 out.2.2)] out.1 := by
  refine startZ (cc := cX8_takeBoat) (maxL := 2) (by decide) rfl (Nat.le_of_ble_eq_true rfl) ?_
  intro p e s m args below meth c A Q hx hb hml hts hown hc hA hret ls H locs hl hW
  have hown : s.vm.findClass RX8 = some m.cls := hown
  have hg : ∀ w ∈ GOODS, w.before _ s = true := fun w h => hts w (List.mem_cons_of_mem _ h)
  have hl : lv_has ls 2 [(0, .ref h_this), (1, .ref h_p1)] := hl
  rw [F_X8_takeBoat] at hF
  refine lv_aload_n hx hb dX8_takeBoat_0 rfl (lv_at hl 0 rfl) ?_
  refine va_get (D := G.1) (ci := 7) (v := .int v_boatCount) (C := RX8) (T := TX8) (N := 13) hx hb hg hu_X8 hown hc.1 hW.1 0 rfl rfl 9 (by decide) (hg _ wd_1_82) (fun _ h9 => h9) rfl dX8_takeBoat_1 ?_
  refine lv_iconst (v := 4) hx hb dX8_takeBoat_4 (by decide) ?_
  refine lv_icmp_lt (tgt := 10) hx hb dX8_takeBoat_5 (by decide) (fun c_5 => ?_) (fun c_5 => ?_)
  · have hF := ite_t hF c_5
    refine lv_aload_n hx hb dX8_takeBoat_10 rfl (lv_at hl 0 rfl) ?_
    refine va_get (D := G.1) (ci := 7) (v := .ref ((ad_this 4))) (C := RX8) (T := TX8) (N := 13) hx hb hg hu_X8 hown hc.1 hW.1 0 rfl rfl 4 (by decide) (hg _ wd_1_73) (fun _ h9 => h9) rfl dX8_takeBoat_11 ?_
    refine lv_aload_n hx hb dX8_takeBoat_14 rfl (lv_at hl 0 rfl) ?_
    refine va_get (D := G.1) (ci := 7) (v := .int v_boatCount) (C := RX8) (T := TX8) (N := 13) hx hb hg hu_X8 hown hc.1 hW.1 0 rfl rfl 9 (by decide) (hg _ wd_1_82) (fun _ h9 => h9) rfl dX8_takeBoat_15 ?_
    refine lv_aload_n hx hb dX8_takeBoat_18 rfl (lv_at hl 1 rfl) ?_
    refine lv_iconst (v := 0) hx hb dX8_takeBoat_19 (by decide) ?_
    obtain ⟨q20, c_20, hF⟩ := bd_el hF
    refine wcI (ws' := [(h_this, oX8 ad_this v_signCount v_houseCount v_boatCount v_workCount v_turnCost v_boatDayCost), (h_p1, oX3 ad_p1 v_p1_numberCount v_p1_letter v_p1_end), ((ad_p1 0), cI G 4 a_p1_numbers), ((ad_this 4), cI G 4 a_boatRoom)]) (wc := [(h_p1, oX3 ad_p1 v_p1_numberCount v_p1_letter v_p1_end), ((ad_p1 0), cI G 4 a_p1_numbers)]) (wr := [(h_this, oX8 ad_this v_signCount v_houseCount v_boatCount v_workCount v_turnCost v_boatDayCost), ((ad_this 4), cI G 4 a_boatRoom)]) (w1 := [(h_p1, oX3 ad_p1 v_p1_numberCount v_p1_letter v_p1_end), ((ad_p1 0), cI G 4 a_p1_numbers)]) (va_runV (As := [.int 0]) (rest := [.int v_boatCount, .ref ((ad_this 4))]) ⟨hx, hb, hml, hown, hg⟩ (c_X3_numberAt l G 0 h_p1 ad_p1 v_p1_numberCount v_p1_letter v_p1_end a_p1_numbers q20 c_20 H.size) (cwV 1 hg (gV wd_2_67 wd_2_68 wd_2_69 wd_1_3 wd_2_70) rfl rfl rfl hdV_X3_numberAt ⟨(Nat.le_of_ble_eq_true rfl), (Nat.le_of_ble_eq_true rfl)⟩) (preV hc hW [1, 2] rfl (by decide) rfl rfl) rfl rfl hl.1 rfl (lv_room (Nat.le_of_ble_eq_true rfl)) dX8_takeBoat_20 ⟨Nat.zero_le _, Nat.zero_le _⟩) hA hW [1, 2] [0, 3] [0, 2, 3, 1] rfl rfl (by decide) (by decide) rfl (by decide) (fun H locs hW => ?_)
    obtain ⟨q23, c_23, hF⟩ := bd_el hF
    refine wcV (ws' := [(h_this, oX8 ad_this v_signCount v_houseCount v_boatCount v_workCount v_turnCost v_boatDayCost), (h_p1, oX3 ad_p1 v_p1_numberCount v_p1_letter v_p1_end), ((ad_p1 0), cI G 4 a_p1_numbers), ((ad_this 4), cI G 4 q23)]) (wc := [((ad_this 4), cI G 4 a_boatRoom)]) (wr := [(h_this, oX8 ad_this v_signCount v_houseCount v_boatCount v_workCount v_turnCost v_boatDayCost), (h_p1, oX3 ad_p1 v_p1_numberCount v_p1_letter v_p1_end), ((ad_p1 0), cI G 4 a_p1_numbers)]) (w1 := [((ad_this 4), cI G 4 q23)]) (va_runS (As := [.ref ((ad_this 4)), .int v_boatCount, .int q20]) (rest := []) ⟨hx, hb, hml, hown, hg⟩ (c_X4_put l G v_boatCount q20 4 ((ad_this 4)) a_boatRoom q23 c_23 H.size) (va_cwS 3 hg (gS wd_2_27 wd_2_17 wd_1_14 wd_2_18) rfl rfl rfl hdS_X4_put ⟨(Nat.le_of_ble_eq_true rfl), (Nat.le_of_ble_eq_true rfl)⟩) (preS hc hW [3] rfl (by decide)) rfl rfl hl.1 rfl (lv_room (Nat.le_of_ble_eq_true rfl)) dX8_takeBoat_23 ⟨Nat.zero_le _, Nat.zero_le _⟩) hA hW [3] [0, 1, 2] [0, 1, 2, 3] rfl rfl (by decide) (by decide) rfl (by decide) (fun H locs hW => ?_)
    refine lv_aload_n hx hb dX8_takeBoat_26 rfl (lv_at hl 0 rfl) ?_
    refine lv_dup hx hb dX8_takeBoat_27 rfl ?_
    refine va_get (D := G.1) (ci := 7) (v := .int v_boatCount) (C := RX8) (T := TX8) (N := 13) hx hb hg hu_X8 hown hc.1 hW.1 0 rfl rfl 9 (by decide) (hg _ wd_1_82) (fun _ h9 => h9) rfl dX8_takeBoat_28 ?_
    refine lv_iconst (v := 1) hx hb dX8_takeBoat_31 (by decide) ?_
    refine lv_iadd hx hb dX8_takeBoat_32 ?_
    refine va_put (D := G.1) (ci := 7) (v := .int ((v_boatCount + 1))) (ty := .int) (C := RX8) (T := TX8) (N := 13) hx hb hg hu_X8 tyX8 tyX8_ok nmX8 hown hc.1 hW.1 hW.2.1 hW.2.2 0 rfl rfl 9 (by decide) (hg _ wd_1_82) (fun _ h9 => h9) rfl (by decide +kernel) rfl rfl (Nat.le_of_ble_eq_true rfl) dX8_takeBoat_33 (fun H locs hP hD hS => ?_)
    have hW : Wd G A s.heap [(h_this, oX8 ad_this v_signCount v_houseCount ((v_boatCount + 1)) v_workCount v_turnCost v_boatDayCost), (h_p1, oX3 ad_p1 v_p1_numberCount v_p1_letter v_p1_end), ((ad_p1 0), cI G 4 a_p1_numbers), ((ad_this 4), cI G 4 q23)] H locs := ⟨hP, hD, hS⟩
    refine lv_iconst (v := 1) hx hb dX8_takeBoat_36 (by decide) ?_
    obtain rfl := Option.some.inj hF
    exact hret _ _ _ _ hW (Or.inr rfl) dX8_takeBoat_37
  · have hF := ite_f hF c_5
    refine lv_iconst (v := 0) hx hb dX8_takeBoat_8 (by decide) ?_
    obtain rfl := Option.some.inj hF
    exact hret _ _ _ _ hW (Or.inl rfl) dX8_takeBoat_9
theorem dX8_takeWorks_0 : decode cX8_takeWorks 0 = .ok (.aload_n 0, 1) := by decide +kernel
theorem dX8_takeWorks_1 : decode cX8_takeWorks 1 = .ok (.getfield 76, 3) := by decide +kernel
theorem dX8_takeWorks_4 : decode cX8_takeWorks 4 = .ok (.iconst 5, 1) := by decide +kernel
theorem dX8_takeWorks_5 : decode cX8_takeWorks 5 = .ok (.if_icmp .lt 5, 3) := by decide +kernel
theorem dX8_takeWorks_8 : decode cX8_takeWorks 8 = .ok (.iconst 0, 1) := by decide +kernel
theorem dX8_takeWorks_9 : decode cX8_takeWorks 9 = .ok (.ireturn, 1) := by decide +kernel
theorem dX8_takeWorks_10 : decode cX8_takeWorks 10 = .ok (.aload_n 0, 1) := by decide +kernel
theorem dX8_takeWorks_11 : decode cX8_takeWorks 11 = .ok (.getfield 27, 3) := by decide +kernel
theorem dX8_takeWorks_14 : decode cX8_takeWorks 14 = .ok (.aload_n 0, 1) := by decide +kernel
theorem dX8_takeWorks_15 : decode cX8_takeWorks 15 = .ok (.getfield 76, 3) := by decide +kernel
theorem dX8_takeWorks_18 : decode cX8_takeWorks 18 = .ok (.aload_n 1, 1) := by decide +kernel
theorem dX8_takeWorks_19 : decode cX8_takeWorks 19 = .ok (.iconst 0, 1) := by decide +kernel
theorem dX8_takeWorks_20 : decode cX8_takeWorks 20 = .ok (.invokevirtual 100, 3) := by decide +kernel
theorem dX8_takeWorks_23 : decode cX8_takeWorks 23 = .ok (.invokestatic 55, 3) := by decide +kernel
theorem dX8_takeWorks_26 : decode cX8_takeWorks 26 = .ok (.aload_n 0, 1) := by decide +kernel
theorem dX8_takeWorks_27 : decode cX8_takeWorks 27 = .ok (.getfield 30, 3) := by decide +kernel
theorem dX8_takeWorks_30 : decode cX8_takeWorks 30 = .ok (.aload_n 0, 1) := by decide +kernel
theorem dX8_takeWorks_31 : decode cX8_takeWorks 31 = .ok (.getfield 76, 3) := by decide +kernel
theorem dX8_takeWorks_34 : decode cX8_takeWorks 34 = .ok (.aload_n 1, 1) := by decide +kernel
theorem dX8_takeWorks_35 : decode cX8_takeWorks 35 = .ok (.iconst 1, 1) := by decide +kernel
theorem dX8_takeWorks_36 : decode cX8_takeWorks 36 = .ok (.invokevirtual 100, 3) := by decide +kernel
theorem dX8_takeWorks_39 : decode cX8_takeWorks 39 = .ok (.invokestatic 55, 3) := by decide +kernel
theorem dX8_takeWorks_42 : decode cX8_takeWorks 42 = .ok (.aload_n 0, 1) := by decide +kernel
theorem dX8_takeWorks_43 : decode cX8_takeWorks 43 = .ok (.dup, 1) := by decide +kernel
theorem dX8_takeWorks_44 : decode cX8_takeWorks 44 = .ok (.getfield 76, 3) := by decide +kernel
theorem dX8_takeWorks_47 : decode cX8_takeWorks 47 = .ok (.iconst 1, 1) := by decide +kernel
theorem dX8_takeWorks_48 : decode cX8_takeWorks 48 = .ok (.iadd, 1) := by decide +kernel
theorem dX8_takeWorks_49 : decode cX8_takeWorks 49 = .ok (.putfield 76, 3) := by decide +kernel
theorem dX8_takeWorks_52 : decode cX8_takeWorks 52 = .ok (.iconst 1, 1) := by decide +kernel
theorem dX8_takeWorks_53 : decode cX8_takeWorks 53 = .ok (.ireturn, 1) := by decide +kernel
def F_X8_takeWorks (v_workCount : Int32) (a_p1_numbers : Nat → Int32) (a_workGain : Nat → Int32) (a_workNoise : Nat → Int32) : Option (Int32 × Int32 × (Nat → Int32) × (Nat → Int32)) := (if v_workCount < 5 then (F_X3_numberAt 0 a_p1_numbers).bind (fun q20 => (F_X4_put v_workCount q20 5 a_workNoise).bind (fun q23 => (F_X3_numberAt 1 a_p1_numbers).bind (fun q36 => (F_X4_put v_workCount q36 5 a_workGain).bind (fun q39 => some (1, (v_workCount + 1), q39, q23))))) else some (0, v_workCount, a_workGain, a_workNoise))
theorem hdV_X8_takeWorks : yX8_takeWorks.cls = RX8 ∧ yX8_takeWorks.cls ≠ "java/lang/invoke/MethodHandle" ∧ yX8_takeWorks.cls ≠ "java/lang/invoke/VarHandle" ∧ (parseMethodDescriptor yX8_takeWorks.desc).map (fun d => d.parameters.length) = some 1 := by decide +kernel
set_option maxHeartbeats 4000000 in
set_option maxRecDepth 100000 in
theorem c_X8_takeWorks (l : Launch) (G : GG) (h_this : Nat) (h_p1 : Nat) (ad_this : Nat → Nat) (ad_p1 : Nat → Nat) (v_signCount : Int32) (v_houseCount : Int32) (v_boatCount : Int32) (v_workCount : Int32) (v_turnCost : Int32) (v_boatDayCost : Int32) (v_p1_numberCount : Int32) (v_p1_letter : Int32) (v_p1_end : Int32) (a_p1_numbers : Nat → Int32) (a_workGain : Nat → Int32) (a_workNoise : Nat → Int32) (out : Int32 × Int32 × (Nat → Int32) × (Nat → Int32)) (hF : F_X8_takeWorks v_workCount a_p1_numbers a_workGain a_workNoise = some out) : CtrZ l yX8_takeWorks (WS yX8_takeWorks cX8_takeWorks 2 (some .boolean)) { frames := 2, cells := 0, slots := 0, locals := 42 } G [.ref h_this, .ref h_p1] [(h_this, oX8 ad_this v_signCount v_houseCount v_boatCount v_workCount v_turnCost v_boatDayCost), (h_p1, oX3 ad_p1 v_p1_numberCount v_p1_letter v_p1_end), ((ad_p1 0), cI G 4 a_p1_numbers), ((ad_this 6), cI G 5 a_workGain), ((ad_this 5), cI G 5 a_workNoise)] [(h_this, oX8 ad_this v_signCount v_houseCount v_boatCount out.2.1 v_turnCost v_boatDayCost), (h_p1, oX3 ad_p1 v_p1_numberCount v_p1_letter v_p1_end), ((ad_p1 0), cI G 4 a_p1_numbers), ((ad_this 6), cI G 5 out.2.2.1), ((ad_this 5), cI G 5 out.2.2.2)] out.1 := by
  refine startZ (cc := cX8_takeWorks) (maxL := 2) (by decide) rfl (Nat.le_of_ble_eq_true rfl) ?_
  intro p e s m args below meth c A Q hx hb hml hts hown hc hA hret ls H locs hl hW
  have hown : s.vm.findClass RX8 = some m.cls := hown
  have hg : ∀ w ∈ GOODS, w.before _ s = true := fun w h => hts w (List.mem_cons_of_mem _ h)
  have hl : lv_has ls 2 [(0, .ref h_this), (1, .ref h_p1)] := hl
  rw [F_X8_takeWorks] at hF
  refine lv_aload_n hx hb dX8_takeWorks_0 rfl (lv_at hl 0 rfl) ?_
  refine va_get (D := G.1) (ci := 7) (v := .int v_workCount) (C := RX8) (T := TX8) (N := 13) hx hb hg hu_X8 hown hc.1 hW.1 0 rfl rfl 10 (by decide) (hg _ wd_1_84) (fun _ h9 => h9) rfl dX8_takeWorks_1 ?_
  refine lv_iconst (v := 5) hx hb dX8_takeWorks_4 (by decide) ?_
  refine lv_icmp_lt (tgt := 10) hx hb dX8_takeWorks_5 (by decide) (fun c_5 => ?_) (fun c_5 => ?_)
  · have hF := ite_t hF c_5
    refine lv_aload_n hx hb dX8_takeWorks_10 rfl (lv_at hl 0 rfl) ?_
    refine va_get (D := G.1) (ci := 7) (v := .ref ((ad_this 5))) (C := RX8) (T := TX8) (N := 13) hx hb hg hu_X8 hown hc.1 hW.1 0 rfl rfl 5 (by decide) (hg _ wd_1_74) (fun _ h9 => h9) rfl dX8_takeWorks_11 ?_
    refine lv_aload_n hx hb dX8_takeWorks_14 rfl (lv_at hl 0 rfl) ?_
    refine va_get (D := G.1) (ci := 7) (v := .int v_workCount) (C := RX8) (T := TX8) (N := 13) hx hb hg hu_X8 hown hc.1 hW.1 0 rfl rfl 10 (by decide) (hg _ wd_1_84) (fun _ h9 => h9) rfl dX8_takeWorks_15 ?_
    refine lv_aload_n hx hb dX8_takeWorks_18 rfl (lv_at hl 1 rfl) ?_
    refine lv_iconst (v := 0) hx hb dX8_takeWorks_19 (by decide) ?_
    obtain ⟨q20, c_20, hF⟩ := bd_el hF
    refine wcI (ws' := [(h_this, oX8 ad_this v_signCount v_houseCount v_boatCount v_workCount v_turnCost v_boatDayCost), (h_p1, oX3 ad_p1 v_p1_numberCount v_p1_letter v_p1_end), ((ad_p1 0), cI G 4 a_p1_numbers), ((ad_this 6), cI G 5 a_workGain), ((ad_this 5), cI G 5 a_workNoise)]) (wc := [(h_p1, oX3 ad_p1 v_p1_numberCount v_p1_letter v_p1_end), ((ad_p1 0), cI G 4 a_p1_numbers)]) (wr := [(h_this, oX8 ad_this v_signCount v_houseCount v_boatCount v_workCount v_turnCost v_boatDayCost), ((ad_this 6), cI G 5 a_workGain), ((ad_this 5), cI G 5 a_workNoise)]) (w1 := [(h_p1, oX3 ad_p1 v_p1_numberCount v_p1_letter v_p1_end), ((ad_p1 0), cI G 4 a_p1_numbers)]) (va_runV (As := [.int 0]) (rest := [.int v_workCount, .ref ((ad_this 5))]) ⟨hx, hb, hml, hown, hg⟩ (c_X3_numberAt l G 0 h_p1 ad_p1 v_p1_numberCount v_p1_letter v_p1_end a_p1_numbers q20 c_20 H.size) (cwV 1 hg (gV wd_2_67 wd_2_68 wd_2_69 wd_1_3 wd_2_70) rfl rfl rfl hdV_X3_numberAt ⟨(Nat.le_of_ble_eq_true rfl), (Nat.le_of_ble_eq_true rfl)⟩) (preV hc hW [1, 2] rfl (by decide) rfl rfl) rfl rfl hl.1 rfl (lv_room (Nat.le_of_ble_eq_true rfl)) dX8_takeWorks_20 ⟨Nat.zero_le _, Nat.zero_le _⟩) hA hW [1, 2] [0, 3, 4] [0, 3, 4, 1, 2] rfl rfl (by decide) (by decide) rfl (by decide) (fun H locs hW => ?_)
    obtain ⟨q23, c_23, hF⟩ := bd_el hF
    refine wcV (ws' := [(h_this, oX8 ad_this v_signCount v_houseCount v_boatCount v_workCount v_turnCost v_boatDayCost), (h_p1, oX3 ad_p1 v_p1_numberCount v_p1_letter v_p1_end), ((ad_p1 0), cI G 4 a_p1_numbers), ((ad_this 6), cI G 5 a_workGain), ((ad_this 5), cI G 5 q23)]) (wc := [((ad_this 5), cI G 5 a_workNoise)]) (wr := [(h_this, oX8 ad_this v_signCount v_houseCount v_boatCount v_workCount v_turnCost v_boatDayCost), (h_p1, oX3 ad_p1 v_p1_numberCount v_p1_letter v_p1_end), ((ad_p1 0), cI G 4 a_p1_numbers), ((ad_this 6), cI G 5 a_workGain)]) (w1 := [((ad_this 5), cI G 5 q23)]) (va_runS (As := [.ref ((ad_this 5)), .int v_workCount, .int q20]) (rest := []) ⟨hx, hb, hml, hown, hg⟩ (c_X4_put l G v_workCount q20 5 ((ad_this 5)) a_workNoise q23 c_23 H.size) (va_cwS 3 hg (gS wd_2_27 wd_2_17 wd_1_14 wd_2_18) rfl rfl rfl hdS_X4_put ⟨(Nat.le_of_ble_eq_true rfl), (Nat.le_of_ble_eq_true rfl)⟩) (preS hc hW [4] rfl (by decide)) rfl rfl hl.1 rfl (lv_room (Nat.le_of_ble_eq_true rfl)) dX8_takeWorks_23 ⟨Nat.zero_le _, Nat.zero_le _⟩) hA hW [4] [0, 1, 2, 3] [0, 1, 2, 3, 4] rfl rfl (by decide) (by decide) rfl (by decide) (fun H locs hW => ?_)
    refine lv_aload_n hx hb dX8_takeWorks_26 rfl (lv_at hl 0 rfl) ?_
    refine va_get (D := G.1) (ci := 7) (v := .ref ((ad_this 6))) (C := RX8) (T := TX8) (N := 13) hx hb hg hu_X8 hown hc.1 hW.1 0 rfl rfl 6 (by decide) (hg _ wd_1_75) (fun _ h9 => h9) rfl dX8_takeWorks_27 ?_
    refine lv_aload_n hx hb dX8_takeWorks_30 rfl (lv_at hl 0 rfl) ?_
    refine va_get (D := G.1) (ci := 7) (v := .int v_workCount) (C := RX8) (T := TX8) (N := 13) hx hb hg hu_X8 hown hc.1 hW.1 0 rfl rfl 10 (by decide) (hg _ wd_1_84) (fun _ h9 => h9) rfl dX8_takeWorks_31 ?_
    refine lv_aload_n hx hb dX8_takeWorks_34 rfl (lv_at hl 1 rfl) ?_
    refine lv_iconst (v := 1) hx hb dX8_takeWorks_35 (by decide) ?_
    obtain ⟨q36, c_36, hF⟩ := bd_el hF
    refine wcI (ws' := [(h_this, oX8 ad_this v_signCount v_houseCount v_boatCount v_workCount v_turnCost v_boatDayCost), (h_p1, oX3 ad_p1 v_p1_numberCount v_p1_letter v_p1_end), ((ad_p1 0), cI G 4 a_p1_numbers), ((ad_this 6), cI G 5 a_workGain), ((ad_this 5), cI G 5 q23)]) (wc := [(h_p1, oX3 ad_p1 v_p1_numberCount v_p1_letter v_p1_end), ((ad_p1 0), cI G 4 a_p1_numbers)]) (wr := [(h_this, oX8 ad_this v_signCount v_houseCount v_boatCount v_workCount v_turnCost v_boatDayCost), ((ad_this 6), cI G 5 a_workGain), ((ad_this 5), cI G 5 q23)]) (w1 := [(h_p1, oX3 ad_p1 v_p1_numberCount v_p1_letter v_p1_end), ((ad_p1 0), cI G 4 a_p1_numbers)]) (va_runV (As := [.int 1]) (rest := [.int v_workCount, .ref ((ad_this 6))]) ⟨hx, hb, hml, hown, hg⟩ (c_X3_numberAt l G 1 h_p1 ad_p1 v_p1_numberCount v_p1_letter v_p1_end a_p1_numbers q36 c_36 H.size) (cwV 1 hg (gV wd_2_67 wd_2_68 wd_2_69 wd_1_3 wd_2_70) rfl rfl rfl hdV_X3_numberAt ⟨(Nat.le_of_ble_eq_true rfl), (Nat.le_of_ble_eq_true rfl)⟩) (preV hc hW [1, 2] rfl (by decide) rfl rfl) rfl rfl hl.1 rfl (lv_room (Nat.le_of_ble_eq_true rfl)) dX8_takeWorks_36 ⟨Nat.zero_le _, Nat.zero_le _⟩) hA hW [1, 2] [0, 3, 4] [0, 3, 4, 1, 2] rfl rfl (by decide) (by decide) rfl (by decide) (fun H locs hW => ?_)
    obtain ⟨q39, c_39, hF⟩ := bd_el hF
    refine wcV (ws' := [(h_this, oX8 ad_this v_signCount v_houseCount v_boatCount v_workCount v_turnCost v_boatDayCost), (h_p1, oX3 ad_p1 v_p1_numberCount v_p1_letter v_p1_end), ((ad_p1 0), cI G 4 a_p1_numbers), ((ad_this 6), cI G 5 q39), ((ad_this 5), cI G 5 q23)]) (wc := [((ad_this 6), cI G 5 a_workGain)]) (wr := [(h_this, oX8 ad_this v_signCount v_houseCount v_boatCount v_workCount v_turnCost v_boatDayCost), (h_p1, oX3 ad_p1 v_p1_numberCount v_p1_letter v_p1_end), ((ad_p1 0), cI G 4 a_p1_numbers), ((ad_this 5), cI G 5 q23)]) (w1 := [((ad_this 6), cI G 5 q39)]) (va_runS (As := [.ref ((ad_this 6)), .int v_workCount, .int q36]) (rest := []) ⟨hx, hb, hml, hown, hg⟩ (c_X4_put l G v_workCount q36 5 ((ad_this 6)) a_workGain q39 c_39 H.size) (va_cwS 3 hg (gS wd_2_27 wd_2_17 wd_1_14 wd_2_18) rfl rfl rfl hdS_X4_put ⟨(Nat.le_of_ble_eq_true rfl), (Nat.le_of_ble_eq_true rfl)⟩) (preS hc hW [3] rfl (by decide)) rfl rfl hl.1 rfl (lv_room (Nat.le_of_ble_eq_true rfl)) dX8_takeWorks_39 ⟨Nat.zero_le _, Nat.zero_le _⟩) hA hW [3] [0, 1, 2, 4] [0, 1, 2, 4, 3] rfl rfl (by decide) (by decide) rfl (by decide) (fun H locs hW => ?_)
    refine lv_aload_n hx hb dX8_takeWorks_42 rfl (lv_at hl 0 rfl) ?_
    refine lv_dup hx hb dX8_takeWorks_43 rfl ?_
    refine va_get (D := G.1) (ci := 7) (v := .int v_workCount) (C := RX8) (T := TX8) (N := 13) hx hb hg hu_X8 hown hc.1 hW.1 0 rfl rfl 10 (by decide) (hg _ wd_1_84) (fun _ h9 => h9) rfl dX8_takeWorks_44 ?_
    refine lv_iconst (v := 1) hx hb dX8_takeWorks_47 (by decide) ?_
    refine lv_iadd hx hb dX8_takeWorks_48 ?_
    refine va_put (D := G.1) (ci := 7) (v := .int ((v_workCount + 1))) (ty := .int) (C := RX8) (T := TX8) (N := 13) hx hb hg hu_X8 tyX8 tyX8_ok nmX8 hown hc.1 hW.1 hW.2.1 hW.2.2 0 rfl rfl 10 (by decide) (hg _ wd_1_84) (fun _ h9 => h9) rfl (by decide +kernel) rfl rfl (Nat.le_of_ble_eq_true rfl) dX8_takeWorks_49 (fun H locs hP hD hS => ?_)
    have hW : Wd G A s.heap [(h_this, oX8 ad_this v_signCount v_houseCount v_boatCount ((v_workCount + 1)) v_turnCost v_boatDayCost), (h_p1, oX3 ad_p1 v_p1_numberCount v_p1_letter v_p1_end), ((ad_p1 0), cI G 4 a_p1_numbers), ((ad_this 6), cI G 5 q39), ((ad_this 5), cI G 5 q23)] H locs := ⟨hP, hD, hS⟩
    refine lv_iconst (v := 1) hx hb dX8_takeWorks_52 (by decide) ?_
    obtain rfl := Option.some.inj hF
    exact hret _ _ _ _ hW (Or.inr rfl) dX8_takeWorks_53
  · have hF := ite_f hF c_5
    refine lv_iconst (v := 0) hx hb dX8_takeWorks_8 (by decide) ?_
    obtain rfl := Option.some.inj hF
    exact hret _ _ _ _ hW (Or.inl rfl) dX8_takeWorks_9
theorem dX8_takeCosts_0 : decode cX8_takeCosts 0 = .ok (.aload_n 0, 1) := by decide +kernel
theorem dX8_takeCosts_1 : decode cX8_takeCosts 1 = .ok (.aload_n 1, 1) := by decide +kernel
theorem dX8_takeCosts_2 : decode cX8_takeCosts 2 = .ok (.iconst 0, 1) := by decide +kernel
theorem dX8_takeCosts_3 : decode cX8_takeCosts 3 = .ok (.invokevirtual 100, 3) := by decide +kernel
theorem dX8_takeCosts_6 : decode cX8_takeCosts 6 = .ok (.putfield 61, 3) := by decide +kernel
theorem dX8_takeCosts_9 : decode cX8_takeCosts 9 = .ok (.aload_n 0, 1) := by decide +kernel
theorem dX8_takeCosts_10 : decode cX8_takeCosts 10 = .ok (.aload_n 1, 1) := by decide +kernel
theorem dX8_takeCosts_11 : decode cX8_takeCosts 11 = .ok (.iconst 1, 1) := by decide +kernel
theorem dX8_takeCosts_12 : decode cX8_takeCosts 12 = .ok (.invokevirtual 100, 3) := by decide +kernel
theorem dX8_takeCosts_15 : decode cX8_takeCosts 15 = .ok (.putfield 64, 3) := by decide +kernel
theorem dX8_takeCosts_18 : decode cX8_takeCosts 18 = .ok (.iconst 1, 1) := by decide +kernel
theorem dX8_takeCosts_19 : decode cX8_takeCosts 19 = .ok (.ireturn, 1) := by decide +kernel
def F_X8_takeCosts (v_boatDayCost : Int32) (v_turnCost : Int32) (a_p1_numbers : Nat → Int32) : Option (Int32 × Int32 × Int32) := (F_X3_numberAt 0 a_p1_numbers).bind (fun q3 => (F_X3_numberAt 1 a_p1_numbers).bind (fun q12 => some (1, q12, q3)))
theorem hdV_X8_takeCosts : yX8_takeCosts.cls = RX8 ∧ yX8_takeCosts.cls ≠ "java/lang/invoke/MethodHandle" ∧ yX8_takeCosts.cls ≠ "java/lang/invoke/VarHandle" ∧ (parseMethodDescriptor yX8_takeCosts.desc).map (fun d => d.parameters.length) = some 1 := by decide +kernel
set_option maxHeartbeats 4000000 in
set_option maxRecDepth 100000 in
theorem c_X8_takeCosts (l : Launch) (G : GG) (h_this : Nat) (h_p1 : Nat) (ad_this : Nat → Nat) (ad_p1 : Nat → Nat) (v_signCount : Int32) (v_houseCount : Int32) (v_boatCount : Int32) (v_workCount : Int32) (v_turnCost : Int32) (v_boatDayCost : Int32) (v_p1_numberCount : Int32) (v_p1_letter : Int32) (v_p1_end : Int32) (a_p1_numbers : Nat → Int32) (out : Int32 × Int32 × Int32) (hF : F_X8_takeCosts v_boatDayCost v_turnCost a_p1_numbers = some out) : CtrZ l yX8_takeCosts (WS yX8_takeCosts cX8_takeCosts 2 (some .boolean)) { frames := 2, cells := 0, slots := 0, locals := 42 } G [.ref h_this, .ref h_p1] [(h_this, oX8 ad_this v_signCount v_houseCount v_boatCount v_workCount v_turnCost v_boatDayCost), (h_p1, oX3 ad_p1 v_p1_numberCount v_p1_letter v_p1_end), ((ad_p1 0), cI G 4 a_p1_numbers)] [(h_this, oX8 ad_this v_signCount v_houseCount v_boatCount v_workCount out.2.2 out.2.1), (h_p1, oX3 ad_p1 v_p1_numberCount v_p1_letter v_p1_end), ((ad_p1 0), cI G 4 a_p1_numbers)] out.1 := by
  refine startZ (cc := cX8_takeCosts) (maxL := 2) (by decide) rfl (Nat.le_of_ble_eq_true rfl) ?_
  intro p e s m args below meth c A Q hx hb hml hts hown hc hA hret ls H locs hl hW
  have hown : s.vm.findClass RX8 = some m.cls := hown
  have hg : ∀ w ∈ GOODS, w.before _ s = true := fun w h => hts w (List.mem_cons_of_mem _ h)
  have hl : lv_has ls 2 [(0, .ref h_this), (1, .ref h_p1)] := hl
  rw [F_X8_takeCosts] at hF
  refine lv_aload_n hx hb dX8_takeCosts_0 rfl (lv_at hl 0 rfl) ?_
  refine lv_aload_n hx hb dX8_takeCosts_1 rfl (lv_at hl 1 rfl) ?_
  refine lv_iconst (v := 0) hx hb dX8_takeCosts_2 (by decide) ?_
  obtain ⟨q3, c_3, hF⟩ := bd_el hF
  refine wcI (ws' := [(h_this, oX8 ad_this v_signCount v_houseCount v_boatCount v_workCount v_turnCost v_boatDayCost), (h_p1, oX3 ad_p1 v_p1_numberCount v_p1_letter v_p1_end), ((ad_p1 0), cI G 4 a_p1_numbers)]) (wc := [(h_p1, oX3 ad_p1 v_p1_numberCount v_p1_letter v_p1_end), ((ad_p1 0), cI G 4 a_p1_numbers)]) (wr := [(h_this, oX8 ad_this v_signCount v_houseCount v_boatCount v_workCount v_turnCost v_boatDayCost)]) (w1 := [(h_p1, oX3 ad_p1 v_p1_numberCount v_p1_letter v_p1_end), ((ad_p1 0), cI G 4 a_p1_numbers)]) (va_runV (As := [.int 0]) (rest := [.ref h_this]) ⟨hx, hb, hml, hown, hg⟩ (c_X3_numberAt l G 0 h_p1 ad_p1 v_p1_numberCount v_p1_letter v_p1_end a_p1_numbers q3 c_3 H.size) (cwV 1 hg (gV wd_2_67 wd_2_68 wd_2_69 wd_1_3 wd_2_70) rfl rfl rfl hdV_X3_numberAt ⟨(Nat.le_of_ble_eq_true rfl), (Nat.le_of_ble_eq_true rfl)⟩) (preV hc hW [1, 2] rfl (by decide) rfl rfl) rfl rfl hl.1 rfl (lv_room (Nat.le_of_ble_eq_true rfl)) dX8_takeCosts_3 ⟨Nat.zero_le _, Nat.zero_le _⟩) hA hW [1, 2] [0] [0, 1, 2] rfl rfl (by decide) (by decide) rfl (by decide) (fun H locs hW => ?_)
  refine va_put (D := G.1) (ci := 7) (v := .int q3) (ty := .int) (C := RX8) (T := TX8) (N := 13) hx hb hg hu_X8 tyX8 tyX8_ok nmX8 hown hc.1 hW.1 hW.2.1 hW.2.2 0 rfl rfl 11 (by decide) (hg _ wd_1_86) (fun _ h9 => h9) rfl (by decide +kernel) rfl rfl (Nat.le_of_ble_eq_true rfl) dX8_takeCosts_6 (fun H locs hP hD hS => ?_)
  have hW : Wd G A s.heap [(h_this, oX8 ad_this v_signCount v_houseCount v_boatCount v_workCount q3 v_boatDayCost), (h_p1, oX3 ad_p1 v_p1_numberCount v_p1_letter v_p1_end), ((ad_p1 0), cI G 4 a_p1_numbers)] H locs := ⟨hP, hD, hS⟩
  refine lv_aload_n hx hb dX8_takeCosts_9 rfl (lv_at hl 0 rfl) ?_
  refine lv_aload_n hx hb dX8_takeCosts_10 rfl (lv_at hl 1 rfl) ?_
  refine lv_iconst (v := 1) hx hb dX8_takeCosts_11 (by decide) ?_
  obtain ⟨q12, c_12, hF⟩ := bd_el hF
  refine wcI (ws' := [(h_this, oX8 ad_this v_signCount v_houseCount v_boatCount v_workCount q3 v_boatDayCost), (h_p1, oX3 ad_p1 v_p1_numberCount v_p1_letter v_p1_end), ((ad_p1 0), cI G 4 a_p1_numbers)]) (wc := [(h_p1, oX3 ad_p1 v_p1_numberCount v_p1_letter v_p1_end), ((ad_p1 0), cI G 4 a_p1_numbers)]) (wr := [(h_this, oX8 ad_this v_signCount v_houseCount v_boatCount v_workCount q3 v_boatDayCost)]) (w1 := [(h_p1, oX3 ad_p1 v_p1_numberCount v_p1_letter v_p1_end), ((ad_p1 0), cI G 4 a_p1_numbers)]) (va_runV (As := [.int 1]) (rest := [.ref h_this]) ⟨hx, hb, hml, hown, hg⟩ (c_X3_numberAt l G 1 h_p1 ad_p1 v_p1_numberCount v_p1_letter v_p1_end a_p1_numbers q12 c_12 H.size) (cwV 1 hg (gV wd_2_67 wd_2_68 wd_2_69 wd_1_3 wd_2_70) rfl rfl rfl hdV_X3_numberAt ⟨(Nat.le_of_ble_eq_true rfl), (Nat.le_of_ble_eq_true rfl)⟩) (preV hc hW [1, 2] rfl (by decide) rfl rfl) rfl rfl hl.1 rfl (lv_room (Nat.le_of_ble_eq_true rfl)) dX8_takeCosts_12 ⟨Nat.zero_le _, Nat.zero_le _⟩) hA hW [1, 2] [0] [0, 1, 2] rfl rfl (by decide) (by decide) rfl (by decide) (fun H locs hW => ?_)
  refine va_put (D := G.1) (ci := 7) (v := .int q12) (ty := .int) (C := RX8) (T := TX8) (N := 13) hx hb hg hu_X8 tyX8 tyX8_ok nmX8 hown hc.1 hW.1 hW.2.1 hW.2.2 0 rfl rfl 12 (by decide) (hg _ wd_1_88) (fun _ h9 => h9) rfl (by decide +kernel) rfl rfl (Nat.le_of_ble_eq_true rfl) dX8_takeCosts_15 (fun H locs hP hD hS => ?_)
  have hW : Wd G A s.heap [(h_this, oX8 ad_this v_signCount v_houseCount v_boatCount v_workCount q3 q12), (h_p1, oX3 ad_p1 v_p1_numberCount v_p1_letter v_p1_end), ((ad_p1 0), cI G 4 a_p1_numbers)] H locs := ⟨hP, hD, hS⟩
  refine lv_iconst (v := 1) hx hb dX8_takeCosts_18 (by decide) ?_
  obtain rfl := Option.some.inj hF
  exact hret _ _ _ _ hW (Or.inr rfl) dX8_takeCosts_19
theorem dX8_take_0 : decode cX8_take 0 = .ok (.aload_n 1, 1) := by decide +kernel
theorem dX8_take_1 : decode cX8_take 1 = .ok (.getfield 79, 3) := by decide +kernel
theorem dX8_take_4 : decode cX8_take 4 = .ok (.lookupswitch 82 #[(97, 52), (98, 70), (104, 64), (115, 58), (119, 76)], 52) := by decide +kernel
theorem dX8_take_56 : decode cX8_take 56 = .ok (.aload_n 0, 1) := by decide +kernel
theorem dX8_take_57 : decode cX8_take 57 = .ok (.aload_n 1, 1) := by decide +kernel
theorem dX8_take_58 : decode cX8_take 58 = .ok (.invokevirtual 82, 3) := by decide +kernel
theorem dX8_take_61 : decode cX8_take 61 = .ok (.ireturn, 1) := by decide +kernel
theorem dX8_take_62 : decode cX8_take 62 = .ok (.aload_n 0, 1) := by decide +kernel
theorem dX8_take_63 : decode cX8_take 63 = .ok (.aload_n 1, 1) := by decide +kernel
theorem dX8_take_64 : decode cX8_take 64 = .ok (.invokevirtual 85, 3) := by decide +kernel
theorem dX8_take_67 : decode cX8_take 67 = .ok (.ireturn, 1) := by decide +kernel
theorem dX8_take_68 : decode cX8_take 68 = .ok (.aload_n 0, 1) := by decide +kernel
theorem dX8_take_69 : decode cX8_take 69 = .ok (.aload_n 1, 1) := by decide +kernel
theorem dX8_take_70 : decode cX8_take 70 = .ok (.invokevirtual 88, 3) := by decide +kernel
theorem dX8_take_73 : decode cX8_take 73 = .ok (.ireturn, 1) := by decide +kernel
theorem dX8_take_74 : decode cX8_take 74 = .ok (.aload_n 0, 1) := by decide +kernel
theorem dX8_take_75 : decode cX8_take 75 = .ok (.aload_n 1, 1) := by decide +kernel
theorem dX8_take_76 : decode cX8_take 76 = .ok (.invokevirtual 91, 3) := by decide +kernel
theorem dX8_take_79 : decode cX8_take 79 = .ok (.ireturn, 1) := by decide +kernel
theorem dX8_take_80 : decode cX8_take 80 = .ok (.aload_n 0, 1) := by decide +kernel
theorem dX8_take_81 : decode cX8_take 81 = .ok (.aload_n 1, 1) := by decide +kernel
theorem dX8_take_82 : decode cX8_take 82 = .ok (.invokevirtual 94, 3) := by decide +kernel
theorem dX8_take_85 : decode cX8_take 85 = .ok (.ireturn, 1) := by decide +kernel
theorem dX8_take_86 : decode cX8_take 86 = .ok (.aload_n 0, 1) := by decide +kernel
theorem dX8_take_87 : decode cX8_take 87 = .ok (.aload_n 1, 1) := by decide +kernel
theorem dX8_take_88 : decode cX8_take 88 = .ok (.invokevirtual 97, 3) := by decide +kernel
theorem dX8_take_91 : decode cX8_take 91 = .ok (.ireturn, 1) := by decide +kernel
def F_X8_take (v_boatCount : Int32) (v_boatDayCost : Int32) (v_houseCount : Int32) (v_signCount : Int32) (v_turnCost : Int32) (v_workCount : Int32) (v_p1_letter : Int32) (a_p1_numbers : Nat → Int32) (a_boatRoom : Nat → Int32) (a_houseMinutes : Nat → Int32) (a_housePeople : Nat → Int32) (a_lighter : Nat → Int32) (a_signNumbers : Nat → Int32) (a_workGain : Nat → Int32) (a_workNoise : Nat → Int32) : Option (Int32 × Int32 × Int32 × Int32 × Int32 × Int32 × Int32 × (Nat → Int32) × (Nat → Int32) × (Nat → Int32) × (Nat → Int32) × (Nat → Int32) × (Nat → Int32) × (Nat → Int32)) := (if v_p1_letter = 97 then (F_X8_takeSleeps a_p1_numbers a_lighter).bind (fun q58 => some (q58.1, v_boatCount, v_boatDayCost, v_houseCount, v_signCount, v_turnCost, v_workCount, a_boatRoom, a_houseMinutes, a_housePeople, q58.2, a_signNumbers, a_workGain, a_workNoise)) else (if v_p1_letter = 98 then (F_X8_takeBoat v_boatCount a_p1_numbers a_boatRoom).bind (fun q76 => some (q76.1, q76.2.1, v_boatDayCost, v_houseCount, v_signCount, v_turnCost, v_workCount, q76.2.2, a_houseMinutes, a_housePeople, a_lighter, a_signNumbers, a_workGain, a_workNoise)) else (if v_p1_letter = 104 then (F_X8_takeHouse v_houseCount a_p1_numbers a_houseMinutes a_housePeople).bind (fun q70 => some (q70.1, v_boatCount, v_boatDayCost, q70.2.1, v_signCount, v_turnCost, v_workCount, a_boatRoom, q70.2.2.1, q70.2.2.2, a_lighter, a_signNumbers, a_workGain, a_workNoise)) else (if v_p1_letter = 115 then (F_X8_takeSign v_signCount a_p1_numbers a_signNumbers).bind (fun q64 => some (q64.1, v_boatCount, v_boatDayCost, v_houseCount, q64.2.1, v_turnCost, v_workCount, a_boatRoom, a_houseMinutes, a_housePeople, a_lighter, q64.2.2, a_workGain, a_workNoise)) else (if v_p1_letter = 119 then (F_X8_takeWorks v_workCount a_p1_numbers a_workGain a_workNoise).bind (fun q82 => some (q82.1, v_boatCount, v_boatDayCost, v_houseCount, v_signCount, v_turnCost, q82.2.1, a_boatRoom, a_houseMinutes, a_housePeople, a_lighter, a_signNumbers, q82.2.2.1, q82.2.2.2)) else (F_X8_takeCosts v_boatDayCost v_turnCost a_p1_numbers).bind (fun q88 => some (q88.1, v_boatCount, q88.2.1, v_houseCount, v_signCount, q88.2.2, v_workCount, a_boatRoom, a_houseMinutes, a_housePeople, a_lighter, a_signNumbers, a_workGain, a_workNoise)))))))
theorem hdV_X8_take : yX8_take.cls = RX8 ∧ yX8_take.cls ≠ "java/lang/invoke/MethodHandle" ∧ yX8_take.cls ≠ "java/lang/invoke/VarHandle" ∧ (parseMethodDescriptor yX8_take.desc).map (fun d => d.parameters.length) = some 1 := by decide +kernel
set_option maxHeartbeats 4000000 in
set_option maxRecDepth 100000 in
theorem c_X8_take (l : Launch) (G : GG) (h_this : Nat) (h_p1 : Nat) (ad_this : Nat → Nat) (ad_p1 : Nat → Nat) (v_signCount : Int32) (v_houseCount : Int32) (v_boatCount : Int32) (v_workCount : Int32) (v_turnCost : Int32) (v_boatDayCost : Int32) (v_p1_numberCount : Int32) (v_p1_letter : Int32) (v_p1_end : Int32) (a_p1_numbers : Nat → Int32) (a_boatRoom : Nat → Int32) (a_houseMinutes : Nat → Int32) (a_housePeople : Nat → Int32) (a_lighter : Nat → Int32) (a_signNumbers : Nat → Int32) (a_workGain : Nat → Int32) (a_workNoise : Nat → Int32) (out : Int32 × Int32 × Int32 × Int32 × Int32 × Int32 × Int32 × (Nat → Int32) × (Nat → Int32) × (Nat → Int32) × (Nat → Int32) × (Nat → Int32) × (Nat → Int32) × (Nat → Int32)) (hF : F_X8_take v_boatCount v_boatDayCost v_houseCount v_signCount v_turnCost v_workCount v_p1_letter a_p1_numbers a_boatRoom a_houseMinutes a_housePeople a_lighter a_signNumbers a_workGain a_workNoise = some out) : CtrZ l yX8_take (WS yX8_take cX8_take 2 (some .boolean)) { frames := 3, cells := 0, slots := 0, locals := 64 } G [.ref h_this, .ref h_p1] [(h_this, oX8 ad_this v_signCount v_houseCount v_boatCount v_workCount v_turnCost v_boatDayCost), (h_p1, oX3 ad_p1 v_p1_numberCount v_p1_letter v_p1_end), ((ad_p1 0), cI G 4 a_p1_numbers), ((ad_this 4), cI G 4 a_boatRoom), ((ad_this 3), cI G 6 a_houseMinutes), ((ad_this 2), cI G 6 a_housePeople), ((ad_this 0), cI G 3 a_lighter), ((ad_this 1), cI G 16 a_signNumbers), ((ad_this 6), cI G 5 a_workGain), ((ad_this 5), cI G 5 a_workNoise)] [(h_this, oX8 ad_this out.2.2.2.2.1 out.2.2.2.1 out.2.1 out.2.2.2.2.2.2.1 out.2.2.2.2.2.1 out.2.2.1), (h_p1, oX3 ad_p1 v_p1_numberCount v_p1_letter v_p1_end), ((ad_p1 0), cI G 4 a_p1_numbers), ((ad_this 4), cI G 4 out.2.2.2.2.2.2.2.1), ((ad_this 3), cI G 6 out.2.2.2.2.2.2.2.2.1), ((ad_this 2), cI G 6 out.2.2.2.2.2.2.2.2.2.1), ((ad_this 0), cI G 3 out.2.2.2.2.2.2.2.2.2.2.1), ((ad_this 1), cI G 16 out.2.2.2.2.2.2.2.2.2.2.2.1), ((ad_this 6), cI G 5 out.2.2.2.2.2.2.2.2.2.2.2.2.1), ((ad_this 5), cI G 5 out.2.2.2.2.2.2.2.2.2.2.2.2.2)] out.1 := by
  refine startZ (cc := cX8_take) (maxL := 2) (by decide) rfl (Nat.le_of_ble_eq_true rfl) ?_
  intro p e s m args below meth c A Q hx hb hml hts hown hc hA hret ls H locs hl hW
  have hown : s.vm.findClass RX8 = some m.cls := hown
  have hg : ∀ w ∈ GOODS, w.before _ s = true := fun w h => hts w (List.mem_cons_of_mem _ h)
  have hl : lv_has ls 2 [(0, .ref h_this), (1, .ref h_p1)] := hl
  rw [F_X8_take] at hF
  refine lv_aload_n hx hb dX8_take_0 rfl (lv_at hl 1 rfl) ?_
  refine va_get (D := G.1) (ci := 3) (v := .int v_p1_letter) (C := RX3) (T := TX3) (N := 4) hx hb hg hu_X3 hown hc.1 hW.1 1 rfl rfl 2 (by decide) (hg _ wd_1_51) (fun _ h9 => h9) rfl dX8_take_1 ?_
  by_cases w_4_97 : v_p1_letter = 97
  · have hF := ite_t hF w_4_97
    refine lv_lookup (off := 52) (tgt := 56) hx hb dX8_take_4 (by decide +kernel) (by rw [w_4_97]; decide +kernel) (by decide) ?_
    refine lv_aload_n hx hb dX8_take_56 rfl (lv_at hl 0 rfl) ?_
    refine lv_aload_n hx hb dX8_take_57 rfl (lv_at hl 1 rfl) ?_
    obtain ⟨q58, c_58, hF⟩ := bd_el hF
    refine wcZ (ws' := [(h_this, oX8 ad_this v_signCount v_houseCount v_boatCount v_workCount v_turnCost v_boatDayCost), (h_p1, oX3 ad_p1 v_p1_numberCount v_p1_letter v_p1_end), ((ad_p1 0), cI G 4 a_p1_numbers), ((ad_this 4), cI G 4 a_boatRoom), ((ad_this 3), cI G 6 a_houseMinutes), ((ad_this 2), cI G 6 a_housePeople), ((ad_this 0), cI G 3 q58.2), ((ad_this 1), cI G 16 a_signNumbers), ((ad_this 6), cI G 5 a_workGain), ((ad_this 5), cI G 5 a_workNoise)]) (wc := [(h_this, oX8 ad_this v_signCount v_houseCount v_boatCount v_workCount v_turnCost v_boatDayCost), (h_p1, oX3 ad_p1 v_p1_numberCount v_p1_letter v_p1_end), ((ad_p1 0), cI G 4 a_p1_numbers), ((ad_this 0), cI G 3 a_lighter)]) (wr := [((ad_this 4), cI G 4 a_boatRoom), ((ad_this 3), cI G 6 a_houseMinutes), ((ad_this 2), cI G 6 a_housePeople), ((ad_this 1), cI G 16 a_signNumbers), ((ad_this 6), cI G 5 a_workGain), ((ad_this 5), cI G 5 a_workNoise)]) (w1 := [(h_this, oX8 ad_this v_signCount v_houseCount v_boatCount v_workCount v_turnCost v_boatDayCost), (h_p1, oX3 ad_p1 v_p1_numberCount v_p1_letter v_p1_end), ((ad_p1 0), cI G 4 a_p1_numbers), ((ad_this 0), cI G 3 q58.2)]) (va_runV (As := [.ref h_p1]) (rest := []) ⟨hx, hb, hml, hown, hg⟩ (c_X8_takeSleeps l G h_this h_p1 ad_this ad_p1 v_signCount v_houseCount v_boatCount v_workCount v_turnCost v_boatDayCost v_p1_numberCount v_p1_letter v_p1_end a_p1_numbers a_lighter q58 c_58 H.size) (cwV 1 hg (gV wd_2_63 wd_2_65 wd_0_5 wd_1_4 wd_2_66) rfl rfl rfl hdV_X8_takeSleeps ⟨(Nat.le_of_ble_eq_true rfl), (Nat.le_of_ble_eq_true rfl)⟩) (preV hc hW [0, 1, 2, 6] rfl (by decide) rfl rfl) rfl rfl hl.1 rfl (lv_room (Nat.le_of_ble_eq_true rfl)) dX8_take_58 ⟨Nat.zero_le _, Nat.zero_le _⟩) hA hW [0, 1, 2, 6] [3, 4, 5, 7, 8, 9] [6, 7, 8, 0, 1, 2, 9, 3, 4, 5] rfl rfl (by decide) (by decide) rfl (by decide) (fun z_58 H locs hW => ?_)
    obtain rfl := Option.some.inj hF
    exact hret _ _ _ _ hW z_58 dX8_take_61
  have hF := ite_f hF w_4_97
  by_cases w_4_98 : v_p1_letter = 98
  · have hF := ite_t hF w_4_98
    refine lv_lookup (off := 70) (tgt := 74) hx hb dX8_take_4 (by decide +kernel) (by rw [w_4_98]; decide +kernel) (by decide) ?_
    refine lv_aload_n hx hb dX8_take_74 rfl (lv_at hl 0 rfl) ?_
    refine lv_aload_n hx hb dX8_take_75 rfl (lv_at hl 1 rfl) ?_
    obtain ⟨q76, c_76, hF⟩ := bd_el hF
    refine wcZ (ws' := [(h_this, oX8 ad_this v_signCount v_houseCount q76.2.1 v_workCount v_turnCost v_boatDayCost), (h_p1, oX3 ad_p1 v_p1_numberCount v_p1_letter v_p1_end), ((ad_p1 0), cI G 4 a_p1_numbers), ((ad_this 4), cI G 4 q76.2.2), ((ad_this 3), cI G 6 a_houseMinutes), ((ad_this 2), cI G 6 a_housePeople), ((ad_this 0), cI G 3 a_lighter), ((ad_this 1), cI G 16 a_signNumbers), ((ad_this 6), cI G 5 a_workGain), ((ad_this 5), cI G 5 a_workNoise)]) (wc := [(h_this, oX8 ad_this v_signCount v_houseCount v_boatCount v_workCount v_turnCost v_boatDayCost), (h_p1, oX3 ad_p1 v_p1_numberCount v_p1_letter v_p1_end), ((ad_p1 0), cI G 4 a_p1_numbers), ((ad_this 4), cI G 4 a_boatRoom)]) (wr := [((ad_this 3), cI G 6 a_houseMinutes), ((ad_this 2), cI G 6 a_housePeople), ((ad_this 0), cI G 3 a_lighter), ((ad_this 1), cI G 16 a_signNumbers), ((ad_this 6), cI G 5 a_workGain), ((ad_this 5), cI G 5 a_workNoise)]) (w1 := [(h_this, oX8 ad_this v_signCount v_houseCount q76.2.1 v_workCount v_turnCost v_boatDayCost), (h_p1, oX3 ad_p1 v_p1_numberCount v_p1_letter v_p1_end), ((ad_p1 0), cI G 4 a_p1_numbers), ((ad_this 4), cI G 4 q76.2.2)]) (va_runV (As := [.ref h_p1]) (rest := []) ⟨hx, hb, hml, hown, hg⟩ (c_X8_takeBoat l G h_this h_p1 ad_this ad_p1 v_signCount v_houseCount v_boatCount v_workCount v_turnCost v_boatDayCost v_p1_numberCount v_p1_letter v_p1_end a_p1_numbers a_boatRoom q76 c_76 H.size) (cwV 1 hg (gV wd_2_79 wd_2_81 wd_0_8 wd_1_4 wd_2_82) rfl rfl rfl hdV_X8_takeBoat ⟨(Nat.le_of_ble_eq_true rfl), (Nat.le_of_ble_eq_true rfl)⟩) (preV hc hW [0, 1, 2, 3] rfl (by decide) rfl rfl) rfl rfl hl.1 rfl (lv_room (Nat.le_of_ble_eq_true rfl)) dX8_take_76 ⟨Nat.zero_le _, Nat.zero_le _⟩) hA hW [0, 1, 2, 3] [4, 5, 6, 7, 8, 9] [6, 7, 8, 9, 0, 1, 2, 3, 4, 5] rfl rfl (by decide) (by decide) rfl (by decide) (fun z_76 H locs hW => ?_)
    obtain rfl := Option.some.inj hF
    exact hret _ _ _ _ hW z_76 dX8_take_79
  have hF := ite_f hF w_4_98
  by_cases w_4_104 : v_p1_letter = 104
  · have hF := ite_t hF w_4_104
    refine lv_lookup (off := 64) (tgt := 68) hx hb dX8_take_4 (by decide +kernel) (by rw [w_4_104]; decide +kernel) (by decide) ?_
    refine lv_aload_n hx hb dX8_take_68 rfl (lv_at hl 0 rfl) ?_
    refine lv_aload_n hx hb dX8_take_69 rfl (lv_at hl 1 rfl) ?_
    obtain ⟨q70, c_70, hF⟩ := bd_el hF
    refine wcZ (ws' := [(h_this, oX8 ad_this v_signCount q70.2.1 v_boatCount v_workCount v_turnCost v_boatDayCost), (h_p1, oX3 ad_p1 v_p1_numberCount v_p1_letter v_p1_end), ((ad_p1 0), cI G 4 a_p1_numbers), ((ad_this 4), cI G 4 a_boatRoom), ((ad_this 3), cI G 6 q70.2.2.1), ((ad_this 2), cI G 6 q70.2.2.2), ((ad_this 0), cI G 3 a_lighter), ((ad_this 1), cI G 16 a_signNumbers), ((ad_this 6), cI G 5 a_workGain), ((ad_this 5), cI G 5 a_workNoise)]) (wc := [(h_this, oX8 ad_this v_signCount v_houseCount v_boatCount v_workCount v_turnCost v_boatDayCost), (h_p1, oX3 ad_p1 v_p1_numberCount v_p1_letter v_p1_end), ((ad_p1 0), cI G 4 a_p1_numbers), ((ad_this 3), cI G 6 a_houseMinutes), ((ad_this 2), cI G 6 a_housePeople)]) (wr := [((ad_this 4), cI G 4 a_boatRoom), ((ad_this 0), cI G 3 a_lighter), ((ad_this 1), cI G 16 a_signNumbers), ((ad_this 6), cI G 5 a_workGain), ((ad_this 5), cI G 5 a_workNoise)]) (w1 := [(h_this, oX8 ad_this v_signCount q70.2.1 v_boatCount v_workCount v_turnCost v_boatDayCost), (h_p1, oX3 ad_p1 v_p1_numberCount v_p1_letter v_p1_end), ((ad_p1 0), cI G 4 a_p1_numbers), ((ad_this 3), cI G 6 q70.2.2.1), ((ad_this 2), cI G 6 q70.2.2.2)]) (va_runV (As := [.ref h_p1]) (rest := []) ⟨hx, hb, hml, hown, hg⟩ (c_X8_takeHouse l G h_this h_p1 ad_this ad_p1 v_signCount v_houseCount v_boatCount v_workCount v_turnCost v_boatDayCost v_p1_numberCount v_p1_letter v_p1_end a_p1_numbers a_houseMinutes a_housePeople q70 c_70 H.size) (cwV 1 hg (gV wd_2_75 wd_2_77 wd_0_7 wd_1_4 wd_2_78) rfl rfl rfl hdV_X8_takeHouse ⟨(Nat.le_of_ble_eq_true rfl), (Nat.le_of_ble_eq_true rfl)⟩) (preV hc hW [0, 1, 2, 4, 5] rfl (by decide) rfl rfl) rfl rfl hl.1 rfl (lv_room (Nat.le_of_ble_eq_true rfl)) dX8_take_70 ⟨Nat.zero_le _, Nat.zero_le _⟩) hA hW [0, 1, 2, 4, 5] [3, 6, 7, 8, 9] [5, 6, 7, 0, 8, 9, 1, 2, 3, 4] rfl rfl (by decide) (by decide) rfl (by decide) (fun z_70 H locs hW => ?_)
    obtain rfl := Option.some.inj hF
    exact hret _ _ _ _ hW z_70 dX8_take_73
  have hF := ite_f hF w_4_104
  by_cases w_4_115 : v_p1_letter = 115
  · have hF := ite_t hF w_4_115
    refine lv_lookup (off := 58) (tgt := 62) hx hb dX8_take_4 (by decide +kernel) (by rw [w_4_115]; decide +kernel) (by decide) ?_
    refine lv_aload_n hx hb dX8_take_62 rfl (lv_at hl 0 rfl) ?_
    refine lv_aload_n hx hb dX8_take_63 rfl (lv_at hl 1 rfl) ?_
    obtain ⟨q64, c_64, hF⟩ := bd_el hF
    refine wcZ (ws' := [(h_this, oX8 ad_this q64.2.1 v_houseCount v_boatCount v_workCount v_turnCost v_boatDayCost), (h_p1, oX3 ad_p1 v_p1_numberCount v_p1_letter v_p1_end), ((ad_p1 0), cI G 4 a_p1_numbers), ((ad_this 4), cI G 4 a_boatRoom), ((ad_this 3), cI G 6 a_houseMinutes), ((ad_this 2), cI G 6 a_housePeople), ((ad_this 0), cI G 3 a_lighter), ((ad_this 1), cI G 16 q64.2.2), ((ad_this 6), cI G 5 a_workGain), ((ad_this 5), cI G 5 a_workNoise)]) (wc := [(h_this, oX8 ad_this v_signCount v_houseCount v_boatCount v_workCount v_turnCost v_boatDayCost), (h_p1, oX3 ad_p1 v_p1_numberCount v_p1_letter v_p1_end), ((ad_p1 0), cI G 4 a_p1_numbers), ((ad_this 1), cI G 16 a_signNumbers)]) (wr := [((ad_this 4), cI G 4 a_boatRoom), ((ad_this 3), cI G 6 a_houseMinutes), ((ad_this 2), cI G 6 a_housePeople), ((ad_this 0), cI G 3 a_lighter), ((ad_this 6), cI G 5 a_workGain), ((ad_this 5), cI G 5 a_workNoise)]) (w1 := [(h_this, oX8 ad_this q64.2.1 v_houseCount v_boatCount v_workCount v_turnCost v_boatDayCost), (h_p1, oX3 ad_p1 v_p1_numberCount v_p1_letter v_p1_end), ((ad_p1 0), cI G 4 a_p1_numbers), ((ad_this 1), cI G 16 q64.2.2)]) (va_runV (As := [.ref h_p1]) (rest := []) ⟨hx, hb, hml, hown, hg⟩ (c_X8_takeSign l G h_this h_p1 ad_this ad_p1 v_signCount v_houseCount v_boatCount v_workCount v_turnCost v_boatDayCost v_p1_numberCount v_p1_letter v_p1_end a_p1_numbers a_signNumbers q64 c_64 H.size) (cwV 1 hg (gV wd_2_71 wd_2_73 wd_0_6 wd_1_4 wd_2_74) rfl rfl rfl hdV_X8_takeSign ⟨(Nat.le_of_ble_eq_true rfl), (Nat.le_of_ble_eq_true rfl)⟩) (preV hc hW [0, 1, 2, 7] rfl (by decide) rfl rfl) rfl rfl hl.1 rfl (lv_room (Nat.le_of_ble_eq_true rfl)) dX8_take_64 ⟨Nat.zero_le _, Nat.zero_le _⟩) hA hW [0, 1, 2, 7] [3, 4, 5, 6, 8, 9] [6, 7, 8, 0, 1, 2, 3, 9, 4, 5] rfl rfl (by decide) (by decide) rfl (by decide) (fun z_64 H locs hW => ?_)
    obtain rfl := Option.some.inj hF
    exact hret _ _ _ _ hW z_64 dX8_take_67
  have hF := ite_f hF w_4_115
  by_cases w_4_119 : v_p1_letter = 119
  · have hF := ite_t hF w_4_119
    refine lv_lookup (off := 76) (tgt := 80) hx hb dX8_take_4 (by decide +kernel) (by rw [w_4_119]; decide +kernel) (by decide) ?_
    refine lv_aload_n hx hb dX8_take_80 rfl (lv_at hl 0 rfl) ?_
    refine lv_aload_n hx hb dX8_take_81 rfl (lv_at hl 1 rfl) ?_
    obtain ⟨q82, c_82, hF⟩ := bd_el hF
    refine wcZ (ws' := [(h_this, oX8 ad_this v_signCount v_houseCount v_boatCount q82.2.1 v_turnCost v_boatDayCost), (h_p1, oX3 ad_p1 v_p1_numberCount v_p1_letter v_p1_end), ((ad_p1 0), cI G 4 a_p1_numbers), ((ad_this 4), cI G 4 a_boatRoom), ((ad_this 3), cI G 6 a_houseMinutes), ((ad_this 2), cI G 6 a_housePeople), ((ad_this 0), cI G 3 a_lighter), ((ad_this 1), cI G 16 a_signNumbers), ((ad_this 6), cI G 5 q82.2.2.1), ((ad_this 5), cI G 5 q82.2.2.2)]) (wc := [(h_this, oX8 ad_this v_signCount v_houseCount v_boatCount v_workCount v_turnCost v_boatDayCost), (h_p1, oX3 ad_p1 v_p1_numberCount v_p1_letter v_p1_end), ((ad_p1 0), cI G 4 a_p1_numbers), ((ad_this 6), cI G 5 a_workGain), ((ad_this 5), cI G 5 a_workNoise)]) (wr := [((ad_this 4), cI G 4 a_boatRoom), ((ad_this 3), cI G 6 a_houseMinutes), ((ad_this 2), cI G 6 a_housePeople), ((ad_this 0), cI G 3 a_lighter), ((ad_this 1), cI G 16 a_signNumbers)]) (w1 := [(h_this, oX8 ad_this v_signCount v_houseCount v_boatCount q82.2.1 v_turnCost v_boatDayCost), (h_p1, oX3 ad_p1 v_p1_numberCount v_p1_letter v_p1_end), ((ad_p1 0), cI G 4 a_p1_numbers), ((ad_this 6), cI G 5 q82.2.2.1), ((ad_this 5), cI G 5 q82.2.2.2)]) (va_runV (As := [.ref h_p1]) (rest := []) ⟨hx, hb, hml, hown, hg⟩ (c_X8_takeWorks l G h_this h_p1 ad_this ad_p1 v_signCount v_houseCount v_boatCount v_workCount v_turnCost v_boatDayCost v_p1_numberCount v_p1_letter v_p1_end a_p1_numbers a_workGain a_workNoise q82 c_82 H.size) (cwV 1 hg (gV wd_2_83 wd_2_85 wd_0_9 wd_1_4 wd_2_86) rfl rfl rfl hdV_X8_takeWorks ⟨(Nat.le_of_ble_eq_true rfl), (Nat.le_of_ble_eq_true rfl)⟩) (preV hc hW [0, 1, 2, 8, 9] rfl (by decide) rfl rfl) rfl rfl hl.1 rfl (lv_room (Nat.le_of_ble_eq_true rfl)) dX8_take_82 ⟨Nat.zero_le _, Nat.zero_le _⟩) hA hW [0, 1, 2, 8, 9] [3, 4, 5, 6, 7] [5, 6, 7, 0, 1, 2, 3, 4, 8, 9] rfl rfl (by decide) (by decide) rfl (by decide) (fun z_82 H locs hW => ?_)
    obtain rfl := Option.some.inj hF
    exact hret _ _ _ _ hW z_82 dX8_take_85
  have hF := ite_f hF w_4_119
  refine lv_lookup (off := 82) (tgt := 86) hx hb dX8_take_4 (by decide +kernel) (by simp only [Op.lookupswitch.offset, if_neg (i32_ne (k := 97) rfl w_4_97), if_neg (i32_ne (k := 98) rfl w_4_98), if_neg (i32_ne (k := 104) rfl w_4_104), if_neg (i32_ne (k := 115) rfl w_4_115), if_neg (i32_ne (k := 119) rfl w_4_119)]) (by decide) ?_
  refine lv_aload_n hx hb dX8_take_86 rfl (lv_at hl 0 rfl) ?_
  refine lv_aload_n hx hb dX8_take_87 rfl (lv_at hl 1 rfl) ?_
  obtain ⟨q88, c_88, hF⟩ := bd_el hF
  refine wcZ (ws' := [(h_this, oX8 ad_this v_signCount v_houseCount v_boatCount v_workCount q88.2.2 q88.2.1), (h_p1, oX3 ad_p1 v_p1_numberCount v_p1_letter v_p1_end), ((ad_p1 0), cI G 4 a_p1_numbers), ((ad_this 4), cI G 4 a_boatRoom), ((ad_this 3), cI G 6 a_houseMinutes), ((ad_this 2), cI G 6 a_housePeople), ((ad_this 0), cI G 3 a_lighter), ((ad_this 1), cI G 16 a_signNumbers), ((ad_this 6), cI G 5 a_workGain), ((ad_this 5), cI G 5 a_workNoise)]) (wc := [(h_this, oX8 ad_this v_signCount v_houseCount v_boatCount v_workCount v_turnCost v_boatDayCost), (h_p1, oX3 ad_p1 v_p1_numberCount v_p1_letter v_p1_end), ((ad_p1 0), cI G 4 a_p1_numbers)]) (wr := [((ad_this 4), cI G 4 a_boatRoom), ((ad_this 3), cI G 6 a_houseMinutes), ((ad_this 2), cI G 6 a_housePeople), ((ad_this 0), cI G 3 a_lighter), ((ad_this 1), cI G 16 a_signNumbers), ((ad_this 6), cI G 5 a_workGain), ((ad_this 5), cI G 5 a_workNoise)]) (w1 := [(h_this, oX8 ad_this v_signCount v_houseCount v_boatCount v_workCount q88.2.2 q88.2.1), (h_p1, oX3 ad_p1 v_p1_numberCount v_p1_letter v_p1_end), ((ad_p1 0), cI G 4 a_p1_numbers)]) (va_runV (As := [.ref h_p1]) (rest := []) ⟨hx, hb, hml, hown, hg⟩ (c_X8_takeCosts l G h_this h_p1 ad_this ad_p1 v_signCount v_houseCount v_boatCount v_workCount v_turnCost v_boatDayCost v_p1_numberCount v_p1_letter v_p1_end a_p1_numbers q88 c_88 H.size) (cwV 1 hg (gV wd_2_87 wd_2_89 wd_0_10 wd_1_4 wd_2_90) rfl rfl rfl hdV_X8_takeCosts ⟨(Nat.le_of_ble_eq_true rfl), (Nat.le_of_ble_eq_true rfl)⟩) (preV hc hW [0, 1, 2] rfl (by decide) rfl rfl) rfl rfl hl.1 rfl (lv_room (Nat.le_of_ble_eq_true rfl)) dX8_take_88 ⟨Nat.zero_le _, Nat.zero_le _⟩) hA hW [0, 1, 2] [3, 4, 5, 6, 7, 8, 9] [7, 8, 9, 0, 1, 2, 3, 4, 5, 6] rfl rfl (by decide) (by decide) rfl (by decide) (fun z_88 H locs hW => ?_)
  obtain rfl := Option.some.inj hF
  exact hret _ _ _ _ hW z_88 dX8_take_91
theorem dX8_readFrom_0 : decode cX8_readFrom 0 = .ok (.aload_n 0, 1) := by decide +kernel
theorem dX8_readFrom_1 : decode cX8_readFrom 1 = .ok (.invokevirtual 33, 3) := by decide +kernel
theorem dX8_readFrom_4 : decode cX8_readFrom 4 = .ok (.iconst 0, 1) := by decide +kernel
theorem dX8_readFrom_5 : decode cX8_readFrom 5 = .ok (.istore_n 3, 1) := by decide +kernel
theorem dX8_readFrom_6 : decode cX8_readFrom 6 = .ok (.iconst 0, 1) := by decide +kernel
theorem dX8_readFrom_7 : decode cX8_readFrom 7 = .ok (.istore 4, 2) := by decide +kernel
theorem dX8_readFrom_9 : decode cX8_readFrom 9 = .ok (.iload 4, 2) := by decide +kernel
theorem dX8_readFrom_11 : decode cX8_readFrom 11 = .ok (.sipush 200, 3) := by decide +kernel
theorem dX8_readFrom_14 : decode cX8_readFrom 14 = .ok (.if_icmp .ge 41, 3) := by decide +kernel
theorem dX8_readFrom_17 : decode cX8_readFrom 17 = .ok (.iload_n 3, 1) := by decide +kernel
theorem dX8_readFrom_18 : decode cX8_readFrom 18 = .ok (.aload_n 1, 1) := by decide +kernel
theorem dX8_readFrom_19 : decode cX8_readFrom 19 = .ok (.getfield 38, 3) := by decide +kernel
theorem dX8_readFrom_22 : decode cX8_readFrom 22 = .ok (.if_icmp .ge 33, 3) := by decide +kernel
theorem dX8_readFrom_25 : decode cX8_readFrom 25 = .ok (.aload_n 2, 1) := by decide +kernel
theorem dX8_readFrom_26 : decode cX8_readFrom 26 = .ok (.aload_n 1, 1) := by decide +kernel
theorem dX8_readFrom_27 : decode cX8_readFrom 27 = .ok (.iload_n 3, 1) := by decide +kernel
theorem dX8_readFrom_28 : decode cX8_readFrom 28 = .ok (.invokevirtual 42, 3) := by decide +kernel
theorem dX8_readFrom_31 : decode cX8_readFrom 31 = .ok (.ifCond .eq 11, 3) := by decide +kernel
theorem dX8_readFrom_34 : decode cX8_readFrom 34 = .ok (.aload_n 0, 1) := by decide +kernel
theorem dX8_readFrom_35 : decode cX8_readFrom 35 = .ok (.aload_n 2, 1) := by decide +kernel
theorem dX8_readFrom_36 : decode cX8_readFrom 36 = .ok (.invokevirtual 48, 3) := by decide +kernel
theorem dX8_readFrom_39 : decode cX8_readFrom 39 = .ok (.ifCond .ne 5, 3) := by decide +kernel
theorem dX8_readFrom_42 : decode cX8_readFrom 42 = .ok (.iload_n 3, 1) := by decide +kernel
theorem dX8_readFrom_43 : decode cX8_readFrom 43 = .ok (.ireturn, 1) := by decide +kernel
theorem dX8_readFrom_44 : decode cX8_readFrom 44 = .ok (.aload_n 2, 1) := by decide +kernel
theorem dX8_readFrom_45 : decode cX8_readFrom 45 = .ok (.getfield 52, 3) := by decide +kernel
theorem dX8_readFrom_48 : decode cX8_readFrom 48 = .ok (.istore_n 3, 1) := by decide +kernel
theorem dX8_readFrom_49 : decode cX8_readFrom 49 = .ok (.iinc 4 1, 3) := by decide +kernel
theorem dX8_readFrom_52 : decode cX8_readFrom 52 = .ok (.goto (-43), 3) := by decide +kernel
theorem dX8_readFrom_55 : decode cX8_readFrom 55 = .ok (.bipush (-4), 2) := by decide +kernel
theorem dX8_readFrom_57 : decode cX8_readFrom 57 = .ok (.ireturn, 1) := by decide +kernel
def L_X8_readFrom_9 (v_p1_length : Int32) (a_p1_letters : Nat → Int32)  : Nat → Int32 → Int32 → Int32 → Int32 → Int32 → Int32 → Int32 → Int32 → Int32 → Int32 → Int32 → (Nat → Int32) → (Nat → Int32) → (Nat → Int32) → (Nat → Int32) → (Nat → Int32) → (Nat → Int32) → (Nat → Int32) → (Nat → Int32) → Option (Int32 × Int32 × Int32 × Int32 × Int32 × Int32 × Int32 × Int32 × Int32 × Int32 × (Nat → Int32) × (Nat → Int32) × (Nat → Int32) × (Nat → Int32) × (Nat → Int32) × (Nat → Int32) × (Nat → Int32) × (Nat → Int32))
  | 0, _, _, _, _, _, _, _, _, _, _, _, _, _, _, _, _, _, _, _ => none
  | n + 1, x3_9, x4_9, v_boatCount_9, v_boatDayCost_9, v_houseCount_9, v_signCount_9, v_turnCost_9, v_workCount_9, v_p2_end_9, v_p2_letter_9, v_p2_numberCount_9, a_p2_numbers_9, a_boatRoom_9, a_houseMinutes_9, a_housePeople_9, a_lighter_9, a_signNumbers_9, a_workGain_9, a_workNoise_9 => (if 200 ≤ x4_9 then some ((-4), v_boatCount_9, v_boatDayCost_9, v_houseCount_9, v_signCount_9, v_turnCost_9, v_workCount_9, v_p2_end_9, v_p2_letter_9, v_p2_numberCount_9, a_p2_numbers_9, a_boatRoom_9, a_houseMinutes_9, a_housePeople_9, a_lighter_9, a_signNumbers_9, a_workGain_9, a_workNoise_9) else (if v_p1_length ≤ x3_9 then some ((-4), v_boatCount_9, v_boatDayCost_9, v_houseCount_9, v_signCount_9, v_turnCost_9, v_workCount_9, v_p2_end_9, v_p2_letter_9, v_p2_numberCount_9, a_p2_numbers_9, a_boatRoom_9, a_houseMinutes_9, a_housePeople_9, a_lighter_9, a_signNumbers_9, a_workGain_9, a_workNoise_9) else (F_X3_readAt x3_9 v_p2_end_9 v_p2_letter_9 v_p2_numberCount_9 v_p1_length a_p1_letters a_p2_numbers_9).bind (fun q28 => (if q28.1 = 0 then some (x3_9, v_boatCount_9, v_boatDayCost_9, v_houseCount_9, v_signCount_9, v_turnCost_9, v_workCount_9, q28.2.1, q28.2.2.1, q28.2.2.2.1, q28.2.2.2.2, a_boatRoom_9, a_houseMinutes_9, a_housePeople_9, a_lighter_9, a_signNumbers_9, a_workGain_9, a_workNoise_9) else (F_X8_take v_boatCount_9 v_boatDayCost_9 v_houseCount_9 v_signCount_9 v_turnCost_9 v_workCount_9 q28.2.2.1 q28.2.2.2.2 a_boatRoom_9 a_houseMinutes_9 a_housePeople_9 a_lighter_9 a_signNumbers_9 a_workGain_9 a_workNoise_9).bind (fun q36 => (if q36.1 = 0 then some (x3_9, q36.2.1, q36.2.2.1, q36.2.2.2.1, q36.2.2.2.2.1, q36.2.2.2.2.2.1, q36.2.2.2.2.2.2.1, q28.2.1, q28.2.2.1, q28.2.2.2.1, q28.2.2.2.2, q36.2.2.2.2.2.2.2.1, q36.2.2.2.2.2.2.2.2.1, q36.2.2.2.2.2.2.2.2.2.1, q36.2.2.2.2.2.2.2.2.2.2.1, q36.2.2.2.2.2.2.2.2.2.2.2.1, q36.2.2.2.2.2.2.2.2.2.2.2.2.1, q36.2.2.2.2.2.2.2.2.2.2.2.2.2) else L_X8_readFrom_9 v_p1_length a_p1_letters n q28.2.1 ((x4_9 + 1)) q36.2.1 q36.2.2.1 q36.2.2.2.1 q36.2.2.2.2.1 q36.2.2.2.2.2.1 q36.2.2.2.2.2.2.1 q28.2.1 q28.2.2.1 q28.2.2.2.1 q28.2.2.2.2 q36.2.2.2.2.2.2.2.1 q36.2.2.2.2.2.2.2.2.1 q36.2.2.2.2.2.2.2.2.2.1 q36.2.2.2.2.2.2.2.2.2.2.1 q36.2.2.2.2.2.2.2.2.2.2.2.1 q36.2.2.2.2.2.2.2.2.2.2.2.2.1 q36.2.2.2.2.2.2.2.2.2.2.2.2.2))))))
def F_X8_readFrom (v_boatCount : Int32) (v_boatDayCost : Int32) (v_houseCount : Int32) (v_signCount : Int32) (v_turnCost : Int32) (v_workCount : Int32) (v_p1_length : Int32) (a_p1_letters : Nat → Int32) (v_p2_end : Int32) (v_p2_letter : Int32) (v_p2_numberCount : Int32) (a_p2_numbers : Nat → Int32) (a_boatRoom : Nat → Int32) (a_houseMinutes : Nat → Int32) (a_housePeople : Nat → Int32) (a_lighter : Nat → Int32) (a_signNumbers : Nat → Int32) (a_workGain : Nat → Int32) (a_workNoise : Nat → Int32) : Option (Int32 × Int32 × Int32 × Int32 × Int32 × Int32 × Int32 × Int32 × Int32 × Int32 × (Nat → Int32) × (Nat → Int32) × (Nat → Int32) × (Nat → Int32) × (Nat → Int32) × (Nat → Int32) × (Nat → Int32) × (Nat → Int32)) := (F_X8_startOver v_boatCount v_boatDayCost v_houseCount v_signCount v_turnCost v_workCount a_lighter).bind (fun q1 => L_X8_readFrom_9 v_p1_length a_p1_letters 5000 0 0 q1.1 q1.2.1 q1.2.2.1 q1.2.2.2.1 q1.2.2.2.2.1 q1.2.2.2.2.2.1 v_p2_end v_p2_letter v_p2_numberCount a_p2_numbers a_boatRoom a_houseMinutes a_housePeople q1.2.2.2.2.2.2 a_signNumbers a_workGain a_workNoise)
theorem hdV_X8_readFrom : yX8_readFrom.cls = RX8 ∧ yX8_readFrom.cls ≠ "java/lang/invoke/MethodHandle" ∧ yX8_readFrom.cls ≠ "java/lang/invoke/VarHandle" ∧ (parseMethodDescriptor yX8_readFrom.desc).map (fun d => d.parameters.length) = some 2 := by decide +kernel
set_option maxHeartbeats 4000000 in
set_option maxRecDepth 100000 in
theorem c_X8_readFrom (l : Launch) (G : GG) (h_this : Nat) (h_p1 : Nat) (h_p2 : Nat) (ad_this : Nat → Nat) (ad_p1 : Nat → Nat) (ad_p2 : Nat → Nat) (v_signCount : Int32) (v_houseCount : Int32) (v_boatCount : Int32) (v_workCount : Int32) (v_turnCost : Int32) (v_boatDayCost : Int32) (v_p1_length : Int32) (a_p1_letters : Nat → Int32) (v_p2_numberCount : Int32) (v_p2_letter : Int32) (v_p2_end : Int32) (a_p2_numbers : Nat → Int32) (a_boatRoom : Nat → Int32) (a_houseMinutes : Nat → Int32) (a_housePeople : Nat → Int32) (a_lighter : Nat → Int32) (a_signNumbers : Nat → Int32) (a_workGain : Nat → Int32) (a_workNoise : Nat → Int32) (out : Int32 × Int32 × Int32 × Int32 × Int32 × Int32 × Int32 × Int32 × Int32 × Int32 × (Nat → Int32) × (Nat → Int32) × (Nat → Int32) × (Nat → Int32) × (Nat → Int32) × (Nat → Int32) × (Nat → Int32) × (Nat → Int32)) (hF : F_X8_readFrom v_boatCount v_boatDayCost v_houseCount v_signCount v_turnCost v_workCount v_p1_length a_p1_letters v_p2_end v_p2_letter v_p2_numberCount a_p2_numbers a_boatRoom a_houseMinutes a_housePeople a_lighter a_signNumbers a_workGain a_workNoise = some out) : CtrI l yX8_readFrom (WS yX8_readFrom cX8_readFrom 5 (some .int)) { frames := 4, cells := 0, slots := 0, locals := 91 } G [.ref h_this, .ref h_p1, .ref h_p2] [(h_this, oX8 ad_this v_signCount v_houseCount v_boatCount v_workCount v_turnCost v_boatDayCost), (h_p1, oX6 ad_p1 v_p1_length), ((ad_p1 0), cI G 200 a_p1_letters), (h_p2, oX3 ad_p2 v_p2_numberCount v_p2_letter v_p2_end), ((ad_p2 0), cI G 4 a_p2_numbers), ((ad_this 4), cI G 4 a_boatRoom), ((ad_this 3), cI G 6 a_houseMinutes), ((ad_this 2), cI G 6 a_housePeople), ((ad_this 0), cI G 3 a_lighter), ((ad_this 1), cI G 16 a_signNumbers), ((ad_this 6), cI G 5 a_workGain), ((ad_this 5), cI G 5 a_workNoise)] [(h_this, oX8 ad_this out.2.2.2.2.1 out.2.2.2.1 out.2.1 out.2.2.2.2.2.2.1 out.2.2.2.2.2.1 out.2.2.1), (h_p1, oX6 ad_p1 v_p1_length), ((ad_p1 0), cI G 200 a_p1_letters), (h_p2, oX3 ad_p2 out.2.2.2.2.2.2.2.2.2.1 out.2.2.2.2.2.2.2.2.1 out.2.2.2.2.2.2.2.1), ((ad_p2 0), cI G 4 out.2.2.2.2.2.2.2.2.2.2.1), ((ad_this 4), cI G 4 out.2.2.2.2.2.2.2.2.2.2.2.1), ((ad_this 3), cI G 6 out.2.2.2.2.2.2.2.2.2.2.2.2.1), ((ad_this 2), cI G 6 out.2.2.2.2.2.2.2.2.2.2.2.2.2.1), ((ad_this 0), cI G 3 out.2.2.2.2.2.2.2.2.2.2.2.2.2.2.1), ((ad_this 1), cI G 16 out.2.2.2.2.2.2.2.2.2.2.2.2.2.2.2.1), ((ad_this 6), cI G 5 out.2.2.2.2.2.2.2.2.2.2.2.2.2.2.2.2.1), ((ad_this 5), cI G 5 out.2.2.2.2.2.2.2.2.2.2.2.2.2.2.2.2.2)] out.1 := by
  refine startI (cc := cX8_readFrom) (maxL := 5) (by decide) rfl (Nat.le_of_ble_eq_true rfl) ?_
  intro p e s m args below meth c A Q hx hb hml hts hown hc hA hret ls H locs hl hW
  have hown : s.vm.findClass RX8 = some m.cls := hown
  have hg : ∀ w ∈ GOODS, w.before _ s = true := fun w h => hts w (List.mem_cons_of_mem _ h)
  have hl : lv_has ls 5 [(0, .ref h_this), (1, .ref h_p1), (2, .ref h_p2)] := hl
  rw [F_X8_readFrom] at hF
  refine lv_aload_n hx hb dX8_readFrom_0 rfl (lv_at hl 0 rfl) ?_
  obtain ⟨q1, c_1, hF⟩ := bd_el hF
  refine wcV (ws' := [(h_this, oX8 ad_this q1.2.2.2.1 q1.2.2.1 q1.1 q1.2.2.2.2.2.1 q1.2.2.2.2.1 q1.2.1), (h_p1, oX6 ad_p1 v_p1_length), ((ad_p1 0), cI G 200 a_p1_letters), (h_p2, oX3 ad_p2 v_p2_numberCount v_p2_letter v_p2_end), ((ad_p2 0), cI G 4 a_p2_numbers), ((ad_this 4), cI G 4 a_boatRoom), ((ad_this 3), cI G 6 a_houseMinutes), ((ad_this 2), cI G 6 a_housePeople), ((ad_this 0), cI G 3 q1.2.2.2.2.2.2), ((ad_this 1), cI G 16 a_signNumbers), ((ad_this 6), cI G 5 a_workGain), ((ad_this 5), cI G 5 a_workNoise)]) (wc := [(h_this, oX8 ad_this v_signCount v_houseCount v_boatCount v_workCount v_turnCost v_boatDayCost), ((ad_this 0), cI G 3 a_lighter)]) (wr := [(h_p1, oX6 ad_p1 v_p1_length), ((ad_p1 0), cI G 200 a_p1_letters), (h_p2, oX3 ad_p2 v_p2_numberCount v_p2_letter v_p2_end), ((ad_p2 0), cI G 4 a_p2_numbers), ((ad_this 4), cI G 4 a_boatRoom), ((ad_this 3), cI G 6 a_houseMinutes), ((ad_this 2), cI G 6 a_housePeople), ((ad_this 1), cI G 16 a_signNumbers), ((ad_this 6), cI G 5 a_workGain), ((ad_this 5), cI G 5 a_workNoise)]) (w1 := [(h_this, oX8 ad_this q1.2.2.2.1 q1.2.2.1 q1.1 q1.2.2.2.2.2.1 q1.2.2.2.2.1 q1.2.1), ((ad_this 0), cI G 3 q1.2.2.2.2.2.2)]) (va_runV (As := []) (rest := []) ⟨hx, hb, hml, hown, hg⟩ (c_X8_startOver l G h_this ad_this v_signCount v_houseCount v_boatCount v_workCount v_turnCost v_boatDayCost a_lighter q1 c_1 H.size) (cwV 0 hg (gV wd_2_23 wd_2_25 wd_0_0 wd_1_4 wd_2_26) rfl rfl rfl hdV_X8_startOver ⟨(Nat.le_of_ble_eq_true rfl), (Nat.le_of_ble_eq_true rfl)⟩) (preV hc hW [0, 8] rfl (by decide) rfl rfl) rfl rfl hl.1 rfl (lv_room (Nat.le_of_ble_eq_true rfl)) dX8_readFrom_1 ⟨Nat.zero_le _, Nat.zero_le _⟩) hA hW [0, 8] [1, 2, 3, 4, 5, 6, 7, 9, 10, 11] [10, 0, 1, 2, 3, 4, 5, 6, 11, 7, 8, 9] rfl rfl (by decide) (by decide) rfl (by decide) (fun H locs hW => ?_)
  refine lv_iconst (v := 0) hx hb dX8_readFrom_4 (by decide) ?_
  refine lv_istore_n (lv' := [(3, .int 0), (0, .ref h_this), (1, .ref h_p1), (2, .ref h_p2)]) hx hb dX8_readFrom_5 rfl hl (by decide) rfl (fun ls hl => ?_)
  refine lv_iconst (v := 0) hx hb dX8_readFrom_6 (by decide) ?_
  refine lv_istore (lv' := [(4, .int 0), (3, .int 0), (0, .ref h_this), (1, .ref h_p1), (2, .ref h_p2)]) hx hb dX8_readFrom_7 hl (by decide) rfl (fun ls hl => ?_)
  have L_9 : ∀ (n : Nat) (x3_9 : Int32) (x4_9 : Int32) (v_boatCount_9 : Int32) (v_boatDayCost_9 : Int32) (v_houseCount_9 : Int32) (v_signCount_9 : Int32) (v_turnCost_9 : Int32) (v_workCount_9 : Int32) (v_p2_end_9 : Int32) (v_p2_letter_9 : Int32) (v_p2_numberCount_9 : Int32) (a_p2_numbers_9 : Nat → Int32) (a_boatRoom_9 : Nat → Int32) (a_houseMinutes_9 : Nat → Int32) (a_housePeople_9 : Nat → Int32) (a_lighter_9 : Nat → Int32) (a_signNumbers_9 : Nat → Int32) (a_workGain_9 : Nat → Int32) (a_workNoise_9 : Nat → Int32) (ls : Array Slot) (H : Heap) (locs : List Loc), L_X8_readFrom_9 v_p1_length a_p1_letters n x3_9 x4_9 v_boatCount_9 v_boatDayCost_9 v_houseCount_9 v_signCount_9 v_turnCost_9 v_workCount_9 v_p2_end_9 v_p2_letter_9 v_p2_numberCount_9 a_p2_numbers_9 a_boatRoom_9 a_houseMinutes_9 a_housePeople_9 a_lighter_9 a_signNumbers_9 a_workGain_9 a_workNoise_9 = some out → lv_has ls 5 [(0, .ref h_this), (1, .ref h_p1), (2, .ref h_p2), (3, .int x3_9), (4, .int x4_9)] → Wd G A s.heap [(h_this, oX8 ad_this v_signCount_9 v_houseCount_9 v_boatCount_9 v_workCount_9 v_turnCost_9 v_boatDayCost_9), (h_p1, oX6 ad_p1 v_p1_length), ((ad_p1 0), cI G 200 a_p1_letters), (h_p2, oX3 ad_p2 v_p2_numberCount_9 v_p2_letter_9 v_p2_end_9), ((ad_p2 0), cI G 4 a_p2_numbers_9), ((ad_this 4), cI G 4 a_boatRoom_9), ((ad_this 3), cI G 6 a_houseMinutes_9), ((ad_this 2), cI G 6 a_housePeople_9), ((ad_this 0), cI G 3 a_lighter_9), ((ad_this 1), cI G 16 a_signNumbers_9), ((ad_this 6), cI G 5 a_workGain_9), ((ad_this 5), cI G 5 a_workNoise_9)] H locs → W p l e ({ frames := 4, cells := 0, slots := 0, locals := 91 } : Room) s m args below meth c H locs 0 0 Q (F0 m 9 ls []) := by
    intro n
    induction n with
    | zero => intro x3_9 x4_9 v_boatCount_9 v_boatDayCost_9 v_houseCount_9 v_signCount_9 v_turnCost_9 v_workCount_9 v_p2_end_9 v_p2_letter_9 v_p2_numberCount_9 a_p2_numbers_9 a_boatRoom_9 a_houseMinutes_9 a_housePeople_9 a_lighter_9 a_signNumbers_9 a_workGain_9 a_workNoise_9 ls H locs hF hl hW; have h0 : none = some out := hF; cases h0
    | succ n ih =>
      intro x3_9 x4_9 v_boatCount_9 v_boatDayCost_9 v_houseCount_9 v_signCount_9 v_turnCost_9 v_workCount_9 v_p2_end_9 v_p2_letter_9 v_p2_numberCount_9 a_p2_numbers_9 a_boatRoom_9 a_houseMinutes_9 a_housePeople_9 a_lighter_9 a_signNumbers_9 a_workGain_9 a_workNoise_9 ls H locs hF hl hW
      rw [L_X8_readFrom_9] at hF
      refine lv_iload hx hb dX8_readFrom_9 (lv_at hl 4 rfl) ?_
      refine lv_sipush (v := 200) hx hb dX8_readFrom_11 (by decide) ?_
      refine lv_icmp_ge (tgt := 55) hx hb dX8_readFrom_14 (by decide) (fun c_14 => ?_) (fun c_14 => ?_)
      · have hF := ite_t hF c_14
        refine lv_bipush (v := (-4)) hx hb dX8_readFrom_55 (by decide) ?_
        obtain rfl := Option.some.inj hF
        exact hret _ _ _ _ hW dX8_readFrom_57
      · have hF := ite_f hF c_14
        refine lv_iload_n hx hb dX8_readFrom_17 rfl (lv_at hl 3 rfl) ?_
        refine lv_aload_n hx hb dX8_readFrom_18 rfl (lv_at hl 1 rfl) ?_
        refine va_get (D := G.1) (ci := 5) (v := .int v_p1_length) (C := RX6) (T := TX6) (N := 2) hx hb hg hu_X6 hown hc.1 hW.1 1 rfl rfl 1 (by decide) (hg _ wd_1_35) (fun _ h9 => h9) rfl dX8_readFrom_19 ?_
        refine lv_icmp_ge (tgt := 55) hx hb dX8_readFrom_22 (by decide) (fun c_22 => ?_) (fun c_22 => ?_)
        · have hF := ite_t hF c_22
          refine lv_bipush (v := (-4)) hx hb dX8_readFrom_55 (by decide) ?_
          obtain rfl := Option.some.inj hF
          exact hret _ _ _ _ hW dX8_readFrom_57
        · have hF := ite_f hF c_22
          refine lv_aload_n hx hb dX8_readFrom_25 rfl (lv_at hl 2 rfl) ?_
          refine lv_aload_n hx hb dX8_readFrom_26 rfl (lv_at hl 1 rfl) ?_
          refine lv_iload_n hx hb dX8_readFrom_27 rfl (lv_at hl 3 rfl) ?_
          obtain ⟨q28, c_28, hF⟩ := bd_el hF
          refine wcZ (ws' := [(h_this, oX8 ad_this v_signCount_9 v_houseCount_9 v_boatCount_9 v_workCount_9 v_turnCost_9 v_boatDayCost_9), (h_p1, oX6 ad_p1 v_p1_length), ((ad_p1 0), cI G 200 a_p1_letters), (h_p2, oX3 ad_p2 q28.2.2.2.1 q28.2.2.1 q28.2.1), ((ad_p2 0), cI G 4 q28.2.2.2.2), ((ad_this 4), cI G 4 a_boatRoom_9), ((ad_this 3), cI G 6 a_houseMinutes_9), ((ad_this 2), cI G 6 a_housePeople_9), ((ad_this 0), cI G 3 a_lighter_9), ((ad_this 1), cI G 16 a_signNumbers_9), ((ad_this 6), cI G 5 a_workGain_9), ((ad_this 5), cI G 5 a_workNoise_9)]) (wc := [(h_p2, oX3 ad_p2 v_p2_numberCount_9 v_p2_letter_9 v_p2_end_9), (h_p1, oX6 ad_p1 v_p1_length), ((ad_p1 0), cI G 200 a_p1_letters), ((ad_p2 0), cI G 4 a_p2_numbers_9)]) (wr := [(h_this, oX8 ad_this v_signCount_9 v_houseCount_9 v_boatCount_9 v_workCount_9 v_turnCost_9 v_boatDayCost_9), ((ad_this 4), cI G 4 a_boatRoom_9), ((ad_this 3), cI G 6 a_houseMinutes_9), ((ad_this 2), cI G 6 a_housePeople_9), ((ad_this 0), cI G 3 a_lighter_9), ((ad_this 1), cI G 16 a_signNumbers_9), ((ad_this 6), cI G 5 a_workGain_9), ((ad_this 5), cI G 5 a_workNoise_9)]) (w1 := [(h_p2, oX3 ad_p2 q28.2.2.2.1 q28.2.2.1 q28.2.1), (h_p1, oX6 ad_p1 v_p1_length), ((ad_p1 0), cI G 200 a_p1_letters), ((ad_p2 0), cI G 4 q28.2.2.2.2)]) (va_runV (As := [.ref h_p1, .int x3_9]) (rest := []) ⟨hx, hb, hml, hown, hg⟩ (c_X3_readAt l G x3_9 h_p2 h_p1 ad_p2 ad_p1 v_p2_numberCount_9 v_p2_letter_9 v_p2_end_9 v_p1_length a_p1_letters a_p2_numbers_9 q28 c_28 H.size) (cwV 2 hg (gV wd_2_28 wd_2_29 wd_2_30 wd_1_3 wd_2_31) rfl rfl rfl hdV_X3_readAt ⟨(Nat.le_of_ble_eq_true rfl), (Nat.le_of_ble_eq_true rfl)⟩) (preV hc hW [3, 1, 2, 4] rfl (by decide) rfl rfl) rfl rfl hl.1 rfl (lv_room (Nat.le_of_ble_eq_true rfl)) dX8_readFrom_28 ⟨Nat.zero_le _, Nat.zero_le _⟩) hA hW [3, 1, 2, 4] [0, 5, 6, 7, 8, 9, 10, 11] [0, 9, 10, 8, 11, 1, 2, 3, 4, 5, 6, 7] rfl rfl (by decide) (by decide) rfl (by decide) (fun z_28 H locs hW => ?_)
          refine lv_if_eq (tgt := 42) hx hb dX8_readFrom_31 (by decide) (fun c_31 => ?_) (fun c_31 => ?_)
          · have hF := ite_t hF c_31
            refine lv_iload_n hx hb dX8_readFrom_42 rfl (lv_at hl 3 rfl) ?_
            obtain rfl := Option.some.inj hF
            exact hret _ _ _ _ hW dX8_readFrom_43
          · have hF := ite_f hF c_31
            refine lv_aload_n hx hb dX8_readFrom_34 rfl (lv_at hl 0 rfl) ?_
            refine lv_aload_n hx hb dX8_readFrom_35 rfl (lv_at hl 2 rfl) ?_
            obtain ⟨q36, c_36, hF⟩ := bd_el hF
            refine wcZ (ws' := [(h_this, oX8 ad_this q36.2.2.2.2.1 q36.2.2.2.1 q36.2.1 q36.2.2.2.2.2.2.1 q36.2.2.2.2.2.1 q36.2.2.1), (h_p1, oX6 ad_p1 v_p1_length), ((ad_p1 0), cI G 200 a_p1_letters), (h_p2, oX3 ad_p2 q28.2.2.2.1 q28.2.2.1 q28.2.1), ((ad_p2 0), cI G 4 q28.2.2.2.2), ((ad_this 4), cI G 4 q36.2.2.2.2.2.2.2.1), ((ad_this 3), cI G 6 q36.2.2.2.2.2.2.2.2.1), ((ad_this 2), cI G 6 q36.2.2.2.2.2.2.2.2.2.1), ((ad_this 0), cI G 3 q36.2.2.2.2.2.2.2.2.2.2.1), ((ad_this 1), cI G 16 q36.2.2.2.2.2.2.2.2.2.2.2.1), ((ad_this 6), cI G 5 q36.2.2.2.2.2.2.2.2.2.2.2.2.1), ((ad_this 5), cI G 5 q36.2.2.2.2.2.2.2.2.2.2.2.2.2)]) (wc := [(h_this, oX8 ad_this v_signCount_9 v_houseCount_9 v_boatCount_9 v_workCount_9 v_turnCost_9 v_boatDayCost_9), (h_p2, oX3 ad_p2 q28.2.2.2.1 q28.2.2.1 q28.2.1), ((ad_p2 0), cI G 4 q28.2.2.2.2), ((ad_this 4), cI G 4 a_boatRoom_9), ((ad_this 3), cI G 6 a_houseMinutes_9), ((ad_this 2), cI G 6 a_housePeople_9), ((ad_this 0), cI G 3 a_lighter_9), ((ad_this 1), cI G 16 a_signNumbers_9), ((ad_this 6), cI G 5 a_workGain_9), ((ad_this 5), cI G 5 a_workNoise_9)]) (wr := [(h_p1, oX6 ad_p1 v_p1_length), ((ad_p1 0), cI G 200 a_p1_letters)]) (w1 := [(h_this, oX8 ad_this q36.2.2.2.2.1 q36.2.2.2.1 q36.2.1 q36.2.2.2.2.2.2.1 q36.2.2.2.2.2.1 q36.2.2.1), (h_p2, oX3 ad_p2 q28.2.2.2.1 q28.2.2.1 q28.2.1), ((ad_p2 0), cI G 4 q28.2.2.2.2), ((ad_this 4), cI G 4 q36.2.2.2.2.2.2.2.1), ((ad_this 3), cI G 6 q36.2.2.2.2.2.2.2.2.1), ((ad_this 2), cI G 6 q36.2.2.2.2.2.2.2.2.2.1), ((ad_this 0), cI G 3 q36.2.2.2.2.2.2.2.2.2.2.1), ((ad_this 1), cI G 16 q36.2.2.2.2.2.2.2.2.2.2.2.1), ((ad_this 6), cI G 5 q36.2.2.2.2.2.2.2.2.2.2.2.2.1), ((ad_this 5), cI G 5 q36.2.2.2.2.2.2.2.2.2.2.2.2.2)]) (va_runV (As := [.ref h_p2]) (rest := []) ⟨hx, hb, hml, hown, hg⟩ (c_X8_take l G h_this h_p2 ad_this ad_p2 v_signCount_9 v_houseCount_9 v_boatCount_9 v_workCount_9 v_turnCost_9 v_boatDayCost_9 q28.2.2.2.1 q28.2.2.1 q28.2.1 q28.2.2.2.2 a_boatRoom_9 a_houseMinutes_9 a_housePeople_9 a_lighter_9 a_signNumbers_9 a_workGain_9 a_workNoise_9 q36 c_36 H.size) (cwV 1 hg (gV wd_2_59 wd_2_61 wd_0_4 wd_1_4 wd_2_62) rfl rfl rfl hdV_X8_take ⟨(Nat.le_of_ble_eq_true rfl), (Nat.le_of_ble_eq_true rfl)⟩) (preV hc hW [0, 3, 4, 5, 6, 7, 8, 9, 10, 11] rfl (by decide) rfl rfl) rfl rfl hl.1 rfl (lv_room (Nat.le_of_ble_eq_true rfl)) dX8_readFrom_36 ⟨Nat.zero_le _, Nat.zero_le _⟩) hA hW [0, 3, 4, 5, 6, 7, 8, 9, 10, 11] [1, 2] [2, 0, 1, 3, 4, 5, 6, 7, 8, 9, 10, 11] rfl rfl (by decide) (by decide) rfl (by decide) (fun z_36 H locs hW => ?_)
            refine lv_if_ne (tgt := 44) hx hb dX8_readFrom_39 (by decide) (fun c_39 => ?_) (fun c_39 => ?_)
            · have hF := ite_f hF c_39
              refine lv_aload_n hx hb dX8_readFrom_44 rfl (lv_at hl 2 rfl) ?_
              refine va_get (D := G.1) (ci := 3) (v := .int q28.2.1) (C := RX3) (T := TX3) (N := 4) hx hb hg hu_X3 hown hc.1 hW.1 3 rfl rfl 3 (by decide) (hg _ wd_1_53) (fun _ h9 => h9) rfl dX8_readFrom_45 ?_
              refine lv_istore_n (lv' := [(3, .int q28.2.1), (0, .ref h_this), (1, .ref h_p1), (2, .ref h_p2), (4, .int x4_9)]) hx hb dX8_readFrom_48 rfl hl (by decide) rfl (fun ls hl => ?_)
              refine lv_iinc (v := (x4_9 + 1)) (lv' := [(4, .int ((x4_9 + 1))), (3, .int q28.2.1), (0, .ref h_this), (1, .ref h_p1), (2, .ref h_p2)]) hx hb dX8_readFrom_49 hl (k := 4) rfl rfl (by decide) rfl (fun ls hl => ?_)
              refine lv_goto (tgt := 9) hx hb dX8_readFrom_52 (by decide) ?_
              exact ih q28.2.1 ((x4_9 + 1)) q36.2.1 q36.2.2.1 q36.2.2.2.1 q36.2.2.2.2.1 q36.2.2.2.2.2.1 q36.2.2.2.2.2.2.1 q28.2.1 q28.2.2.1 q28.2.2.2.1 q28.2.2.2.2 q36.2.2.2.2.2.2.2.1 q36.2.2.2.2.2.2.2.2.1 q36.2.2.2.2.2.2.2.2.2.1 q36.2.2.2.2.2.2.2.2.2.2.1 q36.2.2.2.2.2.2.2.2.2.2.2.1 q36.2.2.2.2.2.2.2.2.2.2.2.2.1 q36.2.2.2.2.2.2.2.2.2.2.2.2.2 _ _ _ hF (lv_sub hl [2, 3, 4, 1, 0] rfl) hW
            · have hF := ite_t hF c_39
              refine lv_iload_n hx hb dX8_readFrom_42 rfl (lv_at hl 3 rfl) ?_
              obtain rfl := Option.some.inj hF
              exact hret _ _ _ _ hW dX8_readFrom_43
  exact L_9 5000 0 0 q1.1 q1.2.1 q1.2.2.1 q1.2.2.2.1 q1.2.2.2.2.1 q1.2.2.2.2.2.1 v_p2_end v_p2_letter v_p2_numberCount a_p2_numbers a_boatRoom a_houseMinutes a_housePeople q1.2.2.2.2.2.2 a_signNumbers a_workGain a_workNoise _ _ _ hF (lv_sub hl [2, 3, 4, 1, 0] rfl) hW
theorem dX8_signNumber_0 : decode cX8_signNumber 0 = .ok (.aload_n 0, 1) := by decide +kernel
theorem dX8_signNumber_1 : decode cX8_signNumber 1 = .ok (.getfield 15, 3) := by decide +kernel
theorem dX8_signNumber_4 : decode cX8_signNumber 4 = .ok (.iload_n 1, 1) := by decide +kernel
theorem dX8_signNumber_5 : decode cX8_signNumber 5 = .ok (.iconst 4, 1) := by decide +kernel
theorem dX8_signNumber_6 : decode cX8_signNumber 6 = .ok (.imul, 1) := by decide +kernel
theorem dX8_signNumber_7 : decode cX8_signNumber 7 = .ok (.iload_n 2, 1) := by decide +kernel
theorem dX8_signNumber_8 : decode cX8_signNumber 8 = .ok (.iadd, 1) := by decide +kernel
theorem dX8_signNumber_9 : decode cX8_signNumber 9 = .ok (.invokestatic 104, 3) := by decide +kernel
theorem dX8_signNumber_12 : decode cX8_signNumber 12 = .ok (.ireturn, 1) := by decide +kernel
def F_X8_signNumber (x1 : Int32) (x2 : Int32) (a_signNumbers : Nat → Int32) : Option (Int32) := (F_X4_at (((x1 * 4) + x2)) 16 a_signNumbers).bind (fun q9 => some (q9))
theorem hdV_X8_signNumber : yX8_signNumber.cls = RX8 ∧ yX8_signNumber.cls ≠ "java/lang/invoke/MethodHandle" ∧ yX8_signNumber.cls ≠ "java/lang/invoke/VarHandle" ∧ (parseMethodDescriptor yX8_signNumber.desc).map (fun d => d.parameters.length) = some 2 := by decide +kernel
set_option maxHeartbeats 4000000 in
set_option maxRecDepth 100000 in
theorem c_X8_signNumber (l : Launch) (G : GG) (x1 : Int32) (x2 : Int32) (h_this : Nat) (ad_this : Nat → Nat) (v_signCount : Int32) (v_houseCount : Int32) (v_boatCount : Int32) (v_workCount : Int32) (v_turnCost : Int32) (v_boatDayCost : Int32) (a_signNumbers : Nat → Int32) (out : Int32) (hF : F_X8_signNumber x1 x2 a_signNumbers = some out) : CtrI l yX8_signNumber (WS yX8_signNumber cX8_signNumber 3 (some .int)) { frames := 1, cells := 0, slots := 0, locals := 21 } G [.ref h_this, .int x1, .int x2] [(h_this, oX8 ad_this v_signCount v_houseCount v_boatCount v_workCount v_turnCost v_boatDayCost), ((ad_this 1), cI G 16 a_signNumbers)] [(h_this, oX8 ad_this v_signCount v_houseCount v_boatCount v_workCount v_turnCost v_boatDayCost), ((ad_this 1), cI G 16 a_signNumbers)] out := by
  refine startI (cc := cX8_signNumber) (maxL := 3) (by decide) rfl (Nat.le_of_ble_eq_true rfl) ?_
  intro p e s m args below meth c A Q hx hb hml hts hown hc hA hret ls H locs hl hW
  have hown : s.vm.findClass RX8 = some m.cls := hown
  have hg : ∀ w ∈ GOODS, w.before _ s = true := fun w h => hts w (List.mem_cons_of_mem _ h)
  have hl : lv_has ls 3 [(0, .ref h_this), (1, .int x1), (2, .int x2)] := hl
  rw [F_X8_signNumber] at hF
  refine lv_aload_n hx hb dX8_signNumber_0 rfl (lv_at hl 0 rfl) ?_
  refine va_get (D := G.1) (ci := 7) (v := .ref ((ad_this 1))) (C := RX8) (T := TX8) (N := 13) hx hb hg hu_X8 hown hc.1 hW.1 0 rfl rfl 1 (by decide) (hg _ wd_1_70) (fun _ h9 => h9) rfl dX8_signNumber_1 ?_
  refine lv_iload_n hx hb dX8_signNumber_4 rfl (lv_at hl 1 rfl) ?_
  refine lv_iconst (v := 4) hx hb dX8_signNumber_5 (by decide) ?_
  refine lv_imul hx hb dX8_signNumber_6 ?_
  refine lv_iload_n hx hb dX8_signNumber_7 rfl (lv_at hl 2 rfl) ?_
  refine lv_iadd hx hb dX8_signNumber_8 ?_
  obtain ⟨q9, c_9, hF⟩ := bd_el hF
  refine wcI (ws' := [(h_this, oX8 ad_this v_signCount v_houseCount v_boatCount v_workCount v_turnCost v_boatDayCost), ((ad_this 1), cI G 16 a_signNumbers)]) (wc := [((ad_this 1), cI G 16 a_signNumbers)]) (wr := [(h_this, oX8 ad_this v_signCount v_houseCount v_boatCount v_workCount v_turnCost v_boatDayCost)]) (w1 := [((ad_this 1), cI G 16 a_signNumbers)]) (va_runS (As := [.ref ((ad_this 1)), .int (((x1 * 4) + x2))]) (rest := []) ⟨hx, hb, hml, hown, hg⟩ (c_X4_at l G (((x1 * 4) + x2)) 16 ((ad_this 1)) a_signNumbers q9 c_9 H.size) (va_cwS 2 hg (gS wd_2_161 wd_2_37 wd_1_14 wd_2_38) rfl rfl rfl hdS_X4_at ⟨(Nat.le_of_ble_eq_true rfl), (Nat.le_of_ble_eq_true rfl)⟩) (preS hc hW [1] rfl (by decide)) rfl rfl hl.1 rfl (lv_room (Nat.le_of_ble_eq_true rfl)) dX8_signNumber_9 ⟨Nat.zero_le _, Nat.zero_le _⟩) hA hW [1] [0] [0, 1] rfl rfl (by decide) (by decide) rfl (by decide) (fun H locs hW => ?_)
  obtain rfl := Option.some.inj hF
  exact hret _ _ _ _ hW dX8_signNumber_12
theorem dX8_sumOf_0 : decode cX8_sumOf 0 = .ok (.iconst 0, 1) := by decide +kernel
theorem dX8_sumOf_1 : decode cX8_sumOf 1 = .ok (.istore_n 3, 1) := by decide +kernel
theorem dX8_sumOf_2 : decode cX8_sumOf 2 = .ok (.iconst 0, 1) := by decide +kernel
theorem dX8_sumOf_3 : decode cX8_sumOf 3 = .ok (.istore 4, 2) := by decide +kernel
theorem dX8_sumOf_5 : decode cX8_sumOf 5 = .ok (.iload 4, 2) := by decide +kernel
theorem dX8_sumOf_7 : decode cX8_sumOf 7 = .ok (.iload_n 1, 1) := by decide +kernel
theorem dX8_sumOf_8 : decode cX8_sumOf 8 = .ok (.if_icmp .ge 27, 3) := by decide +kernel
theorem dX8_sumOf_11 : decode cX8_sumOf 11 = .ok (.iload_n 2, 1) := by decide +kernel
theorem dX8_sumOf_12 : decode cX8_sumOf 12 = .ok (.iload 4, 2) := by decide +kernel
theorem dX8_sumOf_14 : decode cX8_sumOf 14 = .ok (.invokestatic 112, 3) := by decide +kernel
theorem dX8_sumOf_17 : decode cX8_sumOf 17 = .ok (.ifCond .eq 12, 3) := by decide +kernel
theorem dX8_sumOf_20 : decode cX8_sumOf 20 = .ok (.iload_n 3, 1) := by decide +kernel
theorem dX8_sumOf_21 : decode cX8_sumOf 21 = .ok (.aload_n 0, 1) := by decide +kernel
theorem dX8_sumOf_22 : decode cX8_sumOf 22 = .ok (.iload 4, 2) := by decide +kernel
theorem dX8_sumOf_24 : decode cX8_sumOf 24 = .ok (.invokestatic 104, 3) := by decide +kernel
theorem dX8_sumOf_27 : decode cX8_sumOf 27 = .ok (.iadd, 1) := by decide +kernel
theorem dX8_sumOf_28 : decode cX8_sumOf 28 = .ok (.istore_n 3, 1) := by decide +kernel
theorem dX8_sumOf_29 : decode cX8_sumOf 29 = .ok (.iinc 4 1, 3) := by decide +kernel
theorem dX8_sumOf_32 : decode cX8_sumOf 32 = .ok (.goto (-27), 3) := by decide +kernel
theorem dX8_sumOf_35 : decode cX8_sumOf 35 = .ok (.iload_n 3, 1) := by decide +kernel
theorem dX8_sumOf_36 : decode cX8_sumOf 36 = .ok (.ireturn, 1) := by decide +kernel
def L_X8_sumOf_5 (x1 : Int32) (x2 : Int32) (n_p0 : Nat) (a_p0 : Nat → Int32)  : Nat → Int32 → Int32 → Option (Int32)
  | 0, _, _ => none
  | n + 1, x3_5, x4_5 => (if x1 ≤ x4_5 then some (x3_5) else (F_X9_holds x2 x4_5).bind (fun q14 => jn (fun (x3_29 : Int32) => L_X8_sumOf_5 x1 x2 n_p0 a_p0 n x3_29 ((x4_5 + 1))) (fun k_29 => (if q14 = 0 then k_29 x3_5 else (F_X4_at x4_5 n_p0 a_p0).bind (fun q24 => k_29 ((x3_5 + q24)))))))
def F_X8_sumOf (x1 : Int32) (x2 : Int32) (n_p0 : Nat) (a_p0 : Nat → Int32) : Option (Int32) := L_X8_sumOf_5 x1 x2 n_p0 a_p0 5000 0 0
theorem hdS_X8_sumOf : yX8_sumOf.cls ≠ "java/lang/invoke/MethodHandle" ∧ yX8_sumOf.cls ≠ "java/lang/invoke/VarHandle" ∧ (parseMethodDescriptor yX8_sumOf.desc).map (fun d => d.parameters.length) = some 3 := by decide +kernel
set_option maxHeartbeats 4000000 in
set_option maxRecDepth 100000 in
theorem c_X8_sumOf (l : Launch) (G : GG) (x1 : Int32) (x2 : Int32) (n_p0 : Nat) (h_p0 : Nat) (a_p0 : Nat → Int32) (out : Int32) (hF : F_X8_sumOf x1 x2 n_p0 a_p0 = some out) : CtrI l yX8_sumOf (WS yX8_sumOf cX8_sumOf 5 (some .int)) { frames := 1, cells := 0, slots := 0, locals := 21 } G [.ref h_p0, .int x1, .int x2] [(h_p0, cI G n_p0 a_p0)] [(h_p0, cI G n_p0 a_p0)] out := by
  refine startI (cc := cX8_sumOf) (maxL := 5) (by decide) rfl (Nat.le_of_ble_eq_true rfl) ?_
  intro p e s m args below meth c A Q hx hb hml hts hown hc hA hret ls H locs hl hW
  have hown : s.vm.findClass RX8 = some m.cls := hown
  have hg : ∀ w ∈ GOODS, w.before _ s = true := fun w h => hts w (List.mem_cons_of_mem _ h)
  have hl : lv_has ls 5 [(0, .ref h_p0), (1, .int x1), (2, .int x2)] := hl
  rw [F_X8_sumOf] at hF
  refine lv_iconst (v := 0) hx hb dX8_sumOf_0 (by decide) ?_
  refine lv_istore_n (lv' := [(3, .int 0), (0, .ref h_p0), (1, .int x1), (2, .int x2)]) hx hb dX8_sumOf_1 rfl hl (by decide) rfl (fun ls hl => ?_)
  refine lv_iconst (v := 0) hx hb dX8_sumOf_2 (by decide) ?_
  refine lv_istore (lv' := [(4, .int 0), (3, .int 0), (0, .ref h_p0), (1, .int x1), (2, .int x2)]) hx hb dX8_sumOf_3 hl (by decide) rfl (fun ls hl => ?_)
  have L_5 : ∀ (n : Nat) (x3_5 : Int32) (x4_5 : Int32) (ls : Array Slot) (H : Heap) (locs : List Loc), L_X8_sumOf_5 x1 x2 n_p0 a_p0 n x3_5 x4_5 = some out → lv_has ls 5 [(0, .ref h_p0), (1, .int x1), (2, .int x2), (3, .int x3_5), (4, .int x4_5)] → Wd G A s.heap [(h_p0, cI G n_p0 a_p0)] H locs → W p l e ({ frames := 1, cells := 0, slots := 0, locals := 21 } : Room) s m args below meth c H locs 0 0 Q (F0 m 5 ls []) := by
    intro n
    induction n with
    | zero => intro x3_5 x4_5 ls H locs hF hl hW; have h0 : none = some out := hF; cases h0
    | succ n ih =>
      intro x3_5 x4_5 ls H locs hF hl hW
      rw [L_X8_sumOf_5] at hF
      refine lv_iload hx hb dX8_sumOf_5 (lv_at hl 4 rfl) ?_
      refine lv_iload_n hx hb dX8_sumOf_7 rfl (lv_at hl 1 rfl) ?_
      refine lv_icmp_ge (tgt := 35) hx hb dX8_sumOf_8 (by decide) (fun c_8 => ?_) (fun c_8 => ?_)
      · have hF := ite_t hF c_8
        refine lv_iload_n hx hb dX8_sumOf_35 rfl (lv_at hl 3 rfl) ?_
        obtain rfl := Option.some.inj hF
        exact hret _ _ _ _ hW dX8_sumOf_36
      · have hF := ite_f hF c_8
        refine lv_iload_n hx hb dX8_sumOf_11 rfl (lv_at hl 2 rfl) ?_
        refine lv_iload hx hb dX8_sumOf_12 (lv_at hl 4 rfl) ?_
        obtain ⟨q14, c_14, hF⟩ := bd_el hF
        refine wcZ (ws' := [(h_p0, cI G n_p0 a_p0)]) (wc := []) (wr := [(h_p0, cI G n_p0 a_p0)]) (w1 := []) (va_runSN (As := [.int x2, .int x4_5]) (rest := []) ⟨hx, hb, hml, hown, hg⟩ (c_X9_holds l G x2 x4_5 q14 c_14 H.size) ⟨va_cnB 2 hg (gN wd_2_181) rfl rfl rfl (hc.2 (RX8, 112, yX9_holds) (by decide +kernel)) (hg _ wd_1_1) hdS_X9_holds ⟨(Nat.le_of_ble_eq_true rfl), (Nat.le_of_ble_eq_true rfl)⟩, (hg _ wd_2_180), trivial⟩ (preS hc hW [] rfl (by decide)) rfl rfl hl.1 rfl (lv_room (Nat.le_of_ble_eq_true rfl)) dX8_sumOf_14 ⟨Nat.zero_le _, Nat.zero_le _⟩) hA hW [] [0] [0] rfl rfl (by decide) (by decide) rfl (by decide) (fun z_14 H locs hW => ?_)
        obtain ⟨k_29, e_29, hF⟩ := jn_el hF
        have J_29 : ∀ (x3_29 : Int32) (ls : Array Slot) (H : Heap) (locs : List Loc), k_29 x3_29 = some out → lv_has ls 5 [(0, .ref h_p0), (1, .int x1), (2, .int x2), (3, .int x3_29), (4, .int x4_5)] → Wd G A s.heap [(h_p0, cI G n_p0 a_p0)] H locs → W p l e ({ frames := 1, cells := 0, slots := 0, locals := 21 } : Room) s m args below meth c H locs 0 0 Q (F0 m 29 ls []) := by
          intro x3_29 ls H locs hF hl hW
          rw [e_29] at hF
          dsimp only at hF
          refine lv_iinc (v := (x4_5 + 1)) (lv' := [(4, .int ((x4_5 + 1))), (0, .ref h_p0), (1, .int x1), (2, .int x2), (3, .int x3_29)]) hx hb dX8_sumOf_29 hl (k := 4) rfl rfl (by decide) rfl (fun ls hl => ?_)
          refine lv_goto (tgt := 5) hx hb dX8_sumOf_32 (by decide) ?_
          exact ih x3_29 ((x4_5 + 1)) _ _ _ hF (lv_sub hl [1, 2, 3, 4, 0] rfl) hW
        refine lv_if_eq (tgt := 29) hx hb dX8_sumOf_17 (by decide) (fun c_17 => ?_) (fun c_17 => ?_)
        · have hF := ite_t hF c_17
          exact J_29 x3_5 _ _ _ hF (lv_sub hl [0, 1, 2, 3, 4] rfl) hW
        · have hF := ite_f hF c_17
          refine lv_iload_n hx hb dX8_sumOf_20 rfl (lv_at hl 3 rfl) ?_
          refine lv_aload_n hx hb dX8_sumOf_21 rfl (lv_at hl 0 rfl) ?_
          refine lv_iload hx hb dX8_sumOf_22 (lv_at hl 4 rfl) ?_
          obtain ⟨q24, c_24, hF⟩ := bd_el hF
          refine wcI (ws' := [(h_p0, cI G n_p0 a_p0)]) (wc := [(h_p0, cI G n_p0 a_p0)]) (wr := []) (w1 := [(h_p0, cI G n_p0 a_p0)]) (va_runS (As := [.ref h_p0, .int x4_5]) (rest := [.int x3_5]) ⟨hx, hb, hml, hown, hg⟩ (c_X4_at l G x4_5 n_p0 h_p0 a_p0 q24 c_24 H.size) (va_cwS 2 hg (gS wd_2_161 wd_2_37 wd_1_14 wd_2_38) rfl rfl rfl hdS_X4_at ⟨(Nat.le_of_ble_eq_true rfl), (Nat.le_of_ble_eq_true rfl)⟩) (preS hc hW [0] rfl (by decide)) rfl rfl hl.1 rfl (lv_room (Nat.le_of_ble_eq_true rfl)) dX8_sumOf_24 ⟨Nat.zero_le _, Nat.zero_le _⟩) hA hW [0] [] [0] rfl rfl (by decide) (by decide) rfl (by decide) (fun H locs hW => ?_)
          refine lv_iadd hx hb dX8_sumOf_27 ?_
          refine lv_istore_n (lv' := [(3, .int ((x3_5 + q24))), (0, .ref h_p0), (1, .int x1), (2, .int x2), (4, .int x4_5)]) hx hb dX8_sumOf_28 rfl hl (by decide) rfl (fun ls hl => ?_)
          exact J_29 ((x3_5 + q24)) _ _ _ hF (lv_sub hl [1, 2, 3, 0, 4] rfl) hW
  exact L_5 5000 0 0 _ _ _ hF (lv_sub hl [2, 3, 4, 1, 0] rfl) hW
theorem dX8_noiseOf_0 : decode cX8_noiseOf 0 = .ok (.aload_n 0, 1) := by decide +kernel
theorem dX8_noiseOf_1 : decode cX8_noiseOf 1 = .ok (.getfield 27, 3) := by decide +kernel
theorem dX8_noiseOf_4 : decode cX8_noiseOf 4 = .ok (.aload_n 0, 1) := by decide +kernel
theorem dX8_noiseOf_5 : decode cX8_noiseOf 5 = .ok (.getfield 76, 3) := by decide +kernel
theorem dX8_noiseOf_8 : decode cX8_noiseOf 8 = .ok (.iload_n 1, 1) := by decide +kernel
theorem dX8_noiseOf_9 : decode cX8_noiseOf 9 = .ok (.invokestatic 108, 3) := by decide +kernel
theorem dX8_noiseOf_12 : decode cX8_noiseOf 12 = .ok (.ireturn, 1) := by decide +kernel
def F_X8_noiseOf (x1 : Int32) (v_workCount : Int32) (a_workNoise : Nat → Int32) : Option (Int32) := (F_X8_sumOf v_workCount x1 5 a_workNoise).bind (fun q9 => some (q9))
theorem hdV_X8_noiseOf : yX8_noiseOf.cls = RX8 ∧ yX8_noiseOf.cls ≠ "java/lang/invoke/MethodHandle" ∧ yX8_noiseOf.cls ≠ "java/lang/invoke/VarHandle" ∧ (parseMethodDescriptor yX8_noiseOf.desc).map (fun d => d.parameters.length) = some 1 := by decide +kernel
set_option maxHeartbeats 4000000 in
set_option maxRecDepth 100000 in
theorem c_X8_noiseOf (l : Launch) (G : GG) (x1 : Int32) (h_this : Nat) (ad_this : Nat → Nat) (v_signCount : Int32) (v_houseCount : Int32) (v_boatCount : Int32) (v_workCount : Int32) (v_turnCost : Int32) (v_boatDayCost : Int32) (a_workNoise : Nat → Int32) (out : Int32) (hF : F_X8_noiseOf x1 v_workCount a_workNoise = some out) : CtrI l yX8_noiseOf (WS yX8_noiseOf cX8_noiseOf 2 (some .int)) { frames := 2, cells := 0, slots := 0, locals := 45 } G [.ref h_this, .int x1] [(h_this, oX8 ad_this v_signCount v_houseCount v_boatCount v_workCount v_turnCost v_boatDayCost), ((ad_this 5), cI G 5 a_workNoise)] [(h_this, oX8 ad_this v_signCount v_houseCount v_boatCount v_workCount v_turnCost v_boatDayCost), ((ad_this 5), cI G 5 a_workNoise)] out := by
  refine startI (cc := cX8_noiseOf) (maxL := 2) (by decide) rfl (Nat.le_of_ble_eq_true rfl) ?_
  intro p e s m args below meth c A Q hx hb hml hts hown hc hA hret ls H locs hl hW
  have hown : s.vm.findClass RX8 = some m.cls := hown
  have hg : ∀ w ∈ GOODS, w.before _ s = true := fun w h => hts w (List.mem_cons_of_mem _ h)
  have hl : lv_has ls 2 [(0, .ref h_this), (1, .int x1)] := hl
  rw [F_X8_noiseOf] at hF
  refine lv_aload_n hx hb dX8_noiseOf_0 rfl (lv_at hl 0 rfl) ?_
  refine va_get (D := G.1) (ci := 7) (v := .ref ((ad_this 5))) (C := RX8) (T := TX8) (N := 13) hx hb hg hu_X8 hown hc.1 hW.1 0 rfl rfl 5 (by decide) (hg _ wd_1_74) (fun _ h9 => h9) rfl dX8_noiseOf_1 ?_
  refine lv_aload_n hx hb dX8_noiseOf_4 rfl (lv_at hl 0 rfl) ?_
  refine va_get (D := G.1) (ci := 7) (v := .int v_workCount) (C := RX8) (T := TX8) (N := 13) hx hb hg hu_X8 hown hc.1 hW.1 0 rfl rfl 10 (by decide) (hg _ wd_1_84) (fun _ h9 => h9) rfl dX8_noiseOf_5 ?_
  refine lv_iload_n hx hb dX8_noiseOf_8 rfl (lv_at hl 1 rfl) ?_
  obtain ⟨q9, c_9, hF⟩ := bd_el hF
  refine wcI (ws' := [(h_this, oX8 ad_this v_signCount v_houseCount v_boatCount v_workCount v_turnCost v_boatDayCost), ((ad_this 5), cI G 5 a_workNoise)]) (wc := [((ad_this 5), cI G 5 a_workNoise)]) (wr := [(h_this, oX8 ad_this v_signCount v_houseCount v_boatCount v_workCount v_turnCost v_boatDayCost)]) (w1 := [((ad_this 5), cI G 5 a_workNoise)]) (va_runS (As := [.ref ((ad_this 5)), .int v_workCount, .int x1]) (rest := []) ⟨hx, hb, hml, hown, hg⟩ (c_X8_sumOf l G v_workCount x1 5 ((ad_this 5)) a_workNoise q9 c_9 H.size) (va_cwS 3 hg (gS wd_2_176 wd_2_177 wd_1_4 wd_2_178) rfl rfl rfl hdS_X8_sumOf ⟨(Nat.le_of_ble_eq_true rfl), (Nat.le_of_ble_eq_true rfl)⟩) (preS hc hW [1] rfl (by decide)) rfl rfl hl.1 rfl (lv_room (Nat.le_of_ble_eq_true rfl)) dX8_noiseOf_9 ⟨Nat.zero_le _, Nat.zero_le _⟩) hA hW [1] [0] [0, 1] rfl rfl (by decide) (by decide) rfl (by decide) (fun H locs hW => ?_)
  obtain rfl := Option.some.inj hF
  exact hret _ _ _ _ hW dX8_noiseOf_12
theorem dX8_gainOf_0 : decode cX8_gainOf 0 = .ok (.aload_n 0, 1) := by decide +kernel
theorem dX8_gainOf_1 : decode cX8_gainOf 1 = .ok (.getfield 30, 3) := by decide +kernel
theorem dX8_gainOf_4 : decode cX8_gainOf 4 = .ok (.aload_n 0, 1) := by decide +kernel
theorem dX8_gainOf_5 : decode cX8_gainOf 5 = .ok (.getfield 76, 3) := by decide +kernel
theorem dX8_gainOf_8 : decode cX8_gainOf 8 = .ok (.iload_n 1, 1) := by decide +kernel
theorem dX8_gainOf_9 : decode cX8_gainOf 9 = .ok (.invokestatic 108, 3) := by decide +kernel
theorem dX8_gainOf_12 : decode cX8_gainOf 12 = .ok (.ireturn, 1) := by decide +kernel
def F_X8_gainOf (x1 : Int32) (v_workCount : Int32) (a_workGain : Nat → Int32) : Option (Int32) := (F_X8_sumOf v_workCount x1 5 a_workGain).bind (fun q9 => some (q9))
theorem hdV_X8_gainOf : yX8_gainOf.cls = RX8 ∧ yX8_gainOf.cls ≠ "java/lang/invoke/MethodHandle" ∧ yX8_gainOf.cls ≠ "java/lang/invoke/VarHandle" ∧ (parseMethodDescriptor yX8_gainOf.desc).map (fun d => d.parameters.length) = some 1 := by decide +kernel
set_option maxHeartbeats 4000000 in
set_option maxRecDepth 100000 in
theorem c_X8_gainOf (l : Launch) (G : GG) (x1 : Int32) (h_this : Nat) (ad_this : Nat → Nat) (v_signCount : Int32) (v_houseCount : Int32) (v_boatCount : Int32) (v_workCount : Int32) (v_turnCost : Int32) (v_boatDayCost : Int32) (a_workGain : Nat → Int32) (out : Int32) (hF : F_X8_gainOf x1 v_workCount a_workGain = some out) : CtrI l yX8_gainOf (WS yX8_gainOf cX8_gainOf 2 (some .int)) { frames := 2, cells := 0, slots := 0, locals := 45 } G [.ref h_this, .int x1] [(h_this, oX8 ad_this v_signCount v_houseCount v_boatCount v_workCount v_turnCost v_boatDayCost), ((ad_this 6), cI G 5 a_workGain)] [(h_this, oX8 ad_this v_signCount v_houseCount v_boatCount v_workCount v_turnCost v_boatDayCost), ((ad_this 6), cI G 5 a_workGain)] out := by
  refine startI (cc := cX8_gainOf) (maxL := 2) (by decide) rfl (Nat.le_of_ble_eq_true rfl) ?_
  intro p e s m args below meth c A Q hx hb hml hts hown hc hA hret ls H locs hl hW
  have hown : s.vm.findClass RX8 = some m.cls := hown
  have hg : ∀ w ∈ GOODS, w.before _ s = true := fun w h => hts w (List.mem_cons_of_mem _ h)
  have hl : lv_has ls 2 [(0, .ref h_this), (1, .int x1)] := hl
  rw [F_X8_gainOf] at hF
  refine lv_aload_n hx hb dX8_gainOf_0 rfl (lv_at hl 0 rfl) ?_
  refine va_get (D := G.1) (ci := 7) (v := .ref ((ad_this 6))) (C := RX8) (T := TX8) (N := 13) hx hb hg hu_X8 hown hc.1 hW.1 0 rfl rfl 6 (by decide) (hg _ wd_1_75) (fun _ h9 => h9) rfl dX8_gainOf_1 ?_
  refine lv_aload_n hx hb dX8_gainOf_4 rfl (lv_at hl 0 rfl) ?_
  refine va_get (D := G.1) (ci := 7) (v := .int v_workCount) (C := RX8) (T := TX8) (N := 13) hx hb hg hu_X8 hown hc.1 hW.1 0 rfl rfl 10 (by decide) (hg _ wd_1_84) (fun _ h9 => h9) rfl dX8_gainOf_5 ?_
  refine lv_iload_n hx hb dX8_gainOf_8 rfl (lv_at hl 1 rfl) ?_
  obtain ⟨q9, c_9, hF⟩ := bd_el hF
  refine wcI (ws' := [(h_this, oX8 ad_this v_signCount v_houseCount v_boatCount v_workCount v_turnCost v_boatDayCost), ((ad_this 6), cI G 5 a_workGain)]) (wc := [((ad_this 6), cI G 5 a_workGain)]) (wr := [(h_this, oX8 ad_this v_signCount v_houseCount v_boatCount v_workCount v_turnCost v_boatDayCost)]) (w1 := [((ad_this 6), cI G 5 a_workGain)]) (va_runS (As := [.ref ((ad_this 6)), .int v_workCount, .int x1]) (rest := []) ⟨hx, hb, hml, hown, hg⟩ (c_X8_sumOf l G v_workCount x1 5 ((ad_this 6)) a_workGain q9 c_9 H.size) (va_cwS 3 hg (gS wd_2_176 wd_2_177 wd_1_4 wd_2_178) rfl rfl rfl hdS_X8_sumOf ⟨(Nat.le_of_ble_eq_true rfl), (Nat.le_of_ble_eq_true rfl)⟩) (preS hc hW [1] rfl (by decide)) rfl rfl hl.1 rfl (lv_room (Nat.le_of_ble_eq_true rfl)) dX8_gainOf_9 ⟨Nat.zero_le _, Nat.zero_le _⟩) hA hW [1] [0] [0, 1] rfl rfl (by decide) (by decide) rfl (by decide) (fun H locs hW => ?_)
  obtain rfl := Option.some.inj hF
  exact hret _ _ _ _ hW dX8_gainOf_12
theorem dX8_peopleOf_0 : decode cX8_peopleOf 0 = .ok (.aload_n 0, 1) := by decide +kernel
theorem dX8_peopleOf_1 : decode cX8_peopleOf 1 = .ok (.getfield 18, 3) := by decide +kernel
theorem dX8_peopleOf_4 : decode cX8_peopleOf 4 = .ok (.iload_n 1, 1) := by decide +kernel
theorem dX8_peopleOf_5 : decode cX8_peopleOf 5 = .ok (.invokestatic 104, 3) := by decide +kernel
theorem dX8_peopleOf_8 : decode cX8_peopleOf 8 = .ok (.ireturn, 1) := by decide +kernel
def F_X8_peopleOf (x1 : Int32) (a_housePeople : Nat → Int32) : Option (Int32) := (F_X4_at x1 6 a_housePeople).bind (fun q5 => some (q5))
theorem hdV_X8_peopleOf : yX8_peopleOf.cls = RX8 ∧ yX8_peopleOf.cls ≠ "java/lang/invoke/MethodHandle" ∧ yX8_peopleOf.cls ≠ "java/lang/invoke/VarHandle" ∧ (parseMethodDescriptor yX8_peopleOf.desc).map (fun d => d.parameters.length) = some 1 := by decide +kernel
set_option maxHeartbeats 4000000 in
set_option maxRecDepth 100000 in
theorem c_X8_peopleOf (l : Launch) (G : GG) (x1 : Int32) (h_this : Nat) (ad_this : Nat → Nat) (v_signCount : Int32) (v_houseCount : Int32) (v_boatCount : Int32) (v_workCount : Int32) (v_turnCost : Int32) (v_boatDayCost : Int32) (a_housePeople : Nat → Int32) (out : Int32) (hF : F_X8_peopleOf x1 a_housePeople = some out) : CtrI l yX8_peopleOf (WS yX8_peopleOf cX8_peopleOf 2 (some .int)) { frames := 1, cells := 0, slots := 0, locals := 21 } G [.ref h_this, .int x1] [(h_this, oX8 ad_this v_signCount v_houseCount v_boatCount v_workCount v_turnCost v_boatDayCost), ((ad_this 2), cI G 6 a_housePeople)] [(h_this, oX8 ad_this v_signCount v_houseCount v_boatCount v_workCount v_turnCost v_boatDayCost), ((ad_this 2), cI G 6 a_housePeople)] out := by
  refine startI (cc := cX8_peopleOf) (maxL := 2) (by decide) rfl (Nat.le_of_ble_eq_true rfl) ?_
  intro p e s m args below meth c A Q hx hb hml hts hown hc hA hret ls H locs hl hW
  have hown : s.vm.findClass RX8 = some m.cls := hown
  have hg : ∀ w ∈ GOODS, w.before _ s = true := fun w h => hts w (List.mem_cons_of_mem _ h)
  have hl : lv_has ls 2 [(0, .ref h_this), (1, .int x1)] := hl
  rw [F_X8_peopleOf] at hF
  refine lv_aload_n hx hb dX8_peopleOf_0 rfl (lv_at hl 0 rfl) ?_
  refine va_get (D := G.1) (ci := 7) (v := .ref ((ad_this 2))) (C := RX8) (T := TX8) (N := 13) hx hb hg hu_X8 hown hc.1 hW.1 0 rfl rfl 2 (by decide) (hg _ wd_1_71) (fun _ h9 => h9) rfl dX8_peopleOf_1 ?_
  refine lv_iload_n hx hb dX8_peopleOf_4 rfl (lv_at hl 1 rfl) ?_
  obtain ⟨q5, c_5, hF⟩ := bd_el hF
  refine wcI (ws' := [(h_this, oX8 ad_this v_signCount v_houseCount v_boatCount v_workCount v_turnCost v_boatDayCost), ((ad_this 2), cI G 6 a_housePeople)]) (wc := [((ad_this 2), cI G 6 a_housePeople)]) (wr := [(h_this, oX8 ad_this v_signCount v_houseCount v_boatCount v_workCount v_turnCost v_boatDayCost)]) (w1 := [((ad_this 2), cI G 6 a_housePeople)]) (va_runS (As := [.ref ((ad_this 2)), .int x1]) (rest := []) ⟨hx, hb, hml, hown, hg⟩ (c_X4_at l G x1 6 ((ad_this 2)) a_housePeople q5 c_5 H.size) (va_cwS 2 hg (gS wd_2_161 wd_2_37 wd_1_14 wd_2_38) rfl rfl rfl hdS_X4_at ⟨(Nat.le_of_ble_eq_true rfl), (Nat.le_of_ble_eq_true rfl)⟩) (preS hc hW [1] rfl (by decide)) rfl rfl hl.1 rfl (lv_room (Nat.le_of_ble_eq_true rfl)) dX8_peopleOf_5 ⟨Nat.zero_le _, Nat.zero_le _⟩) hA hW [1] [0] [0, 1] rfl rfl (by decide) (by decide) rfl (by decide) (fun H locs hW => ?_)
  obtain rfl := Option.some.inj hF
  exact hret _ _ _ _ hW dX8_peopleOf_8
theorem dX8_peopleWithin_0 : decode cX8_peopleWithin 0 = .ok (.iconst 0, 1) := by decide +kernel
theorem dX8_peopleWithin_1 : decode cX8_peopleWithin 1 = .ok (.istore_n 2, 1) := by decide +kernel
theorem dX8_peopleWithin_2 : decode cX8_peopleWithin 2 = .ok (.iconst 0, 1) := by decide +kernel
theorem dX8_peopleWithin_3 : decode cX8_peopleWithin 3 = .ok (.istore_n 3, 1) := by decide +kernel
theorem dX8_peopleWithin_4 : decode cX8_peopleWithin 4 = .ok (.iload_n 3, 1) := by decide +kernel
theorem dX8_peopleWithin_5 : decode cX8_peopleWithin 5 = .ok (.aload_n 0, 1) := by decide +kernel
theorem dX8_peopleWithin_6 : decode cX8_peopleWithin 6 = .ok (.getfield 70, 3) := by decide +kernel
theorem dX8_peopleWithin_9 : decode cX8_peopleWithin 9 = .ok (.if_icmp .ge 29, 3) := by decide +kernel
theorem dX8_peopleWithin_12 : decode cX8_peopleWithin 12 = .ok (.aload_n 0, 1) := by decide +kernel
theorem dX8_peopleWithin_13 : decode cX8_peopleWithin 13 = .ok (.getfield 21, 3) := by decide +kernel
theorem dX8_peopleWithin_16 : decode cX8_peopleWithin 16 = .ok (.iload_n 3, 1) := by decide +kernel
theorem dX8_peopleWithin_17 : decode cX8_peopleWithin 17 = .ok (.invokestatic 104, 3) := by decide +kernel
theorem dX8_peopleWithin_20 : decode cX8_peopleWithin 20 = .ok (.iload_n 1, 1) := by decide +kernel
theorem dX8_peopleWithin_21 : decode cX8_peopleWithin 21 = .ok (.if_icmp .gt 11, 3) := by decide +kernel
theorem dX8_peopleWithin_24 : decode cX8_peopleWithin 24 = .ok (.iload_n 2, 1) := by decide +kernel
theorem dX8_peopleWithin_25 : decode cX8_peopleWithin 25 = .ok (.aload_n 0, 1) := by decide +kernel
theorem dX8_peopleWithin_26 : decode cX8_peopleWithin 26 = .ok (.iload_n 3, 1) := by decide +kernel
theorem dX8_peopleWithin_27 : decode cX8_peopleWithin 27 = .ok (.invokevirtual 119, 3) := by decide +kernel
theorem dX8_peopleWithin_30 : decode cX8_peopleWithin 30 = .ok (.iadd, 1) := by decide +kernel
theorem dX8_peopleWithin_31 : decode cX8_peopleWithin 31 = .ok (.istore_n 2, 1) := by decide +kernel
theorem dX8_peopleWithin_32 : decode cX8_peopleWithin 32 = .ok (.iinc 3 1, 3) := by decide +kernel
theorem dX8_peopleWithin_35 : decode cX8_peopleWithin 35 = .ok (.goto (-31), 3) := by decide +kernel
theorem dX8_peopleWithin_38 : decode cX8_peopleWithin 38 = .ok (.iload_n 2, 1) := by decide +kernel
theorem dX8_peopleWithin_39 : decode cX8_peopleWithin 39 = .ok (.ireturn, 1) := by decide +kernel
def L_X8_peopleWithin_4 (x1 : Int32) (v_houseCount : Int32) (a_houseMinutes : Nat → Int32) (a_housePeople : Nat → Int32)  : Nat → Int32 → Int32 → Option (Int32)
  | 0, _, _ => none
  | n + 1, x2_4, x3_4 => (if v_houseCount ≤ x3_4 then some (x2_4) else (F_X4_at x3_4 6 a_houseMinutes).bind (fun q17 => jn (fun (x2_32 : Int32) => L_X8_peopleWithin_4 x1 v_houseCount a_houseMinutes a_housePeople n x2_32 ((x3_4 + 1))) (fun k_32 => (if x1 < q17 then k_32 x2_4 else (F_X8_peopleOf x3_4 a_housePeople).bind (fun q27 => k_32 ((x2_4 + q27)))))))
def F_X8_peopleWithin (x1 : Int32) (v_houseCount : Int32) (a_houseMinutes : Nat → Int32) (a_housePeople : Nat → Int32) : Option (Int32) := L_X8_peopleWithin_4 x1 v_houseCount a_houseMinutes a_housePeople 5000 0 0
theorem hdV_X8_peopleWithin : yX8_peopleWithin.cls = RX8 ∧ yX8_peopleWithin.cls ≠ "java/lang/invoke/MethodHandle" ∧ yX8_peopleWithin.cls ≠ "java/lang/invoke/VarHandle" ∧ (parseMethodDescriptor yX8_peopleWithin.desc).map (fun d => d.parameters.length) = some 1 := by decide +kernel
set_option maxHeartbeats 4000000 in
set_option maxRecDepth 100000 in
theorem c_X8_peopleWithin (l : Launch) (G : GG) (x1 : Int32) (h_this : Nat) (ad_this : Nat → Nat) (v_signCount : Int32) (v_houseCount : Int32) (v_boatCount : Int32) (v_workCount : Int32) (v_turnCost : Int32) (v_boatDayCost : Int32) (a_houseMinutes : Nat → Int32) (a_housePeople : Nat → Int32) (out : Int32) (hF : F_X8_peopleWithin x1 v_houseCount a_houseMinutes a_housePeople = some out) : CtrI l yX8_peopleWithin (WS yX8_peopleWithin cX8_peopleWithin 4 (some .int)) { frames := 2, cells := 0, slots := 0, locals := 42 } G [.ref h_this, .int x1] [(h_this, oX8 ad_this v_signCount v_houseCount v_boatCount v_workCount v_turnCost v_boatDayCost), ((ad_this 3), cI G 6 a_houseMinutes), ((ad_this 2), cI G 6 a_housePeople)] [(h_this, oX8 ad_this v_signCount v_houseCount v_boatCount v_workCount v_turnCost v_boatDayCost), ((ad_this 3), cI G 6 a_houseMinutes), ((ad_this 2), cI G 6 a_housePeople)] out := by
  refine startI (cc := cX8_peopleWithin) (maxL := 4) (by decide) rfl (Nat.le_of_ble_eq_true rfl) ?_
  intro p e s m args below meth c A Q hx hb hml hts hown hc hA hret ls H locs hl hW
  have hown : s.vm.findClass RX8 = some m.cls := hown
  have hg : ∀ w ∈ GOODS, w.before _ s = true := fun w h => hts w (List.mem_cons_of_mem _ h)
  have hl : lv_has ls 4 [(0, .ref h_this), (1, .int x1)] := hl
  rw [F_X8_peopleWithin] at hF
  refine lv_iconst (v := 0) hx hb dX8_peopleWithin_0 (by decide) ?_
  refine lv_istore_n (lv' := [(2, .int 0), (0, .ref h_this), (1, .int x1)]) hx hb dX8_peopleWithin_1 rfl hl (by decide) rfl (fun ls hl => ?_)
  refine lv_iconst (v := 0) hx hb dX8_peopleWithin_2 (by decide) ?_
  refine lv_istore_n (lv' := [(3, .int 0), (2, .int 0), (0, .ref h_this), (1, .int x1)]) hx hb dX8_peopleWithin_3 rfl hl (by decide) rfl (fun ls hl => ?_)
  have L_4 : ∀ (n : Nat) (x2_4 : Int32) (x3_4 : Int32) (ls : Array Slot) (H : Heap) (locs : List Loc), L_X8_peopleWithin_4 x1 v_houseCount a_houseMinutes a_housePeople n x2_4 x3_4 = some out → lv_has ls 4 [(0, .ref h_this), (1, .int x1), (2, .int x2_4), (3, .int x3_4)] → Wd G A s.heap [(h_this, oX8 ad_this v_signCount v_houseCount v_boatCount v_workCount v_turnCost v_boatDayCost), ((ad_this 3), cI G 6 a_houseMinutes), ((ad_this 2), cI G 6 a_housePeople)] H locs → W p l e ({ frames := 2, cells := 0, slots := 0, locals := 42 } : Room) s m args below meth c H locs 0 0 Q (F0 m 4 ls []) := by
    intro n
    induction n with
    | zero => intro x2_4 x3_4 ls H locs hF hl hW; have h0 : none = some out := hF; cases h0
    | succ n ih =>
      intro x2_4 x3_4 ls H locs hF hl hW
      rw [L_X8_peopleWithin_4] at hF
      refine lv_iload_n hx hb dX8_peopleWithin_4 rfl (lv_at hl 3 rfl) ?_
      refine lv_aload_n hx hb dX8_peopleWithin_5 rfl (lv_at hl 0 rfl) ?_
      refine va_get (D := G.1) (ci := 7) (v := .int v_houseCount) (C := RX8) (T := TX8) (N := 13) hx hb hg hu_X8 hown hc.1 hW.1 0 rfl rfl 8 (by decide) (hg _ wd_1_78) (fun _ h9 => h9) rfl dX8_peopleWithin_6 ?_
      refine lv_icmp_ge (tgt := 38) hx hb dX8_peopleWithin_9 (by decide) (fun c_9 => ?_) (fun c_9 => ?_)
      · have hF := ite_t hF c_9
        refine lv_iload_n hx hb dX8_peopleWithin_38 rfl (lv_at hl 2 rfl) ?_
        obtain rfl := Option.some.inj hF
        exact hret _ _ _ _ hW dX8_peopleWithin_39
      · have hF := ite_f hF c_9
        refine lv_aload_n hx hb dX8_peopleWithin_12 rfl (lv_at hl 0 rfl) ?_
        refine va_get (D := G.1) (ci := 7) (v := .ref ((ad_this 3))) (C := RX8) (T := TX8) (N := 13) hx hb hg hu_X8 hown hc.1 hW.1 0 rfl rfl 3 (by decide) (hg _ wd_1_72) (fun _ h9 => h9) rfl dX8_peopleWithin_13 ?_
        refine lv_iload_n hx hb dX8_peopleWithin_16 rfl (lv_at hl 3 rfl) ?_
        obtain ⟨q17, c_17, hF⟩ := bd_el hF
        refine wcI (ws' := [(h_this, oX8 ad_this v_signCount v_houseCount v_boatCount v_workCount v_turnCost v_boatDayCost), ((ad_this 3), cI G 6 a_houseMinutes), ((ad_this 2), cI G 6 a_housePeople)]) (wc := [((ad_this 3), cI G 6 a_houseMinutes)]) (wr := [(h_this, oX8 ad_this v_signCount v_houseCount v_boatCount v_workCount v_turnCost v_boatDayCost), ((ad_this 2), cI G 6 a_housePeople)]) (w1 := [((ad_this 3), cI G 6 a_houseMinutes)]) (va_runS (As := [.ref ((ad_this 3)), .int x3_4]) (rest := []) ⟨hx, hb, hml, hown, hg⟩ (c_X4_at l G x3_4 6 ((ad_this 3)) a_houseMinutes q17 c_17 H.size) (va_cwS 2 hg (gS wd_2_161 wd_2_37 wd_1_14 wd_2_38) rfl rfl rfl hdS_X4_at ⟨(Nat.le_of_ble_eq_true rfl), (Nat.le_of_ble_eq_true rfl)⟩) (preS hc hW [1] rfl (by decide)) rfl rfl hl.1 rfl (lv_room (Nat.le_of_ble_eq_true rfl)) dX8_peopleWithin_17 ⟨Nat.zero_le _, Nat.zero_le _⟩) hA hW [1] [0, 2] [0, 2, 1] rfl rfl (by decide) (by decide) rfl (by decide) (fun H locs hW => ?_)
        refine lv_iload_n hx hb dX8_peopleWithin_20 rfl (lv_at hl 1 rfl) ?_
        obtain ⟨k_32, e_32, hF⟩ := jn_el hF
        have J_32 : ∀ (x2_32 : Int32) (ls : Array Slot) (H : Heap) (locs : List Loc), k_32 x2_32 = some out → lv_has ls 4 [(0, .ref h_this), (1, .int x1), (2, .int x2_32), (3, .int x3_4)] → Wd G A s.heap [(h_this, oX8 ad_this v_signCount v_houseCount v_boatCount v_workCount v_turnCost v_boatDayCost), ((ad_this 3), cI G 6 a_houseMinutes), ((ad_this 2), cI G 6 a_housePeople)] H locs → W p l e ({ frames := 2, cells := 0, slots := 0, locals := 42 } : Room) s m args below meth c H locs 0 0 Q (F0 m 32 ls []) := by
          intro x2_32 ls H locs hF hl hW
          rw [e_32] at hF
          dsimp only at hF
          refine lv_iinc (v := (x3_4 + 1)) (lv' := [(3, .int ((x3_4 + 1))), (0, .ref h_this), (1, .int x1), (2, .int x2_32)]) hx hb dX8_peopleWithin_32 hl (k := 3) rfl rfl (by decide) rfl (fun ls hl => ?_)
          refine lv_goto (tgt := 4) hx hb dX8_peopleWithin_35 (by decide) ?_
          exact ih x2_32 ((x3_4 + 1)) _ _ _ hF (lv_sub hl [1, 2, 3, 0] rfl) hW
        refine lv_icmp_gt (tgt := 32) hx hb dX8_peopleWithin_21 (by decide) (fun c_21 => ?_) (fun c_21 => ?_)
        · have hF := ite_t hF c_21
          exact J_32 x2_4 _ _ _ hF (lv_sub hl [0, 1, 2, 3] rfl) hW
        · have hF := ite_f hF c_21
          refine lv_iload_n hx hb dX8_peopleWithin_24 rfl (lv_at hl 2 rfl) ?_
          refine lv_aload_n hx hb dX8_peopleWithin_25 rfl (lv_at hl 0 rfl) ?_
          refine lv_iload_n hx hb dX8_peopleWithin_26 rfl (lv_at hl 3 rfl) ?_
          obtain ⟨q27, c_27, hF⟩ := bd_el hF
          refine wcI (ws' := [(h_this, oX8 ad_this v_signCount v_houseCount v_boatCount v_workCount v_turnCost v_boatDayCost), ((ad_this 3), cI G 6 a_houseMinutes), ((ad_this 2), cI G 6 a_housePeople)]) (wc := [(h_this, oX8 ad_this v_signCount v_houseCount v_boatCount v_workCount v_turnCost v_boatDayCost), ((ad_this 2), cI G 6 a_housePeople)]) (wr := [((ad_this 3), cI G 6 a_houseMinutes)]) (w1 := [(h_this, oX8 ad_this v_signCount v_houseCount v_boatCount v_workCount v_turnCost v_boatDayCost), ((ad_this 2), cI G 6 a_housePeople)]) (va_runV (As := [.int x3_4]) (rest := [.int x2_4]) ⟨hx, hb, hml, hown, hg⟩ (c_X8_peopleOf l G x3_4 h_this ad_this v_signCount v_houseCount v_boatCount v_workCount v_turnCost v_boatDayCost a_housePeople q27 c_27 H.size) (cwV 1 hg (gV wd_3_117 wd_3_118 wd_3_119 wd_1_4 wd_3_120) rfl rfl rfl hdV_X8_peopleOf ⟨(Nat.le_of_ble_eq_true rfl), (Nat.le_of_ble_eq_true rfl)⟩) (preV hc hW [0, 2] rfl (by decide) rfl rfl) rfl rfl hl.1 rfl (lv_room (Nat.le_of_ble_eq_true rfl)) dX8_peopleWithin_27 ⟨Nat.zero_le _, Nat.zero_le _⟩) hA hW [0, 2] [1] [1, 0, 2] rfl rfl (by decide) (by decide) rfl (by decide) (fun H locs hW => ?_)
          refine lv_iadd hx hb dX8_peopleWithin_30 ?_
          refine lv_istore_n (lv' := [(2, .int ((x2_4 + q27))), (0, .ref h_this), (1, .int x1), (3, .int x3_4)]) hx hb dX8_peopleWithin_31 rfl hl (by decide) rfl (fun ls hl => ?_)
          exact J_32 ((x2_4 + q27)) _ _ _ hF (lv_sub hl [1, 2, 0, 3] rfl) hW
  exact L_4 5000 0 0 _ _ _ hF (lv_sub hl [2, 3, 1, 0] rfl) hW
theorem dX8_people_0 : decode cX8_people 0 = .ok (.aload_n 0, 1) := by decide +kernel
theorem dX8_people_1 : decode cX8_people 1 = .ok (.bipush 60, 2) := by decide +kernel
theorem dX8_people_3 : decode cX8_people 3 = .ok (.invokevirtual 116, 3) := by decide +kernel
theorem dX8_people_6 : decode cX8_people 6 = .ok (.ireturn, 1) := by decide +kernel
def F_X8_people (v_houseCount : Int32) (a_houseMinutes : Nat → Int32) (a_housePeople : Nat → Int32) : Option (Int32) := (F_X8_peopleWithin 60 v_houseCount a_houseMinutes a_housePeople).bind (fun q3 => some (q3))
theorem hdV_X8_people : yX8_people.cls = RX8 ∧ yX8_people.cls ≠ "java/lang/invoke/MethodHandle" ∧ yX8_people.cls ≠ "java/lang/invoke/VarHandle" ∧ (parseMethodDescriptor yX8_people.desc).map (fun d => d.parameters.length) = some 0 := by decide +kernel
set_option maxHeartbeats 4000000 in
set_option maxRecDepth 100000 in
theorem c_X8_people (l : Launch) (G : GG) (h_this : Nat) (ad_this : Nat → Nat) (v_signCount : Int32) (v_houseCount : Int32) (v_boatCount : Int32) (v_workCount : Int32) (v_turnCost : Int32) (v_boatDayCost : Int32) (a_houseMinutes : Nat → Int32) (a_housePeople : Nat → Int32) (out : Int32) (hF : F_X8_people v_houseCount a_houseMinutes a_housePeople = some out) : CtrI l yX8_people (WS yX8_people cX8_people 1 (some .int)) { frames := 3, cells := 0, slots := 0, locals := 65 } G [.ref h_this] [(h_this, oX8 ad_this v_signCount v_houseCount v_boatCount v_workCount v_turnCost v_boatDayCost), ((ad_this 3), cI G 6 a_houseMinutes), ((ad_this 2), cI G 6 a_housePeople)] [(h_this, oX8 ad_this v_signCount v_houseCount v_boatCount v_workCount v_turnCost v_boatDayCost), ((ad_this 3), cI G 6 a_houseMinutes), ((ad_this 2), cI G 6 a_housePeople)] out := by
  refine startI (cc := cX8_people) (maxL := 1) (by decide) rfl (Nat.le_of_ble_eq_true rfl) ?_
  intro p e s m args below meth c A Q hx hb hml hts hown hc hA hret ls H locs hl hW
  have hown : s.vm.findClass RX8 = some m.cls := hown
  have hg : ∀ w ∈ GOODS, w.before _ s = true := fun w h => hts w (List.mem_cons_of_mem _ h)
  have hl : lv_has ls 1 [(0, .ref h_this)] := hl
  rw [F_X8_people] at hF
  refine lv_aload_n hx hb dX8_people_0 rfl (lv_at hl 0 rfl) ?_
  refine lv_bipush (v := 60) hx hb dX8_people_1 (by decide) ?_
  obtain ⟨q3, c_3, hF⟩ := bd_el hF
  refine wcI (ws' := [(h_this, oX8 ad_this v_signCount v_houseCount v_boatCount v_workCount v_turnCost v_boatDayCost), ((ad_this 3), cI G 6 a_houseMinutes), ((ad_this 2), cI G 6 a_housePeople)]) (wc := [(h_this, oX8 ad_this v_signCount v_houseCount v_boatCount v_workCount v_turnCost v_boatDayCost), ((ad_this 3), cI G 6 a_houseMinutes), ((ad_this 2), cI G 6 a_housePeople)]) (wr := []) (w1 := [(h_this, oX8 ad_this v_signCount v_houseCount v_boatCount v_workCount v_turnCost v_boatDayCost), ((ad_this 3), cI G 6 a_houseMinutes), ((ad_this 2), cI G 6 a_housePeople)]) (va_runV (As := [.int 60]) (rest := []) ⟨hx, hb, hml, hown, hg⟩ (c_X8_peopleWithin l G 60 h_this ad_this v_signCount v_houseCount v_boatCount v_workCount v_turnCost v_boatDayCost a_houseMinutes a_housePeople q3 c_3 H.size) (cwV 1 hg (gV wd_4_15 wd_3_114 wd_3_115 wd_1_4 wd_3_116) rfl rfl rfl hdV_X8_peopleWithin ⟨(Nat.le_of_ble_eq_true rfl), (Nat.le_of_ble_eq_true rfl)⟩) (preV hc hW [0, 1, 2] rfl (by decide) rfl rfl) rfl rfl hl.1 rfl (lv_room (Nat.le_of_ble_eq_true rfl)) dX8_people_3 ⟨Nat.zero_le _, Nat.zero_le _⟩) hA hW [0, 1, 2] [] [0, 1, 2] rfl rfl (by decide) (by decide) rfl (by decide) (fun H locs hW => ?_)
  obtain rfl := Option.some.inj hF
  exact hret _ _ _ _ hW dX8_people_6
theorem dX8_roomOf_0 : decode cX8_roomOf 0 = .ok (.aload_n 0, 1) := by decide +kernel
theorem dX8_roomOf_1 : decode cX8_roomOf 1 = .ok (.getfield 24, 3) := by decide +kernel
theorem dX8_roomOf_4 : decode cX8_roomOf 4 = .ok (.iload_n 1, 1) := by decide +kernel
theorem dX8_roomOf_5 : decode cX8_roomOf 5 = .ok (.invokestatic 104, 3) := by decide +kernel
theorem dX8_roomOf_8 : decode cX8_roomOf 8 = .ok (.ireturn, 1) := by decide +kernel
def F_X8_roomOf (x1 : Int32) (a_boatRoom : Nat → Int32) : Option (Int32) := (F_X4_at x1 4 a_boatRoom).bind (fun q5 => some (q5))
theorem hdV_X8_roomOf : yX8_roomOf.cls = RX8 ∧ yX8_roomOf.cls ≠ "java/lang/invoke/MethodHandle" ∧ yX8_roomOf.cls ≠ "java/lang/invoke/VarHandle" ∧ (parseMethodDescriptor yX8_roomOf.desc).map (fun d => d.parameters.length) = some 1 := by decide +kernel
set_option maxHeartbeats 4000000 in
set_option maxRecDepth 100000 in
theorem c_X8_roomOf (l : Launch) (G : GG) (x1 : Int32) (h_this : Nat) (ad_this : Nat → Nat) (v_signCount : Int32) (v_houseCount : Int32) (v_boatCount : Int32) (v_workCount : Int32) (v_turnCost : Int32) (v_boatDayCost : Int32) (a_boatRoom : Nat → Int32) (out : Int32) (hF : F_X8_roomOf x1 a_boatRoom = some out) : CtrI l yX8_roomOf (WS yX8_roomOf cX8_roomOf 2 (some .int)) { frames := 1, cells := 0, slots := 0, locals := 21 } G [.ref h_this, .int x1] [(h_this, oX8 ad_this v_signCount v_houseCount v_boatCount v_workCount v_turnCost v_boatDayCost), ((ad_this 4), cI G 4 a_boatRoom)] [(h_this, oX8 ad_this v_signCount v_houseCount v_boatCount v_workCount v_turnCost v_boatDayCost), ((ad_this 4), cI G 4 a_boatRoom)] out := by
  refine startI (cc := cX8_roomOf) (maxL := 2) (by decide) rfl (Nat.le_of_ble_eq_true rfl) ?_
  intro p e s m args below meth c A Q hx hb hml hts hown hc hA hret ls H locs hl hW
  have hown : s.vm.findClass RX8 = some m.cls := hown
  have hg : ∀ w ∈ GOODS, w.before _ s = true := fun w h => hts w (List.mem_cons_of_mem _ h)
  have hl : lv_has ls 2 [(0, .ref h_this), (1, .int x1)] := hl
  rw [F_X8_roomOf] at hF
  refine lv_aload_n hx hb dX8_roomOf_0 rfl (lv_at hl 0 rfl) ?_
  refine va_get (D := G.1) (ci := 7) (v := .ref ((ad_this 4))) (C := RX8) (T := TX8) (N := 13) hx hb hg hu_X8 hown hc.1 hW.1 0 rfl rfl 4 (by decide) (hg _ wd_1_73) (fun _ h9 => h9) rfl dX8_roomOf_1 ?_
  refine lv_iload_n hx hb dX8_roomOf_4 rfl (lv_at hl 1 rfl) ?_
  obtain ⟨q5, c_5, hF⟩ := bd_el hF
  refine wcI (ws' := [(h_this, oX8 ad_this v_signCount v_houseCount v_boatCount v_workCount v_turnCost v_boatDayCost), ((ad_this 4), cI G 4 a_boatRoom)]) (wc := [((ad_this 4), cI G 4 a_boatRoom)]) (wr := [(h_this, oX8 ad_this v_signCount v_houseCount v_boatCount v_workCount v_turnCost v_boatDayCost)]) (w1 := [((ad_this 4), cI G 4 a_boatRoom)]) (va_runS (As := [.ref ((ad_this 4)), .int x1]) (rest := []) ⟨hx, hb, hml, hown, hg⟩ (c_X4_at l G x1 4 ((ad_this 4)) a_boatRoom q5 c_5 H.size) (va_cwS 2 hg (gS wd_2_161 wd_2_37 wd_1_14 wd_2_38) rfl rfl rfl hdS_X4_at ⟨(Nat.le_of_ble_eq_true rfl), (Nat.le_of_ble_eq_true rfl)⟩) (preS hc hW [1] rfl (by decide)) rfl rfl hl.1 rfl (lv_room (Nat.le_of_ble_eq_true rfl)) dX8_roomOf_5 ⟨Nat.zero_le _, Nat.zero_le _⟩) hA hW [1] [0] [0, 1] rfl rfl (by decide) (by decide) rfl (by decide) (fun H locs hW => ?_)
  obtain rfl := Option.some.inj hF
  exact hret _ _ _ _ hW dX8_roomOf_8
theorem dX8_roomInAll_0 : decode cX8_roomInAll 0 = .ok (.iconst 0, 1) := by decide +kernel
theorem dX8_roomInAll_1 : decode cX8_roomInAll 1 = .ok (.istore_n 1, 1) := by decide +kernel
theorem dX8_roomInAll_2 : decode cX8_roomInAll 2 = .ok (.iconst 0, 1) := by decide +kernel
theorem dX8_roomInAll_3 : decode cX8_roomInAll 3 = .ok (.istore_n 2, 1) := by decide +kernel
theorem dX8_roomInAll_4 : decode cX8_roomInAll 4 = .ok (.iload_n 2, 1) := by decide +kernel
theorem dX8_roomInAll_5 : decode cX8_roomInAll 5 = .ok (.aload_n 0, 1) := by decide +kernel
theorem dX8_roomInAll_6 : decode cX8_roomInAll 6 = .ok (.getfield 73, 3) := by decide +kernel
theorem dX8_roomInAll_9 : decode cX8_roomInAll 9 = .ok (.if_icmp .ge 17, 3) := by decide +kernel
theorem dX8_roomInAll_12 : decode cX8_roomInAll 12 = .ok (.iload_n 1, 1) := by decide +kernel
theorem dX8_roomInAll_13 : decode cX8_roomInAll 13 = .ok (.aload_n 0, 1) := by decide +kernel
theorem dX8_roomInAll_14 : decode cX8_roomInAll 14 = .ok (.iload_n 2, 1) := by decide +kernel
theorem dX8_roomInAll_15 : decode cX8_roomInAll 15 = .ok (.invokevirtual 122, 3) := by decide +kernel
theorem dX8_roomInAll_18 : decode cX8_roomInAll 18 = .ok (.iadd, 1) := by decide +kernel
theorem dX8_roomInAll_19 : decode cX8_roomInAll 19 = .ok (.istore_n 1, 1) := by decide +kernel
theorem dX8_roomInAll_20 : decode cX8_roomInAll 20 = .ok (.iinc 2 1, 3) := by decide +kernel
theorem dX8_roomInAll_23 : decode cX8_roomInAll 23 = .ok (.goto (-19), 3) := by decide +kernel
theorem dX8_roomInAll_26 : decode cX8_roomInAll 26 = .ok (.iload_n 1, 1) := by decide +kernel
theorem dX8_roomInAll_27 : decode cX8_roomInAll 27 = .ok (.ireturn, 1) := by decide +kernel
def L_X8_roomInAll_4 (v_boatCount : Int32) (a_boatRoom : Nat → Int32)  : Nat → Int32 → Int32 → Option (Int32)
  | 0, _, _ => none
  | n + 1, x1_4, x2_4 => (if v_boatCount ≤ x2_4 then some (x1_4) else (F_X8_roomOf x2_4 a_boatRoom).bind (fun q15 => L_X8_roomInAll_4 v_boatCount a_boatRoom n ((x1_4 + q15)) ((x2_4 + 1))))
def F_X8_roomInAll (v_boatCount : Int32) (a_boatRoom : Nat → Int32) : Option (Int32) := L_X8_roomInAll_4 v_boatCount a_boatRoom 5000 0 0
theorem hdV_X8_roomInAll : yX8_roomInAll.cls = RX8 ∧ yX8_roomInAll.cls ≠ "java/lang/invoke/MethodHandle" ∧ yX8_roomInAll.cls ≠ "java/lang/invoke/VarHandle" ∧ (parseMethodDescriptor yX8_roomInAll.desc).map (fun d => d.parameters.length) = some 0 := by decide +kernel
set_option maxHeartbeats 4000000 in
set_option maxRecDepth 100000 in
theorem c_X8_roomInAll (l : Launch) (G : GG) (h_this : Nat) (ad_this : Nat → Nat) (v_signCount : Int32) (v_houseCount : Int32) (v_boatCount : Int32) (v_workCount : Int32) (v_turnCost : Int32) (v_boatDayCost : Int32) (a_boatRoom : Nat → Int32) (out : Int32) (hF : F_X8_roomInAll v_boatCount a_boatRoom = some out) : CtrI l yX8_roomInAll (WS yX8_roomInAll cX8_roomInAll 3 (some .int)) { frames := 2, cells := 0, slots := 0, locals := 42 } G [.ref h_this] [(h_this, oX8 ad_this v_signCount v_houseCount v_boatCount v_workCount v_turnCost v_boatDayCost), ((ad_this 4), cI G 4 a_boatRoom)] [(h_this, oX8 ad_this v_signCount v_houseCount v_boatCount v_workCount v_turnCost v_boatDayCost), ((ad_this 4), cI G 4 a_boatRoom)] out := by
  refine startI (cc := cX8_roomInAll) (maxL := 3) (by decide) rfl (Nat.le_of_ble_eq_true rfl) ?_
  intro p e s m args below meth c A Q hx hb hml hts hown hc hA hret ls H locs hl hW
  have hown : s.vm.findClass RX8 = some m.cls := hown
  have hg : ∀ w ∈ GOODS, w.before _ s = true := fun w h => hts w (List.mem_cons_of_mem _ h)
  have hl : lv_has ls 3 [(0, .ref h_this)] := hl
  rw [F_X8_roomInAll] at hF
  refine lv_iconst (v := 0) hx hb dX8_roomInAll_0 (by decide) ?_
  refine lv_istore_n (lv' := [(1, .int 0), (0, .ref h_this)]) hx hb dX8_roomInAll_1 rfl hl (by decide) rfl (fun ls hl => ?_)
  refine lv_iconst (v := 0) hx hb dX8_roomInAll_2 (by decide) ?_
  refine lv_istore_n (lv' := [(2, .int 0), (1, .int 0), (0, .ref h_this)]) hx hb dX8_roomInAll_3 rfl hl (by decide) rfl (fun ls hl => ?_)
  have L_4 : ∀ (n : Nat) (x1_4 : Int32) (x2_4 : Int32) (ls : Array Slot) (H : Heap) (locs : List Loc), L_X8_roomInAll_4 v_boatCount a_boatRoom n x1_4 x2_4 = some out → lv_has ls 3 [(0, .ref h_this), (1, .int x1_4), (2, .int x2_4)] → Wd G A s.heap [(h_this, oX8 ad_this v_signCount v_houseCount v_boatCount v_workCount v_turnCost v_boatDayCost), ((ad_this 4), cI G 4 a_boatRoom)] H locs → W p l e ({ frames := 2, cells := 0, slots := 0, locals := 42 } : Room) s m args below meth c H locs 0 0 Q (F0 m 4 ls []) := by
    intro n
    induction n with
    | zero => intro x1_4 x2_4 ls H locs hF hl hW; have h0 : none = some out := hF; cases h0
    | succ n ih =>
      intro x1_4 x2_4 ls H locs hF hl hW
      rw [L_X8_roomInAll_4] at hF
      refine lv_iload_n hx hb dX8_roomInAll_4 rfl (lv_at hl 2 rfl) ?_
      refine lv_aload_n hx hb dX8_roomInAll_5 rfl (lv_at hl 0 rfl) ?_
      refine va_get (D := G.1) (ci := 7) (v := .int v_boatCount) (C := RX8) (T := TX8) (N := 13) hx hb hg hu_X8 hown hc.1 hW.1 0 rfl rfl 9 (by decide) (hg _ wd_1_82) (fun _ h9 => h9) rfl dX8_roomInAll_6 ?_
      refine lv_icmp_ge (tgt := 26) hx hb dX8_roomInAll_9 (by decide) (fun c_9 => ?_) (fun c_9 => ?_)
      · have hF := ite_t hF c_9
        refine lv_iload_n hx hb dX8_roomInAll_26 rfl (lv_at hl 1 rfl) ?_
        obtain rfl := Option.some.inj hF
        exact hret _ _ _ _ hW dX8_roomInAll_27
      · have hF := ite_f hF c_9
        refine lv_iload_n hx hb dX8_roomInAll_12 rfl (lv_at hl 1 rfl) ?_
        refine lv_aload_n hx hb dX8_roomInAll_13 rfl (lv_at hl 0 rfl) ?_
        refine lv_iload_n hx hb dX8_roomInAll_14 rfl (lv_at hl 2 rfl) ?_
        obtain ⟨q15, c_15, hF⟩ := bd_el hF
        refine wcI (ws' := [(h_this, oX8 ad_this v_signCount v_houseCount v_boatCount v_workCount v_turnCost v_boatDayCost), ((ad_this 4), cI G 4 a_boatRoom)]) (wc := [(h_this, oX8 ad_this v_signCount v_houseCount v_boatCount v_workCount v_turnCost v_boatDayCost), ((ad_this 4), cI G 4 a_boatRoom)]) (wr := []) (w1 := [(h_this, oX8 ad_this v_signCount v_houseCount v_boatCount v_workCount v_turnCost v_boatDayCost), ((ad_this 4), cI G 4 a_boatRoom)]) (va_runV (As := [.int x2_4]) (rest := [.int x1_4]) ⟨hx, hb, hml, hown, hg⟩ (c_X8_roomOf l G x2_4 h_this ad_this v_signCount v_houseCount v_boatCount v_workCount v_turnCost v_boatDayCost a_boatRoom q15 c_15 H.size) (cwV 1 hg (gV wd_3_125 wd_3_126 wd_3_127 wd_1_4 wd_3_128) rfl rfl rfl hdV_X8_roomOf ⟨(Nat.le_of_ble_eq_true rfl), (Nat.le_of_ble_eq_true rfl)⟩) (preV hc hW [0, 1] rfl (by decide) rfl rfl) rfl rfl hl.1 rfl (lv_room (Nat.le_of_ble_eq_true rfl)) dX8_roomInAll_15 ⟨Nat.zero_le _, Nat.zero_le _⟩) hA hW [0, 1] [] [0, 1] rfl rfl (by decide) (by decide) rfl (by decide) (fun H locs hW => ?_)
        refine lv_iadd hx hb dX8_roomInAll_18 ?_
        refine lv_istore_n (lv' := [(1, .int ((x1_4 + q15))), (0, .ref h_this), (2, .int x2_4)]) hx hb dX8_roomInAll_19 rfl hl (by decide) rfl (fun ls hl => ?_)
        refine lv_iinc (v := (x2_4 + 1)) (lv' := [(2, .int ((x2_4 + 1))), (1, .int ((x1_4 + q15))), (0, .ref h_this)]) hx hb dX8_roomInAll_20 hl (k := 2) rfl rfl (by decide) rfl (fun ls hl => ?_)
        refine lv_goto (tgt := 4) hx hb dX8_roomInAll_23 (by decide) ?_
        exact ih ((x1_4 + q15)) ((x2_4 + 1)) _ _ _ hF (lv_sub hl [2, 1, 0] rfl) hW
  exact L_4 5000 0 0 _ _ _ hF (lv_sub hl [2, 1, 0] rfl) hW
theorem dX8_chance_0 : decode cX8_chance 0 = .ok (.iconst 4, 1) := by decide +kernel
theorem dX8_chance_1 : decode cX8_chance 1 = .ok (.aload_n 0, 1) := by decide +kernel
theorem dX8_chance_2 : decode cX8_chance 2 = .ok (.getfield 9, 3) := by decide +kernel
theorem dX8_chance_5 : decode cX8_chance 5 = .ok (.iload_n 1, 1) := by decide +kernel
theorem dX8_chance_6 : decode cX8_chance 6 = .ok (.invokestatic 104, 3) := by decide +kernel
theorem dX8_chance_9 : decode cX8_chance 9 = .ok (.iload_n 2, 1) := by decide +kernel
theorem dX8_chance_10 : decode cX8_chance 10 = .ok (.iadd, 1) := by decide +kernel
theorem dX8_chance_11 : decode cX8_chance 11 = .ok (.invokestatic 125, 3) := by decide +kernel
theorem dX8_chance_14 : decode cX8_chance 14 = .ok (.ireturn, 1) := by decide +kernel
def F_X8_chance (x1 : Int32) (x2 : Int32) (a_lighter : Nat → Int32) : Option (Int32) := (F_X4_at x1 3 a_lighter).bind (fun q6 => some ((if (q6 + x2) < (4 : Int32) then (q6 + x2) else 4)))
theorem hdV_X8_chance : yX8_chance.cls = RX8 ∧ yX8_chance.cls ≠ "java/lang/invoke/MethodHandle" ∧ yX8_chance.cls ≠ "java/lang/invoke/VarHandle" ∧ (parseMethodDescriptor yX8_chance.desc).map (fun d => d.parameters.length) = some 2 := by decide +kernel
set_option maxHeartbeats 4000000 in
set_option maxRecDepth 100000 in
theorem c_X8_chance (l : Launch) (G : GG) (x1 : Int32) (x2 : Int32) (h_this : Nat) (ad_this : Nat → Nat) (v_signCount : Int32) (v_houseCount : Int32) (v_boatCount : Int32) (v_workCount : Int32) (v_turnCost : Int32) (v_boatDayCost : Int32) (a_lighter : Nat → Int32) (out : Int32) (hF : F_X8_chance x1 x2 a_lighter = some out) : CtrI l yX8_chance (WS yX8_chance cX8_chance 3 (some .int)) { frames := 1, cells := 0, slots := 0, locals := 24 } G [.ref h_this, .int x1, .int x2] [(h_this, oX8 ad_this v_signCount v_houseCount v_boatCount v_workCount v_turnCost v_boatDayCost), ((ad_this 0), cI G 3 a_lighter)] [(h_this, oX8 ad_this v_signCount v_houseCount v_boatCount v_workCount v_turnCost v_boatDayCost), ((ad_this 0), cI G 3 a_lighter)] out := by
  refine startI (cc := cX8_chance) (maxL := 3) (by decide) rfl (Nat.le_of_ble_eq_true rfl) ?_
  intro p e s m args below meth c A Q hx hb hml hts hown hc hA hret ls H locs hl hW
  have hown : s.vm.findClass RX8 = some m.cls := hown
  have hg : ∀ w ∈ GOODS, w.before _ s = true := fun w h => hts w (List.mem_cons_of_mem _ h)
  have hl : lv_has ls 3 [(0, .ref h_this), (1, .int x1), (2, .int x2)] := hl
  rw [F_X8_chance] at hF
  refine lv_iconst (v := 4) hx hb dX8_chance_0 (by decide) ?_
  refine lv_aload_n hx hb dX8_chance_1 rfl (lv_at hl 0 rfl) ?_
  refine va_get (D := G.1) (ci := 7) (v := .ref ((ad_this 0))) (C := RX8) (T := TX8) (N := 13) hx hb hg hu_X8 hown hc.1 hW.1 0 rfl rfl 0 (by decide) (hg _ wd_1_69) (fun _ h9 => h9) rfl dX8_chance_2 ?_
  refine lv_iload_n hx hb dX8_chance_5 rfl (lv_at hl 1 rfl) ?_
  obtain ⟨q6, c_6, hF⟩ := bd_el hF
  refine wcI (ws' := [(h_this, oX8 ad_this v_signCount v_houseCount v_boatCount v_workCount v_turnCost v_boatDayCost), ((ad_this 0), cI G 3 a_lighter)]) (wc := [((ad_this 0), cI G 3 a_lighter)]) (wr := [(h_this, oX8 ad_this v_signCount v_houseCount v_boatCount v_workCount v_turnCost v_boatDayCost)]) (w1 := [((ad_this 0), cI G 3 a_lighter)]) (va_runS (As := [.ref ((ad_this 0)), .int x1]) (rest := [.int 4]) ⟨hx, hb, hml, hown, hg⟩ (c_X4_at l G x1 3 ((ad_this 0)) a_lighter q6 c_6 H.size) (va_cwS 2 hg (gS wd_2_161 wd_2_37 wd_1_14 wd_2_38) rfl rfl rfl hdS_X4_at ⟨(Nat.le_of_ble_eq_true rfl), (Nat.le_of_ble_eq_true rfl)⟩) (preS hc hW [1] rfl (by decide)) rfl rfl hl.1 rfl (lv_room (Nat.le_of_ble_eq_true rfl)) dX8_chance_6 ⟨Nat.zero_le _, Nat.zero_le _⟩) hA hW [1] [0] [0, 1] rfl rfl (by decide) (by decide) rfl (by decide) (fun H locs hW => ?_)
  refine lv_iload_n hx hb dX8_chance_9 rfl (lv_at hl 2 rfl) ?_
  refine lv_iadd hx hb dX8_chance_10 ?_
  refine va_mmin hx hb (hml.trans hl.1.symm) hown (hg _ wd_2_239) (hg _ wd_3_0) (hg _ wd_1_16) (hg _ wd_3_1) (Nat.le_of_ble_eq_true rfl) (Nat.le_of_ble_eq_true rfl) (Nat.zero_le _) (Nat.zero_le _) dX8_chance_11 ?_
  obtain rfl := Option.some.inj hF
  exact hret _ _ _ _ hW dX8_chance_14
theorem dX8_ownChance_0 : decode cX8_ownChance 0 = .ok (.iload_n 1, 1) := by decide +kernel
theorem dX8_ownChance_1 : decode cX8_ownChance 1 = .ok (.iconst 4, 1) := by decide +kernel
theorem dX8_ownChance_2 : decode cX8_ownChance 2 = .ok (.imul, 1) := by decide +kernel
theorem dX8_ownChance_3 : decode cX8_ownChance 3 = .ok (.istore 4, 2) := by decide +kernel
theorem dX8_ownChance_5 : decode cX8_ownChance 5 = .ok (.aload_n 0, 1) := by decide +kernel
theorem dX8_ownChance_6 : decode cX8_ownChance 6 = .ok (.getfield 15, 3) := by decide +kernel
theorem dX8_ownChance_9 : decode cX8_ownChance 9 = .ok (.iload 4, 2) := by decide +kernel
theorem dX8_ownChance_11 : decode cX8_ownChance 11 = .ok (.invokestatic 104, 3) := by decide +kernel
theorem dX8_ownChance_14 : decode cX8_ownChance 14 = .ok (.istore 5, 2) := by decide +kernel
theorem dX8_ownChance_16 : decode cX8_ownChance 16 = .ok (.aload_n 0, 1) := by decide +kernel
theorem dX8_ownChance_17 : decode cX8_ownChance 17 = .ok (.getfield 15, 3) := by decide +kernel
theorem dX8_ownChance_20 : decode cX8_ownChance 20 = .ok (.iload 4, 2) := by decide +kernel
theorem dX8_ownChance_22 : decode cX8_ownChance 22 = .ok (.iconst 1, 1) := by decide +kernel
theorem dX8_ownChance_23 : decode cX8_ownChance 23 = .ok (.iadd, 1) := by decide +kernel
theorem dX8_ownChance_24 : decode cX8_ownChance 24 = .ok (.iload 5, 2) := by decide +kernel
theorem dX8_ownChance_26 : decode cX8_ownChance 26 = .ok (.iconst 1, 1) := by decide +kernel
theorem dX8_ownChance_27 : decode cX8_ownChance 27 = .ok (.if_icmp .ne 7, 3) := by decide +kernel
theorem dX8_ownChance_30 : decode cX8_ownChance 30 = .ok (.iload_n 2, 1) := by decide +kernel
theorem dX8_ownChance_31 : decode cX8_ownChance 31 = .ok (.goto 4, 3) := by decide +kernel
theorem dX8_ownChance_34 : decode cX8_ownChance 34 = .ok (.iload_n 3, 1) := by decide +kernel
theorem dX8_ownChance_35 : decode cX8_ownChance 35 = .ok (.iadd, 1) := by decide +kernel
theorem dX8_ownChance_36 : decode cX8_ownChance 36 = .ok (.invokestatic 104, 3) := by decide +kernel
theorem dX8_ownChance_39 : decode cX8_ownChance 39 = .ok (.istore 6, 2) := by decide +kernel
theorem dX8_ownChance_41 : decode cX8_ownChance 41 = .ok (.iload 5, 2) := by decide +kernel
theorem dX8_ownChance_43 : decode cX8_ownChance 43 = .ok (.iconst 2, 1) := by decide +kernel
theorem dX8_ownChance_44 : decode cX8_ownChance 44 = .ok (.if_icmp .ne 10, 3) := by decide +kernel
theorem dX8_ownChance_47 : decode cX8_ownChance 47 = .ok (.iconst 4, 1) := by decide +kernel
theorem dX8_ownChance_48 : decode cX8_ownChance 48 = .ok (.iload 6, 2) := by decide +kernel
theorem dX8_ownChance_50 : decode cX8_ownChance 50 = .ok (.isub, 1) := by decide +kernel
theorem dX8_ownChance_51 : decode cX8_ownChance 51 = .ok (.goto 5, 3) := by decide +kernel
theorem dX8_ownChance_54 : decode cX8_ownChance 54 = .ok (.iload 6, 2) := by decide +kernel
theorem dX8_ownChance_56 : decode cX8_ownChance 56 = .ok (.ireturn, 1) := by decide +kernel
def F_X8_ownChance (x1 : Int32) (x2 : Int32) (x3 : Int32) (a_signNumbers : Nat → Int32) : Option (Int32) := (F_X4_at ((x1 * 4)) 16 a_signNumbers).bind (fun q11 => jn (fun (j0_35 : Int32) => (F_X4_at ((((x1 * 4) + 1) + j0_35)) 16 a_signNumbers).bind (fun q36 => (if q11 = 2 then some ((4 - q36)) else some (q36)))) (fun k_35 => (if q11 = 1 then k_35 x2 else k_35 x3)))
theorem hdV_X8_ownChance : yX8_ownChance.cls = RX8 ∧ yX8_ownChance.cls ≠ "java/lang/invoke/MethodHandle" ∧ yX8_ownChance.cls ≠ "java/lang/invoke/VarHandle" ∧ (parseMethodDescriptor yX8_ownChance.desc).map (fun d => d.parameters.length) = some 3 := by decide +kernel
set_option maxHeartbeats 4000000 in
set_option maxRecDepth 100000 in
theorem c_X8_ownChance (l : Launch) (G : GG) (x1 : Int32) (x2 : Int32) (x3 : Int32) (h_this : Nat) (ad_this : Nat → Nat) (v_signCount : Int32) (v_houseCount : Int32) (v_boatCount : Int32) (v_workCount : Int32) (v_turnCost : Int32) (v_boatDayCost : Int32) (a_signNumbers : Nat → Int32) (out : Int32) (hF : F_X8_ownChance x1 x2 x3 a_signNumbers = some out) : CtrI l yX8_ownChance (WS yX8_ownChance cX8_ownChance 7 (some .int)) { frames := 1, cells := 0, slots := 0, locals := 21 } G [.ref h_this, .int x1, .int x2, .int x3] [(h_this, oX8 ad_this v_signCount v_houseCount v_boatCount v_workCount v_turnCost v_boatDayCost), ((ad_this 1), cI G 16 a_signNumbers)] [(h_this, oX8 ad_this v_signCount v_houseCount v_boatCount v_workCount v_turnCost v_boatDayCost), ((ad_this 1), cI G 16 a_signNumbers)] out := by
  refine startI (cc := cX8_ownChance) (maxL := 7) (by decide) rfl (Nat.le_of_ble_eq_true rfl) ?_
  intro p e s m args below meth c A Q hx hb hml hts hown hc hA hret ls H locs hl hW
  have hown : s.vm.findClass RX8 = some m.cls := hown
  have hg : ∀ w ∈ GOODS, w.before _ s = true := fun w h => hts w (List.mem_cons_of_mem _ h)
  have hl : lv_has ls 7 [(0, .ref h_this), (1, .int x1), (2, .int x2), (3, .int x3)] := hl
  rw [F_X8_ownChance] at hF
  refine lv_iload_n hx hb dX8_ownChance_0 rfl (lv_at hl 1 rfl) ?_
  refine lv_iconst (v := 4) hx hb dX8_ownChance_1 (by decide) ?_
  refine lv_imul hx hb dX8_ownChance_2 ?_
  refine lv_istore (lv' := [(4, .int ((x1 * 4))), (0, .ref h_this), (1, .int x1), (2, .int x2), (3, .int x3)]) hx hb dX8_ownChance_3 hl (by decide) rfl (fun ls hl => ?_)
  refine lv_aload_n hx hb dX8_ownChance_5 rfl (lv_at hl 1 rfl) ?_
  refine va_get (D := G.1) (ci := 7) (v := .ref ((ad_this 1))) (C := RX8) (T := TX8) (N := 13) hx hb hg hu_X8 hown hc.1 hW.1 0 rfl rfl 1 (by decide) (hg _ wd_1_70) (fun _ h9 => h9) rfl dX8_ownChance_6 ?_
  refine lv_iload hx hb dX8_ownChance_9 (lv_at hl 0 rfl) ?_
  obtain ⟨q11, c_11, hF⟩ := bd_el hF
  refine wcI (ws' := [(h_this, oX8 ad_this v_signCount v_houseCount v_boatCount v_workCount v_turnCost v_boatDayCost), ((ad_this 1), cI G 16 a_signNumbers)]) (wc := [((ad_this 1), cI G 16 a_signNumbers)]) (wr := [(h_this, oX8 ad_this v_signCount v_houseCount v_boatCount v_workCount v_turnCost v_boatDayCost)]) (w1 := [((ad_this 1), cI G 16 a_signNumbers)]) (va_runS (As := [.ref ((ad_this 1)), .int ((x1 * 4))]) (rest := []) ⟨hx, hb, hml, hown, hg⟩ (c_X4_at l G ((x1 * 4)) 16 ((ad_this 1)) a_signNumbers q11 c_11 H.size) (va_cwS 2 hg (gS wd_2_161 wd_2_37 wd_1_14 wd_2_38) rfl rfl rfl hdS_X4_at ⟨(Nat.le_of_ble_eq_true rfl), (Nat.le_of_ble_eq_true rfl)⟩) (preS hc hW [1] rfl (by decide)) rfl rfl hl.1 rfl (lv_room (Nat.le_of_ble_eq_true rfl)) dX8_ownChance_11 ⟨Nat.zero_le _, Nat.zero_le _⟩) hA hW [1] [0] [0, 1] rfl rfl (by decide) (by decide) rfl (by decide) (fun H locs hW => ?_)
  refine lv_istore (lv' := [(5, .int q11), (4, .int ((x1 * 4))), (0, .ref h_this), (1, .int x1), (2, .int x2), (3, .int x3)]) hx hb dX8_ownChance_14 hl (by decide) rfl (fun ls hl => ?_)
  refine lv_aload_n hx hb dX8_ownChance_16 rfl (lv_at hl 2 rfl) ?_
  refine va_get (D := G.1) (ci := 7) (v := .ref ((ad_this 1))) (C := RX8) (T := TX8) (N := 13) hx hb hg hu_X8 hown hc.1 hW.1 0 rfl rfl 1 (by decide) (hg _ wd_1_70) (fun _ h9 => h9) rfl dX8_ownChance_17 ?_
  refine lv_iload hx hb dX8_ownChance_20 (lv_at hl 1 rfl) ?_
  refine lv_iconst (v := 1) hx hb dX8_ownChance_22 (by decide) ?_
  refine lv_iadd hx hb dX8_ownChance_23 ?_
  refine lv_iload hx hb dX8_ownChance_24 (lv_at hl 0 rfl) ?_
  refine lv_iconst (v := 1) hx hb dX8_ownChance_26 (by decide) ?_
  obtain ⟨k_35, e_35, hF⟩ := jn_el hF
  have J_35 : ∀ (j0_35 : Int32) (ls : Array Slot) (H : Heap) (locs : List Loc), k_35 j0_35 = some out → lv_has ls 7 [(5, .int q11)] → Wd G A s.heap [(h_this, oX8 ad_this v_signCount v_houseCount v_boatCount v_workCount v_turnCost v_boatDayCost), ((ad_this 1), cI G 16 a_signNumbers)] H locs → W p l e ({ frames := 1, cells := 0, slots := 0, locals := 21 } : Room) s m args below meth c H locs 0 0 Q (F0 m 35 ls [.int j0_35, .int (((x1 * 4) + 1)), .ref ((ad_this 1))]) := by
    intro j0_35 ls H locs hF hl hW
    rw [e_35] at hF
    dsimp only at hF
    refine lv_iadd hx hb dX8_ownChance_35 ?_
    obtain ⟨q36, c_36, hF⟩ := bd_el hF
    refine wcI (ws' := [(h_this, oX8 ad_this v_signCount v_houseCount v_boatCount v_workCount v_turnCost v_boatDayCost), ((ad_this 1), cI G 16 a_signNumbers)]) (wc := [((ad_this 1), cI G 16 a_signNumbers)]) (wr := [(h_this, oX8 ad_this v_signCount v_houseCount v_boatCount v_workCount v_turnCost v_boatDayCost)]) (w1 := [((ad_this 1), cI G 16 a_signNumbers)]) (va_runS (As := [.ref ((ad_this 1)), .int ((((x1 * 4) + 1) + j0_35))]) (rest := []) ⟨hx, hb, hml, hown, hg⟩ (c_X4_at l G ((((x1 * 4) + 1) + j0_35)) 16 ((ad_this 1)) a_signNumbers q36 c_36 H.size) (va_cwS 2 hg (gS wd_2_161 wd_2_37 wd_1_14 wd_2_38) rfl rfl rfl hdS_X4_at ⟨(Nat.le_of_ble_eq_true rfl), (Nat.le_of_ble_eq_true rfl)⟩) (preS hc hW [1] rfl (by decide)) rfl rfl hl.1 rfl (lv_room (Nat.le_of_ble_eq_true rfl)) dX8_ownChance_36 ⟨Nat.zero_le _, Nat.zero_le _⟩) hA hW [1] [0] [0, 1] rfl rfl (by decide) (by decide) rfl (by decide) (fun H locs hW => ?_)
    refine lv_istore (lv' := [(6, .int q36), (5, .int q11)]) hx hb dX8_ownChance_39 hl (by decide) rfl (fun ls hl => ?_)
    refine lv_iload hx hb dX8_ownChance_41 (lv_at hl 1 rfl) ?_
    refine lv_iconst (v := 2) hx hb dX8_ownChance_43 (by decide) ?_
    refine lv_icmp_ne (tgt := 54) hx hb dX8_ownChance_44 (by decide) (fun c_44 => ?_) (fun c_44 => ?_)
    · have hF := ite_f hF c_44
      refine lv_iload hx hb dX8_ownChance_54 (lv_at hl 0 rfl) ?_
      obtain rfl := Option.some.inj hF
      exact hret _ _ _ _ hW dX8_ownChance_56
    · have hF := ite_t hF c_44
      refine lv_iconst (v := 4) hx hb dX8_ownChance_47 (by decide) ?_
      refine lv_iload hx hb dX8_ownChance_48 (lv_at hl 0 rfl) ?_
      refine lv_isub hx hb dX8_ownChance_50 ?_
      refine lv_goto (tgt := 56) hx hb dX8_ownChance_51 (by decide) ?_
      obtain rfl := Option.some.inj hF
      exact hret _ _ _ _ hW dX8_ownChance_56
  refine lv_icmp_ne (tgt := 34) hx hb dX8_ownChance_27 (by decide) (fun c_27 => ?_) (fun c_27 => ?_)
  · have hF := ite_f hF c_27
    refine lv_iload_n hx hb dX8_ownChance_34 rfl (lv_at hl 5 rfl) ?_
    exact J_35 x3 _ _ _ hF (lv_sub hl [0] rfl) hW
  · have hF := ite_t hF c_27
    refine lv_iload_n hx hb dX8_ownChance_30 rfl (lv_at hl 4 rfl) ?_
    refine lv_goto (tgt := 35) hx hb dX8_ownChance_31 (by decide) ?_
    exact J_35 x2 _ _ _ hF (lv_sub hl [0] rfl) hW
theorem dX8_hangsOnOther_0 : decode cX8_hangsOnOther 0 = .ok (.iload_n 1, 1) := by decide +kernel
theorem dX8_hangsOnOther_1 : decode cX8_hangsOnOther 1 = .ok (.ifCond .le 17, 3) := by decide +kernel
theorem dX8_hangsOnOther_4 : decode cX8_hangsOnOther 4 = .ok (.aload_n 0, 1) := by decide +kernel
theorem dX8_hangsOnOther_5 : decode cX8_hangsOnOther 5 = .ok (.iload_n 1, 1) := by decide +kernel
theorem dX8_hangsOnOther_6 : decode cX8_hangsOnOther 6 = .ok (.iconst 0, 1) := by decide +kernel
theorem dX8_hangsOnOther_7 : decode cX8_hangsOnOther 7 = .ok (.invokevirtual 131, 3) := by decide +kernel
theorem dX8_hangsOnOther_10 : decode cX8_hangsOnOther 10 = .ok (.iconst 3, 1) := by decide +kernel
theorem dX8_hangsOnOther_11 : decode cX8_hangsOnOther 11 = .ok (.if_icmp .ne 7, 3) := by decide +kernel
theorem dX8_hangsOnOther_14 : decode cX8_hangsOnOther 14 = .ok (.iconst 1, 1) := by decide +kernel
theorem dX8_hangsOnOther_15 : decode cX8_hangsOnOther 15 = .ok (.goto 4, 3) := by decide +kernel
theorem dX8_hangsOnOther_18 : decode cX8_hangsOnOther 18 = .ok (.iconst 0, 1) := by decide +kernel
theorem dX8_hangsOnOther_19 : decode cX8_hangsOnOther 19 = .ok (.ireturn, 1) := by decide +kernel
def F_X8_hangsOnOther (x1 : Int32) (a_signNumbers : Nat → Int32) : Option (Int32) := (if x1 ≤ 0 then some (0) else (F_X8_signNumber x1 0 a_signNumbers).bind (fun q7 => (if q7 = 3 then some (1) else some (0))))
theorem hdV_X8_hangsOnOther : yX8_hangsOnOther.cls = RX8 ∧ yX8_hangsOnOther.cls ≠ "java/lang/invoke/MethodHandle" ∧ yX8_hangsOnOther.cls ≠ "java/lang/invoke/VarHandle" ∧ (parseMethodDescriptor yX8_hangsOnOther.desc).map (fun d => d.parameters.length) = some 1 := by decide +kernel
set_option maxHeartbeats 4000000 in
set_option maxRecDepth 100000 in
theorem c_X8_hangsOnOther (l : Launch) (G : GG) (x1 : Int32) (h_this : Nat) (ad_this : Nat → Nat) (v_signCount : Int32) (v_houseCount : Int32) (v_boatCount : Int32) (v_workCount : Int32) (v_turnCost : Int32) (v_boatDayCost : Int32) (a_signNumbers : Nat → Int32) (out : Int32) (hF : F_X8_hangsOnOther x1 a_signNumbers = some out) : CtrZ l yX8_hangsOnOther (WS yX8_hangsOnOther cX8_hangsOnOther 2 (some .boolean)) { frames := 2, cells := 0, slots := 0, locals := 43 } G [.ref h_this, .int x1] [(h_this, oX8 ad_this v_signCount v_houseCount v_boatCount v_workCount v_turnCost v_boatDayCost), ((ad_this 1), cI G 16 a_signNumbers)] [(h_this, oX8 ad_this v_signCount v_houseCount v_boatCount v_workCount v_turnCost v_boatDayCost), ((ad_this 1), cI G 16 a_signNumbers)] out := by
  refine startZ (cc := cX8_hangsOnOther) (maxL := 2) (by decide) rfl (Nat.le_of_ble_eq_true rfl) ?_
  intro p e s m args below meth c A Q hx hb hml hts hown hc hA hret ls H locs hl hW
  have hown : s.vm.findClass RX8 = some m.cls := hown
  have hg : ∀ w ∈ GOODS, w.before _ s = true := fun w h => hts w (List.mem_cons_of_mem _ h)
  have hl : lv_has ls 2 [(0, .ref h_this), (1, .int x1)] := hl
  rw [F_X8_hangsOnOther] at hF
  refine lv_iload_n hx hb dX8_hangsOnOther_0 rfl (lv_at hl 1 rfl) ?_
  refine lv_if_le (tgt := 18) hx hb dX8_hangsOnOther_1 (by decide) (fun c_1 => ?_) (fun c_1 => ?_)
  · have hF := ite_t hF c_1
    refine lv_iconst (v := 0) hx hb dX8_hangsOnOther_18 (by decide) ?_
    obtain rfl := Option.some.inj hF
    exact hret _ _ _ _ hW (Or.inl rfl) dX8_hangsOnOther_19
  · have hF := ite_f hF c_1
    refine lv_aload_n hx hb dX8_hangsOnOther_4 rfl (lv_at hl 0 rfl) ?_
    refine lv_iload_n hx hb dX8_hangsOnOther_5 rfl (lv_at hl 1 rfl) ?_
    refine lv_iconst (v := 0) hx hb dX8_hangsOnOther_6 (by decide) ?_
    obtain ⟨q7, c_7, hF⟩ := bd_el hF
    refine wcI (ws' := [(h_this, oX8 ad_this v_signCount v_houseCount v_boatCount v_workCount v_turnCost v_boatDayCost), ((ad_this 1), cI G 16 a_signNumbers)]) (wc := [(h_this, oX8 ad_this v_signCount v_houseCount v_boatCount v_workCount v_turnCost v_boatDayCost), ((ad_this 1), cI G 16 a_signNumbers)]) (wr := []) (w1 := [(h_this, oX8 ad_this v_signCount v_houseCount v_boatCount v_workCount v_turnCost v_boatDayCost), ((ad_this 1), cI G 16 a_signNumbers)]) (va_runV (As := [.int x1, .int 0]) (rest := []) ⟨hx, hb, hml, hown, hg⟩ (c_X8_signNumber l G x1 0 h_this ad_this v_signCount v_houseCount v_boatCount v_workCount v_turnCost v_boatDayCost a_signNumbers q7 c_7 H.size) (cwV 2 hg (gV wd_3_25 wd_2_158 wd_2_159 wd_1_4 wd_2_160) rfl rfl rfl hdV_X8_signNumber ⟨(Nat.le_of_ble_eq_true rfl), (Nat.le_of_ble_eq_true rfl)⟩) (preV hc hW [0, 1] rfl (by decide) rfl rfl) rfl rfl hl.1 rfl (lv_room (Nat.le_of_ble_eq_true rfl)) dX8_hangsOnOther_7 ⟨Nat.zero_le _, Nat.zero_le _⟩) hA hW [0, 1] [] [0, 1] rfl rfl (by decide) (by decide) rfl (by decide) (fun H locs hW => ?_)
    refine lv_iconst (v := 3) hx hb dX8_hangsOnOther_10 (by decide) ?_
    refine lv_icmp_ne (tgt := 18) hx hb dX8_hangsOnOther_11 (by decide) (fun c_11 => ?_) (fun c_11 => ?_)
    · have hF := ite_f hF c_11
      refine lv_iconst (v := 0) hx hb dX8_hangsOnOther_18 (by decide) ?_
      obtain rfl := Option.some.inj hF
      exact hret _ _ _ _ hW (Or.inl rfl) dX8_hangsOnOther_19
    · have hF := ite_t hF c_11
      refine lv_iconst (v := 1) hx hb dX8_hangsOnOther_14 (by decide) ?_
      refine lv_goto (tgt := 19) hx hb dX8_hangsOnOther_15 (by decide) ?_
      obtain rfl := Option.some.inj hF
      exact hret _ _ _ _ hW (Or.inr rfl) dX8_hangsOnOther_19
theorem dX8_waysToSee_0 : decode cX8_waysToSee 0 = .ok (.lconst 1, 1) := by decide +kernel
theorem dX8_waysToSee_1 : decode cX8_waysToSee 1 = .ok (.lstore 4, 2) := by decide +kernel
theorem dX8_waysToSee_3 : decode cX8_waysToSee 3 = .ok (.iconst 0, 1) := by decide +kernel
theorem dX8_waysToSee_4 : decode cX8_waysToSee 4 = .ok (.istore 6, 2) := by decide +kernel
theorem dX8_waysToSee_6 : decode cX8_waysToSee 6 = .ok (.iload 6, 2) := by decide +kernel
theorem dX8_waysToSee_8 : decode cX8_waysToSee 8 = .ok (.aload_n 0, 1) := by decide +kernel
theorem dX8_waysToSee_9 : decode cX8_waysToSee 9 = .ok (.getfield 67, 3) := by decide +kernel
theorem dX8_waysToSee_12 : decode cX8_waysToSee 12 = .ok (.if_icmp .ge 80, 3) := by decide +kernel
theorem dX8_waysToSee_15 : decode cX8_waysToSee 15 = .ok (.aload_n 0, 1) := by decide +kernel
theorem dX8_waysToSee_16 : decode cX8_waysToSee 16 = .ok (.iload 6, 2) := by decide +kernel
theorem dX8_waysToSee_18 : decode cX8_waysToSee 18 = .ok (.invokevirtual 134, 3) := by decide +kernel
theorem dX8_waysToSee_21 : decode cX8_waysToSee 21 = .ok (.ifCond .eq 18, 3) := by decide +kernel
theorem dX8_waysToSee_24 : decode cX8_waysToSee 24 = .ok (.iload_n 1, 1) := by decide +kernel
theorem dX8_waysToSee_25 : decode cX8_waysToSee 25 = .ok (.iload 6, 2) := by decide +kernel
theorem dX8_waysToSee_27 : decode cX8_waysToSee 27 = .ok (.iconst 1, 1) := by decide +kernel
theorem dX8_waysToSee_28 : decode cX8_waysToSee 28 = .ok (.isub, 1) := by decide +kernel
theorem dX8_waysToSee_29 : decode cX8_waysToSee 29 = .ok (.invokestatic 112, 3) := by decide +kernel
theorem dX8_waysToSee_32 : decode cX8_waysToSee 32 = .ok (.ifCond .ne 7, 3) := by decide +kernel
theorem dX8_waysToSee_35 : decode cX8_waysToSee 35 = .ok (.iconst 1, 1) := by decide +kernel
theorem dX8_waysToSee_36 : decode cX8_waysToSee 36 = .ok (.goto 4, 3) := by decide +kernel
theorem dX8_waysToSee_39 : decode cX8_waysToSee 39 = .ok (.iconst 0, 1) := by decide +kernel
theorem dX8_waysToSee_40 : decode cX8_waysToSee 40 = .ok (.istore 7, 2) := by decide +kernel
theorem dX8_waysToSee_42 : decode cX8_waysToSee 42 = .ok (.iload 7, 2) := by decide +kernel
theorem dX8_waysToSee_44 : decode cX8_waysToSee 44 = .ok (.ifCond .eq 7, 3) := by decide +kernel
theorem dX8_waysToSee_47 : decode cX8_waysToSee 47 = .ok (.iconst 0, 1) := by decide +kernel
theorem dX8_waysToSee_48 : decode cX8_waysToSee 48 = .ok (.goto 11, 3) := by decide +kernel
theorem dX8_waysToSee_51 : decode cX8_waysToSee 51 = .ok (.aload_n 0, 1) := by decide +kernel
theorem dX8_waysToSee_52 : decode cX8_waysToSee 52 = .ok (.iload 6, 2) := by decide +kernel
theorem dX8_waysToSee_54 : decode cX8_waysToSee 54 = .ok (.iload_n 2, 1) := by decide +kernel
theorem dX8_waysToSee_55 : decode cX8_waysToSee 55 = .ok (.iload_n 3, 1) := by decide +kernel
theorem dX8_waysToSee_56 : decode cX8_waysToSee 56 = .ok (.invokevirtual 138, 3) := by decide +kernel
theorem dX8_waysToSee_59 : decode cX8_waysToSee 59 = .ok (.istore 8, 2) := by decide +kernel
theorem dX8_waysToSee_61 : decode cX8_waysToSee 61 = .ok (.lload 4, 2) := by decide +kernel
theorem dX8_waysToSee_63 : decode cX8_waysToSee 63 = .ok (.iload_n 1, 1) := by decide +kernel
theorem dX8_waysToSee_64 : decode cX8_waysToSee 64 = .ok (.iload 6, 2) := by decide +kernel
theorem dX8_waysToSee_66 : decode cX8_waysToSee 66 = .ok (.invokestatic 112, 3) := by decide +kernel
theorem dX8_waysToSee_69 : decode cX8_waysToSee 69 = .ok (.ifCond .eq 9, 3) := by decide +kernel
theorem dX8_waysToSee_72 : decode cX8_waysToSee 72 = .ok (.iload 8, 2) := by decide +kernel
theorem dX8_waysToSee_74 : decode cX8_waysToSee 74 = .ok (.i2l, 1) := by decide +kernel
theorem dX8_waysToSee_75 : decode cX8_waysToSee 75 = .ok (.goto 8, 3) := by decide +kernel
theorem dX8_waysToSee_78 : decode cX8_waysToSee 78 = .ok (.iconst 4, 1) := by decide +kernel
theorem dX8_waysToSee_79 : decode cX8_waysToSee 79 = .ok (.iload 8, 2) := by decide +kernel
theorem dX8_waysToSee_81 : decode cX8_waysToSee 81 = .ok (.isub, 1) := by decide +kernel
theorem dX8_waysToSee_82 : decode cX8_waysToSee 82 = .ok (.i2l, 1) := by decide +kernel
theorem dX8_waysToSee_83 : decode cX8_waysToSee 83 = .ok (.lmul, 1) := by decide +kernel
theorem dX8_waysToSee_84 : decode cX8_waysToSee 84 = .ok (.lstore 4, 2) := by decide +kernel
theorem dX8_waysToSee_86 : decode cX8_waysToSee 86 = .ok (.iinc 6 1, 3) := by decide +kernel
theorem dX8_waysToSee_89 : decode cX8_waysToSee 89 = .ok (.goto (-83), 3) := by decide +kernel
theorem dX8_waysToSee_92 : decode cX8_waysToSee 92 = .ok (.lload 4, 2) := by decide +kernel
theorem dX8_waysToSee_94 : decode cX8_waysToSee 94 = .ok (.lreturn, 1) := by decide +kernel
def L_X8_waysToSee_6 (x1 : Int32) (x2 : Int32) (x3 : Int32) (v_signCount : Int32) (a_signNumbers : Nat → Int32)  : Nat → Int64 → Int32 → Option (Int64)
  | 0, _, _ => none
  | n + 1, x4_6, x6_6 => (if v_signCount ≤ x6_6 then some (x4_6) else (F_X8_hangsOnOther x6_6 a_signNumbers).bind (fun q18 => jn (fun (j0_40 : Int32) => jn (fun (j0_59 : Int32) => (F_X9_holds x1 x6_6).bind (fun q66 => jn (fun (j0_83 : Int64) => L_X8_waysToSee_6 x1 x2 x3 v_signCount a_signNumbers n ((x4_6 * j0_83)) ((x6_6 + 1))) (fun k_83 => (if q66 = 0 then k_83 ((Int32.toInt64 ((4 - j0_59)))) else k_83 ((Int32.toInt64 j0_59)))))) (fun k_59 => (if j0_40 = 0 then (F_X8_ownChance x6_6 x2 x3 a_signNumbers).bind (fun q56 => k_59 q56) else k_59 0))) (fun k_40 => jn (k_40 0) (fun k_39 => (if q18 = 0 then k_39 else (F_X9_holds x1 ((x6_6 - 1))).bind (fun q29 => (if q29 = 0 then k_40 1 else k_39)))))))
def F_X8_waysToSee (x1 : Int32) (x2 : Int32) (x3 : Int32) (v_signCount : Int32) (a_signNumbers : Nat → Int32) : Option (Int64) := L_X8_waysToSee_6 x1 x2 x3 v_signCount a_signNumbers 5000 1 0
theorem hdV_X8_waysToSee : yX8_waysToSee.cls = RX8 ∧ yX8_waysToSee.cls ≠ "java/lang/invoke/MethodHandle" ∧ yX8_waysToSee.cls ≠ "java/lang/invoke/VarHandle" ∧ (parseMethodDescriptor yX8_waysToSee.desc).map (fun d => d.parameters.length) = some 3 := by decide +kernel
set_option maxHeartbeats 4000000 in
set_option maxRecDepth 100000 in
theorem c_X8_waysToSee (l : Launch) (G : GG) (x1 : Int32) (x2 : Int32) (x3 : Int32) (h_this : Nat) (ad_this : Nat → Nat) (v_signCount : Int32) (v_houseCount : Int32) (v_boatCount : Int32) (v_workCount : Int32) (v_turnCost : Int32) (v_boatDayCost : Int32) (a_signNumbers : Nat → Int32) (out : Int64) (hF : F_X8_waysToSee x1 x2 x3 v_signCount a_signNumbers = some out) : CtrJ l yX8_waysToSee (WS yX8_waysToSee cX8_waysToSee 9 (some .long)) { frames := 3, cells := 0, slots := 0, locals := 64 } G [.ref h_this, .int x1, .int x2, .int x3] [(h_this, oX8 ad_this v_signCount v_houseCount v_boatCount v_workCount v_turnCost v_boatDayCost), ((ad_this 1), cI G 16 a_signNumbers)] [(h_this, oX8 ad_this v_signCount v_houseCount v_boatCount v_workCount v_turnCost v_boatDayCost), ((ad_this 1), cI G 16 a_signNumbers)] out := by
  refine startJ (cc := cX8_waysToSee) (maxL := 9) (by decide) rfl (Nat.le_of_ble_eq_true rfl) ?_
  intro p e s m args below meth c A Q hx hb hml hts hown hc hA hret ls H locs hl hW
  have hown : s.vm.findClass RX8 = some m.cls := hown
  have hg : ∀ w ∈ GOODS, w.before _ s = true := fun w h => hts w (List.mem_cons_of_mem _ h)
  have hl : lv_has ls 9 [(0, .ref h_this), (1, .int x1), (2, .int x2), (3, .int x3)] := hl
  rw [F_X8_waysToSee] at hF
  refine lv_lconst (v := 1) hx hb dX8_waysToSee_0 (by decide) ?_
  refine lv_lstore (lv' := [(4, .long 1), (0, .ref h_this), (1, .int x1), (2, .int x2), (3, .int x3)]) hx hb dX8_waysToSee_1 hl (by decide) rfl (fun ls hl => ?_)
  refine lv_iconst (v := 0) hx hb dX8_waysToSee_3 (by decide) ?_
  refine lv_istore (lv' := [(6, .int 0), (4, .long 1), (0, .ref h_this), (1, .int x1), (2, .int x2), (3, .int x3)]) hx hb dX8_waysToSee_4 hl (by decide) rfl (fun ls hl => ?_)
  have L_6 : ∀ (n : Nat) (x4_6 : Int64) (x6_6 : Int32) (ls : Array Slot) (H : Heap) (locs : List Loc), L_X8_waysToSee_6 x1 x2 x3 v_signCount a_signNumbers n x4_6 x6_6 = some out → lv_has ls 9 [(0, .ref h_this), (1, .int x1), (2, .int x2), (3, .int x3), (4, .long x4_6), (6, .int x6_6)] → Wd G A s.heap [(h_this, oX8 ad_this v_signCount v_houseCount v_boatCount v_workCount v_turnCost v_boatDayCost), ((ad_this 1), cI G 16 a_signNumbers)] H locs → W p l e ({ frames := 3, cells := 0, slots := 0, locals := 64 } : Room) s m args below meth c H locs 0 0 Q (F0 m 6 ls []) := by
    intro n
    induction n with
    | zero => intro x4_6 x6_6 ls H locs hF hl hW; have h0 : none = some out := hF; cases h0
    | succ n ih =>
      intro x4_6 x6_6 ls H locs hF hl hW
      rw [L_X8_waysToSee_6] at hF
      refine lv_iload hx hb dX8_waysToSee_6 (lv_at hl 5 rfl) ?_
      refine lv_aload_n hx hb dX8_waysToSee_8 rfl (lv_at hl 0 rfl) ?_
      refine va_get (D := G.1) (ci := 7) (v := .int v_signCount) (C := RX8) (T := TX8) (N := 13) hx hb hg hu_X8 hown hc.1 hW.1 0 rfl rfl 7 (by decide) (hg _ wd_1_76) (fun _ h9 => h9) rfl dX8_waysToSee_9 ?_
      refine lv_icmp_ge (tgt := 92) hx hb dX8_waysToSee_12 (by decide) (fun c_12 => ?_) (fun c_12 => ?_)
      · have hF := ite_t hF c_12
        refine lv_lload hx hb dX8_waysToSee_92 (lv_at hl 4 rfl) ?_
        obtain rfl := Option.some.inj hF
        exact hret _ _ _ _ hW dX8_waysToSee_94
      · have hF := ite_f hF c_12
        refine lv_aload_n hx hb dX8_waysToSee_15 rfl (lv_at hl 0 rfl) ?_
        refine lv_iload hx hb dX8_waysToSee_16 (lv_at hl 5 rfl) ?_
        obtain ⟨q18, c_18, hF⟩ := bd_el hF
        refine wcZ (ws' := [(h_this, oX8 ad_this v_signCount v_houseCount v_boatCount v_workCount v_turnCost v_boatDayCost), ((ad_this 1), cI G 16 a_signNumbers)]) (wc := [(h_this, oX8 ad_this v_signCount v_houseCount v_boatCount v_workCount v_turnCost v_boatDayCost), ((ad_this 1), cI G 16 a_signNumbers)]) (wr := []) (w1 := [(h_this, oX8 ad_this v_signCount v_houseCount v_boatCount v_workCount v_turnCost v_boatDayCost), ((ad_this 1), cI G 16 a_signNumbers)]) (va_runV (As := [.int x6_6]) (rest := []) ⟨hx, hb, hml, hown, hg⟩ (c_X8_hangsOnOther l G x6_6 h_this ad_this v_signCount v_houseCount v_boatCount v_workCount v_turnCost v_boatDayCost a_signNumbers q18 c_18 H.size) (cwV 1 hg (gV wd_3_21 wd_3_23 wd_0_13 wd_1_4 wd_3_24) rfl rfl rfl hdV_X8_hangsOnOther ⟨(Nat.le_of_ble_eq_true rfl), (Nat.le_of_ble_eq_true rfl)⟩) (preV hc hW [0, 1] rfl (by decide) rfl rfl) rfl rfl hl.1 rfl (lv_room (Nat.le_of_ble_eq_true rfl)) dX8_waysToSee_18 ⟨Nat.zero_le _, Nat.zero_le _⟩) hA hW [0, 1] [] [0, 1] rfl rfl (by decide) (by decide) rfl (by decide) (fun z_18 H locs hW => ?_)
        obtain ⟨k_40, e_40, hF⟩ := jn_el hF
        have J_40 : ∀ (j0_40 : Int32) (ls : Array Slot) (H : Heap) (locs : List Loc), k_40 j0_40 = some out → lv_has ls 9 [(0, .ref h_this), (1, .int x1), (2, .int x2), (3, .int x3), (4, .long x4_6), (6, .int x6_6)] → Wd G A s.heap [(h_this, oX8 ad_this v_signCount v_houseCount v_boatCount v_workCount v_turnCost v_boatDayCost), ((ad_this 1), cI G 16 a_signNumbers)] H locs → W p l e ({ frames := 3, cells := 0, slots := 0, locals := 64 } : Room) s m args below meth c H locs 0 0 Q (F0 m 40 ls [.int j0_40]) := by
          intro j0_40 ls H locs hF hl hW
          rw [e_40] at hF
          dsimp only at hF
          refine lv_istore (lv' := [(7, .int j0_40), (0, .ref h_this), (1, .int x1), (2, .int x2), (3, .int x3), (4, .long x4_6), (6, .int x6_6)]) hx hb dX8_waysToSee_40 hl (by decide) rfl (fun ls hl => ?_)
          refine lv_iload hx hb dX8_waysToSee_42 (lv_at hl 0 rfl) ?_
          obtain ⟨k_59, e_59, hF⟩ := jn_el hF
          have J_59 : ∀ (j0_59 : Int32) (ls : Array Slot) (H : Heap) (locs : List Loc), k_59 j0_59 = some out → lv_has ls 9 [(0, .ref h_this), (1, .int x1), (2, .int x2), (3, .int x3), (4, .long x4_6), (6, .int x6_6)] → Wd G A s.heap [(h_this, oX8 ad_this v_signCount v_houseCount v_boatCount v_workCount v_turnCost v_boatDayCost), ((ad_this 1), cI G 16 a_signNumbers)] H locs → W p l e ({ frames := 3, cells := 0, slots := 0, locals := 64 } : Room) s m args below meth c H locs 0 0 Q (F0 m 59 ls [.int j0_59]) := by
            intro j0_59 ls H locs hF hl hW
            rw [e_59] at hF
            dsimp only at hF
            refine lv_istore (lv' := [(8, .int j0_59), (0, .ref h_this), (1, .int x1), (2, .int x2), (3, .int x3), (4, .long x4_6), (6, .int x6_6)]) hx hb dX8_waysToSee_59 hl (by decide) rfl (fun ls hl => ?_)
            refine lv_lload hx hb dX8_waysToSee_61 (lv_at hl 5 rfl) ?_
            refine lv_iload_n hx hb dX8_waysToSee_63 rfl (lv_at hl 2 rfl) ?_
            refine lv_iload hx hb dX8_waysToSee_64 (lv_at hl 6 rfl) ?_
            obtain ⟨q66, c_66, hF⟩ := bd_el hF
            refine wcZ (ws' := [(h_this, oX8 ad_this v_signCount v_houseCount v_boatCount v_workCount v_turnCost v_boatDayCost), ((ad_this 1), cI G 16 a_signNumbers)]) (wc := []) (wr := [(h_this, oX8 ad_this v_signCount v_houseCount v_boatCount v_workCount v_turnCost v_boatDayCost), ((ad_this 1), cI G 16 a_signNumbers)]) (w1 := []) (va_runSN (As := [.int x1, .int x6_6]) (rest := [.long x4_6]) ⟨hx, hb, hml, hown, hg⟩ (c_X9_holds l G x1 x6_6 q66 c_66 H.size) ⟨va_cnB 2 hg (gN wd_2_181) rfl rfl rfl (hc.2 (RX8, 112, yX9_holds) (by decide +kernel)) (hg _ wd_1_1) hdS_X9_holds ⟨(Nat.le_of_ble_eq_true rfl), (Nat.le_of_ble_eq_true rfl)⟩, (hg _ wd_2_180), trivial⟩ (preS hc hW [] rfl (by decide)) rfl rfl hl.1 rfl (lv_room (Nat.le_of_ble_eq_true rfl)) dX8_waysToSee_66 ⟨Nat.zero_le _, Nat.zero_le _⟩) hA hW [] [0, 1] [0, 1] rfl rfl (by decide) (by decide) rfl (by decide) (fun z_66 H locs hW => ?_)
            obtain ⟨k_83, e_83, hF⟩ := jn_el hF
            have J_83 : ∀ (j0_83 : Int64) (ls : Array Slot) (H : Heap) (locs : List Loc), k_83 j0_83 = some out → lv_has ls 9 [(0, .ref h_this), (1, .int x1), (2, .int x2), (3, .int x3), (6, .int x6_6)] → Wd G A s.heap [(h_this, oX8 ad_this v_signCount v_houseCount v_boatCount v_workCount v_turnCost v_boatDayCost), ((ad_this 1), cI G 16 a_signNumbers)] H locs → W p l e ({ frames := 3, cells := 0, slots := 0, locals := 64 } : Room) s m args below meth c H locs 0 0 Q (F0 m 83 ls [.long j0_83, .long x4_6]) := by
              intro j0_83 ls H locs hF hl hW
              rw [e_83] at hF
              dsimp only at hF
              refine lv_lmul hx hb dX8_waysToSee_83 ?_
              refine lv_lstore (lv' := [(4, .long ((x4_6 * j0_83))), (0, .ref h_this), (1, .int x1), (2, .int x2), (3, .int x3), (6, .int x6_6)]) hx hb dX8_waysToSee_84 hl (by decide) rfl (fun ls hl => ?_)
              refine lv_iinc (v := (x6_6 + 1)) (lv' := [(6, .int ((x6_6 + 1))), (4, .long ((x4_6 * j0_83))), (0, .ref h_this), (1, .int x1), (2, .int x2), (3, .int x3)]) hx hb dX8_waysToSee_86 hl (k := 5) rfl rfl (by decide) rfl (fun ls hl => ?_)
              refine lv_goto (tgt := 6) hx hb dX8_waysToSee_89 (by decide) ?_
              exact ih ((x4_6 * j0_83)) ((x6_6 + 1)) _ _ _ hF (lv_sub hl [2, 3, 4, 5, 1, 0] rfl) hW
            refine lv_if_eq (tgt := 78) hx hb dX8_waysToSee_69 (by decide) (fun c_69 => ?_) (fun c_69 => ?_)
            · have hF := ite_t hF c_69
              refine lv_iconst (v := 4) hx hb dX8_waysToSee_78 (by decide) ?_
              refine lv_iload hx hb dX8_waysToSee_79 (lv_at hl 0 rfl) ?_
              refine lv_isub hx hb dX8_waysToSee_81 ?_
              refine lv_i2l (v := (Int32.toInt64 ((4 - j0_59)))) hx hb dX8_waysToSee_82 rfl ?_
              exact J_83 ((Int32.toInt64 ((4 - j0_59)))) _ _ _ hF (lv_sub hl [1, 2, 3, 4, 6] rfl) hW
            · have hF := ite_f hF c_69
              refine lv_iload hx hb dX8_waysToSee_72 (lv_at hl 0 rfl) ?_
              refine lv_i2l (v := (Int32.toInt64 j0_59)) hx hb dX8_waysToSee_74 rfl ?_
              refine lv_goto (tgt := 83) hx hb dX8_waysToSee_75 (by decide) ?_
              exact J_83 ((Int32.toInt64 j0_59)) _ _ _ hF (lv_sub hl [1, 2, 3, 4, 6] rfl) hW
          refine lv_if_eq (tgt := 51) hx hb dX8_waysToSee_44 (by decide) (fun c_44 => ?_) (fun c_44 => ?_)
          · have hF := ite_t hF c_44
            refine lv_aload_n hx hb dX8_waysToSee_51 rfl (lv_at hl 1 rfl) ?_
            refine lv_iload hx hb dX8_waysToSee_52 (lv_at hl 6 rfl) ?_
            refine lv_iload_n hx hb dX8_waysToSee_54 rfl (lv_at hl 3 rfl) ?_
            refine lv_iload_n hx hb dX8_waysToSee_55 rfl (lv_at hl 4 rfl) ?_
            obtain ⟨q56, c_56, hF⟩ := bd_el hF
            refine wcI (ws' := [(h_this, oX8 ad_this v_signCount v_houseCount v_boatCount v_workCount v_turnCost v_boatDayCost), ((ad_this 1), cI G 16 a_signNumbers)]) (wc := [(h_this, oX8 ad_this v_signCount v_houseCount v_boatCount v_workCount v_turnCost v_boatDayCost), ((ad_this 1), cI G 16 a_signNumbers)]) (wr := []) (w1 := [(h_this, oX8 ad_this v_signCount v_houseCount v_boatCount v_workCount v_turnCost v_boatDayCost), ((ad_this 1), cI G 16 a_signNumbers)]) (va_runV (As := [.int x6_6, .int x2, .int x3]) (rest := []) ⟨hx, hb, hml, hown, hg⟩ (c_X8_ownChance l G x6_6 x2 x3 h_this ad_this v_signCount v_houseCount v_boatCount v_workCount v_turnCost v_boatDayCost a_signNumbers q56 c_56 H.size) (cwV 3 hg (gV wd_3_26 wd_3_28 wd_0_14 wd_1_4 wd_3_29) rfl rfl rfl hdV_X8_ownChance ⟨(Nat.le_of_ble_eq_true rfl), (Nat.le_of_ble_eq_true rfl)⟩) (preV hc hW [0, 1] rfl (by decide) rfl rfl) rfl rfl hl.1 rfl (lv_room (Nat.le_of_ble_eq_true rfl)) dX8_waysToSee_56 ⟨Nat.zero_le _, Nat.zero_le _⟩) hA hW [0, 1] [] [0, 1] rfl rfl (by decide) (by decide) rfl (by decide) (fun H locs hW => ?_)
            exact J_59 q56 _ _ _ hF (lv_sub hl [1, 2, 3, 4, 5, 6] rfl) hW
          · have hF := ite_f hF c_44
            refine lv_iconst (v := 0) hx hb dX8_waysToSee_47 (by decide) ?_
            refine lv_goto (tgt := 59) hx hb dX8_waysToSee_48 (by decide) ?_
            exact J_59 0 _ _ _ hF (lv_sub hl [1, 2, 3, 4, 5, 6] rfl) hW
        obtain ⟨k_39, e_39, hF⟩ := jn_el hF
        have J_39 : ∀ (ls : Array Slot) (H : Heap) (locs : List Loc), k_39 = some out → lv_has ls 9 [(0, .ref h_this), (1, .int x1), (2, .int x2), (3, .int x3), (4, .long x4_6), (6, .int x6_6)] → Wd G A s.heap [(h_this, oX8 ad_this v_signCount v_houseCount v_boatCount v_workCount v_turnCost v_boatDayCost), ((ad_this 1), cI G 16 a_signNumbers)] H locs → W p l e ({ frames := 3, cells := 0, slots := 0, locals := 64 } : Room) s m args below meth c H locs 0 0 Q (F0 m 39 ls []) := by
          intro ls H locs hF hl hW
          rw [e_39] at hF
          refine lv_iconst (v := 0) hx hb dX8_waysToSee_39 (by decide) ?_
          exact J_40 0 _ _ _ hF (lv_sub hl [0, 1, 2, 3, 4, 5] rfl) hW
        refine lv_if_eq (tgt := 39) hx hb dX8_waysToSee_21 (by decide) (fun c_21 => ?_) (fun c_21 => ?_)
        · have hF := ite_t hF c_21
          exact J_39 _ _ _ hF (lv_sub hl [0, 1, 2, 3, 4, 5] rfl) hW
        · have hF := ite_f hF c_21
          refine lv_iload_n hx hb dX8_waysToSee_24 rfl (lv_at hl 1 rfl) ?_
          refine lv_iload hx hb dX8_waysToSee_25 (lv_at hl 5 rfl) ?_
          refine lv_iconst (v := 1) hx hb dX8_waysToSee_27 (by decide) ?_
          refine lv_isub hx hb dX8_waysToSee_28 ?_
          obtain ⟨q29, c_29, hF⟩ := bd_el hF
          refine wcZ (ws' := [(h_this, oX8 ad_this v_signCount v_houseCount v_boatCount v_workCount v_turnCost v_boatDayCost), ((ad_this 1), cI G 16 a_signNumbers)]) (wc := []) (wr := [(h_this, oX8 ad_this v_signCount v_houseCount v_boatCount v_workCount v_turnCost v_boatDayCost), ((ad_this 1), cI G 16 a_signNumbers)]) (w1 := []) (va_runSN (As := [.int x1, .int ((x6_6 - 1))]) (rest := []) ⟨hx, hb, hml, hown, hg⟩ (c_X9_holds l G x1 ((x6_6 - 1)) q29 c_29 H.size) ⟨va_cnB 2 hg (gN wd_2_181) rfl rfl rfl (hc.2 (RX8, 112, yX9_holds) (by decide +kernel)) (hg _ wd_1_1) hdS_X9_holds ⟨(Nat.le_of_ble_eq_true rfl), (Nat.le_of_ble_eq_true rfl)⟩, (hg _ wd_2_180), trivial⟩ (preS hc hW [] rfl (by decide)) rfl rfl hl.1 rfl (lv_room (Nat.le_of_ble_eq_true rfl)) dX8_waysToSee_29 ⟨Nat.zero_le _, Nat.zero_le _⟩) hA hW [] [0, 1] [0, 1] rfl rfl (by decide) (by decide) rfl (by decide) (fun z_29 H locs hW => ?_)
          refine lv_if_ne (tgt := 39) hx hb dX8_waysToSee_32 (by decide) (fun c_32 => ?_) (fun c_32 => ?_)
          · have hF := ite_f hF c_32
            exact J_39 _ _ _ hF (lv_sub hl [0, 1, 2, 3, 4, 5] rfl) hW
          · have hF := ite_t hF c_32
            refine lv_iconst (v := 1) hx hb dX8_waysToSee_35 (by decide) ?_
            refine lv_goto (tgt := 40) hx hb dX8_waysToSee_36 (by decide) ?_
            exact J_40 1 _ _ _ hF (lv_sub hl [0, 1, 2, 3, 4, 5] rfl) hW
  exact L_6 5000 1 0 _ _ _ hF (lv_sub hl [2, 3, 4, 5, 1, 0] rfl) hW
theorem dX8_shareOf_0 : decode cX8_shareOf 0 = .ok (.sipush 256, 3) := by decide +kernel
theorem dX8_shareOf_3 : decode cX8_shareOf 3 = .ok (.istore 4, 2) := by decide +kernel
theorem dX8_shareOf_5 : decode cX8_shareOf 5 = .ok (.iconst 0, 1) := by decide +kernel
theorem dX8_shareOf_6 : decode cX8_shareOf 6 = .ok (.istore 5, 2) := by decide +kernel
theorem dX8_shareOf_8 : decode cX8_shareOf 8 = .ok (.iload 5, 2) := by decide +kernel
theorem dX8_shareOf_10 : decode cX8_shareOf 10 = .ok (.iload_n 1, 1) := by decide +kernel
theorem dX8_shareOf_11 : decode cX8_shareOf 11 = .ok (.if_icmp .gt 43, 3) := by decide +kernel
theorem dX8_shareOf_14 : decode cX8_shareOf 14 = .ok (.aload_n 0, 1) := by decide +kernel
theorem dX8_shareOf_15 : decode cX8_shareOf 15 = .ok (.iload 5, 2) := by decide +kernel
theorem dX8_shareOf_17 : decode cX8_shareOf 17 = .ok (.invokevirtual 134, 3) := by decide +kernel
theorem dX8_shareOf_20 : decode cX8_shareOf 20 = .ok (.ifCond .eq 8, 3) := by decide +kernel
theorem dX8_shareOf_23 : decode cX8_shareOf 23 = .ok (.iload 4, 2) := by decide +kernel
theorem dX8_shareOf_25 : decode cX8_shareOf 25 = .ok (.goto 6, 3) := by decide +kernel
theorem dX8_shareOf_28 : decode cX8_shareOf 28 = .ok (.sipush 256, 3) := by decide +kernel
theorem dX8_shareOf_31 : decode cX8_shareOf 31 = .ok (.istore 6, 2) := by decide +kernel
theorem dX8_shareOf_33 : decode cX8_shareOf 33 = .ok (.iload 6, 2) := by decide +kernel
theorem dX8_shareOf_35 : decode cX8_shareOf 35 = .ok (.iconst 4, 1) := by decide +kernel
theorem dX8_shareOf_36 : decode cX8_shareOf 36 = .ok (.idiv, 1) := by decide +kernel
theorem dX8_shareOf_37 : decode cX8_shareOf 37 = .ok (.aload_n 0, 1) := by decide +kernel
theorem dX8_shareOf_38 : decode cX8_shareOf 38 = .ok (.iload 5, 2) := by decide +kernel
theorem dX8_shareOf_40 : decode cX8_shareOf 40 = .ok (.iload_n 2, 1) := by decide +kernel
theorem dX8_shareOf_41 : decode cX8_shareOf 41 = .ok (.iload_n 3, 1) := by decide +kernel
theorem dX8_shareOf_42 : decode cX8_shareOf 42 = .ok (.invokevirtual 138, 3) := by decide +kernel
theorem dX8_shareOf_45 : decode cX8_shareOf 45 = .ok (.imul, 1) := by decide +kernel
theorem dX8_shareOf_46 : decode cX8_shareOf 46 = .ok (.istore 4, 2) := by decide +kernel
theorem dX8_shareOf_48 : decode cX8_shareOf 48 = .ok (.iinc 5 1, 3) := by decide +kernel
theorem dX8_shareOf_51 : decode cX8_shareOf 51 = .ok (.goto (-43), 3) := by decide +kernel
theorem dX8_shareOf_54 : decode cX8_shareOf 54 = .ok (.iload 4, 2) := by decide +kernel
theorem dX8_shareOf_56 : decode cX8_shareOf 56 = .ok (.ireturn, 1) := by decide +kernel
def L_X8_shareOf_8 (x1 : Int32) (x2 : Int32) (x3 : Int32) (a_signNumbers : Nat → Int32)  : Nat → Int32 → Int32 → Option (Int32)
  | 0, _, _ => none
  | n + 1, x4_8, x5_8 => (if x1 < x5_8 then some (x4_8) else (F_X8_hangsOnOther x5_8 a_signNumbers).bind (fun q17 => jn (fun (j0_31 : Int32) => (F_X8_ownChance x5_8 x2 x3 a_signNumbers).bind (fun q42 => L_X8_shareOf_8 x1 x2 x3 a_signNumbers n (((j0_31 / 4) * q42)) ((x5_8 + 1)))) (fun k_31 => (if q17 = 0 then k_31 256 else k_31 x4_8))))
def F_X8_shareOf (x1 : Int32) (x2 : Int32) (x3 : Int32) (a_signNumbers : Nat → Int32) : Option (Int32) := L_X8_shareOf_8 x1 x2 x3 a_signNumbers 5000 256 0
theorem hdV_X8_shareOf : yX8_shareOf.cls = RX8 ∧ yX8_shareOf.cls ≠ "java/lang/invoke/MethodHandle" ∧ yX8_shareOf.cls ≠ "java/lang/invoke/VarHandle" ∧ (parseMethodDescriptor yX8_shareOf.desc).map (fun d => d.parameters.length) = some 3 := by decide +kernel
set_option maxHeartbeats 4000000 in
set_option maxRecDepth 100000 in
theorem c_X8_shareOf (l : Launch) (G : GG) (x1 : Int32) (x2 : Int32) (x3 : Int32) (h_this : Nat) (ad_this : Nat → Nat) (v_signCount : Int32) (v_houseCount : Int32) (v_boatCount : Int32) (v_workCount : Int32) (v_turnCost : Int32) (v_boatDayCost : Int32) (a_signNumbers : Nat → Int32) (out : Int32) (hF : F_X8_shareOf x1 x2 x3 a_signNumbers = some out) : CtrI l yX8_shareOf (WS yX8_shareOf cX8_shareOf 7 (some .int)) { frames := 3, cells := 0, slots := 0, locals := 64 } G [.ref h_this, .int x1, .int x2, .int x3] [(h_this, oX8 ad_this v_signCount v_houseCount v_boatCount v_workCount v_turnCost v_boatDayCost), ((ad_this 1), cI G 16 a_signNumbers)] [(h_this, oX8 ad_this v_signCount v_houseCount v_boatCount v_workCount v_turnCost v_boatDayCost), ((ad_this 1), cI G 16 a_signNumbers)] out := by
  refine startI (cc := cX8_shareOf) (maxL := 7) (by decide) rfl (Nat.le_of_ble_eq_true rfl) ?_
  intro p e s m args below meth c A Q hx hb hml hts hown hc hA hret ls H locs hl hW
  have hown : s.vm.findClass RX8 = some m.cls := hown
  have hg : ∀ w ∈ GOODS, w.before _ s = true := fun w h => hts w (List.mem_cons_of_mem _ h)
  have hl : lv_has ls 7 [(0, .ref h_this), (1, .int x1), (2, .int x2), (3, .int x3)] := hl
  rw [F_X8_shareOf] at hF
  refine lv_sipush (v := 256) hx hb dX8_shareOf_0 (by decide) ?_
  refine lv_istore (lv' := [(4, .int 256), (0, .ref h_this), (1, .int x1), (2, .int x2), (3, .int x3)]) hx hb dX8_shareOf_3 hl (by decide) rfl (fun ls hl => ?_)
  refine lv_iconst (v := 0) hx hb dX8_shareOf_5 (by decide) ?_
  refine lv_istore (lv' := [(5, .int 0), (4, .int 256), (0, .ref h_this), (1, .int x1), (2, .int x2), (3, .int x3)]) hx hb dX8_shareOf_6 hl (by decide) rfl (fun ls hl => ?_)
  have L_8 : ∀ (n : Nat) (x4_8 : Int32) (x5_8 : Int32) (ls : Array Slot) (H : Heap) (locs : List Loc), L_X8_shareOf_8 x1 x2 x3 a_signNumbers n x4_8 x5_8 = some out → lv_has ls 7 [(0, .ref h_this), (1, .int x1), (2, .int x2), (3, .int x3), (4, .int x4_8), (5, .int x5_8)] → Wd G A s.heap [(h_this, oX8 ad_this v_signCount v_houseCount v_boatCount v_workCount v_turnCost v_boatDayCost), ((ad_this 1), cI G 16 a_signNumbers)] H locs → W p l e ({ frames := 3, cells := 0, slots := 0, locals := 64 } : Room) s m args below meth c H locs 0 0 Q (F0 m 8 ls []) := by
    intro n
    induction n with
    | zero => intro x4_8 x5_8 ls H locs hF hl hW; have h0 : none = some out := hF; cases h0
    | succ n ih =>
      intro x4_8 x5_8 ls H locs hF hl hW
      rw [L_X8_shareOf_8] at hF
      refine lv_iload hx hb dX8_shareOf_8 (lv_at hl 5 rfl) ?_
      refine lv_iload_n hx hb dX8_shareOf_10 rfl (lv_at hl 1 rfl) ?_
      refine lv_icmp_gt (tgt := 54) hx hb dX8_shareOf_11 (by decide) (fun c_11 => ?_) (fun c_11 => ?_)
      · have hF := ite_t hF c_11
        refine lv_iload hx hb dX8_shareOf_54 (lv_at hl 4 rfl) ?_
        obtain rfl := Option.some.inj hF
        exact hret _ _ _ _ hW dX8_shareOf_56
      · have hF := ite_f hF c_11
        refine lv_aload_n hx hb dX8_shareOf_14 rfl (lv_at hl 0 rfl) ?_
        refine lv_iload hx hb dX8_shareOf_15 (lv_at hl 5 rfl) ?_
        obtain ⟨q17, c_17, hF⟩ := bd_el hF
        refine wcZ (ws' := [(h_this, oX8 ad_this v_signCount v_houseCount v_boatCount v_workCount v_turnCost v_boatDayCost), ((ad_this 1), cI G 16 a_signNumbers)]) (wc := [(h_this, oX8 ad_this v_signCount v_houseCount v_boatCount v_workCount v_turnCost v_boatDayCost), ((ad_this 1), cI G 16 a_signNumbers)]) (wr := []) (w1 := [(h_this, oX8 ad_this v_signCount v_houseCount v_boatCount v_workCount v_turnCost v_boatDayCost), ((ad_this 1), cI G 16 a_signNumbers)]) (va_runV (As := [.int x5_8]) (rest := []) ⟨hx, hb, hml, hown, hg⟩ (c_X8_hangsOnOther l G x5_8 h_this ad_this v_signCount v_houseCount v_boatCount v_workCount v_turnCost v_boatDayCost a_signNumbers q17 c_17 H.size) (cwV 1 hg (gV wd_3_21 wd_3_23 wd_0_13 wd_1_4 wd_3_24) rfl rfl rfl hdV_X8_hangsOnOther ⟨(Nat.le_of_ble_eq_true rfl), (Nat.le_of_ble_eq_true rfl)⟩) (preV hc hW [0, 1] rfl (by decide) rfl rfl) rfl rfl hl.1 rfl (lv_room (Nat.le_of_ble_eq_true rfl)) dX8_shareOf_17 ⟨Nat.zero_le _, Nat.zero_le _⟩) hA hW [0, 1] [] [0, 1] rfl rfl (by decide) (by decide) rfl (by decide) (fun z_17 H locs hW => ?_)
        obtain ⟨k_31, e_31, hF⟩ := jn_el hF
        have J_31 : ∀ (j0_31 : Int32) (ls : Array Slot) (H : Heap) (locs : List Loc), k_31 j0_31 = some out → lv_has ls 7 [(0, .ref h_this), (1, .int x1), (2, .int x2), (3, .int x3), (5, .int x5_8)] → Wd G A s.heap [(h_this, oX8 ad_this v_signCount v_houseCount v_boatCount v_workCount v_turnCost v_boatDayCost), ((ad_this 1), cI G 16 a_signNumbers)] H locs → W p l e ({ frames := 3, cells := 0, slots := 0, locals := 64 } : Room) s m args below meth c H locs 0 0 Q (F0 m 31 ls [.int j0_31]) := by
          intro j0_31 ls H locs hF hl hW
          rw [e_31] at hF
          dsimp only at hF
          refine lv_istore (lv' := [(6, .int j0_31), (0, .ref h_this), (1, .int x1), (2, .int x2), (3, .int x3), (5, .int x5_8)]) hx hb dX8_shareOf_31 hl (by decide) rfl (fun ls hl => ?_)
          refine lv_iload hx hb dX8_shareOf_33 (lv_at hl 0 rfl) ?_
          refine lv_iconst (v := 4) hx hb dX8_shareOf_35 (by decide) ?_
          refine lv_idiv hx hb dX8_shareOf_36 (by decide) ?_
          refine lv_aload_n hx hb dX8_shareOf_37 rfl (lv_at hl 1 rfl) ?_
          refine lv_iload hx hb dX8_shareOf_38 (lv_at hl 5 rfl) ?_
          refine lv_iload_n hx hb dX8_shareOf_40 rfl (lv_at hl 3 rfl) ?_
          refine lv_iload_n hx hb dX8_shareOf_41 rfl (lv_at hl 4 rfl) ?_
          obtain ⟨q42, c_42, hF⟩ := bd_el hF
          refine wcI (ws' := [(h_this, oX8 ad_this v_signCount v_houseCount v_boatCount v_workCount v_turnCost v_boatDayCost), ((ad_this 1), cI G 16 a_signNumbers)]) (wc := [(h_this, oX8 ad_this v_signCount v_houseCount v_boatCount v_workCount v_turnCost v_boatDayCost), ((ad_this 1), cI G 16 a_signNumbers)]) (wr := []) (w1 := [(h_this, oX8 ad_this v_signCount v_houseCount v_boatCount v_workCount v_turnCost v_boatDayCost), ((ad_this 1), cI G 16 a_signNumbers)]) (va_runV (As := [.int x5_8, .int x2, .int x3]) (rest := [.int ((j0_31 / 4))]) ⟨hx, hb, hml, hown, hg⟩ (c_X8_ownChance l G x5_8 x2 x3 h_this ad_this v_signCount v_houseCount v_boatCount v_workCount v_turnCost v_boatDayCost a_signNumbers q42 c_42 H.size) (cwV 3 hg (gV wd_3_26 wd_3_28 wd_0_14 wd_1_4 wd_3_29) rfl rfl rfl hdV_X8_ownChance ⟨(Nat.le_of_ble_eq_true rfl), (Nat.le_of_ble_eq_true rfl)⟩) (preV hc hW [0, 1] rfl (by decide) rfl rfl) rfl rfl hl.1 rfl (lv_room (Nat.le_of_ble_eq_true rfl)) dX8_shareOf_42 ⟨Nat.zero_le _, Nat.zero_le _⟩) hA hW [0, 1] [] [0, 1] rfl rfl (by decide) (by decide) rfl (by decide) (fun H locs hW => ?_)
          refine lv_imul hx hb dX8_shareOf_45 ?_
          refine lv_istore (lv' := [(4, .int (((j0_31 / 4) * q42))), (6, .int j0_31), (0, .ref h_this), (1, .int x1), (2, .int x2), (3, .int x3), (5, .int x5_8)]) hx hb dX8_shareOf_46 hl (by decide) rfl (fun ls hl => ?_)
          refine lv_iinc (v := (x5_8 + 1)) (lv' := [(5, .int ((x5_8 + 1))), (4, .int (((j0_31 / 4) * q42))), (6, .int j0_31), (0, .ref h_this), (1, .int x1), (2, .int x2), (3, .int x3)]) hx hb dX8_shareOf_48 hl (k := 6) rfl rfl (by decide) rfl (fun ls hl => ?_)
          refine lv_goto (tgt := 8) hx hb dX8_shareOf_51 (by decide) ?_
          exact ih (((j0_31 / 4) * q42)) ((x5_8 + 1)) _ _ _ hF (lv_sub hl [3, 4, 5, 6, 1, 0] rfl) hW
        refine lv_if_eq (tgt := 28) hx hb dX8_shareOf_20 (by decide) (fun c_20 => ?_) (fun c_20 => ?_)
        · have hF := ite_t hF c_20
          refine lv_sipush (v := 256) hx hb dX8_shareOf_28 (by decide) ?_
          exact J_31 256 _ _ _ hF (lv_sub hl [0, 1, 2, 3, 5] rfl) hW
        · have hF := ite_f hF c_20
          refine lv_iload hx hb dX8_shareOf_23 (lv_at hl 4 rfl) ?_
          refine lv_goto (tgt := 31) hx hb dX8_shareOf_25 (by decide) ?_
          exact J_31 x4_8 _ _ _ hF (lv_sub hl [0, 1, 2, 3, 5] rfl) hW
  exact L_8 5000 256 0 _ _ _ hF (lv_sub hl [2, 3, 4, 5, 1, 0] rfl) hW
