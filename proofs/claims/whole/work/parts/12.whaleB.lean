theorem dX9_diaryCanBe_0 : decode cX9_diaryCanBe 0 = .ok (.aload_n 0, 1) := by decide +kernel
theorem dX9_diaryCanBe_1 : decode cX9_diaryCanBe 1 = .ok (.getfield 53, 3) := by decide +kernel
theorem dX9_diaryCanBe_4 : decode cX9_diaryCanBe 4 = .ok (.aload_n 0, 1) := by decide +kernel
theorem dX9_diaryCanBe_5 : decode cX9_diaryCanBe 5 = .ok (.getfield 26, 3) := by decide +kernel
theorem dX9_diaryCanBe_8 : decode cX9_diaryCanBe 8 = .ok (.aload_n 0, 1) := by decide +kernel
theorem dX9_diaryCanBe_9 : decode cX9_diaryCanBe 9 = .ok (.getfield 36, 3) := by decide +kernel
theorem dX9_diaryCanBe_12 : decode cX9_diaryCanBe 12 = .ok (.iconst (-1), 1) := by decide +kernel
theorem dX9_diaryCanBe_13 : decode cX9_diaryCanBe 13 = .ok (.invokevirtual 239, 3) := by decide +kernel
theorem dX9_diaryCanBe_16 : decode cX9_diaryCanBe 16 = .ok (.aload_n 0, 1) := by decide +kernel
theorem dX9_diaryCanBe_17 : decode cX9_diaryCanBe 17 = .ok (.getfield 53, 3) := by decide +kernel
theorem dX9_diaryCanBe_20 : decode cX9_diaryCanBe 20 = .ok (.invokevirtual 158, 3) := by decide +kernel
theorem dX9_diaryCanBe_23 : decode cX9_diaryCanBe 23 = .ok (.lconst 0, 1) := by decide +kernel
theorem dX9_diaryCanBe_24 : decode cX9_diaryCanBe 24 = .ok (.lcmp, 1) := by decide +kernel
theorem dX9_diaryCanBe_25 : decode cX9_diaryCanBe 25 = .ok (.ifCond .le 7, 3) := by decide +kernel
theorem dX9_diaryCanBe_28 : decode cX9_diaryCanBe 28 = .ok (.iconst 1, 1) := by decide +kernel
theorem dX9_diaryCanBe_29 : decode cX9_diaryCanBe 29 = .ok (.goto 4, 3) := by decide +kernel
theorem dX9_diaryCanBe_32 : decode cX9_diaryCanBe 32 = .ok (.iconst 0, 1) := by decide +kernel
theorem dX9_diaryCanBe_33 : decode cX9_diaryCanBe 33 = .ok (.ireturn, 1) := by decide +kernel
def F_X9_diaryCanBe (v_book_days : Int32) (a_book_signs : Nat → Int32) (a_book_works : Nat → Int32) (v_now_turned : Int64) (a_now_came : Nat → Int64) (a_now_stayed : Nat → Int64) (v_town_signCount : Int32) (v_town_workCount : Int32) (a_town_lighter : Nat → Int32) (a_town_signNumbers : Nat → Int32) (a_town_workNoise : Nat → Int32) : Option (Int32 × Int64 × (Nat → Int64) × (Nat → Int64)) := (F_X5_passDiary ((-1)) v_now_turned v_town_signCount v_town_workCount a_town_lighter a_town_signNumbers a_town_workNoise v_book_days a_book_signs a_book_works a_now_came a_now_stayed).bind (fun q13 => (F_X5_total q13.2.1 q13.2.2).bind (fun q20 => (if (lg_cmp q20 0) ≤ 0 then some (0, q13.1, q13.2.1, q13.2.2) else some (1, q13.1, q13.2.1, q13.2.2))))
theorem hdV_X9_diaryCanBe : yX9_diaryCanBe.cls = RX9 ∧ yX9_diaryCanBe.cls ≠ "java/lang/invoke/MethodHandle" ∧ yX9_diaryCanBe.cls ≠ "java/lang/invoke/VarHandle" ∧ (parseMethodDescriptor yX9_diaryCanBe.desc).map (fun d => d.parameters.length) = some 0 := by decide +kernel
set_option maxHeartbeats 4000000 in
set_option maxRecDepth 100000 in
theorem c_X9_diaryCanBe (l : Launch) (G : GG) (h_this : Nat) (ad_this : Nat → Nat) (ad_this_book : Nat → Nat) (ad_this_now : Nat → Nat) (ad_this_town : Nat → Nat) (v_keptCount : Int32) (v_book_days : Int32) (a_book_signs : Nat → Int32) (a_book_works : Nat → Int32) (v_now_turned : Int64) (a_now_came : Nat → Int64) (a_now_stayed : Nat → Int64) (v_town_signCount : Int32) (v_town_houseCount : Int32) (v_town_boatCount : Int32) (v_town_workCount : Int32) (v_town_turnCost : Int32) (v_town_boatDayCost : Int32) (a_town_lighter : Nat → Int32) (a_town_signNumbers : Nat → Int32) (a_town_workNoise : Nat → Int32) (out : Int32 × Int64 × (Nat → Int64) × (Nat → Int64)) (hF : F_X9_diaryCanBe v_book_days a_book_signs a_book_works v_now_turned a_now_came a_now_stayed v_town_signCount v_town_workCount a_town_lighter a_town_signNumbers a_town_workNoise = some out) : CtrZ l yX9_diaryCanBe (WS yX9_diaryCanBe cX9_diaryCanBe 1 (some .boolean)) { frames := 6, cells := 0, slots := 0, locals := 140 } G [.ref h_this] [(h_this, oX9 ad_this v_keptCount), ((ad_this 4), oX1 ad_this_book v_book_days), ((ad_this_book 0), cI G 5 a_book_signs), ((ad_this_book 1), cI G 5 a_book_works), ((ad_this 8), oX5 ad_this_now v_now_turned), ((ad_this_now 1), cJ G 3 a_now_came), ((ad_this_now 0), cJ G 3 a_now_stayed), ((ad_this 2), oX8 ad_this_town v_town_signCount v_town_houseCount v_town_boatCount v_town_workCount v_town_turnCost v_town_boatDayCost), ((ad_this_town 0), cI G 3 a_town_lighter), ((ad_this_town 1), cI G 16 a_town_signNumbers), ((ad_this_town 5), cI G 5 a_town_workNoise)] [(h_this, oX9 ad_this v_keptCount), ((ad_this 4), oX1 ad_this_book v_book_days), ((ad_this_book 0), cI G 5 a_book_signs), ((ad_this_book 1), cI G 5 a_book_works), ((ad_this 8), oX5 ad_this_now out.2.1), ((ad_this_now 1), cJ G 3 out.2.2.1), ((ad_this_now 0), cJ G 3 out.2.2.2), ((ad_this 2), oX8 ad_this_town v_town_signCount v_town_houseCount v_town_boatCount v_town_workCount v_town_turnCost v_town_boatDayCost), ((ad_this_town 0), cI G 3 a_town_lighter), ((ad_this_town 1), cI G 16 a_town_signNumbers), ((ad_this_town 5), cI G 5 a_town_workNoise)] out.1 := by
  refine startZ (cc := cX9_diaryCanBe) (maxL := 1) (by decide) rfl (Nat.le_of_ble_eq_true rfl) ?_
  intro p e s m args below meth c A Q hx hb hml hts hown hc hA hret ls H locs hl hW
  have hown : s.vm.findClass RX9 = some m.cls := hown
  have hg : ∀ w ∈ GOODS, w.before _ s = true := fun w h => hts w (List.mem_cons_of_mem _ h)
  have hl : lv_has ls 1 [(0, .ref h_this)] := hl
  rw [F_X9_diaryCanBe] at hF
  refine lv_aload_n hx hb dX9_diaryCanBe_0 rfl (lv_at hl 0 rfl) ?_
  refine va_get (D := G.1) (ci := 8) (v := .ref ((ad_this 8))) (C := RX9) (T := TX9) (N := 13) hx hb hg hu_X9 hown hc.1 hW.1 0 rfl rfl 8 (by decide) (hg _ wd_2_103) (fun _ h9 => h9) rfl dX9_diaryCanBe_1 ?_
  refine lv_aload_n hx hb dX9_diaryCanBe_4 rfl (lv_at hl 0 rfl) ?_
  refine va_get (D := G.1) (ci := 8) (v := .ref ((ad_this 2))) (C := RX9) (T := TX9) (N := 13) hx hb hg hu_X9 hown hc.1 hW.1 0 rfl rfl 2 (by decide) (hg _ wd_2_97) (fun _ h9 => h9) rfl dX9_diaryCanBe_5 ?_
  refine lv_aload_n hx hb dX9_diaryCanBe_8 rfl (lv_at hl 0 rfl) ?_
  refine va_get (D := G.1) (ci := 8) (v := .ref ((ad_this 4))) (C := RX9) (T := TX9) (N := 13) hx hb hg hu_X9 hown hc.1 hW.1 0 rfl rfl 4 (by decide) (hg _ wd_2_99) (fun _ h9 => h9) rfl dX9_diaryCanBe_9 ?_
  refine lv_iconst (v := (-1)) hx hb dX9_diaryCanBe_12 (by decide) ?_
  obtain ⟨q13, c_13, hF⟩ := bd_el hF
  refine wcV (ws' := [(h_this, oX9 ad_this v_keptCount), ((ad_this 4), oX1 ad_this_book v_book_days), ((ad_this_book 0), cI G 5 a_book_signs), ((ad_this_book 1), cI G 5 a_book_works), ((ad_this 8), oX5 ad_this_now q13.1), ((ad_this_now 1), cJ G 3 q13.2.1), ((ad_this_now 0), cJ G 3 q13.2.2), ((ad_this 2), oX8 ad_this_town v_town_signCount v_town_houseCount v_town_boatCount v_town_workCount v_town_turnCost v_town_boatDayCost), ((ad_this_town 0), cI G 3 a_town_lighter), ((ad_this_town 1), cI G 16 a_town_signNumbers), ((ad_this_town 5), cI G 5 a_town_workNoise)]) (wc := [((ad_this 8), oX5 ad_this_now v_now_turned), ((ad_this 2), oX8 ad_this_town v_town_signCount v_town_houseCount v_town_boatCount v_town_workCount v_town_turnCost v_town_boatDayCost), ((ad_this_town 0), cI G 3 a_town_lighter), ((ad_this_town 1), cI G 16 a_town_signNumbers), ((ad_this_town 5), cI G 5 a_town_workNoise), ((ad_this 4), oX1 ad_this_book v_book_days), ((ad_this_book 0), cI G 5 a_book_signs), ((ad_this_book 1), cI G 5 a_book_works), ((ad_this_now 1), cJ G 3 a_now_came), ((ad_this_now 0), cJ G 3 a_now_stayed)]) (wr := [(h_this, oX9 ad_this v_keptCount)]) (w1 := [((ad_this 8), oX5 ad_this_now q13.1), ((ad_this 2), oX8 ad_this_town v_town_signCount v_town_houseCount v_town_boatCount v_town_workCount v_town_turnCost v_town_boatDayCost), ((ad_this_town 0), cI G 3 a_town_lighter), ((ad_this_town 1), cI G 16 a_town_signNumbers), ((ad_this_town 5), cI G 5 a_town_workNoise), ((ad_this 4), oX1 ad_this_book v_book_days), ((ad_this_book 0), cI G 5 a_book_signs), ((ad_this_book 1), cI G 5 a_book_works), ((ad_this_now 1), cJ G 3 q13.2.1), ((ad_this_now 0), cJ G 3 q13.2.2)]) (va_runV (As := [.ref ((ad_this 2)), .ref ((ad_this 4)), .int ((-1))]) (rest := []) ⟨hx, hb, hml, hown, hg⟩ (c_X5_passDiary l G ((-1)) ((ad_this 8)) ((ad_this 2)) ((ad_this 4)) ad_this_now ad_this_town ad_this_book v_now_turned v_town_signCount v_town_houseCount v_town_boatCount v_town_workCount v_town_turnCost v_town_boatDayCost a_town_lighter a_town_signNumbers a_town_workNoise v_book_days a_book_signs a_book_works a_now_came a_now_stayed q13 c_13 H.size) (cwV 3 hg (gV wd_2_221 wd_2_222 wd_2_223 wd_1_6 wd_2_224) rfl rfl rfl hdV_X5_passDiary ⟨(Nat.le_of_ble_eq_true rfl), (Nat.le_of_ble_eq_true rfl)⟩) (preV hc hW [4, 7, 8, 9, 10, 1, 2, 3, 5, 6] rfl (by decide) rfl rfl) rfl rfl hl.1 rfl (lv_room (Nat.le_of_ble_eq_true rfl)) dX9_diaryCanBe_13 ⟨Nat.zero_le _, Nat.zero_le _⟩) hA hW [4, 7, 8, 9, 10, 1, 2, 3, 5, 6] [0] [0, 6, 7, 8, 1, 9, 10, 2, 3, 4, 5] rfl rfl (by decide) (by decide) rfl (by decide) (fun H locs hW => ?_)
  refine lv_aload_n hx hb dX9_diaryCanBe_16 rfl (lv_at hl 0 rfl) ?_
  refine va_get (D := G.1) (ci := 8) (v := .ref ((ad_this 8))) (C := RX9) (T := TX9) (N := 13) hx hb hg hu_X9 hown hc.1 hW.1 0 rfl rfl 8 (by decide) (hg _ wd_2_103) (fun _ h9 => h9) rfl dX9_diaryCanBe_17 ?_
  obtain ⟨q20, c_20, hF⟩ := bd_el hF
  refine wcJ (ws' := [(h_this, oX9 ad_this v_keptCount), ((ad_this 4), oX1 ad_this_book v_book_days), ((ad_this_book 0), cI G 5 a_book_signs), ((ad_this_book 1), cI G 5 a_book_works), ((ad_this 8), oX5 ad_this_now q13.1), ((ad_this_now 1), cJ G 3 q13.2.1), ((ad_this_now 0), cJ G 3 q13.2.2), ((ad_this 2), oX8 ad_this_town v_town_signCount v_town_houseCount v_town_boatCount v_town_workCount v_town_turnCost v_town_boatDayCost), ((ad_this_town 0), cI G 3 a_town_lighter), ((ad_this_town 1), cI G 16 a_town_signNumbers), ((ad_this_town 5), cI G 5 a_town_workNoise)]) (wc := [((ad_this 8), oX5 ad_this_now q13.1), ((ad_this_now 1), cJ G 3 q13.2.1), ((ad_this_now 0), cJ G 3 q13.2.2)]) (wr := [(h_this, oX9 ad_this v_keptCount), ((ad_this 4), oX1 ad_this_book v_book_days), ((ad_this_book 0), cI G 5 a_book_signs), ((ad_this_book 1), cI G 5 a_book_works), ((ad_this 2), oX8 ad_this_town v_town_signCount v_town_houseCount v_town_boatCount v_town_workCount v_town_turnCost v_town_boatDayCost), ((ad_this_town 0), cI G 3 a_town_lighter), ((ad_this_town 1), cI G 16 a_town_signNumbers), ((ad_this_town 5), cI G 5 a_town_workNoise)]) (w1 := [((ad_this 8), oX5 ad_this_now q13.1), ((ad_this_now 1), cJ G 3 q13.2.1), ((ad_this_now 0), cJ G 3 q13.2.2)]) (va_runV (As := []) (rest := []) ⟨hx, hb, hml, hown, hg⟩ (c_X5_total l G ((ad_this 8)) ad_this_now q13.1 q13.2.1 q13.2.2 q20 c_20 H.size) (cwV 0 hg (gV wd_3_30 wd_3_31 wd_3_32 wd_1_6 wd_3_33) rfl rfl rfl hdV_X5_total ⟨(Nat.le_of_ble_eq_true rfl), (Nat.le_of_ble_eq_true rfl)⟩) (preV hc hW [4, 5, 6] rfl (by decide) rfl rfl) rfl rfl hl.1 rfl (lv_room (Nat.le_of_ble_eq_true rfl)) dX9_diaryCanBe_20 ⟨Nat.zero_le _, Nat.zero_le _⟩) hA hW [4, 5, 6] [0, 1, 2, 3, 7, 8, 9, 10] [0, 1, 2, 3, 8, 9, 10, 4, 5, 6, 7] rfl rfl (by decide) (by decide) rfl (by decide) (fun H locs hW => ?_)
  refine lv_lconst (v := 0) hx hb dX9_diaryCanBe_23 (by decide) ?_
  refine W.lcmp hx hb dX9_diaryCanBe_24 ?_
  refine lv_if_le (tgt := 32) hx hb dX9_diaryCanBe_25 (by decide) (fun c_25 => ?_) (fun c_25 => ?_)
  · have hF := ite_t hF c_25
    refine lv_iconst (v := 0) hx hb dX9_diaryCanBe_32 (by decide) ?_
    obtain rfl := Option.some.inj hF
    exact hret _ _ _ _ hW (Or.inl rfl) dX9_diaryCanBe_33
  · have hF := ite_f hF c_25
    refine lv_iconst (v := 1) hx hb dX9_diaryCanBe_28 (by decide) ?_
    refine lv_goto (tgt := 33) hx hb dX9_diaryCanBe_29 (by decide) ?_
    obtain rfl := Option.some.inj hF
    exact hret _ _ _ _ hW (Or.inr rfl) dX9_diaryCanBe_33
theorem dX9_lookAhead_0 : decode cX9_lookAhead 0 = .ok (.aload_n 0, 1) := by decide +kernel
theorem dX9_lookAhead_1 : decode cX9_lookAhead 1 = .ok (.getfield 26, 3) := by decide +kernel
theorem dX9_lookAhead_4 : decode cX9_lookAhead 4 = .ok (.iload_n 2, 1) := by decide +kernel
theorem dX9_lookAhead_5 : decode cX9_lookAhead 5 = .ok (.invokevirtual 130, 3) := by decide +kernel
theorem dX9_lookAhead_8 : decode cX9_lookAhead 8 = .ok (.istore_n 3, 1) := by decide +kernel
theorem dX9_lookAhead_9 : decode cX9_lookAhead 9 = .ok (.aload_n 0, 1) := by decide +kernel
theorem dX9_lookAhead_10 : decode cX9_lookAhead 10 = .ok (.getfield 57, 3) := by decide +kernel
theorem dX9_lookAhead_13 : decode cX9_lookAhead 13 = .ok (.aload_n 0, 1) := by decide +kernel
theorem dX9_lookAhead_14 : decode cX9_lookAhead 14 = .ok (.getfield 53, 3) := by decide +kernel
theorem dX9_lookAhead_17 : decode cX9_lookAhead 17 = .ok (.invokevirtual 271, 3) := by decide +kernel
theorem dX9_lookAhead_20 : decode cX9_lookAhead 20 = .ok (.iconst 0, 1) := by decide +kernel
theorem dX9_lookAhead_21 : decode cX9_lookAhead 21 = .ok (.istore 4, 2) := by decide +kernel
theorem dX9_lookAhead_23 : decode cX9_lookAhead 23 = .ok (.iload 4, 2) := by decide +kernel
theorem dX9_lookAhead_25 : decode cX9_lookAhead 25 = .ok (.iload_n 1, 1) := by decide +kernel
theorem dX9_lookAhead_26 : decode cX9_lookAhead 26 = .ok (.if_icmp .ge 21, 3) := by decide +kernel
theorem dX9_lookAhead_29 : decode cX9_lookAhead 29 = .ok (.aload_n 0, 1) := by decide +kernel
theorem dX9_lookAhead_30 : decode cX9_lookAhead 30 = .ok (.getfield 57, 3) := by decide +kernel
theorem dX9_lookAhead_33 : decode cX9_lookAhead 33 = .ok (.aload_n 0, 1) := by decide +kernel
theorem dX9_lookAhead_34 : decode cX9_lookAhead 34 = .ok (.getfield 26, 3) := by decide +kernel
theorem dX9_lookAhead_37 : decode cX9_lookAhead 37 = .ok (.iload_n 3, 1) := by decide +kernel
theorem dX9_lookAhead_38 : decode cX9_lookAhead 38 = .ok (.invokevirtual 274, 3) := by decide +kernel
theorem dX9_lookAhead_41 : decode cX9_lookAhead 41 = .ok (.iinc 4 1, 3) := by decide +kernel
theorem dX9_lookAhead_44 : decode cX9_lookAhead 44 = .ok (.goto (-21), 3) := by decide +kernel
theorem dX9_lookAhead_47 : decode cX9_lookAhead 47 = .ok (.return_, 1) := by decide +kernel
def L_X9_lookAhead_23 (x1 : Int32) (a_town_lighter : Nat → Int32) (q5 : Int32)  : Nat → Int32 → Int64 → (Nat → Int64) → (Nat → Int64) → Option (Int64 × (Nat → Int64) × (Nat → Int64))
  | 0, _, _, _, _ => none
  | n + 1, x4_23, v_future_turned_23, a_future_came_23, a_future_stayed_23 => (if x1 ≤ x4_23 then some (v_future_turned_23, a_future_came_23, a_future_stayed_23) else (F_X5_goOn q5 v_future_turned_23 a_town_lighter a_future_came_23 a_future_stayed_23).bind (fun q38 => L_X9_lookAhead_23 x1 a_town_lighter q5 n ((x4_23 + 1)) q38.1 q38.2.1 q38.2.2))
def F_X9_lookAhead (x1 : Int32) (x2 : Int32) (v_future_turned : Int64) (a_future_came : Nat → Int64) (a_future_stayed : Nat → Int64) (v_now_turned : Int64) (a_now_came : Nat → Int64) (a_now_stayed : Nat → Int64) (v_town_workCount : Int32) (a_town_lighter : Nat → Int32) (a_town_workNoise : Nat → Int32) : Option (Int64 × (Nat → Int64) × (Nat → Int64)) := (F_X8_noiseOf x2 v_town_workCount a_town_workNoise).bind (fun q5 => (F_X5_takeFrom v_future_turned v_now_turned a_now_came a_now_stayed a_future_came a_future_stayed).bind (fun q17 => L_X9_lookAhead_23 x1 a_town_lighter q5 5000 0 q17.1 q17.2.1 q17.2.2))
theorem hdV_X9_lookAhead : yX9_lookAhead.cls = RX9 ∧ yX9_lookAhead.cls ≠ "java/lang/invoke/MethodHandle" ∧ yX9_lookAhead.cls ≠ "java/lang/invoke/VarHandle" ∧ (parseMethodDescriptor yX9_lookAhead.desc).map (fun d => d.parameters.length) = some 2 := by decide +kernel
set_option maxHeartbeats 4000000 in
set_option maxRecDepth 100000 in
theorem c_X9_lookAhead (l : Launch) (G : GG) (x1 : Int32) (x2 : Int32) (h_this : Nat) (ad_this : Nat → Nat) (ad_this_future : Nat → Nat) (ad_this_now : Nat → Nat) (ad_this_town : Nat → Nat) (v_keptCount : Int32) (v_future_turned : Int64) (a_future_came : Nat → Int64) (a_future_stayed : Nat → Int64) (v_now_turned : Int64) (a_now_came : Nat → Int64) (a_now_stayed : Nat → Int64) (v_town_signCount : Int32) (v_town_houseCount : Int32) (v_town_boatCount : Int32) (v_town_workCount : Int32) (v_town_turnCost : Int32) (v_town_boatDayCost : Int32) (a_town_lighter : Nat → Int32) (a_town_workNoise : Nat → Int32) (out : Int64 × (Nat → Int64) × (Nat → Int64)) (hF : F_X9_lookAhead x1 x2 v_future_turned a_future_came a_future_stayed v_now_turned a_now_came a_now_stayed v_town_workCount a_town_lighter a_town_workNoise = some out) : CtrV l yX9_lookAhead (WS yX9_lookAhead cX9_lookAhead 5 none) { frames := 3, cells := 0, slots := 0, locals := 72 } G [.ref h_this, .int x1, .int x2] [(h_this, oX9 ad_this v_keptCount), ((ad_this 9), oX5 ad_this_future v_future_turned), ((ad_this_future 1), cJ G 3 a_future_came), ((ad_this_future 0), cJ G 3 a_future_stayed), ((ad_this 8), oX5 ad_this_now v_now_turned), ((ad_this_now 1), cJ G 3 a_now_came), ((ad_this_now 0), cJ G 3 a_now_stayed), ((ad_this 2), oX8 ad_this_town v_town_signCount v_town_houseCount v_town_boatCount v_town_workCount v_town_turnCost v_town_boatDayCost), ((ad_this_town 0), cI G 3 a_town_lighter), ((ad_this_town 5), cI G 5 a_town_workNoise)] [(h_this, oX9 ad_this v_keptCount), ((ad_this 9), oX5 ad_this_future out.1), ((ad_this_future 1), cJ G 3 out.2.1), ((ad_this_future 0), cJ G 3 out.2.2), ((ad_this 8), oX5 ad_this_now v_now_turned), ((ad_this_now 1), cJ G 3 a_now_came), ((ad_this_now 0), cJ G 3 a_now_stayed), ((ad_this 2), oX8 ad_this_town v_town_signCount v_town_houseCount v_town_boatCount v_town_workCount v_town_turnCost v_town_boatDayCost), ((ad_this_town 0), cI G 3 a_town_lighter), ((ad_this_town 5), cI G 5 a_town_workNoise)] := by
  refine startV (cc := cX9_lookAhead) (maxL := 5) (by decide) rfl (Nat.le_of_ble_eq_true rfl) ?_
  intro p e s m args below meth c A Q hx hb hml hts hown hc hA hret ls H locs hl hW
  have hown : s.vm.findClass RX9 = some m.cls := hown
  have hg : ∀ w ∈ GOODS, w.before _ s = true := fun w h => hts w (List.mem_cons_of_mem _ h)
  have hl : lv_has ls 5 [(0, .ref h_this), (1, .int x1), (2, .int x2)] := hl
  rw [F_X9_lookAhead] at hF
  refine lv_aload_n hx hb dX9_lookAhead_0 rfl (lv_at hl 0 rfl) ?_
  refine va_get (D := G.1) (ci := 8) (v := .ref ((ad_this 2))) (C := RX9) (T := TX9) (N := 13) hx hb hg hu_X9 hown hc.1 hW.1 0 rfl rfl 2 (by decide) (hg _ wd_2_97) (fun _ h9 => h9) rfl dX9_lookAhead_1 ?_
  refine lv_iload_n hx hb dX9_lookAhead_4 rfl (lv_at hl 2 rfl) ?_
  obtain ⟨q5, c_5, hF⟩ := bd_el hF
  refine wcI (ws' := [(h_this, oX9 ad_this v_keptCount), ((ad_this 9), oX5 ad_this_future v_future_turned), ((ad_this_future 1), cJ G 3 a_future_came), ((ad_this_future 0), cJ G 3 a_future_stayed), ((ad_this 8), oX5 ad_this_now v_now_turned), ((ad_this_now 1), cJ G 3 a_now_came), ((ad_this_now 0), cJ G 3 a_now_stayed), ((ad_this 2), oX8 ad_this_town v_town_signCount v_town_houseCount v_town_boatCount v_town_workCount v_town_turnCost v_town_boatDayCost), ((ad_this_town 0), cI G 3 a_town_lighter), ((ad_this_town 5), cI G 5 a_town_workNoise)]) (wc := [((ad_this 2), oX8 ad_this_town v_town_signCount v_town_houseCount v_town_boatCount v_town_workCount v_town_turnCost v_town_boatDayCost), ((ad_this_town 5), cI G 5 a_town_workNoise)]) (wr := [(h_this, oX9 ad_this v_keptCount), ((ad_this 9), oX5 ad_this_future v_future_turned), ((ad_this_future 1), cJ G 3 a_future_came), ((ad_this_future 0), cJ G 3 a_future_stayed), ((ad_this 8), oX5 ad_this_now v_now_turned), ((ad_this_now 1), cJ G 3 a_now_came), ((ad_this_now 0), cJ G 3 a_now_stayed), ((ad_this_town 0), cI G 3 a_town_lighter)]) (w1 := [((ad_this 2), oX8 ad_this_town v_town_signCount v_town_houseCount v_town_boatCount v_town_workCount v_town_turnCost v_town_boatDayCost), ((ad_this_town 5), cI G 5 a_town_workNoise)]) (va_runV (As := [.int x2]) (rest := []) ⟨hx, hb, hml, hown, hg⟩ (c_X8_noiseOf l G x2 ((ad_this 2)) ad_this_town v_town_signCount v_town_houseCount v_town_boatCount v_town_workCount v_town_turnCost v_town_boatDayCost a_town_workNoise q5 c_5 H.size) (cwV 1 hg (gV wd_2_172 wd_2_173 wd_2_174 wd_1_4 wd_2_175) rfl rfl rfl hdV_X8_noiseOf ⟨(Nat.le_of_ble_eq_true rfl), (Nat.le_of_ble_eq_true rfl)⟩) (preV hc hW [7, 9] rfl (by decide) rfl rfl) rfl rfl hl.1 rfl (lv_room (Nat.le_of_ble_eq_true rfl)) dX9_lookAhead_5 ⟨Nat.zero_le _, Nat.zero_le _⟩) hA hW [7, 9] [0, 1, 2, 3, 4, 5, 6, 8] [0, 1, 2, 3, 4, 5, 6, 8, 7, 9] rfl rfl (by decide) (by decide) rfl (by decide) (fun H locs hW => ?_)
  refine lv_istore_n (lv' := [(3, .int q5), (0, .ref h_this), (1, .int x1), (2, .int x2)]) hx hb dX9_lookAhead_8 rfl hl (by decide) rfl (fun ls hl => ?_)
  refine lv_aload_n hx hb dX9_lookAhead_9 rfl (lv_at hl 1 rfl) ?_
  refine va_get (D := G.1) (ci := 8) (v := .ref ((ad_this 9))) (C := RX9) (T := TX9) (N := 13) hx hb hg hu_X9 hown hc.1 hW.1 0 rfl rfl 9 (by decide) (hg _ wd_2_104) (fun _ h9 => h9) rfl dX9_lookAhead_10 ?_
  refine lv_aload_n hx hb dX9_lookAhead_13 rfl (lv_at hl 1 rfl) ?_
  refine va_get (D := G.1) (ci := 8) (v := .ref ((ad_this 8))) (C := RX9) (T := TX9) (N := 13) hx hb hg hu_X9 hown hc.1 hW.1 0 rfl rfl 8 (by decide) (hg _ wd_2_103) (fun _ h9 => h9) rfl dX9_lookAhead_14 ?_
  obtain ⟨q17, c_17, hF⟩ := bd_el hF
  refine wcV (ws' := [(h_this, oX9 ad_this v_keptCount), ((ad_this 9), oX5 ad_this_future q17.1), ((ad_this_future 1), cJ G 3 q17.2.1), ((ad_this_future 0), cJ G 3 q17.2.2), ((ad_this 8), oX5 ad_this_now v_now_turned), ((ad_this_now 1), cJ G 3 a_now_came), ((ad_this_now 0), cJ G 3 a_now_stayed), ((ad_this 2), oX8 ad_this_town v_town_signCount v_town_houseCount v_town_boatCount v_town_workCount v_town_turnCost v_town_boatDayCost), ((ad_this_town 0), cI G 3 a_town_lighter), ((ad_this_town 5), cI G 5 a_town_workNoise)]) (wc := [((ad_this 9), oX5 ad_this_future v_future_turned), ((ad_this 8), oX5 ad_this_now v_now_turned), ((ad_this_now 1), cJ G 3 a_now_came), ((ad_this_now 0), cJ G 3 a_now_stayed), ((ad_this_future 1), cJ G 3 a_future_came), ((ad_this_future 0), cJ G 3 a_future_stayed)]) (wr := [(h_this, oX9 ad_this v_keptCount), ((ad_this 2), oX8 ad_this_town v_town_signCount v_town_houseCount v_town_boatCount v_town_workCount v_town_turnCost v_town_boatDayCost), ((ad_this_town 0), cI G 3 a_town_lighter), ((ad_this_town 5), cI G 5 a_town_workNoise)]) (w1 := [((ad_this 9), oX5 ad_this_future q17.1), ((ad_this 8), oX5 ad_this_now v_now_turned), ((ad_this_now 1), cJ G 3 a_now_came), ((ad_this_now 0), cJ G 3 a_now_stayed), ((ad_this_future 1), cJ G 3 q17.2.1), ((ad_this_future 0), cJ G 3 q17.2.2)]) (va_runV (As := [.ref ((ad_this 8))]) (rest := []) ⟨hx, hb, hml, hown, hg⟩ (c_X5_takeFrom l G ((ad_this 9)) ((ad_this 8)) ad_this_future ad_this_now v_future_turned v_now_turned a_now_came a_now_stayed a_future_came a_future_stayed q17 c_17 H.size) (cwV 1 hg (gV wd_3_50 wd_3_51 wd_3_52 wd_1_6 wd_3_53) rfl rfl rfl hdV_X5_takeFrom ⟨(Nat.le_of_ble_eq_true rfl), (Nat.le_of_ble_eq_true rfl)⟩) (preV hc hW [1, 4, 5, 6, 2, 3] rfl (by decide) rfl rfl) rfl rfl hl.1 rfl (lv_room (Nat.le_of_ble_eq_true rfl)) dX9_lookAhead_17 ⟨Nat.zero_le _, Nat.zero_le _⟩) hA hW [1, 4, 5, 6, 2, 3] [0, 7, 8, 9] [0, 4, 8, 9, 5, 6, 7, 1, 2, 3] rfl rfl (by decide) (by decide) rfl (by decide) (fun H locs hW => ?_)
  refine lv_iconst (v := 0) hx hb dX9_lookAhead_20 (by decide) ?_
  refine lv_istore (lv' := [(4, .int 0), (3, .int q5), (0, .ref h_this), (1, .int x1), (2, .int x2)]) hx hb dX9_lookAhead_21 hl (by decide) rfl (fun ls hl => ?_)
  have L_23 : ∀ (n : Nat) (x4_23 : Int32) (v_future_turned_23 : Int64) (a_future_came_23 : Nat → Int64) (a_future_stayed_23 : Nat → Int64) (ls : Array Slot) (H : Heap) (locs : List Loc), L_X9_lookAhead_23 x1 a_town_lighter q5 n x4_23 v_future_turned_23 a_future_came_23 a_future_stayed_23 = some out → lv_has ls 5 [(0, .ref h_this), (1, .int x1), (3, .int q5), (4, .int x4_23)] → Wd G A s.heap [(h_this, oX9 ad_this v_keptCount), ((ad_this 9), oX5 ad_this_future v_future_turned_23), ((ad_this_future 1), cJ G 3 a_future_came_23), ((ad_this_future 0), cJ G 3 a_future_stayed_23), ((ad_this 8), oX5 ad_this_now v_now_turned), ((ad_this_now 1), cJ G 3 a_now_came), ((ad_this_now 0), cJ G 3 a_now_stayed), ((ad_this 2), oX8 ad_this_town v_town_signCount v_town_houseCount v_town_boatCount v_town_workCount v_town_turnCost v_town_boatDayCost), ((ad_this_town 0), cI G 3 a_town_lighter), ((ad_this_town 5), cI G 5 a_town_workNoise)] H locs → W p l e ({ frames := 3, cells := 0, slots := 0, locals := 72 } : Room) s m args below meth c H locs 0 0 Q (F0 m 23 ls []) := by
    intro n
    induction n with
    | zero => intro x4_23 v_future_turned_23 a_future_came_23 a_future_stayed_23 ls H locs hF hl hW; have h0 : none = some out := hF; cases h0
    | succ n ih =>
      intro x4_23 v_future_turned_23 a_future_came_23 a_future_stayed_23 ls H locs hF hl hW
      rw [L_X9_lookAhead_23] at hF
      refine lv_iload hx hb dX9_lookAhead_23 (lv_at hl 3 rfl) ?_
      refine lv_iload_n hx hb dX9_lookAhead_25 rfl (lv_at hl 1 rfl) ?_
      refine lv_icmp_ge (tgt := 47) hx hb dX9_lookAhead_26 (by decide) (fun c_26 => ?_) (fun c_26 => ?_)
      · have hF := ite_t hF c_26
        obtain rfl := Option.some.inj hF
        exact hret _ _ _ _ hW dX9_lookAhead_47
      · have hF := ite_f hF c_26
        refine lv_aload_n hx hb dX9_lookAhead_29 rfl (lv_at hl 0 rfl) ?_
        refine va_get (D := G.1) (ci := 8) (v := .ref ((ad_this 9))) (C := RX9) (T := TX9) (N := 13) hx hb hg hu_X9 hown hc.1 hW.1 0 rfl rfl 9 (by decide) (hg _ wd_2_104) (fun _ h9 => h9) rfl dX9_lookAhead_30 ?_
        refine lv_aload_n hx hb dX9_lookAhead_33 rfl (lv_at hl 0 rfl) ?_
        refine va_get (D := G.1) (ci := 8) (v := .ref ((ad_this 2))) (C := RX9) (T := TX9) (N := 13) hx hb hg hu_X9 hown hc.1 hW.1 0 rfl rfl 2 (by decide) (hg _ wd_2_97) (fun _ h9 => h9) rfl dX9_lookAhead_34 ?_
        refine lv_iload_n hx hb dX9_lookAhead_37 rfl (lv_at hl 2 rfl) ?_
        obtain ⟨q38, c_38, hF⟩ := bd_el hF
        refine wcV (ws' := [(h_this, oX9 ad_this v_keptCount), ((ad_this 9), oX5 ad_this_future q38.1), ((ad_this_future 1), cJ G 3 q38.2.1), ((ad_this_future 0), cJ G 3 q38.2.2), ((ad_this 8), oX5 ad_this_now v_now_turned), ((ad_this_now 1), cJ G 3 a_now_came), ((ad_this_now 0), cJ G 3 a_now_stayed), ((ad_this 2), oX8 ad_this_town v_town_signCount v_town_houseCount v_town_boatCount v_town_workCount v_town_turnCost v_town_boatDayCost), ((ad_this_town 0), cI G 3 a_town_lighter), ((ad_this_town 5), cI G 5 a_town_workNoise)]) (wc := [((ad_this 9), oX5 ad_this_future v_future_turned_23), ((ad_this 2), oX8 ad_this_town v_town_signCount v_town_houseCount v_town_boatCount v_town_workCount v_town_turnCost v_town_boatDayCost), ((ad_this_town 0), cI G 3 a_town_lighter), ((ad_this_future 1), cJ G 3 a_future_came_23), ((ad_this_future 0), cJ G 3 a_future_stayed_23)]) (wr := [(h_this, oX9 ad_this v_keptCount), ((ad_this 8), oX5 ad_this_now v_now_turned), ((ad_this_now 1), cJ G 3 a_now_came), ((ad_this_now 0), cJ G 3 a_now_stayed), ((ad_this_town 5), cI G 5 a_town_workNoise)]) (w1 := [((ad_this 9), oX5 ad_this_future q38.1), ((ad_this 2), oX8 ad_this_town v_town_signCount v_town_houseCount v_town_boatCount v_town_workCount v_town_turnCost v_town_boatDayCost), ((ad_this_town 0), cI G 3 a_town_lighter), ((ad_this_future 1), cJ G 3 q38.2.1), ((ad_this_future 0), cJ G 3 q38.2.2)]) (va_runV (As := [.ref ((ad_this 2)), .int q5]) (rest := []) ⟨hx, hb, hml, hown, hg⟩ (c_X5_goOn l G q5 ((ad_this 9)) ((ad_this 2)) ad_this_future ad_this_town v_future_turned_23 v_town_signCount v_town_houseCount v_town_boatCount v_town_workCount v_town_turnCost v_town_boatDayCost a_town_lighter a_future_came_23 a_future_stayed_23 q38 c_38 H.size) (cwV 2 hg (gV wd_3_54 wd_2_231 wd_2_232 wd_1_6 wd_2_233) rfl rfl rfl hdV_X5_goOn ⟨(Nat.le_of_ble_eq_true rfl), (Nat.le_of_ble_eq_true rfl)⟩) (preV hc hW [1, 7, 8, 2, 3] rfl (by decide) rfl rfl) rfl rfl hl.1 rfl (lv_room (Nat.le_of_ble_eq_true rfl)) dX9_lookAhead_38 ⟨Nat.zero_le _, Nat.zero_le _⟩) hA hW [1, 7, 8, 2, 3] [0, 4, 5, 6, 9] [0, 5, 8, 9, 1, 2, 3, 6, 7, 4] rfl rfl (by decide) (by decide) rfl (by decide) (fun H locs hW => ?_)
        refine lv_iinc (v := (x4_23 + 1)) (lv' := [(4, .int ((x4_23 + 1))), (0, .ref h_this), (1, .int x1), (3, .int q5)]) hx hb dX9_lookAhead_41 hl (k := 3) rfl rfl (by decide) rfl (fun ls hl => ?_)
        refine lv_goto (tgt := 23) hx hb dX9_lookAhead_44 (by decide) ?_
        exact ih ((x4_23 + 1)) q38.1 q38.2.1 q38.2.2 _ _ _ hF (lv_sub hl [1, 2, 3, 0] rfl) hW
  exact L_23 5000 0 q17.1 q17.2.1 q17.2.2 _ _ _ hF (lv_sub hl [2, 3, 1, 0] rfl) hW
theorem dX9_nextDayCanBe_0 : decode cX9_nextDayCanBe 0 = .ok (.aload_n 0, 1) := by decide +kernel
theorem dX9_nextDayCanBe_1 : decode cX9_nextDayCanBe 1 = .ok (.iconst 1, 1) := by decide +kernel
theorem dX9_nextDayCanBe_2 : decode cX9_nextDayCanBe 2 = .ok (.iload_n 1, 1) := by decide +kernel
theorem dX9_nextDayCanBe_3 : decode cX9_nextDayCanBe 3 = .ok (.invokevirtual 166, 3) := by decide +kernel
theorem dX9_nextDayCanBe_6 : decode cX9_nextDayCanBe 6 = .ok (.aload_n 0, 1) := by decide +kernel
theorem dX9_nextDayCanBe_7 : decode cX9_nextDayCanBe 7 = .ok (.getfield 57, 3) := by decide +kernel
theorem dX9_nextDayCanBe_10 : decode cX9_nextDayCanBe 10 = .ok (.invokevirtual 158, 3) := by decide +kernel
theorem dX9_nextDayCanBe_13 : decode cX9_nextDayCanBe 13 = .ok (.lconst 0, 1) := by decide +kernel
theorem dX9_nextDayCanBe_14 : decode cX9_nextDayCanBe 14 = .ok (.lcmp, 1) := by decide +kernel
theorem dX9_nextDayCanBe_15 : decode cX9_nextDayCanBe 15 = .ok (.ifCond .le 7, 3) := by decide +kernel
theorem dX9_nextDayCanBe_18 : decode cX9_nextDayCanBe 18 = .ok (.iconst 1, 1) := by decide +kernel
theorem dX9_nextDayCanBe_19 : decode cX9_nextDayCanBe 19 = .ok (.goto 4, 3) := by decide +kernel
theorem dX9_nextDayCanBe_22 : decode cX9_nextDayCanBe 22 = .ok (.iconst 0, 1) := by decide +kernel
theorem dX9_nextDayCanBe_23 : decode cX9_nextDayCanBe 23 = .ok (.ireturn, 1) := by decide +kernel
def F_X9_nextDayCanBe (x1 : Int32) (v_future_turned : Int64) (a_future_came : Nat → Int64) (a_future_stayed : Nat → Int64) (v_now_turned : Int64) (a_now_came : Nat → Int64) (a_now_stayed : Nat → Int64) (v_town_workCount : Int32) (a_town_lighter : Nat → Int32) (a_town_workNoise : Nat → Int32) : Option (Int32 × Int64 × (Nat → Int64) × (Nat → Int64)) := (F_X9_lookAhead 1 x1 v_future_turned a_future_came a_future_stayed v_now_turned a_now_came a_now_stayed v_town_workCount a_town_lighter a_town_workNoise).bind (fun q3 => (F_X5_total q3.2.1 q3.2.2).bind (fun q10 => (if (lg_cmp q10 0) ≤ 0 then some (0, q3.1, q3.2.1, q3.2.2) else some (1, q3.1, q3.2.1, q3.2.2))))
theorem hdV_X9_nextDayCanBe : yX9_nextDayCanBe.cls = RX9 ∧ yX9_nextDayCanBe.cls ≠ "java/lang/invoke/MethodHandle" ∧ yX9_nextDayCanBe.cls ≠ "java/lang/invoke/VarHandle" ∧ (parseMethodDescriptor yX9_nextDayCanBe.desc).map (fun d => d.parameters.length) = some 1 := by decide +kernel
set_option maxHeartbeats 4000000 in
set_option maxRecDepth 100000 in
theorem c_X9_nextDayCanBe (l : Launch) (G : GG) (x1 : Int32) (h_this : Nat) (ad_this : Nat → Nat) (ad_this_future : Nat → Nat) (ad_this_now : Nat → Nat) (ad_this_town : Nat → Nat) (v_keptCount : Int32) (v_future_turned : Int64) (a_future_came : Nat → Int64) (a_future_stayed : Nat → Int64) (v_now_turned : Int64) (a_now_came : Nat → Int64) (a_now_stayed : Nat → Int64) (v_town_signCount : Int32) (v_town_houseCount : Int32) (v_town_boatCount : Int32) (v_town_workCount : Int32) (v_town_turnCost : Int32) (v_town_boatDayCost : Int32) (a_town_lighter : Nat → Int32) (a_town_workNoise : Nat → Int32) (out : Int32 × Int64 × (Nat → Int64) × (Nat → Int64)) (hF : F_X9_nextDayCanBe x1 v_future_turned a_future_came a_future_stayed v_now_turned a_now_came a_now_stayed v_town_workCount a_town_lighter a_town_workNoise = some out) : CtrZ l yX9_nextDayCanBe (WS yX9_nextDayCanBe cX9_nextDayCanBe 2 (some .boolean)) { frames := 4, cells := 0, slots := 0, locals := 96 } G [.ref h_this, .int x1] [(h_this, oX9 ad_this v_keptCount), ((ad_this 9), oX5 ad_this_future v_future_turned), ((ad_this_future 1), cJ G 3 a_future_came), ((ad_this_future 0), cJ G 3 a_future_stayed), ((ad_this 8), oX5 ad_this_now v_now_turned), ((ad_this_now 1), cJ G 3 a_now_came), ((ad_this_now 0), cJ G 3 a_now_stayed), ((ad_this 2), oX8 ad_this_town v_town_signCount v_town_houseCount v_town_boatCount v_town_workCount v_town_turnCost v_town_boatDayCost), ((ad_this_town 0), cI G 3 a_town_lighter), ((ad_this_town 5), cI G 5 a_town_workNoise)] [(h_this, oX9 ad_this v_keptCount), ((ad_this 9), oX5 ad_this_future out.2.1), ((ad_this_future 1), cJ G 3 out.2.2.1), ((ad_this_future 0), cJ G 3 out.2.2.2), ((ad_this 8), oX5 ad_this_now v_now_turned), ((ad_this_now 1), cJ G 3 a_now_came), ((ad_this_now 0), cJ G 3 a_now_stayed), ((ad_this 2), oX8 ad_this_town v_town_signCount v_town_houseCount v_town_boatCount v_town_workCount v_town_turnCost v_town_boatDayCost), ((ad_this_town 0), cI G 3 a_town_lighter), ((ad_this_town 5), cI G 5 a_town_workNoise)] out.1 := by
  refine startZ (cc := cX9_nextDayCanBe) (maxL := 2) (by decide) rfl (Nat.le_of_ble_eq_true rfl) ?_
  intro p e s m args below meth c A Q hx hb hml hts hown hc hA hret ls H locs hl hW
  have hown : s.vm.findClass RX9 = some m.cls := hown
  have hg : ∀ w ∈ GOODS, w.before _ s = true := fun w h => hts w (List.mem_cons_of_mem _ h)
  have hl : lv_has ls 2 [(0, .ref h_this), (1, .int x1)] := hl
  rw [F_X9_nextDayCanBe] at hF
  refine lv_aload_n hx hb dX9_nextDayCanBe_0 rfl (lv_at hl 0 rfl) ?_
  refine lv_iconst (v := 1) hx hb dX9_nextDayCanBe_1 (by decide) ?_
  refine lv_iload_n hx hb dX9_nextDayCanBe_2 rfl (lv_at hl 1 rfl) ?_
  obtain ⟨q3, c_3, hF⟩ := bd_el hF
  refine wcV (ws' := [(h_this, oX9 ad_this v_keptCount), ((ad_this 9), oX5 ad_this_future q3.1), ((ad_this_future 1), cJ G 3 q3.2.1), ((ad_this_future 0), cJ G 3 q3.2.2), ((ad_this 8), oX5 ad_this_now v_now_turned), ((ad_this_now 1), cJ G 3 a_now_came), ((ad_this_now 0), cJ G 3 a_now_stayed), ((ad_this 2), oX8 ad_this_town v_town_signCount v_town_houseCount v_town_boatCount v_town_workCount v_town_turnCost v_town_boatDayCost), ((ad_this_town 0), cI G 3 a_town_lighter), ((ad_this_town 5), cI G 5 a_town_workNoise)]) (wc := [(h_this, oX9 ad_this v_keptCount), ((ad_this 9), oX5 ad_this_future v_future_turned), ((ad_this_future 1), cJ G 3 a_future_came), ((ad_this_future 0), cJ G 3 a_future_stayed), ((ad_this 8), oX5 ad_this_now v_now_turned), ((ad_this_now 1), cJ G 3 a_now_came), ((ad_this_now 0), cJ G 3 a_now_stayed), ((ad_this 2), oX8 ad_this_town v_town_signCount v_town_houseCount v_town_boatCount v_town_workCount v_town_turnCost v_town_boatDayCost), ((ad_this_town 0), cI G 3 a_town_lighter), ((ad_this_town 5), cI G 5 a_town_workNoise)]) (wr := []) (w1 := [(h_this, oX9 ad_this v_keptCount), ((ad_this 9), oX5 ad_this_future q3.1), ((ad_this_future 1), cJ G 3 q3.2.1), ((ad_this_future 0), cJ G 3 q3.2.2), ((ad_this 8), oX5 ad_this_now v_now_turned), ((ad_this_now 1), cJ G 3 a_now_came), ((ad_this_now 0), cJ G 3 a_now_stayed), ((ad_this 2), oX8 ad_this_town v_town_signCount v_town_houseCount v_town_boatCount v_town_workCount v_town_turnCost v_town_boatDayCost), ((ad_this_town 0), cI G 3 a_town_lighter), ((ad_this_town 5), cI G 5 a_town_workNoise)]) (va_runV (As := [.int 1, .int x1]) (rest := []) ⟨hx, hb, hml, hown, hg⟩ (c_X9_lookAhead l G 1 x1 h_this ad_this ad_this_future ad_this_now ad_this_town v_keptCount v_future_turned a_future_came a_future_stayed v_now_turned a_now_came a_now_stayed v_town_signCount v_town_houseCount v_town_boatCount v_town_workCount v_town_turnCost v_town_boatDayCost a_town_lighter a_town_workNoise q3 c_3 H.size) (cwV 2 hg (gV wd_3_46 wd_3_48 wd_0_15 wd_1_1 wd_3_49) rfl rfl rfl hdV_X9_lookAhead ⟨(Nat.le_of_ble_eq_true rfl), (Nat.le_of_ble_eq_true rfl)⟩) (preV hc hW [0, 1, 2, 3, 4, 5, 6, 7, 8, 9] rfl (by decide) rfl rfl) rfl rfl hl.1 rfl (lv_room (Nat.le_of_ble_eq_true rfl)) dX9_nextDayCanBe_3 ⟨Nat.zero_le _, Nat.zero_le _⟩) hA hW [0, 1, 2, 3, 4, 5, 6, 7, 8, 9] [] [0, 1, 2, 3, 4, 5, 6, 7, 8, 9] rfl rfl (by decide) (by decide) rfl (by decide) (fun H locs hW => ?_)
  refine lv_aload_n hx hb dX9_nextDayCanBe_6 rfl (lv_at hl 0 rfl) ?_
  refine va_get (D := G.1) (ci := 8) (v := .ref ((ad_this 9))) (C := RX9) (T := TX9) (N := 13) hx hb hg hu_X9 hown hc.1 hW.1 0 rfl rfl 9 (by decide) (hg _ wd_2_104) (fun _ h9 => h9) rfl dX9_nextDayCanBe_7 ?_
  obtain ⟨q10, c_10, hF⟩ := bd_el hF
  refine wcJ (ws' := [(h_this, oX9 ad_this v_keptCount), ((ad_this 9), oX5 ad_this_future q3.1), ((ad_this_future 1), cJ G 3 q3.2.1), ((ad_this_future 0), cJ G 3 q3.2.2), ((ad_this 8), oX5 ad_this_now v_now_turned), ((ad_this_now 1), cJ G 3 a_now_came), ((ad_this_now 0), cJ G 3 a_now_stayed), ((ad_this 2), oX8 ad_this_town v_town_signCount v_town_houseCount v_town_boatCount v_town_workCount v_town_turnCost v_town_boatDayCost), ((ad_this_town 0), cI G 3 a_town_lighter), ((ad_this_town 5), cI G 5 a_town_workNoise)]) (wc := [((ad_this 9), oX5 ad_this_future q3.1), ((ad_this_future 1), cJ G 3 q3.2.1), ((ad_this_future 0), cJ G 3 q3.2.2)]) (wr := [(h_this, oX9 ad_this v_keptCount), ((ad_this 8), oX5 ad_this_now v_now_turned), ((ad_this_now 1), cJ G 3 a_now_came), ((ad_this_now 0), cJ G 3 a_now_stayed), ((ad_this 2), oX8 ad_this_town v_town_signCount v_town_houseCount v_town_boatCount v_town_workCount v_town_turnCost v_town_boatDayCost), ((ad_this_town 0), cI G 3 a_town_lighter), ((ad_this_town 5), cI G 5 a_town_workNoise)]) (w1 := [((ad_this 9), oX5 ad_this_future q3.1), ((ad_this_future 1), cJ G 3 q3.2.1), ((ad_this_future 0), cJ G 3 q3.2.2)]) (va_runV (As := []) (rest := []) ⟨hx, hb, hml, hown, hg⟩ (c_X5_total l G ((ad_this 9)) ad_this_future q3.1 q3.2.1 q3.2.2 q10 c_10 H.size) (cwV 0 hg (gV wd_3_30 wd_3_31 wd_3_32 wd_1_6 wd_3_33) rfl rfl rfl hdV_X5_total ⟨(Nat.le_of_ble_eq_true rfl), (Nat.le_of_ble_eq_true rfl)⟩) (preV hc hW [1, 2, 3] rfl (by decide) rfl rfl) rfl rfl hl.1 rfl (lv_room (Nat.le_of_ble_eq_true rfl)) dX9_nextDayCanBe_10 ⟨Nat.zero_le _, Nat.zero_le _⟩) hA hW [1, 2, 3] [0, 4, 5, 6, 7, 8, 9] [0, 7, 8, 9, 1, 2, 3, 4, 5, 6] rfl rfl (by decide) (by decide) rfl (by decide) (fun H locs hW => ?_)
  refine lv_lconst (v := 0) hx hb dX9_nextDayCanBe_13 (by decide) ?_
  refine W.lcmp hx hb dX9_nextDayCanBe_14 ?_
  refine lv_if_le (tgt := 22) hx hb dX9_nextDayCanBe_15 (by decide) (fun c_15 => ?_) (fun c_15 => ?_)
  · have hF := ite_t hF c_15
    refine lv_iconst (v := 0) hx hb dX9_nextDayCanBe_22 (by decide) ?_
    obtain rfl := Option.some.inj hF
    exact hret _ _ _ _ hW (Or.inl rfl) dX9_nextDayCanBe_23
  · have hF := ite_f hF c_15
    refine lv_iconst (v := 1) hx hb dX9_nextDayCanBe_18 (by decide) ?_
    refine lv_goto (tgt := 23) hx hb dX9_nextDayCanBe_19 (by decide) ?_
    obtain rfl := Option.some.inj hF
    exact hret _ _ _ _ hW (Or.inr rfl) dX9_nextDayCanBe_23
theorem dX9_awayFromHalf_0 : decode cX9_awayFromHalf 0 = .ok (.ldc2_w 278, 3) := by decide +kernel
theorem dX9_awayFromHalf_3 : decode cX9_awayFromHalf 3 = .ok (.aload_n 0, 1) := by decide +kernel
theorem dX9_awayFromHalf_4 : decode cX9_awayFromHalf 4 = .ok (.getfield 57, 3) := by decide +kernel
theorem dX9_awayFromHalf_7 : decode cX9_awayFromHalf 7 = .ok (.aload_n 0, 1) := by decide +kernel
theorem dX9_awayFromHalf_8 : decode cX9_awayFromHalf 8 = .ok (.getfield 26, 3) := by decide +kernel
theorem dX9_awayFromHalf_11 : decode cX9_awayFromHalf 11 = .ok (.iload_n 1, 1) := by decide +kernel
theorem dX9_awayFromHalf_12 : decode cX9_awayFromHalf 12 = .ok (.invokevirtual 180, 3) := by decide +kernel
theorem dX9_awayFromHalf_15 : decode cX9_awayFromHalf 15 = .ok (.lmul, 1) := by decide +kernel
theorem dX9_awayFromHalf_16 : decode cX9_awayFromHalf 16 = .ok (.aload_n 0, 1) := by decide +kernel
theorem dX9_awayFromHalf_17 : decode cX9_awayFromHalf 17 = .ok (.getfield 57, 3) := by decide +kernel
theorem dX9_awayFromHalf_20 : decode cX9_awayFromHalf 20 = .ok (.invokevirtual 158, 3) := by decide +kernel
theorem dX9_awayFromHalf_23 : decode cX9_awayFromHalf 23 = .ok (.ldc2_w 184, 3) := by decide +kernel
theorem dX9_awayFromHalf_26 : decode cX9_awayFromHalf 26 = .ok (.lmul, 1) := by decide +kernel
theorem dX9_awayFromHalf_27 : decode cX9_awayFromHalf 27 = .ok (.lsub, 1) := by decide +kernel
theorem dX9_awayFromHalf_28 : decode cX9_awayFromHalf 28 = .ok (.invokestatic 280, 3) := by decide +kernel
theorem dX9_awayFromHalf_31 : decode cX9_awayFromHalf 31 = .ok (.lreturn, 1) := by decide +kernel
def F_X9_awayFromHalf (x1 : Int32) (a_future_came : Nat → Int64) (a_future_stayed : Nat → Int64) (a_town_signNumbers : Nat → Int32) : Option (Int64) := (F_X5_sightings x1 a_town_signNumbers a_future_came a_future_stayed).bind (fun q12 => (F_X5_total a_future_came a_future_stayed).bind (fun q20 => some ((if 0 < ((2 * q12) - (q20 * 256)) then ((2 * q12) - (q20 * 256)) else -((2 * q12) - (q20 * 256))))))
theorem hdV_X9_awayFromHalf : yX9_awayFromHalf.cls = RX9 ∧ yX9_awayFromHalf.cls ≠ "java/lang/invoke/MethodHandle" ∧ yX9_awayFromHalf.cls ≠ "java/lang/invoke/VarHandle" ∧ (parseMethodDescriptor yX9_awayFromHalf.desc).map (fun d => d.parameters.length) = some 1 := by decide +kernel
set_option maxHeartbeats 4000000 in
set_option maxRecDepth 100000 in
theorem c_X9_awayFromHalf (l : Launch) (G : GG) (x1 : Int32) (h_this : Nat) (ad_this : Nat → Nat) (ad_this_future : Nat → Nat) (ad_this_town : Nat → Nat) (v_keptCount : Int32) (v_future_turned : Int64) (a_future_came : Nat → Int64) (a_future_stayed : Nat → Int64) (v_town_signCount : Int32) (v_town_houseCount : Int32) (v_town_boatCount : Int32) (v_town_workCount : Int32) (v_town_turnCost : Int32) (v_town_boatDayCost : Int32) (a_town_signNumbers : Nat → Int32) (out : Int64) (hF : F_X9_awayFromHalf x1 a_future_came a_future_stayed a_town_signNumbers = some out) : CtrJ l yX9_awayFromHalf (WS yX9_awayFromHalf cX9_awayFromHalf 2 (some .long)) { frames := 5, cells := 0, slots := 0, locals := 116 } G [.ref h_this, .int x1] [(h_this, oX9 ad_this v_keptCount), ((ad_this 9), oX5 ad_this_future v_future_turned), ((ad_this_future 1), cJ G 3 a_future_came), ((ad_this_future 0), cJ G 3 a_future_stayed), ((ad_this 2), oX8 ad_this_town v_town_signCount v_town_houseCount v_town_boatCount v_town_workCount v_town_turnCost v_town_boatDayCost), ((ad_this_town 1), cI G 16 a_town_signNumbers)] [(h_this, oX9 ad_this v_keptCount), ((ad_this 9), oX5 ad_this_future v_future_turned), ((ad_this_future 1), cJ G 3 a_future_came), ((ad_this_future 0), cJ G 3 a_future_stayed), ((ad_this 2), oX8 ad_this_town v_town_signCount v_town_houseCount v_town_boatCount v_town_workCount v_town_turnCost v_town_boatDayCost), ((ad_this_town 1), cI G 16 a_town_signNumbers)] out := by
  refine startJ (cc := cX9_awayFromHalf) (maxL := 2) (by decide) rfl (Nat.le_of_ble_eq_true rfl) ?_
  intro p e s m args below meth c A Q hx hb hml hts hown hc hA hret ls H locs hl hW
  have hown : s.vm.findClass RX9 = some m.cls := hown
  have hg : ∀ w ∈ GOODS, w.before _ s = true := fun w h => hts w (List.mem_cons_of_mem _ h)
  have hl : lv_has ls 2 [(0, .ref h_this), (1, .int x1)] := hl
  rw [F_X9_awayFromHalf] at hF
  refine lv_ldc2 (v := 2) hx hb hown (hg _ wd_3_85) dX9_awayFromHalf_0 ?_
  refine lv_aload_n hx hb dX9_awayFromHalf_3 rfl (lv_at hl 0 rfl) ?_
  refine va_get (D := G.1) (ci := 8) (v := .ref ((ad_this 9))) (C := RX9) (T := TX9) (N := 13) hx hb hg hu_X9 hown hc.1 hW.1 0 rfl rfl 9 (by decide) (hg _ wd_2_104) (fun _ h9 => h9) rfl dX9_awayFromHalf_4 ?_
  refine lv_aload_n hx hb dX9_awayFromHalf_7 rfl (lv_at hl 0 rfl) ?_
  refine va_get (D := G.1) (ci := 8) (v := .ref ((ad_this 2))) (C := RX9) (T := TX9) (N := 13) hx hb hg hu_X9 hown hc.1 hW.1 0 rfl rfl 2 (by decide) (hg _ wd_2_97) (fun _ h9 => h9) rfl dX9_awayFromHalf_8 ?_
  refine lv_iload_n hx hb dX9_awayFromHalf_11 rfl (lv_at hl 1 rfl) ?_
  obtain ⟨q12, c_12, hF⟩ := bd_el hF
  refine wcJ (ws' := [(h_this, oX9 ad_this v_keptCount), ((ad_this 9), oX5 ad_this_future v_future_turned), ((ad_this_future 1), cJ G 3 a_future_came), ((ad_this_future 0), cJ G 3 a_future_stayed), ((ad_this 2), oX8 ad_this_town v_town_signCount v_town_houseCount v_town_boatCount v_town_workCount v_town_turnCost v_town_boatDayCost), ((ad_this_town 1), cI G 16 a_town_signNumbers)]) (wc := [((ad_this 9), oX5 ad_this_future v_future_turned), ((ad_this 2), oX8 ad_this_town v_town_signCount v_town_houseCount v_town_boatCount v_town_workCount v_town_turnCost v_town_boatDayCost), ((ad_this_town 1), cI G 16 a_town_signNumbers), ((ad_this_future 1), cJ G 3 a_future_came), ((ad_this_future 0), cJ G 3 a_future_stayed)]) (wr := [(h_this, oX9 ad_this v_keptCount)]) (w1 := [((ad_this 9), oX5 ad_this_future v_future_turned), ((ad_this 2), oX8 ad_this_town v_town_signCount v_town_houseCount v_town_boatCount v_town_workCount v_town_turnCost v_town_boatDayCost), ((ad_this_town 1), cI G 16 a_town_signNumbers), ((ad_this_future 1), cJ G 3 a_future_came), ((ad_this_future 0), cJ G 3 a_future_stayed)]) (va_runV (As := [.ref ((ad_this 2)), .int x1]) (rest := [.long 2]) ⟨hx, hb, hml, hown, hg⟩ (c_X5_sightings l G x1 ((ad_this 9)) ((ad_this 2)) ad_this_future ad_this_town v_future_turned v_town_signCount v_town_houseCount v_town_boatCount v_town_workCount v_town_turnCost v_town_boatDayCost a_town_signNumbers a_future_came a_future_stayed q12 c_12 H.size) (cwV 2 hg (gV wd_3_68 wd_3_69 wd_3_70 wd_1_6 wd_3_71) rfl rfl rfl hdV_X5_sightings ⟨(Nat.le_of_ble_eq_true rfl), (Nat.le_of_ble_eq_true rfl)⟩) (preV hc hW [1, 4, 5, 2, 3] rfl (by decide) rfl rfl) rfl rfl hl.1 rfl (lv_room (Nat.le_of_ble_eq_true rfl)) dX9_awayFromHalf_12 ⟨Nat.zero_le _, Nat.zero_le _⟩) hA hW [1, 4, 5, 2, 3] [0] [0, 1, 4, 5, 2, 3] rfl rfl (by decide) (by decide) rfl (by decide) (fun H locs hW => ?_)
  refine lv_lmul hx hb dX9_awayFromHalf_15 ?_
  refine lv_aload_n hx hb dX9_awayFromHalf_16 rfl (lv_at hl 0 rfl) ?_
  refine va_get (D := G.1) (ci := 8) (v := .ref ((ad_this 9))) (C := RX9) (T := TX9) (N := 13) hx hb hg hu_X9 hown hc.1 hW.1 0 rfl rfl 9 (by decide) (hg _ wd_2_104) (fun _ h9 => h9) rfl dX9_awayFromHalf_17 ?_
  obtain ⟨q20, c_20, hF⟩ := bd_el hF
  refine wcJ (ws' := [(h_this, oX9 ad_this v_keptCount), ((ad_this 9), oX5 ad_this_future v_future_turned), ((ad_this_future 1), cJ G 3 a_future_came), ((ad_this_future 0), cJ G 3 a_future_stayed), ((ad_this 2), oX8 ad_this_town v_town_signCount v_town_houseCount v_town_boatCount v_town_workCount v_town_turnCost v_town_boatDayCost), ((ad_this_town 1), cI G 16 a_town_signNumbers)]) (wc := [((ad_this 9), oX5 ad_this_future v_future_turned), ((ad_this_future 1), cJ G 3 a_future_came), ((ad_this_future 0), cJ G 3 a_future_stayed)]) (wr := [(h_this, oX9 ad_this v_keptCount), ((ad_this 2), oX8 ad_this_town v_town_signCount v_town_houseCount v_town_boatCount v_town_workCount v_town_turnCost v_town_boatDayCost), ((ad_this_town 1), cI G 16 a_town_signNumbers)]) (w1 := [((ad_this 9), oX5 ad_this_future v_future_turned), ((ad_this_future 1), cJ G 3 a_future_came), ((ad_this_future 0), cJ G 3 a_future_stayed)]) (va_runV (As := []) (rest := [.long ((2 * q12))]) ⟨hx, hb, hml, hown, hg⟩ (c_X5_total l G ((ad_this 9)) ad_this_future v_future_turned a_future_came a_future_stayed q20 c_20 H.size) (cwV 0 hg (gV wd_3_30 wd_3_31 wd_3_32 wd_1_6 wd_3_33) rfl rfl rfl hdV_X5_total ⟨(Nat.le_of_ble_eq_true rfl), (Nat.le_of_ble_eq_true rfl)⟩) (preV hc hW [1, 2, 3] rfl (by decide) rfl rfl) rfl rfl hl.1 rfl (lv_room (Nat.le_of_ble_eq_true rfl)) dX9_awayFromHalf_20 ⟨Nat.zero_le _, Nat.zero_le _⟩) hA hW [1, 2, 3] [0, 4, 5] [0, 3, 4, 5, 1, 2] rfl rfl (by decide) (by decide) rfl (by decide) (fun H locs hW => ?_)
  refine lv_ldc2 (v := 256) hx hb hown (hg _ wd_3_76) dX9_awayFromHalf_23 ?_
  refine lv_lmul hx hb dX9_awayFromHalf_26 ?_
  refine lv_lsub hx hb dX9_awayFromHalf_27 ?_
  refine va_mabs_long hx hb (hml.trans hl.1.symm) hown (hg _ wd_3_86) (hg _ wd_3_87) (hg _ wd_1_16) (hg _ wd_3_88) (Nat.le_of_ble_eq_true rfl) (Nat.le_of_ble_eq_true rfl) (Nat.zero_le _) (Nat.zero_le _) dX9_awayFromHalf_28 ?_
  obtain rfl := Option.some.inj hF
  exact hret _ _ _ _ hW dX9_awayFromHalf_31
theorem dX9_costOfBoarding_0 : decode cX9_costOfBoarding 0 = .ok (.aload_n 0, 1) := by decide +kernel
theorem dX9_costOfBoarding_1 : decode cX9_costOfBoarding 1 = .ok (.iload_n 1, 1) := by decide +kernel
theorem dX9_costOfBoarding_2 : decode cX9_costOfBoarding 2 = .ok (.iload_n 2, 1) := by decide +kernel
theorem dX9_costOfBoarding_3 : decode cX9_costOfBoarding 3 = .ok (.invokevirtual 166, 3) := by decide +kernel
theorem dX9_costOfBoarding_6 : decode cX9_costOfBoarding 6 = .ok (.aload_n 0, 1) := by decide +kernel
theorem dX9_costOfBoarding_7 : decode cX9_costOfBoarding 7 = .ok (.getfield 26, 3) := by decide +kernel
theorem dX9_costOfBoarding_10 : decode cX9_costOfBoarding 10 = .ok (.getfield 284, 3) := by decide +kernel
theorem dX9_costOfBoarding_13 : decode cX9_costOfBoarding 13 = .ok (.i2l, 1) := by decide +kernel
theorem dX9_costOfBoarding_14 : decode cX9_costOfBoarding 14 = .ok (.aload_n 0, 1) := by decide +kernel
theorem dX9_costOfBoarding_15 : decode cX9_costOfBoarding 15 = .ok (.getfield 57, 3) := by decide +kernel
theorem dX9_costOfBoarding_18 : decode cX9_costOfBoarding 18 = .ok (.getfield 169, 3) := by decide +kernel
theorem dX9_costOfBoarding_21 : decode cX9_costOfBoarding 21 = .ok (.lmul, 1) := by decide +kernel
theorem dX9_costOfBoarding_22 : decode cX9_costOfBoarding 22 = .ok (.lstore_n 3, 1) := by decide +kernel
theorem dX9_costOfBoarding_23 : decode cX9_costOfBoarding 23 = .ok (.aload_n 0, 1) := by decide +kernel
theorem dX9_costOfBoarding_24 : decode cX9_costOfBoarding 24 = .ok (.getfield 26, 3) := by decide +kernel
theorem dX9_costOfBoarding_27 : decode cX9_costOfBoarding 27 = .ok (.getfield 287, 3) := by decide +kernel
theorem dX9_costOfBoarding_30 : decode cX9_costOfBoarding 30 = .ok (.i2l, 1) := by decide +kernel
theorem dX9_costOfBoarding_31 : decode cX9_costOfBoarding 31 = .ok (.iconst 3, 1) := by decide +kernel
theorem dX9_costOfBoarding_32 : decode cX9_costOfBoarding 32 = .ok (.iload_n 1, 1) := by decide +kernel
theorem dX9_costOfBoarding_33 : decode cX9_costOfBoarding 33 = .ok (.isub, 1) := by decide +kernel
theorem dX9_costOfBoarding_34 : decode cX9_costOfBoarding 34 = .ok (.i2l, 1) := by decide +kernel
theorem dX9_costOfBoarding_35 : decode cX9_costOfBoarding 35 = .ok (.lmul, 1) := by decide +kernel
theorem dX9_costOfBoarding_36 : decode cX9_costOfBoarding 36 = .ok (.aload_n 0, 1) := by decide +kernel
theorem dX9_costOfBoarding_37 : decode cX9_costOfBoarding 37 = .ok (.getfield 57, 3) := by decide +kernel
theorem dX9_costOfBoarding_40 : decode cX9_costOfBoarding 40 = .ok (.invokevirtual 173, 3) := by decide +kernel
theorem dX9_costOfBoarding_43 : decode cX9_costOfBoarding 43 = .ok (.lmul, 1) := by decide +kernel
theorem dX9_costOfBoarding_44 : decode cX9_costOfBoarding 44 = .ok (.lstore 5, 2) := by decide +kernel
theorem dX9_costOfBoarding_46 : decode cX9_costOfBoarding 46 = .ok (.lload_n 3, 1) := by decide +kernel
theorem dX9_costOfBoarding_47 : decode cX9_costOfBoarding 47 = .ok (.lload 5, 2) := by decide +kernel
theorem dX9_costOfBoarding_49 : decode cX9_costOfBoarding 49 = .ok (.ladd, 1) := by decide +kernel
theorem dX9_costOfBoarding_50 : decode cX9_costOfBoarding 50 = .ok (.iconst 3, 1) := by decide +kernel
theorem dX9_costOfBoarding_51 : decode cX9_costOfBoarding 51 = .ok (.iload_n 1, 1) := by decide +kernel
theorem dX9_costOfBoarding_52 : decode cX9_costOfBoarding 52 = .ok (.isub, 1) := by decide +kernel
theorem dX9_costOfBoarding_53 : decode cX9_costOfBoarding 53 = .ok (.invokestatic 193, 3) := by decide +kernel
theorem dX9_costOfBoarding_56 : decode cX9_costOfBoarding 56 = .ok (.lmul, 1) := by decide +kernel
theorem dX9_costOfBoarding_57 : decode cX9_costOfBoarding 57 = .ok (.lreturn, 1) := by decide +kernel
def F_X9_costOfBoarding (x1 : Int32) (x2 : Int32) (v_future_turned : Int64) (a_future_came : Nat → Int64) (a_future_stayed : Nat → Int64) (v_now_turned : Int64) (a_now_came : Nat → Int64) (a_now_stayed : Nat → Int64) (v_town_boatDayCost : Int32) (v_town_turnCost : Int32) (v_town_workCount : Int32) (a_town_lighter : Nat → Int32) (a_town_workNoise : Nat → Int32) : Option (Int64 × Int64 × (Nat → Int64) × (Nat → Int64)) := (F_X9_lookAhead x1 x2 v_future_turned a_future_came a_future_stayed v_now_turned a_now_came a_now_stayed v_town_workCount a_town_lighter a_town_workNoise).bind (fun q3 => (F_X5_all q3.1 q3.2.1 q3.2.2).bind (fun q40 => (F_X9_fourTo ((3 - x1))).bind (fun q53 => some (((((Int32.toInt64 v_town_turnCost) * q3.1) + (((Int32.toInt64 v_town_boatDayCost) * (Int32.toInt64 ((3 - x1)))) * q40)) * q53), q3.1, q3.2.1, q3.2.2))))
theorem hdV_X9_costOfBoarding : yX9_costOfBoarding.cls = RX9 ∧ yX9_costOfBoarding.cls ≠ "java/lang/invoke/MethodHandle" ∧ yX9_costOfBoarding.cls ≠ "java/lang/invoke/VarHandle" ∧ (parseMethodDescriptor yX9_costOfBoarding.desc).map (fun d => d.parameters.length) = some 2 := by decide +kernel
set_option maxHeartbeats 4000000 in
set_option maxRecDepth 100000 in
theorem c_X9_costOfBoarding (l : Launch) (G : GG) (x1 : Int32) (x2 : Int32) (h_this : Nat) (ad_this : Nat → Nat) (ad_this_future : Nat → Nat) (ad_this_now : Nat → Nat) (ad_this_town : Nat → Nat) (v_keptCount : Int32) (v_future_turned : Int64) (a_future_came : Nat → Int64) (a_future_stayed : Nat → Int64) (v_now_turned : Int64) (a_now_came : Nat → Int64) (a_now_stayed : Nat → Int64) (v_town_signCount : Int32) (v_town_houseCount : Int32) (v_town_boatCount : Int32) (v_town_workCount : Int32) (v_town_turnCost : Int32) (v_town_boatDayCost : Int32) (a_town_lighter : Nat → Int32) (a_town_workNoise : Nat → Int32) (out : Int64 × Int64 × (Nat → Int64) × (Nat → Int64)) (hF : F_X9_costOfBoarding x1 x2 v_future_turned a_future_came a_future_stayed v_now_turned a_now_came a_now_stayed v_town_boatDayCost v_town_turnCost v_town_workCount a_town_lighter a_town_workNoise = some out) : CtrJ l yX9_costOfBoarding (WS yX9_costOfBoarding cX9_costOfBoarding 7 (some .long)) { frames := 4, cells := 0, slots := 0, locals := 96 } G [.ref h_this, .int x1, .int x2] [(h_this, oX9 ad_this v_keptCount), ((ad_this 9), oX5 ad_this_future v_future_turned), ((ad_this_future 1), cJ G 3 a_future_came), ((ad_this_future 0), cJ G 3 a_future_stayed), ((ad_this 8), oX5 ad_this_now v_now_turned), ((ad_this_now 1), cJ G 3 a_now_came), ((ad_this_now 0), cJ G 3 a_now_stayed), ((ad_this 2), oX8 ad_this_town v_town_signCount v_town_houseCount v_town_boatCount v_town_workCount v_town_turnCost v_town_boatDayCost), ((ad_this_town 0), cI G 3 a_town_lighter), ((ad_this_town 5), cI G 5 a_town_workNoise)] [(h_this, oX9 ad_this v_keptCount), ((ad_this 9), oX5 ad_this_future out.2.1), ((ad_this_future 1), cJ G 3 out.2.2.1), ((ad_this_future 0), cJ G 3 out.2.2.2), ((ad_this 8), oX5 ad_this_now v_now_turned), ((ad_this_now 1), cJ G 3 a_now_came), ((ad_this_now 0), cJ G 3 a_now_stayed), ((ad_this 2), oX8 ad_this_town v_town_signCount v_town_houseCount v_town_boatCount v_town_workCount v_town_turnCost v_town_boatDayCost), ((ad_this_town 0), cI G 3 a_town_lighter), ((ad_this_town 5), cI G 5 a_town_workNoise)] out.1 := by
  refine startJ (cc := cX9_costOfBoarding) (maxL := 7) (by decide) rfl (Nat.le_of_ble_eq_true rfl) ?_
  intro p e s m args below meth c A Q hx hb hml hts hown hc hA hret ls H locs hl hW
  have hown : s.vm.findClass RX9 = some m.cls := hown
  have hg : ∀ w ∈ GOODS, w.before _ s = true := fun w h => hts w (List.mem_cons_of_mem _ h)
  have hl : lv_has ls 7 [(0, .ref h_this), (1, .int x1), (2, .int x2)] := hl
  rw [F_X9_costOfBoarding] at hF
  refine lv_aload_n hx hb dX9_costOfBoarding_0 rfl (lv_at hl 0 rfl) ?_
  refine lv_iload_n hx hb dX9_costOfBoarding_1 rfl (lv_at hl 1 rfl) ?_
  refine lv_iload_n hx hb dX9_costOfBoarding_2 rfl (lv_at hl 2 rfl) ?_
  obtain ⟨q3, c_3, hF⟩ := bd_el hF
  refine wcV (ws' := [(h_this, oX9 ad_this v_keptCount), ((ad_this 9), oX5 ad_this_future q3.1), ((ad_this_future 1), cJ G 3 q3.2.1), ((ad_this_future 0), cJ G 3 q3.2.2), ((ad_this 8), oX5 ad_this_now v_now_turned), ((ad_this_now 1), cJ G 3 a_now_came), ((ad_this_now 0), cJ G 3 a_now_stayed), ((ad_this 2), oX8 ad_this_town v_town_signCount v_town_houseCount v_town_boatCount v_town_workCount v_town_turnCost v_town_boatDayCost), ((ad_this_town 0), cI G 3 a_town_lighter), ((ad_this_town 5), cI G 5 a_town_workNoise)]) (wc := [(h_this, oX9 ad_this v_keptCount), ((ad_this 9), oX5 ad_this_future v_future_turned), ((ad_this_future 1), cJ G 3 a_future_came), ((ad_this_future 0), cJ G 3 a_future_stayed), ((ad_this 8), oX5 ad_this_now v_now_turned), ((ad_this_now 1), cJ G 3 a_now_came), ((ad_this_now 0), cJ G 3 a_now_stayed), ((ad_this 2), oX8 ad_this_town v_town_signCount v_town_houseCount v_town_boatCount v_town_workCount v_town_turnCost v_town_boatDayCost), ((ad_this_town 0), cI G 3 a_town_lighter), ((ad_this_town 5), cI G 5 a_town_workNoise)]) (wr := []) (w1 := [(h_this, oX9 ad_this v_keptCount), ((ad_this 9), oX5 ad_this_future q3.1), ((ad_this_future 1), cJ G 3 q3.2.1), ((ad_this_future 0), cJ G 3 q3.2.2), ((ad_this 8), oX5 ad_this_now v_now_turned), ((ad_this_now 1), cJ G 3 a_now_came), ((ad_this_now 0), cJ G 3 a_now_stayed), ((ad_this 2), oX8 ad_this_town v_town_signCount v_town_houseCount v_town_boatCount v_town_workCount v_town_turnCost v_town_boatDayCost), ((ad_this_town 0), cI G 3 a_town_lighter), ((ad_this_town 5), cI G 5 a_town_workNoise)]) (va_runV (As := [.int x1, .int x2]) (rest := []) ⟨hx, hb, hml, hown, hg⟩ (c_X9_lookAhead l G x1 x2 h_this ad_this ad_this_future ad_this_now ad_this_town v_keptCount v_future_turned a_future_came a_future_stayed v_now_turned a_now_came a_now_stayed v_town_signCount v_town_houseCount v_town_boatCount v_town_workCount v_town_turnCost v_town_boatDayCost a_town_lighter a_town_workNoise q3 c_3 H.size) (cwV 2 hg (gV wd_3_46 wd_3_48 wd_0_15 wd_1_1 wd_3_49) rfl rfl rfl hdV_X9_lookAhead ⟨(Nat.le_of_ble_eq_true rfl), (Nat.le_of_ble_eq_true rfl)⟩) (preV hc hW [0, 1, 2, 3, 4, 5, 6, 7, 8, 9] rfl (by decide) rfl rfl) rfl rfl hl.1 rfl (lv_room (Nat.le_of_ble_eq_true rfl)) dX9_costOfBoarding_3 ⟨Nat.zero_le _, Nat.zero_le _⟩) hA hW [0, 1, 2, 3, 4, 5, 6, 7, 8, 9] [] [0, 1, 2, 3, 4, 5, 6, 7, 8, 9] rfl rfl (by decide) (by decide) rfl (by decide) (fun H locs hW => ?_)
  refine lv_aload_n hx hb dX9_costOfBoarding_6 rfl (lv_at hl 0 rfl) ?_
  refine va_get (D := G.1) (ci := 8) (v := .ref ((ad_this 2))) (C := RX9) (T := TX9) (N := 13) hx hb hg hu_X9 hown hc.1 hW.1 0 rfl rfl 2 (by decide) (hg _ wd_2_97) (fun _ h9 => h9) rfl dX9_costOfBoarding_7 ?_
  refine va_get (D := G.1) (ci := 7) (v := .int v_town_turnCost) (C := RX8) (T := TX8) (N := 13) hx hb hg hu_X8 hown hc.1 hW.1 7 rfl rfl 11 (by decide) (hg _ wd_1_87) (fun _ h9 => h9) rfl dX9_costOfBoarding_10 ?_
  refine lv_i2l (v := (Int32.toInt64 v_town_turnCost)) hx hb dX9_costOfBoarding_13 rfl ?_
  refine lv_aload_n hx hb dX9_costOfBoarding_14 rfl (lv_at hl 0 rfl) ?_
  refine va_get (D := G.1) (ci := 8) (v := .ref ((ad_this 9))) (C := RX9) (T := TX9) (N := 13) hx hb hg hu_X9 hown hc.1 hW.1 0 rfl rfl 9 (by decide) (hg _ wd_2_104) (fun _ h9 => h9) rfl dX9_costOfBoarding_15 ?_
  refine va_get (D := G.1) (ci := 4) (v := .long q3.1) (C := RX5) (T := TX5) (N := 3) hx hb hg hu_X5 hown hc.1 hW.1 1 rfl rfl 2 (by decide) (hg _ wd_1_144) (fun _ h9 => h9) rfl dX9_costOfBoarding_18 ?_
  refine lv_lmul hx hb dX9_costOfBoarding_21 ?_
  refine lv_lstore_n (lv' := [(3, .long (((Int32.toInt64 v_town_turnCost) * q3.1))), (0, .ref h_this), (1, .int x1), (2, .int x2)]) hx hb dX9_costOfBoarding_22 rfl hl (by decide) rfl (fun ls hl => ?_)
  refine lv_aload_n hx hb dX9_costOfBoarding_23 rfl (lv_at hl 1 rfl) ?_
  refine va_get (D := G.1) (ci := 8) (v := .ref ((ad_this 2))) (C := RX9) (T := TX9) (N := 13) hx hb hg hu_X9 hown hc.1 hW.1 0 rfl rfl 2 (by decide) (hg _ wd_2_97) (fun _ h9 => h9) rfl dX9_costOfBoarding_24 ?_
  refine va_get (D := G.1) (ci := 7) (v := .int v_town_boatDayCost) (C := RX8) (T := TX8) (N := 13) hx hb hg hu_X8 hown hc.1 hW.1 7 rfl rfl 12 (by decide) (hg _ wd_1_89) (fun _ h9 => h9) rfl dX9_costOfBoarding_27 ?_
  refine lv_i2l (v := (Int32.toInt64 v_town_boatDayCost)) hx hb dX9_costOfBoarding_30 rfl ?_
  refine lv_iconst (v := 3) hx hb dX9_costOfBoarding_31 (by decide) ?_
  refine lv_iload_n hx hb dX9_costOfBoarding_32 rfl (lv_at hl 2 rfl) ?_
  refine lv_isub hx hb dX9_costOfBoarding_33 ?_
  refine lv_i2l (v := (Int32.toInt64 ((3 - x1)))) hx hb dX9_costOfBoarding_34 rfl ?_
  refine lv_lmul hx hb dX9_costOfBoarding_35 ?_
  refine lv_aload_n hx hb dX9_costOfBoarding_36 rfl (lv_at hl 1 rfl) ?_
  refine va_get (D := G.1) (ci := 8) (v := .ref ((ad_this 9))) (C := RX9) (T := TX9) (N := 13) hx hb hg hu_X9 hown hc.1 hW.1 0 rfl rfl 9 (by decide) (hg _ wd_2_104) (fun _ h9 => h9) rfl dX9_costOfBoarding_37 ?_
  obtain ⟨q40, c_40, hF⟩ := bd_el hF
  refine wcJ (ws' := [(h_this, oX9 ad_this v_keptCount), ((ad_this 9), oX5 ad_this_future q3.1), ((ad_this_future 1), cJ G 3 q3.2.1), ((ad_this_future 0), cJ G 3 q3.2.2), ((ad_this 8), oX5 ad_this_now v_now_turned), ((ad_this_now 1), cJ G 3 a_now_came), ((ad_this_now 0), cJ G 3 a_now_stayed), ((ad_this 2), oX8 ad_this_town v_town_signCount v_town_houseCount v_town_boatCount v_town_workCount v_town_turnCost v_town_boatDayCost), ((ad_this_town 0), cI G 3 a_town_lighter), ((ad_this_town 5), cI G 5 a_town_workNoise)]) (wc := [((ad_this 9), oX5 ad_this_future q3.1), ((ad_this_future 1), cJ G 3 q3.2.1), ((ad_this_future 0), cJ G 3 q3.2.2)]) (wr := [(h_this, oX9 ad_this v_keptCount), ((ad_this 8), oX5 ad_this_now v_now_turned), ((ad_this_now 1), cJ G 3 a_now_came), ((ad_this_now 0), cJ G 3 a_now_stayed), ((ad_this 2), oX8 ad_this_town v_town_signCount v_town_houseCount v_town_boatCount v_town_workCount v_town_turnCost v_town_boatDayCost), ((ad_this_town 0), cI G 3 a_town_lighter), ((ad_this_town 5), cI G 5 a_town_workNoise)]) (w1 := [((ad_this 9), oX5 ad_this_future q3.1), ((ad_this_future 1), cJ G 3 q3.2.1), ((ad_this_future 0), cJ G 3 q3.2.2)]) (va_runV (As := []) (rest := [.long (((Int32.toInt64 v_town_boatDayCost) * (Int32.toInt64 ((3 - x1)))))]) ⟨hx, hb, hml, hown, hg⟩ (c_X5_all l G ((ad_this 9)) ad_this_future q3.1 q3.2.1 q3.2.2 q40 c_40 H.size) (cwV 0 hg (gV wd_3_55 wd_3_56 wd_3_57 wd_1_6 wd_3_58) rfl rfl rfl hdV_X5_all ⟨(Nat.le_of_ble_eq_true rfl), (Nat.le_of_ble_eq_true rfl)⟩) (preV hc hW [1, 2, 3] rfl (by decide) rfl rfl) rfl rfl hl.1 rfl (lv_room (Nat.le_of_ble_eq_true rfl)) dX9_costOfBoarding_40 ⟨Nat.zero_le _, Nat.zero_le _⟩) hA hW [1, 2, 3] [0, 4, 5, 6, 7, 8, 9] [0, 7, 8, 9, 1, 2, 3, 4, 5, 6] rfl rfl (by decide) (by decide) rfl (by decide) (fun H locs hW => ?_)
  refine lv_lmul hx hb dX9_costOfBoarding_43 ?_
  refine lv_lstore (lv' := [(5, .long ((((Int32.toInt64 v_town_boatDayCost) * (Int32.toInt64 ((3 - x1)))) * q40))), (3, .long (((Int32.toInt64 v_town_turnCost) * q3.1))), (0, .ref h_this), (1, .int x1), (2, .int x2)]) hx hb dX9_costOfBoarding_44 hl (by decide) rfl (fun ls hl => ?_)
  refine lv_lload_n hx hb dX9_costOfBoarding_46 rfl (lv_at hl 1 rfl) ?_
  refine lv_lload hx hb dX9_costOfBoarding_47 (lv_at hl 0 rfl) ?_
  refine lv_ladd hx hb dX9_costOfBoarding_49 ?_
  refine lv_iconst (v := 3) hx hb dX9_costOfBoarding_50 (by decide) ?_
  refine lv_iload_n hx hb dX9_costOfBoarding_51 rfl (lv_at hl 3 rfl) ?_
  refine lv_isub hx hb dX9_costOfBoarding_52 ?_
  obtain ⟨q53, c_53, hF⟩ := bd_el hF
  refine wcJ (ws' := [(h_this, oX9 ad_this v_keptCount), ((ad_this 9), oX5 ad_this_future q3.1), ((ad_this_future 1), cJ G 3 q3.2.1), ((ad_this_future 0), cJ G 3 q3.2.2), ((ad_this 8), oX5 ad_this_now v_now_turned), ((ad_this_now 1), cJ G 3 a_now_came), ((ad_this_now 0), cJ G 3 a_now_stayed), ((ad_this 2), oX8 ad_this_town v_town_signCount v_town_houseCount v_town_boatCount v_town_workCount v_town_turnCost v_town_boatDayCost), ((ad_this_town 0), cI G 3 a_town_lighter), ((ad_this_town 5), cI G 5 a_town_workNoise)]) (wc := []) (wr := [(h_this, oX9 ad_this v_keptCount), ((ad_this 9), oX5 ad_this_future q3.1), ((ad_this_future 1), cJ G 3 q3.2.1), ((ad_this_future 0), cJ G 3 q3.2.2), ((ad_this 8), oX5 ad_this_now v_now_turned), ((ad_this_now 1), cJ G 3 a_now_came), ((ad_this_now 0), cJ G 3 a_now_stayed), ((ad_this 2), oX8 ad_this_town v_town_signCount v_town_houseCount v_town_boatCount v_town_workCount v_town_turnCost v_town_boatDayCost), ((ad_this_town 0), cI G 3 a_town_lighter), ((ad_this_town 5), cI G 5 a_town_workNoise)]) (w1 := []) (va_runS (As := [.int ((3 - x1))]) (rest := [.long ((((Int32.toInt64 v_town_turnCost) * q3.1) + (((Int32.toInt64 v_town_boatDayCost) * (Int32.toInt64 ((3 - x1)))) * q40)))]) ⟨hx, hb, hml, hown, hg⟩ (c_X9_fourTo l G ((3 - x1)) q53 c_53 H.size) (va_cwS 1 hg (gS wd_3_97 wd_3_98 wd_1_1 wd_3_99) rfl rfl rfl hdS_X9_fourTo ⟨(Nat.le_of_ble_eq_true rfl), (Nat.le_of_ble_eq_true rfl)⟩) (preS hc hW [] rfl (by decide)) rfl rfl hl.1 rfl (lv_room (Nat.le_of_ble_eq_true rfl)) dX9_costOfBoarding_53 ⟨Nat.zero_le _, Nat.zero_le _⟩) hA hW [] [0, 1, 2, 3, 4, 5, 6, 7, 8, 9] [0, 1, 2, 3, 4, 5, 6, 7, 8, 9] rfl rfl (by decide) (by decide) rfl (by decide) (fun H locs hW => ?_)
  refine lv_lmul hx hb dX9_costOfBoarding_56 ?_
  obtain rfl := Option.some.inj hF
  exact hret _ _ _ _ hW dX9_costOfBoarding_57
theorem dX9_isQuiet_0 : decode cX9_isQuiet 0 = .ok (.aload_n 0, 1) := by decide +kernel
theorem dX9_isQuiet_1 : decode cX9_isQuiet 1 = .ok (.iconst 3, 1) := by decide +kernel
theorem dX9_isQuiet_2 : decode cX9_isQuiet 2 = .ok (.iload_n 1, 1) := by decide +kernel
theorem dX9_isQuiet_3 : decode cX9_isQuiet 3 = .ok (.invokevirtual 166, 3) := by decide +kernel
theorem dX9_isQuiet_6 : decode cX9_isQuiet 6 = .ok (.aload_n 0, 1) := by decide +kernel
theorem dX9_isQuiet_7 : decode cX9_isQuiet 7 = .ok (.getfield 57, 3) := by decide +kernel
theorem dX9_isQuiet_10 : decode cX9_isQuiet 10 = .ok (.getfield 169, 3) := by decide +kernel
theorem dX9_isQuiet_13 : decode cX9_isQuiet 13 = .ok (.ldc2_w 290, 3) := by decide +kernel
theorem dX9_isQuiet_16 : decode cX9_isQuiet 16 = .ok (.lmul, 1) := by decide +kernel
theorem dX9_isQuiet_17 : decode cX9_isQuiet 17 = .ok (.aload_n 0, 1) := by decide +kernel
theorem dX9_isQuiet_18 : decode cX9_isQuiet 18 = .ok (.getfield 57, 3) := by decide +kernel
theorem dX9_isQuiet_21 : decode cX9_isQuiet 21 = .ok (.invokevirtual 173, 3) := by decide +kernel
theorem dX9_isQuiet_24 : decode cX9_isQuiet 24 = .ok (.iload_n 2, 1) := by decide +kernel
theorem dX9_isQuiet_25 : decode cX9_isQuiet 25 = .ok (.i2l, 1) := by decide +kernel
theorem dX9_isQuiet_26 : decode cX9_isQuiet 26 = .ok (.lmul, 1) := by decide +kernel
theorem dX9_isQuiet_27 : decode cX9_isQuiet 27 = .ok (.lcmp, 1) := by decide +kernel
theorem dX9_isQuiet_28 : decode cX9_isQuiet 28 = .ok (.ifCond .gt 7, 3) := by decide +kernel
theorem dX9_isQuiet_31 : decode cX9_isQuiet 31 = .ok (.iconst 1, 1) := by decide +kernel
theorem dX9_isQuiet_32 : decode cX9_isQuiet 32 = .ok (.goto 4, 3) := by decide +kernel
theorem dX9_isQuiet_35 : decode cX9_isQuiet 35 = .ok (.iconst 0, 1) := by decide +kernel
theorem dX9_isQuiet_36 : decode cX9_isQuiet 36 = .ok (.ireturn, 1) := by decide +kernel
def F_X9_isQuiet (x1 : Int32) (x2 : Int32) (v_future_turned : Int64) (a_future_came : Nat → Int64) (a_future_stayed : Nat → Int64) (v_now_turned : Int64) (a_now_came : Nat → Int64) (a_now_stayed : Nat → Int64) (v_town_workCount : Int32) (a_town_lighter : Nat → Int32) (a_town_workNoise : Nat → Int32) : Option (Int32 × Int64 × (Nat → Int64) × (Nat → Int64)) := (F_X9_lookAhead 3 x1 v_future_turned a_future_came a_future_stayed v_now_turned a_now_came a_now_stayed v_town_workCount a_town_lighter a_town_workNoise).bind (fun q3 => (F_X5_all q3.1 q3.2.1 q3.2.2).bind (fun q21 => (if 0 < (lg_cmp ((q3.1 * 100)) ((q21 * (Int32.toInt64 x2)))) then some (0, q3.1, q3.2.1, q3.2.2) else some (1, q3.1, q3.2.1, q3.2.2))))
theorem hdV_X9_isQuiet : yX9_isQuiet.cls = RX9 ∧ yX9_isQuiet.cls ≠ "java/lang/invoke/MethodHandle" ∧ yX9_isQuiet.cls ≠ "java/lang/invoke/VarHandle" ∧ (parseMethodDescriptor yX9_isQuiet.desc).map (fun d => d.parameters.length) = some 2 := by decide +kernel
set_option maxHeartbeats 4000000 in
set_option maxRecDepth 100000 in
theorem c_X9_isQuiet (l : Launch) (G : GG) (x1 : Int32) (x2 : Int32) (h_this : Nat) (ad_this : Nat → Nat) (ad_this_future : Nat → Nat) (ad_this_now : Nat → Nat) (ad_this_town : Nat → Nat) (v_keptCount : Int32) (v_future_turned : Int64) (a_future_came : Nat → Int64) (a_future_stayed : Nat → Int64) (v_now_turned : Int64) (a_now_came : Nat → Int64) (a_now_stayed : Nat → Int64) (v_town_signCount : Int32) (v_town_houseCount : Int32) (v_town_boatCount : Int32) (v_town_workCount : Int32) (v_town_turnCost : Int32) (v_town_boatDayCost : Int32) (a_town_lighter : Nat → Int32) (a_town_workNoise : Nat → Int32) (out : Int32 × Int64 × (Nat → Int64) × (Nat → Int64)) (hF : F_X9_isQuiet x1 x2 v_future_turned a_future_came a_future_stayed v_now_turned a_now_came a_now_stayed v_town_workCount a_town_lighter a_town_workNoise = some out) : CtrZ l yX9_isQuiet (WS yX9_isQuiet cX9_isQuiet 3 (some .boolean)) { frames := 4, cells := 0, slots := 0, locals := 96 } G [.ref h_this, .int x1, .int x2] [(h_this, oX9 ad_this v_keptCount), ((ad_this 9), oX5 ad_this_future v_future_turned), ((ad_this_future 1), cJ G 3 a_future_came), ((ad_this_future 0), cJ G 3 a_future_stayed), ((ad_this 8), oX5 ad_this_now v_now_turned), ((ad_this_now 1), cJ G 3 a_now_came), ((ad_this_now 0), cJ G 3 a_now_stayed), ((ad_this 2), oX8 ad_this_town v_town_signCount v_town_houseCount v_town_boatCount v_town_workCount v_town_turnCost v_town_boatDayCost), ((ad_this_town 0), cI G 3 a_town_lighter), ((ad_this_town 5), cI G 5 a_town_workNoise)] [(h_this, oX9 ad_this v_keptCount), ((ad_this 9), oX5 ad_this_future out.2.1), ((ad_this_future 1), cJ G 3 out.2.2.1), ((ad_this_future 0), cJ G 3 out.2.2.2), ((ad_this 8), oX5 ad_this_now v_now_turned), ((ad_this_now 1), cJ G 3 a_now_came), ((ad_this_now 0), cJ G 3 a_now_stayed), ((ad_this 2), oX8 ad_this_town v_town_signCount v_town_houseCount v_town_boatCount v_town_workCount v_town_turnCost v_town_boatDayCost), ((ad_this_town 0), cI G 3 a_town_lighter), ((ad_this_town 5), cI G 5 a_town_workNoise)] out.1 := by
  refine startZ (cc := cX9_isQuiet) (maxL := 3) (by decide) rfl (Nat.le_of_ble_eq_true rfl) ?_
  intro p e s m args below meth c A Q hx hb hml hts hown hc hA hret ls H locs hl hW
  have hown : s.vm.findClass RX9 = some m.cls := hown
  have hg : ∀ w ∈ GOODS, w.before _ s = true := fun w h => hts w (List.mem_cons_of_mem _ h)
  have hl : lv_has ls 3 [(0, .ref h_this), (1, .int x1), (2, .int x2)] := hl
  rw [F_X9_isQuiet] at hF
  refine lv_aload_n hx hb dX9_isQuiet_0 rfl (lv_at hl 0 rfl) ?_
  refine lv_iconst (v := 3) hx hb dX9_isQuiet_1 (by decide) ?_
  refine lv_iload_n hx hb dX9_isQuiet_2 rfl (lv_at hl 1 rfl) ?_
  obtain ⟨q3, c_3, hF⟩ := bd_el hF
  refine wcV (ws' := [(h_this, oX9 ad_this v_keptCount), ((ad_this 9), oX5 ad_this_future q3.1), ((ad_this_future 1), cJ G 3 q3.2.1), ((ad_this_future 0), cJ G 3 q3.2.2), ((ad_this 8), oX5 ad_this_now v_now_turned), ((ad_this_now 1), cJ G 3 a_now_came), ((ad_this_now 0), cJ G 3 a_now_stayed), ((ad_this 2), oX8 ad_this_town v_town_signCount v_town_houseCount v_town_boatCount v_town_workCount v_town_turnCost v_town_boatDayCost), ((ad_this_town 0), cI G 3 a_town_lighter), ((ad_this_town 5), cI G 5 a_town_workNoise)]) (wc := [(h_this, oX9 ad_this v_keptCount), ((ad_this 9), oX5 ad_this_future v_future_turned), ((ad_this_future 1), cJ G 3 a_future_came), ((ad_this_future 0), cJ G 3 a_future_stayed), ((ad_this 8), oX5 ad_this_now v_now_turned), ((ad_this_now 1), cJ G 3 a_now_came), ((ad_this_now 0), cJ G 3 a_now_stayed), ((ad_this 2), oX8 ad_this_town v_town_signCount v_town_houseCount v_town_boatCount v_town_workCount v_town_turnCost v_town_boatDayCost), ((ad_this_town 0), cI G 3 a_town_lighter), ((ad_this_town 5), cI G 5 a_town_workNoise)]) (wr := []) (w1 := [(h_this, oX9 ad_this v_keptCount), ((ad_this 9), oX5 ad_this_future q3.1), ((ad_this_future 1), cJ G 3 q3.2.1), ((ad_this_future 0), cJ G 3 q3.2.2), ((ad_this 8), oX5 ad_this_now v_now_turned), ((ad_this_now 1), cJ G 3 a_now_came), ((ad_this_now 0), cJ G 3 a_now_stayed), ((ad_this 2), oX8 ad_this_town v_town_signCount v_town_houseCount v_town_boatCount v_town_workCount v_town_turnCost v_town_boatDayCost), ((ad_this_town 0), cI G 3 a_town_lighter), ((ad_this_town 5), cI G 5 a_town_workNoise)]) (va_runV (As := [.int 3, .int x1]) (rest := []) ⟨hx, hb, hml, hown, hg⟩ (c_X9_lookAhead l G 3 x1 h_this ad_this ad_this_future ad_this_now ad_this_town v_keptCount v_future_turned a_future_came a_future_stayed v_now_turned a_now_came a_now_stayed v_town_signCount v_town_houseCount v_town_boatCount v_town_workCount v_town_turnCost v_town_boatDayCost a_town_lighter a_town_workNoise q3 c_3 H.size) (cwV 2 hg (gV wd_3_46 wd_3_48 wd_0_15 wd_1_1 wd_3_49) rfl rfl rfl hdV_X9_lookAhead ⟨(Nat.le_of_ble_eq_true rfl), (Nat.le_of_ble_eq_true rfl)⟩) (preV hc hW [0, 1, 2, 3, 4, 5, 6, 7, 8, 9] rfl (by decide) rfl rfl) rfl rfl hl.1 rfl (lv_room (Nat.le_of_ble_eq_true rfl)) dX9_isQuiet_3 ⟨Nat.zero_le _, Nat.zero_le _⟩) hA hW [0, 1, 2, 3, 4, 5, 6, 7, 8, 9] [] [0, 1, 2, 3, 4, 5, 6, 7, 8, 9] rfl rfl (by decide) (by decide) rfl (by decide) (fun H locs hW => ?_)
  refine lv_aload_n hx hb dX9_isQuiet_6 rfl (lv_at hl 0 rfl) ?_
  refine va_get (D := G.1) (ci := 8) (v := .ref ((ad_this 9))) (C := RX9) (T := TX9) (N := 13) hx hb hg hu_X9 hown hc.1 hW.1 0 rfl rfl 9 (by decide) (hg _ wd_2_104) (fun _ h9 => h9) rfl dX9_isQuiet_7 ?_
  refine va_get (D := G.1) (ci := 4) (v := .long q3.1) (C := RX5) (T := TX5) (N := 3) hx hb hg hu_X5 hown hc.1 hW.1 1 rfl rfl 2 (by decide) (hg _ wd_1_144) (fun _ h9 => h9) rfl dX9_isQuiet_10 ?_
  refine lv_ldc2 (v := 100) hx hb hown (hg _ wd_3_108) dX9_isQuiet_13 ?_
  refine lv_lmul hx hb dX9_isQuiet_16 ?_
  refine lv_aload_n hx hb dX9_isQuiet_17 rfl (lv_at hl 0 rfl) ?_
  refine va_get (D := G.1) (ci := 8) (v := .ref ((ad_this 9))) (C := RX9) (T := TX9) (N := 13) hx hb hg hu_X9 hown hc.1 hW.1 0 rfl rfl 9 (by decide) (hg _ wd_2_104) (fun _ h9 => h9) rfl dX9_isQuiet_18 ?_
  obtain ⟨q21, c_21, hF⟩ := bd_el hF
  refine wcJ (ws' := [(h_this, oX9 ad_this v_keptCount), ((ad_this 9), oX5 ad_this_future q3.1), ((ad_this_future 1), cJ G 3 q3.2.1), ((ad_this_future 0), cJ G 3 q3.2.2), ((ad_this 8), oX5 ad_this_now v_now_turned), ((ad_this_now 1), cJ G 3 a_now_came), ((ad_this_now 0), cJ G 3 a_now_stayed), ((ad_this 2), oX8 ad_this_town v_town_signCount v_town_houseCount v_town_boatCount v_town_workCount v_town_turnCost v_town_boatDayCost), ((ad_this_town 0), cI G 3 a_town_lighter), ((ad_this_town 5), cI G 5 a_town_workNoise)]) (wc := [((ad_this 9), oX5 ad_this_future q3.1), ((ad_this_future 1), cJ G 3 q3.2.1), ((ad_this_future 0), cJ G 3 q3.2.2)]) (wr := [(h_this, oX9 ad_this v_keptCount), ((ad_this 8), oX5 ad_this_now v_now_turned), ((ad_this_now 1), cJ G 3 a_now_came), ((ad_this_now 0), cJ G 3 a_now_stayed), ((ad_this 2), oX8 ad_this_town v_town_signCount v_town_houseCount v_town_boatCount v_town_workCount v_town_turnCost v_town_boatDayCost), ((ad_this_town 0), cI G 3 a_town_lighter), ((ad_this_town 5), cI G 5 a_town_workNoise)]) (w1 := [((ad_this 9), oX5 ad_this_future q3.1), ((ad_this_future 1), cJ G 3 q3.2.1), ((ad_this_future 0), cJ G 3 q3.2.2)]) (va_runV (As := []) (rest := [.long ((q3.1 * 100))]) ⟨hx, hb, hml, hown, hg⟩ (c_X5_all l G ((ad_this 9)) ad_this_future q3.1 q3.2.1 q3.2.2 q21 c_21 H.size) (cwV 0 hg (gV wd_3_55 wd_3_56 wd_3_57 wd_1_6 wd_3_58) rfl rfl rfl hdV_X5_all ⟨(Nat.le_of_ble_eq_true rfl), (Nat.le_of_ble_eq_true rfl)⟩) (preV hc hW [1, 2, 3] rfl (by decide) rfl rfl) rfl rfl hl.1 rfl (lv_room (Nat.le_of_ble_eq_true rfl)) dX9_isQuiet_21 ⟨Nat.zero_le _, Nat.zero_le _⟩) hA hW [1, 2, 3] [0, 4, 5, 6, 7, 8, 9] [0, 7, 8, 9, 1, 2, 3, 4, 5, 6] rfl rfl (by decide) (by decide) rfl (by decide) (fun H locs hW => ?_)
  refine lv_iload_n hx hb dX9_isQuiet_24 rfl (lv_at hl 2 rfl) ?_
  refine lv_i2l (v := (Int32.toInt64 x2)) hx hb dX9_isQuiet_25 rfl ?_
  refine lv_lmul hx hb dX9_isQuiet_26 ?_
  refine W.lcmp hx hb dX9_isQuiet_27 ?_
  refine lv_if_gt (tgt := 35) hx hb dX9_isQuiet_28 (by decide) (fun c_28 => ?_) (fun c_28 => ?_)
  · have hF := ite_t hF c_28
    refine lv_iconst (v := 0) hx hb dX9_isQuiet_35 (by decide) ?_
    obtain rfl := Option.some.inj hF
    exact hret _ _ _ _ hW (Or.inl rfl) dX9_isQuiet_36
  · have hF := ite_f hF c_28
    refine lv_iconst (v := 1) hx hb dX9_isQuiet_31 (by decide) ?_
    refine lv_goto (tgt := 36) hx hb dX9_isQuiet_32 (by decide) ?_
    obtain rfl := Option.some.inj hF
    exact hret _ _ _ _ hW (Or.inr rfl) dX9_isQuiet_36
theorem dX9_belief_0 : decode cX9_belief 0 = .ok (.iload_n 1, 1) := by decide +kernel
theorem dX9_belief_1 : decode cX9_belief 1 = .ok (.iconst 0, 1) := by decide +kernel
theorem dX9_belief_2 : decode cX9_belief 2 = .ok (.iconst 2, 1) := by decide +kernel
theorem dX9_belief_3 : decode cX9_belief 3 = .ok (.invokestatic 104, 3) := by decide +kernel
theorem dX9_belief_6 : decode cX9_belief 6 = .ok (.ifCond .eq 12, 3) := by decide +kernel
theorem dX9_belief_9 : decode cX9_belief 9 = .ok (.iload_n 2, 1) := by decide +kernel
theorem dX9_belief_10 : decode cX9_belief 10 = .ok (.iconst 0, 1) := by decide +kernel
theorem dX9_belief_11 : decode cX9_belief 11 = .ok (.iconst 1, 1) := by decide +kernel
theorem dX9_belief_12 : decode cX9_belief 12 = .ok (.invokestatic 104, 3) := by decide +kernel
theorem dX9_belief_15 : decode cX9_belief 15 = .ok (.ifCond .ne 7, 3) := by decide +kernel
theorem dX9_belief_18 : decode cX9_belief 18 = .ok (.ldc2_w 146, 3) := by decide +kernel
theorem dX9_belief_21 : decode cX9_belief 21 = .ok (.lreturn, 1) := by decide +kernel
theorem dX9_belief_22 : decode cX9_belief 22 = .ok (.aload_n 0, 1) := by decide +kernel
theorem dX9_belief_23 : decode cX9_belief 23 = .ok (.invokevirtual 148, 3) := by decide +kernel
theorem dX9_belief_26 : decode cX9_belief 26 = .ok (.ifCond .ne 7, 3) := by decide +kernel
theorem dX9_belief_29 : decode cX9_belief 29 = .ok (.ldc2_w 152, 3) := by decide +kernel
theorem dX9_belief_32 : decode cX9_belief 32 = .ok (.lreturn, 1) := by decide +kernel
theorem dX9_belief_33 : decode cX9_belief 33 = .ok (.aload_n 0, 1) := by decide +kernel
theorem dX9_belief_34 : decode cX9_belief 34 = .ok (.getfield 53, 3) := by decide +kernel
theorem dX9_belief_37 : decode cX9_belief 37 = .ok (.iload_n 1, 1) := by decide +kernel
theorem dX9_belief_38 : decode cX9_belief 38 = .ok (.invokevirtual 154, 3) := by decide +kernel
theorem dX9_belief_41 : decode cX9_belief 41 = .ok (.aload_n 0, 1) := by decide +kernel
theorem dX9_belief_42 : decode cX9_belief 42 = .ok (.getfield 53, 3) := by decide +kernel
theorem dX9_belief_45 : decode cX9_belief 45 = .ok (.invokevirtual 158, 3) := by decide +kernel
theorem dX9_belief_48 : decode cX9_belief 48 = .ok (.iload_n 2, 1) := by decide +kernel
theorem dX9_belief_49 : decode cX9_belief 49 = .ok (.invokestatic 162, 3) := by decide +kernel
theorem dX9_belief_52 : decode cX9_belief 52 = .ok (.lreturn, 1) := by decide +kernel
def F_X9_belief (x1 : Int32) (x2 : Int32) (v_book_days : Int32) (a_book_signs : Nat → Int32) (a_book_works : Nat → Int32) (v_now_turned : Int64) (a_now_came : Nat → Int64) (a_now_stayed : Nat → Int64) (v_town_signCount : Int32) (v_town_workCount : Int32) (a_town_lighter : Nat → Int32) (a_town_signNumbers : Nat → Int32) (a_town_workNoise : Nat → Int32) : Option (Int64 × Int64 × (Nat → Int64) × (Nat → Int64)) := (F_X9_isWithin x1 0 2).bind (fun q3 => (if q3 = 0 then some ((-1), v_now_turned, a_now_came, a_now_stayed) else (F_X9_isWithin x2 0 1).bind (fun q12 => (if q12 = 0 then some ((-1), v_now_turned, a_now_came, a_now_stayed) else (F_X9_diaryCanBe v_book_days a_book_signs a_book_works v_now_turned a_now_came a_now_stayed v_town_signCount v_town_workCount a_town_lighter a_town_signNumbers a_town_workNoise).bind (fun q23 => (if q23.1 = 0 then some ((-4), q23.2.1, q23.2.2.1, q23.2.2.2) else (F_X5_waysTo x1 q23.2.2.1 q23.2.2.2).bind (fun q38 => (F_X5_total q23.2.2.1 q23.2.2.2).bind (fun q45 => (F_X9_inLowestTerms q38 q45 x2).bind (fun q49 => some (q49, q23.2.1, q23.2.2.1, q23.2.2.2))))))))))
theorem hdV_X9_belief : yX9_belief.cls = RX9 ∧ yX9_belief.cls ≠ "java/lang/invoke/MethodHandle" ∧ yX9_belief.cls ≠ "java/lang/invoke/VarHandle" ∧ (parseMethodDescriptor yX9_belief.desc).map (fun d => d.parameters.length) = some 2 := by decide +kernel
set_option maxHeartbeats 4000000 in
set_option maxRecDepth 100000 in
theorem c_X9_belief (l : Launch) (G : GG) (x1 : Int32) (x2 : Int32) (h_this : Nat) (ad_this : Nat → Nat) (ad_this_book : Nat → Nat) (ad_this_now : Nat → Nat) (ad_this_town : Nat → Nat) (v_keptCount : Int32) (v_book_days : Int32) (a_book_signs : Nat → Int32) (a_book_works : Nat → Int32) (v_now_turned : Int64) (a_now_came : Nat → Int64) (a_now_stayed : Nat → Int64) (v_town_signCount : Int32) (v_town_houseCount : Int32) (v_town_boatCount : Int32) (v_town_workCount : Int32) (v_town_turnCost : Int32) (v_town_boatDayCost : Int32) (a_town_lighter : Nat → Int32) (a_town_signNumbers : Nat → Int32) (a_town_workNoise : Nat → Int32) (out : Int64 × Int64 × (Nat → Int64) × (Nat → Int64)) (hF : F_X9_belief x1 x2 v_book_days a_book_signs a_book_works v_now_turned a_now_came a_now_stayed v_town_signCount v_town_workCount a_town_lighter a_town_signNumbers a_town_workNoise = some out) : CtrJ l yX9_belief (WS yX9_belief cX9_belief 3 (some .long)) { frames := 7, cells := 0, slots := 0, locals := 160 } G [.ref h_this, .int x1, .int x2] [(h_this, oX9 ad_this v_keptCount), ((ad_this 4), oX1 ad_this_book v_book_days), ((ad_this_book 0), cI G 5 a_book_signs), ((ad_this_book 1), cI G 5 a_book_works), ((ad_this 8), oX5 ad_this_now v_now_turned), ((ad_this_now 1), cJ G 3 a_now_came), ((ad_this_now 0), cJ G 3 a_now_stayed), ((ad_this 2), oX8 ad_this_town v_town_signCount v_town_houseCount v_town_boatCount v_town_workCount v_town_turnCost v_town_boatDayCost), ((ad_this_town 0), cI G 3 a_town_lighter), ((ad_this_town 1), cI G 16 a_town_signNumbers), ((ad_this_town 5), cI G 5 a_town_workNoise)] [(h_this, oX9 ad_this v_keptCount), ((ad_this 4), oX1 ad_this_book v_book_days), ((ad_this_book 0), cI G 5 a_book_signs), ((ad_this_book 1), cI G 5 a_book_works), ((ad_this 8), oX5 ad_this_now out.2.1), ((ad_this_now 1), cJ G 3 out.2.2.1), ((ad_this_now 0), cJ G 3 out.2.2.2), ((ad_this 2), oX8 ad_this_town v_town_signCount v_town_houseCount v_town_boatCount v_town_workCount v_town_turnCost v_town_boatDayCost), ((ad_this_town 0), cI G 3 a_town_lighter), ((ad_this_town 1), cI G 16 a_town_signNumbers), ((ad_this_town 5), cI G 5 a_town_workNoise)] out.1 := by
  refine startJ (cc := cX9_belief) (maxL := 3) (by decide) rfl (Nat.le_of_ble_eq_true rfl) ?_
  intro p e s m args below meth c A Q hx hb hml hts hown hc hA hret ls H locs hl hW
  have hown : s.vm.findClass RX9 = some m.cls := hown
  have hg : ∀ w ∈ GOODS, w.before _ s = true := fun w h => hts w (List.mem_cons_of_mem _ h)
  have hl : lv_has ls 3 [(0, .ref h_this), (1, .int x1), (2, .int x2)] := hl
  rw [F_X9_belief] at hF
  refine lv_iload_n hx hb dX9_belief_0 rfl (lv_at hl 1 rfl) ?_
  refine lv_iconst (v := 0) hx hb dX9_belief_1 (by decide) ?_
  refine lv_iconst (v := 2) hx hb dX9_belief_2 (by decide) ?_
  obtain ⟨q3, c_3, hF⟩ := bd_el hF
  refine wcZ (ws' := [(h_this, oX9 ad_this v_keptCount), ((ad_this 4), oX1 ad_this_book v_book_days), ((ad_this_book 0), cI G 5 a_book_signs), ((ad_this_book 1), cI G 5 a_book_works), ((ad_this 8), oX5 ad_this_now v_now_turned), ((ad_this_now 1), cJ G 3 a_now_came), ((ad_this_now 0), cJ G 3 a_now_stayed), ((ad_this 2), oX8 ad_this_town v_town_signCount v_town_houseCount v_town_boatCount v_town_workCount v_town_turnCost v_town_boatDayCost), ((ad_this_town 0), cI G 3 a_town_lighter), ((ad_this_town 1), cI G 16 a_town_signNumbers), ((ad_this_town 5), cI G 5 a_town_workNoise)]) (wc := []) (wr := [(h_this, oX9 ad_this v_keptCount), ((ad_this 4), oX1 ad_this_book v_book_days), ((ad_this_book 0), cI G 5 a_book_signs), ((ad_this_book 1), cI G 5 a_book_works), ((ad_this 8), oX5 ad_this_now v_now_turned), ((ad_this_now 1), cJ G 3 a_now_came), ((ad_this_now 0), cJ G 3 a_now_stayed), ((ad_this 2), oX8 ad_this_town v_town_signCount v_town_houseCount v_town_boatCount v_town_workCount v_town_turnCost v_town_boatDayCost), ((ad_this_town 0), cI G 3 a_town_lighter), ((ad_this_town 1), cI G 16 a_town_signNumbers), ((ad_this_town 5), cI G 5 a_town_workNoise)]) (w1 := []) (va_runS (As := [.int x1, .int 0, .int 2]) (rest := []) ⟨hx, hb, hml, hown, hg⟩ (c_X9_isWithin l G x1 0 2 q3 c_3 H.size) (va_cwS 3 hg (gS wd_2_140 wd_2_47 wd_1_1 wd_2_48) rfl rfl rfl hdS_X9_isWithin ⟨(Nat.le_of_ble_eq_true rfl), (Nat.le_of_ble_eq_true rfl)⟩) (preS hc hW [] rfl (by decide)) rfl rfl hl.1 rfl (lv_room (Nat.le_of_ble_eq_true rfl)) dX9_belief_3 ⟨Nat.zero_le _, Nat.zero_le _⟩) hA hW [] [0, 1, 2, 3, 4, 5, 6, 7, 8, 9, 10] [0, 1, 2, 3, 4, 5, 6, 7, 8, 9, 10] rfl rfl (by decide) (by decide) rfl (by decide) (fun z_3 H locs hW => ?_)
  refine lv_if_eq (tgt := 18) hx hb dX9_belief_6 (by decide) (fun c_6 => ?_) (fun c_6 => ?_)
  · have hF := ite_t hF c_6
    refine lv_ldc2 (v := (-1)) hx hb hown (hg _ wd_2_216) dX9_belief_18 ?_
    obtain rfl := Option.some.inj hF
    exact hret _ _ _ _ hW dX9_belief_21
  · have hF := ite_f hF c_6
    refine lv_iload_n hx hb dX9_belief_9 rfl (lv_at hl 2 rfl) ?_
    refine lv_iconst (v := 0) hx hb dX9_belief_10 (by decide) ?_
    refine lv_iconst (v := 1) hx hb dX9_belief_11 (by decide) ?_
    obtain ⟨q12, c_12, hF⟩ := bd_el hF
    refine wcZ (ws' := [(h_this, oX9 ad_this v_keptCount), ((ad_this 4), oX1 ad_this_book v_book_days), ((ad_this_book 0), cI G 5 a_book_signs), ((ad_this_book 1), cI G 5 a_book_works), ((ad_this 8), oX5 ad_this_now v_now_turned), ((ad_this_now 1), cJ G 3 a_now_came), ((ad_this_now 0), cJ G 3 a_now_stayed), ((ad_this 2), oX8 ad_this_town v_town_signCount v_town_houseCount v_town_boatCount v_town_workCount v_town_turnCost v_town_boatDayCost), ((ad_this_town 0), cI G 3 a_town_lighter), ((ad_this_town 1), cI G 16 a_town_signNumbers), ((ad_this_town 5), cI G 5 a_town_workNoise)]) (wc := []) (wr := [(h_this, oX9 ad_this v_keptCount), ((ad_this 4), oX1 ad_this_book v_book_days), ((ad_this_book 0), cI G 5 a_book_signs), ((ad_this_book 1), cI G 5 a_book_works), ((ad_this 8), oX5 ad_this_now v_now_turned), ((ad_this_now 1), cJ G 3 a_now_came), ((ad_this_now 0), cJ G 3 a_now_stayed), ((ad_this 2), oX8 ad_this_town v_town_signCount v_town_houseCount v_town_boatCount v_town_workCount v_town_turnCost v_town_boatDayCost), ((ad_this_town 0), cI G 3 a_town_lighter), ((ad_this_town 1), cI G 16 a_town_signNumbers), ((ad_this_town 5), cI G 5 a_town_workNoise)]) (w1 := []) (va_runS (As := [.int x2, .int 0, .int 1]) (rest := []) ⟨hx, hb, hml, hown, hg⟩ (c_X9_isWithin l G x2 0 1 q12 c_12 H.size) (va_cwS 3 hg (gS wd_2_140 wd_2_47 wd_1_1 wd_2_48) rfl rfl rfl hdS_X9_isWithin ⟨(Nat.le_of_ble_eq_true rfl), (Nat.le_of_ble_eq_true rfl)⟩) (preS hc hW [] rfl (by decide)) rfl rfl hl.1 rfl (lv_room (Nat.le_of_ble_eq_true rfl)) dX9_belief_12 ⟨Nat.zero_le _, Nat.zero_le _⟩) hA hW [] [0, 1, 2, 3, 4, 5, 6, 7, 8, 9, 10] [0, 1, 2, 3, 4, 5, 6, 7, 8, 9, 10] rfl rfl (by decide) (by decide) rfl (by decide) (fun z_12 H locs hW => ?_)
    refine lv_if_ne (tgt := 22) hx hb dX9_belief_15 (by decide) (fun c_15 => ?_) (fun c_15 => ?_)
    · have hF := ite_f hF c_15
      refine lv_aload_n hx hb dX9_belief_22 rfl (lv_at hl 0 rfl) ?_
      obtain ⟨q23, c_23, hF⟩ := bd_el hF
      refine wcZ (ws' := [(h_this, oX9 ad_this v_keptCount), ((ad_this 4), oX1 ad_this_book v_book_days), ((ad_this_book 0), cI G 5 a_book_signs), ((ad_this_book 1), cI G 5 a_book_works), ((ad_this 8), oX5 ad_this_now q23.2.1), ((ad_this_now 1), cJ G 3 q23.2.2.1), ((ad_this_now 0), cJ G 3 q23.2.2.2), ((ad_this 2), oX8 ad_this_town v_town_signCount v_town_houseCount v_town_boatCount v_town_workCount v_town_turnCost v_town_boatDayCost), ((ad_this_town 0), cI G 3 a_town_lighter), ((ad_this_town 1), cI G 16 a_town_signNumbers), ((ad_this_town 5), cI G 5 a_town_workNoise)]) (wc := [(h_this, oX9 ad_this v_keptCount), ((ad_this 4), oX1 ad_this_book v_book_days), ((ad_this_book 0), cI G 5 a_book_signs), ((ad_this_book 1), cI G 5 a_book_works), ((ad_this 8), oX5 ad_this_now v_now_turned), ((ad_this_now 1), cJ G 3 a_now_came), ((ad_this_now 0), cJ G 3 a_now_stayed), ((ad_this 2), oX8 ad_this_town v_town_signCount v_town_houseCount v_town_boatCount v_town_workCount v_town_turnCost v_town_boatDayCost), ((ad_this_town 0), cI G 3 a_town_lighter), ((ad_this_town 1), cI G 16 a_town_signNumbers), ((ad_this_town 5), cI G 5 a_town_workNoise)]) (wr := []) (w1 := [(h_this, oX9 ad_this v_keptCount), ((ad_this 4), oX1 ad_this_book v_book_days), ((ad_this_book 0), cI G 5 a_book_signs), ((ad_this_book 1), cI G 5 a_book_works), ((ad_this 8), oX5 ad_this_now q23.2.1), ((ad_this_now 1), cJ G 3 q23.2.2.1), ((ad_this_now 0), cJ G 3 q23.2.2.2), ((ad_this 2), oX8 ad_this_town v_town_signCount v_town_houseCount v_town_boatCount v_town_workCount v_town_turnCost v_town_boatDayCost), ((ad_this_town 0), cI G 3 a_town_lighter), ((ad_this_town 1), cI G 16 a_town_signNumbers), ((ad_this_town 5), cI G 5 a_town_workNoise)]) (va_runV (As := []) (rest := []) ⟨hx, hb, hml, hown, hg⟩ (c_X9_diaryCanBe l G h_this ad_this ad_this_book ad_this_now ad_this_town v_keptCount v_book_days a_book_signs a_book_works v_now_turned a_now_came a_now_stayed v_town_signCount v_town_houseCount v_town_boatCount v_town_workCount v_town_turnCost v_town_boatDayCost a_town_lighter a_town_signNumbers a_town_workNoise q23 c_23 H.size) (cwV 0 hg (gV wd_2_217 wd_2_219 wd_0_11 wd_1_1 wd_2_220) rfl rfl rfl hdV_X9_diaryCanBe ⟨(Nat.le_of_ble_eq_true rfl), (Nat.le_of_ble_eq_true rfl)⟩) (preV hc hW [0, 1, 2, 3, 4, 5, 6, 7, 8, 9, 10] rfl (by decide) rfl rfl) rfl rfl hl.1 rfl (lv_room (Nat.le_of_ble_eq_true rfl)) dX9_belief_23 ⟨Nat.zero_le _, Nat.zero_le _⟩) hA hW [0, 1, 2, 3, 4, 5, 6, 7, 8, 9, 10] [] [0, 1, 2, 3, 4, 5, 6, 7, 8, 9, 10] rfl rfl (by decide) (by decide) rfl (by decide) (fun z_23 H locs hW => ?_)
      refine lv_if_ne (tgt := 33) hx hb dX9_belief_26 (by decide) (fun c_26 => ?_) (fun c_26 => ?_)
      · have hF := ite_f hF c_26
        refine lv_aload_n hx hb dX9_belief_33 rfl (lv_at hl 0 rfl) ?_
        refine va_get (D := G.1) (ci := 8) (v := .ref ((ad_this 8))) (C := RX9) (T := TX9) (N := 13) hx hb hg hu_X9 hown hc.1 hW.1 0 rfl rfl 8 (by decide) (hg _ wd_2_103) (fun _ h9 => h9) rfl dX9_belief_34 ?_
        refine lv_iload_n hx hb dX9_belief_37 rfl (lv_at hl 1 rfl) ?_
        obtain ⟨q38, c_38, hF⟩ := bd_el hF
        refine wcJ (ws' := [(h_this, oX9 ad_this v_keptCount), ((ad_this 4), oX1 ad_this_book v_book_days), ((ad_this_book 0), cI G 5 a_book_signs), ((ad_this_book 1), cI G 5 a_book_works), ((ad_this 8), oX5 ad_this_now q23.2.1), ((ad_this_now 1), cJ G 3 q23.2.2.1), ((ad_this_now 0), cJ G 3 q23.2.2.2), ((ad_this 2), oX8 ad_this_town v_town_signCount v_town_houseCount v_town_boatCount v_town_workCount v_town_turnCost v_town_boatDayCost), ((ad_this_town 0), cI G 3 a_town_lighter), ((ad_this_town 1), cI G 16 a_town_signNumbers), ((ad_this_town 5), cI G 5 a_town_workNoise)]) (wc := [((ad_this 8), oX5 ad_this_now q23.2.1), ((ad_this_now 1), cJ G 3 q23.2.2.1), ((ad_this_now 0), cJ G 3 q23.2.2.2)]) (wr := [(h_this, oX9 ad_this v_keptCount), ((ad_this 4), oX1 ad_this_book v_book_days), ((ad_this_book 0), cI G 5 a_book_signs), ((ad_this_book 1), cI G 5 a_book_works), ((ad_this 2), oX8 ad_this_town v_town_signCount v_town_houseCount v_town_boatCount v_town_workCount v_town_turnCost v_town_boatDayCost), ((ad_this_town 0), cI G 3 a_town_lighter), ((ad_this_town 1), cI G 16 a_town_signNumbers), ((ad_this_town 5), cI G 5 a_town_workNoise)]) (w1 := [((ad_this 8), oX5 ad_this_now q23.2.1), ((ad_this_now 1), cJ G 3 q23.2.2.1), ((ad_this_now 0), cJ G 3 q23.2.2.2)]) (va_runV (As := [.int x1]) (rest := []) ⟨hx, hb, hml, hown, hg⟩ (c_X5_waysTo l G x1 ((ad_this 8)) ad_this_now q23.2.1 q23.2.2.1 q23.2.2.2 q38 c_38 H.size) (cwV 1 hg (gV wd_3_35 wd_3_3 wd_3_4 wd_1_6 wd_3_5) rfl rfl rfl hdV_X5_waysTo ⟨(Nat.le_of_ble_eq_true rfl), (Nat.le_of_ble_eq_true rfl)⟩) (preV hc hW [4, 5, 6] rfl (by decide) rfl rfl) rfl rfl hl.1 rfl (lv_room (Nat.le_of_ble_eq_true rfl)) dX9_belief_38 ⟨Nat.zero_le _, Nat.zero_le _⟩) hA hW [4, 5, 6] [0, 1, 2, 3, 7, 8, 9, 10] [0, 1, 2, 3, 8, 9, 10, 4, 5, 6, 7] rfl rfl (by decide) (by decide) rfl (by decide) (fun H locs hW => ?_)
        refine lv_aload_n hx hb dX9_belief_41 rfl (lv_at hl 0 rfl) ?_
        refine va_get (D := G.1) (ci := 8) (v := .ref ((ad_this 8))) (C := RX9) (T := TX9) (N := 13) hx hb hg hu_X9 hown hc.1 hW.1 0 rfl rfl 8 (by decide) (hg _ wd_2_103) (fun _ h9 => h9) rfl dX9_belief_42 ?_
        obtain ⟨q45, c_45, hF⟩ := bd_el hF
        refine wcJ (ws' := [(h_this, oX9 ad_this v_keptCount), ((ad_this 4), oX1 ad_this_book v_book_days), ((ad_this_book 0), cI G 5 a_book_signs), ((ad_this_book 1), cI G 5 a_book_works), ((ad_this 8), oX5 ad_this_now q23.2.1), ((ad_this_now 1), cJ G 3 q23.2.2.1), ((ad_this_now 0), cJ G 3 q23.2.2.2), ((ad_this 2), oX8 ad_this_town v_town_signCount v_town_houseCount v_town_boatCount v_town_workCount v_town_turnCost v_town_boatDayCost), ((ad_this_town 0), cI G 3 a_town_lighter), ((ad_this_town 1), cI G 16 a_town_signNumbers), ((ad_this_town 5), cI G 5 a_town_workNoise)]) (wc := [((ad_this 8), oX5 ad_this_now q23.2.1), ((ad_this_now 1), cJ G 3 q23.2.2.1), ((ad_this_now 0), cJ G 3 q23.2.2.2)]) (wr := [(h_this, oX9 ad_this v_keptCount), ((ad_this 4), oX1 ad_this_book v_book_days), ((ad_this_book 0), cI G 5 a_book_signs), ((ad_this_book 1), cI G 5 a_book_works), ((ad_this 2), oX8 ad_this_town v_town_signCount v_town_houseCount v_town_boatCount v_town_workCount v_town_turnCost v_town_boatDayCost), ((ad_this_town 0), cI G 3 a_town_lighter), ((ad_this_town 1), cI G 16 a_town_signNumbers), ((ad_this_town 5), cI G 5 a_town_workNoise)]) (w1 := [((ad_this 8), oX5 ad_this_now q23.2.1), ((ad_this_now 1), cJ G 3 q23.2.2.1), ((ad_this_now 0), cJ G 3 q23.2.2.2)]) (va_runV (As := []) (rest := [.long q38]) ⟨hx, hb, hml, hown, hg⟩ (c_X5_total l G ((ad_this 8)) ad_this_now q23.2.1 q23.2.2.1 q23.2.2.2 q45 c_45 H.size) (cwV 0 hg (gV wd_3_30 wd_3_31 wd_3_32 wd_1_6 wd_3_33) rfl rfl rfl hdV_X5_total ⟨(Nat.le_of_ble_eq_true rfl), (Nat.le_of_ble_eq_true rfl)⟩) (preV hc hW [4, 5, 6] rfl (by decide) rfl rfl) rfl rfl hl.1 rfl (lv_room (Nat.le_of_ble_eq_true rfl)) dX9_belief_45 ⟨Nat.zero_le _, Nat.zero_le _⟩) hA hW [4, 5, 6] [0, 1, 2, 3, 7, 8, 9, 10] [0, 1, 2, 3, 8, 9, 10, 4, 5, 6, 7] rfl rfl (by decide) (by decide) rfl (by decide) (fun H locs hW => ?_)
        refine lv_iload_n hx hb dX9_belief_48 rfl (lv_at hl 2 rfl) ?_
        obtain ⟨q49, c_49, hF⟩ := bd_el hF
        refine wcJ (ws' := [(h_this, oX9 ad_this v_keptCount), ((ad_this 4), oX1 ad_this_book v_book_days), ((ad_this_book 0), cI G 5 a_book_signs), ((ad_this_book 1), cI G 5 a_book_works), ((ad_this 8), oX5 ad_this_now q23.2.1), ((ad_this_now 1), cJ G 3 q23.2.2.1), ((ad_this_now 0), cJ G 3 q23.2.2.2), ((ad_this 2), oX8 ad_this_town v_town_signCount v_town_houseCount v_town_boatCount v_town_workCount v_town_turnCost v_town_boatDayCost), ((ad_this_town 0), cI G 3 a_town_lighter), ((ad_this_town 1), cI G 16 a_town_signNumbers), ((ad_this_town 5), cI G 5 a_town_workNoise)]) (wc := []) (wr := [(h_this, oX9 ad_this v_keptCount), ((ad_this 4), oX1 ad_this_book v_book_days), ((ad_this_book 0), cI G 5 a_book_signs), ((ad_this_book 1), cI G 5 a_book_works), ((ad_this 8), oX5 ad_this_now q23.2.1), ((ad_this_now 1), cJ G 3 q23.2.2.1), ((ad_this_now 0), cJ G 3 q23.2.2.2), ((ad_this 2), oX8 ad_this_town v_town_signCount v_town_houseCount v_town_boatCount v_town_workCount v_town_turnCost v_town_boatDayCost), ((ad_this_town 0), cI G 3 a_town_lighter), ((ad_this_town 1), cI G 16 a_town_signNumbers), ((ad_this_town 5), cI G 5 a_town_workNoise)]) (w1 := []) (va_runS (As := [.long q38, .long q45, .int x2]) (rest := []) ⟨hx, hb, hml, hown, hg⟩ (c_X9_inLowestTerms l G q38 q45 x2 q49 c_49 H.size) (va_cwS 3 hg (gS wd_3_36 wd_3_37 wd_1_1 wd_3_38) rfl rfl rfl hdS_X9_inLowestTerms ⟨(Nat.le_of_ble_eq_true rfl), (Nat.le_of_ble_eq_true rfl)⟩) (preS hc hW [] rfl (by decide)) rfl rfl hl.1 rfl (lv_room (Nat.le_of_ble_eq_true rfl)) dX9_belief_49 ⟨Nat.zero_le _, Nat.zero_le _⟩) hA hW [] [0, 1, 2, 3, 4, 5, 6, 7, 8, 9, 10] [0, 1, 2, 3, 4, 5, 6, 7, 8, 9, 10] rfl rfl (by decide) (by decide) rfl (by decide) (fun H locs hW => ?_)
        obtain rfl := Option.some.inj hF
        exact hret _ _ _ _ hW dX9_belief_52
      · have hF := ite_t hF c_26
        refine lv_ldc2 (v := (-4)) hx hb hown (hg _ wd_3_34) dX9_belief_29 ?_
        obtain rfl := Option.some.inj hF
        exact hret _ _ _ _ hW dX9_belief_32
    · have hF := ite_t hF c_15
      refine lv_ldc2 (v := (-1)) hx hb hown (hg _ wd_2_216) dX9_belief_18 ?_
      obtain rfl := Option.some.inj hF
      exact hret _ _ _ _ hW dX9_belief_21
theorem dX9_near_0 : decode cX9_near 0 = .ok (.iload_n 1, 1) := by decide +kernel
theorem dX9_near_1 : decode cX9_near 1 = .ok (.iconst 1, 1) := by decide +kernel
theorem dX9_near_2 : decode cX9_near 2 = .ok (.iconst 3, 1) := by decide +kernel
theorem dX9_near_3 : decode cX9_near 3 = .ok (.invokestatic 104, 3) := by decide +kernel
theorem dX9_near_6 : decode cX9_near 6 = .ok (.ifCond .eq 26, 3) := by decide +kernel
theorem dX9_near_9 : decode cX9_near 9 = .ok (.iload_n 2, 1) := by decide +kernel
theorem dX9_near_10 : decode cX9_near 10 = .ok (.aload_n 0, 1) := by decide +kernel
theorem dX9_near_11 : decode cX9_near 11 = .ok (.getfield 26, 3) := by decide +kernel
theorem dX9_near_14 : decode cX9_near 14 = .ok (.getfield 123, 3) := by decide +kernel
theorem dX9_near_17 : decode cX9_near 17 = .ok (.invokestatic 126, 3) := by decide +kernel
theorem dX9_near_20 : decode cX9_near 20 = .ok (.ifCond .eq 12, 3) := by decide +kernel
theorem dX9_near_23 : decode cX9_near 23 = .ok (.iload_n 3, 1) := by decide +kernel
theorem dX9_near_24 : decode cX9_near 24 = .ok (.iconst 0, 1) := by decide +kernel
theorem dX9_near_25 : decode cX9_near 25 = .ok (.iconst 1, 1) := by decide +kernel
theorem dX9_near_26 : decode cX9_near 26 = .ok (.invokestatic 104, 3) := by decide +kernel
theorem dX9_near_29 : decode cX9_near 29 = .ok (.ifCond .ne 7, 3) := by decide +kernel
theorem dX9_near_32 : decode cX9_near 32 = .ok (.ldc2_w 146, 3) := by decide +kernel
theorem dX9_near_35 : decode cX9_near 35 = .ok (.lreturn, 1) := by decide +kernel
theorem dX9_near_36 : decode cX9_near 36 = .ok (.aload_n 0, 1) := by decide +kernel
theorem dX9_near_37 : decode cX9_near 37 = .ok (.invokevirtual 148, 3) := by decide +kernel
theorem dX9_near_40 : decode cX9_near 40 = .ok (.ifCond .ne 7, 3) := by decide +kernel
theorem dX9_near_43 : decode cX9_near 43 = .ok (.ldc2_w 152, 3) := by decide +kernel
theorem dX9_near_46 : decode cX9_near 46 = .ok (.lreturn, 1) := by decide +kernel
theorem dX9_near_47 : decode cX9_near 47 = .ok (.aload_n 0, 1) := by decide +kernel
theorem dX9_near_48 : decode cX9_near 48 = .ok (.iload_n 1, 1) := by decide +kernel
theorem dX9_near_49 : decode cX9_near 49 = .ok (.iload_n 2, 1) := by decide +kernel
theorem dX9_near_50 : decode cX9_near 50 = .ok (.invokevirtual 166, 3) := by decide +kernel
theorem dX9_near_53 : decode cX9_near 53 = .ok (.aload_n 0, 1) := by decide +kernel
theorem dX9_near_54 : decode cX9_near 54 = .ok (.getfield 57, 3) := by decide +kernel
theorem dX9_near_57 : decode cX9_near 57 = .ok (.getfield 169, 3) := by decide +kernel
theorem dX9_near_60 : decode cX9_near 60 = .ok (.aload_n 0, 1) := by decide +kernel
theorem dX9_near_61 : decode cX9_near 61 = .ok (.getfield 57, 3) := by decide +kernel
theorem dX9_near_64 : decode cX9_near 64 = .ok (.invokevirtual 173, 3) := by decide +kernel
theorem dX9_near_67 : decode cX9_near 67 = .ok (.iload_n 3, 1) := by decide +kernel
theorem dX9_near_68 : decode cX9_near 68 = .ok (.invokestatic 162, 3) := by decide +kernel
theorem dX9_near_71 : decode cX9_near 71 = .ok (.lreturn, 1) := by decide +kernel
def F_X9_near (x1 : Int32) (x2 : Int32) (x3 : Int32) (v_book_days : Int32) (a_book_signs : Nat → Int32) (a_book_works : Nat → Int32) (v_future_turned : Int64) (a_future_came : Nat → Int64) (a_future_stayed : Nat → Int64) (v_now_turned : Int64) (a_now_came : Nat → Int64) (a_now_stayed : Nat → Int64) (v_town_signCount : Int32) (v_town_workCount : Int32) (a_town_lighter : Nat → Int32) (a_town_signNumbers : Nat → Int32) (a_town_workNoise : Nat → Int32) : Option (Int64 × Int64 × (Nat → Int64) × (Nat → Int64) × Int64 × (Nat → Int64) × (Nat → Int64)) := (F_X9_isWithin x1 1 3).bind (fun q3 => (if q3 = 0 then some ((-1), v_future_turned, a_future_came, a_future_stayed, v_now_turned, a_now_came, a_now_stayed) else (F_X9_isSet x2 v_town_workCount).bind (fun q17 => (if q17 = 0 then some ((-1), v_future_turned, a_future_came, a_future_stayed, v_now_turned, a_now_came, a_now_stayed) else (F_X9_isWithin x3 0 1).bind (fun q26 => (if q26 = 0 then some ((-1), v_future_turned, a_future_came, a_future_stayed, v_now_turned, a_now_came, a_now_stayed) else (F_X9_diaryCanBe v_book_days a_book_signs a_book_works v_now_turned a_now_came a_now_stayed v_town_signCount v_town_workCount a_town_lighter a_town_signNumbers a_town_workNoise).bind (fun q37 => (if q37.1 = 0 then some ((-4), v_future_turned, a_future_came, a_future_stayed, q37.2.1, q37.2.2.1, q37.2.2.2) else (F_X9_lookAhead x1 x2 v_future_turned a_future_came a_future_stayed q37.2.1 q37.2.2.1 q37.2.2.2 v_town_workCount a_town_lighter a_town_workNoise).bind (fun q50 => (F_X5_all q50.1 q50.2.1 q50.2.2).bind (fun q64 => (F_X9_inLowestTerms q50.1 q64 x3).bind (fun q68 => some (q68, q50.1, q50.2.1, q50.2.2, q37.2.1, q37.2.2.1, q37.2.2.2))))))))))))
theorem hdV_X9_near : yX9_near.cls = RX9 ∧ yX9_near.cls ≠ "java/lang/invoke/MethodHandle" ∧ yX9_near.cls ≠ "java/lang/invoke/VarHandle" ∧ (parseMethodDescriptor yX9_near.desc).map (fun d => d.parameters.length) = some 3 := by decide +kernel
set_option maxHeartbeats 4000000 in
set_option maxRecDepth 100000 in
theorem c_X9_near (l : Launch) (G : GG) (x1 : Int32) (x2 : Int32) (x3 : Int32) (h_this : Nat) (ad_this : Nat → Nat) (ad_this_book : Nat → Nat) (ad_this_future : Nat → Nat) (ad_this_now : Nat → Nat) (ad_this_town : Nat → Nat) (v_keptCount : Int32) (v_book_days : Int32) (a_book_signs : Nat → Int32) (a_book_works : Nat → Int32) (v_future_turned : Int64) (a_future_came : Nat → Int64) (a_future_stayed : Nat → Int64) (v_now_turned : Int64) (a_now_came : Nat → Int64) (a_now_stayed : Nat → Int64) (v_town_signCount : Int32) (v_town_houseCount : Int32) (v_town_boatCount : Int32) (v_town_workCount : Int32) (v_town_turnCost : Int32) (v_town_boatDayCost : Int32) (a_town_lighter : Nat → Int32) (a_town_signNumbers : Nat → Int32) (a_town_workNoise : Nat → Int32) (out : Int64 × Int64 × (Nat → Int64) × (Nat → Int64) × Int64 × (Nat → Int64) × (Nat → Int64)) (hF : F_X9_near x1 x2 x3 v_book_days a_book_signs a_book_works v_future_turned a_future_came a_future_stayed v_now_turned a_now_came a_now_stayed v_town_signCount v_town_workCount a_town_lighter a_town_signNumbers a_town_workNoise = some out) : CtrJ l yX9_near (WS yX9_near cX9_near 4 (some .long)) { frames := 7, cells := 0, slots := 0, locals := 160 } G [.ref h_this, .int x1, .int x2, .int x3] [(h_this, oX9 ad_this v_keptCount), ((ad_this 4), oX1 ad_this_book v_book_days), ((ad_this_book 0), cI G 5 a_book_signs), ((ad_this_book 1), cI G 5 a_book_works), ((ad_this 9), oX5 ad_this_future v_future_turned), ((ad_this_future 1), cJ G 3 a_future_came), ((ad_this_future 0), cJ G 3 a_future_stayed), ((ad_this 8), oX5 ad_this_now v_now_turned), ((ad_this_now 1), cJ G 3 a_now_came), ((ad_this_now 0), cJ G 3 a_now_stayed), ((ad_this 2), oX8 ad_this_town v_town_signCount v_town_houseCount v_town_boatCount v_town_workCount v_town_turnCost v_town_boatDayCost), ((ad_this_town 0), cI G 3 a_town_lighter), ((ad_this_town 1), cI G 16 a_town_signNumbers), ((ad_this_town 5), cI G 5 a_town_workNoise)] [(h_this, oX9 ad_this v_keptCount), ((ad_this 4), oX1 ad_this_book v_book_days), ((ad_this_book 0), cI G 5 a_book_signs), ((ad_this_book 1), cI G 5 a_book_works), ((ad_this 9), oX5 ad_this_future out.2.1), ((ad_this_future 1), cJ G 3 out.2.2.1), ((ad_this_future 0), cJ G 3 out.2.2.2.1), ((ad_this 8), oX5 ad_this_now out.2.2.2.2.1), ((ad_this_now 1), cJ G 3 out.2.2.2.2.2.1), ((ad_this_now 0), cJ G 3 out.2.2.2.2.2.2), ((ad_this 2), oX8 ad_this_town v_town_signCount v_town_houseCount v_town_boatCount v_town_workCount v_town_turnCost v_town_boatDayCost), ((ad_this_town 0), cI G 3 a_town_lighter), ((ad_this_town 1), cI G 16 a_town_signNumbers), ((ad_this_town 5), cI G 5 a_town_workNoise)] out.1 := by
  refine startJ (cc := cX9_near) (maxL := 4) (by decide) rfl (Nat.le_of_ble_eq_true rfl) ?_
  intro p e s m args below meth c A Q hx hb hml hts hown hc hA hret ls H locs hl hW
  have hown : s.vm.findClass RX9 = some m.cls := hown
  have hg : ∀ w ∈ GOODS, w.before _ s = true := fun w h => hts w (List.mem_cons_of_mem _ h)
  have hl : lv_has ls 4 [(0, .ref h_this), (1, .int x1), (2, .int x2), (3, .int x3)] := hl
  rw [F_X9_near] at hF
  refine lv_iload_n hx hb dX9_near_0 rfl (lv_at hl 1 rfl) ?_
  refine lv_iconst (v := 1) hx hb dX9_near_1 (by decide) ?_
  refine lv_iconst (v := 3) hx hb dX9_near_2 (by decide) ?_
  obtain ⟨q3, c_3, hF⟩ := bd_el hF
  refine wcZ (ws' := [(h_this, oX9 ad_this v_keptCount), ((ad_this 4), oX1 ad_this_book v_book_days), ((ad_this_book 0), cI G 5 a_book_signs), ((ad_this_book 1), cI G 5 a_book_works), ((ad_this 9), oX5 ad_this_future v_future_turned), ((ad_this_future 1), cJ G 3 a_future_came), ((ad_this_future 0), cJ G 3 a_future_stayed), ((ad_this 8), oX5 ad_this_now v_now_turned), ((ad_this_now 1), cJ G 3 a_now_came), ((ad_this_now 0), cJ G 3 a_now_stayed), ((ad_this 2), oX8 ad_this_town v_town_signCount v_town_houseCount v_town_boatCount v_town_workCount v_town_turnCost v_town_boatDayCost), ((ad_this_town 0), cI G 3 a_town_lighter), ((ad_this_town 1), cI G 16 a_town_signNumbers), ((ad_this_town 5), cI G 5 a_town_workNoise)]) (wc := []) (wr := [(h_this, oX9 ad_this v_keptCount), ((ad_this 4), oX1 ad_this_book v_book_days), ((ad_this_book 0), cI G 5 a_book_signs), ((ad_this_book 1), cI G 5 a_book_works), ((ad_this 9), oX5 ad_this_future v_future_turned), ((ad_this_future 1), cJ G 3 a_future_came), ((ad_this_future 0), cJ G 3 a_future_stayed), ((ad_this 8), oX5 ad_this_now v_now_turned), ((ad_this_now 1), cJ G 3 a_now_came), ((ad_this_now 0), cJ G 3 a_now_stayed), ((ad_this 2), oX8 ad_this_town v_town_signCount v_town_houseCount v_town_boatCount v_town_workCount v_town_turnCost v_town_boatDayCost), ((ad_this_town 0), cI G 3 a_town_lighter), ((ad_this_town 1), cI G 16 a_town_signNumbers), ((ad_this_town 5), cI G 5 a_town_workNoise)]) (w1 := []) (va_runS (As := [.int x1, .int 1, .int 3]) (rest := []) ⟨hx, hb, hml, hown, hg⟩ (c_X9_isWithin l G x1 1 3 q3 c_3 H.size) (va_cwS 3 hg (gS wd_2_140 wd_2_47 wd_1_1 wd_2_48) rfl rfl rfl hdS_X9_isWithin ⟨(Nat.le_of_ble_eq_true rfl), (Nat.le_of_ble_eq_true rfl)⟩) (preS hc hW [] rfl (by decide)) rfl rfl hl.1 rfl (lv_room (Nat.le_of_ble_eq_true rfl)) dX9_near_3 ⟨Nat.zero_le _, Nat.zero_le _⟩) hA hW [] [0, 1, 2, 3, 4, 5, 6, 7, 8, 9, 10, 11, 12, 13] [0, 1, 2, 3, 4, 5, 6, 7, 8, 9, 10, 11, 12, 13] rfl rfl (by decide) (by decide) rfl (by decide) (fun z_3 H locs hW => ?_)
  refine lv_if_eq (tgt := 32) hx hb dX9_near_6 (by decide) (fun c_6 => ?_) (fun c_6 => ?_)
  · have hF := ite_t hF c_6
    refine lv_ldc2 (v := (-1)) hx hb hown (hg _ wd_2_216) dX9_near_32 ?_
    obtain rfl := Option.some.inj hF
    exact hret _ _ _ _ hW dX9_near_35
  · have hF := ite_f hF c_6
    refine lv_iload_n hx hb dX9_near_9 rfl (lv_at hl 2 rfl) ?_
    refine lv_aload_n hx hb dX9_near_10 rfl (lv_at hl 0 rfl) ?_
    refine va_get (D := G.1) (ci := 8) (v := .ref ((ad_this 2))) (C := RX9) (T := TX9) (N := 13) hx hb hg hu_X9 hown hc.1 hW.1 0 rfl rfl 2 (by decide) (hg _ wd_2_97) (fun _ h9 => h9) rfl dX9_near_11 ?_
    refine va_get (D := G.1) (ci := 7) (v := .int v_town_workCount) (C := RX8) (T := TX8) (N := 13) hx hb hg hu_X8 hown hc.1 hW.1 10 rfl rfl 10 (by decide) (hg _ wd_1_85) (fun _ h9 => h9) rfl dX9_near_14 ?_
    obtain ⟨q17, c_17, hF⟩ := bd_el hF
    refine wcZ (ws' := [(h_this, oX9 ad_this v_keptCount), ((ad_this 4), oX1 ad_this_book v_book_days), ((ad_this_book 0), cI G 5 a_book_signs), ((ad_this_book 1), cI G 5 a_book_works), ((ad_this 9), oX5 ad_this_future v_future_turned), ((ad_this_future 1), cJ G 3 a_future_came), ((ad_this_future 0), cJ G 3 a_future_stayed), ((ad_this 8), oX5 ad_this_now v_now_turned), ((ad_this_now 1), cJ G 3 a_now_came), ((ad_this_now 0), cJ G 3 a_now_stayed), ((ad_this 2), oX8 ad_this_town v_town_signCount v_town_houseCount v_town_boatCount v_town_workCount v_town_turnCost v_town_boatDayCost), ((ad_this_town 0), cI G 3 a_town_lighter), ((ad_this_town 1), cI G 16 a_town_signNumbers), ((ad_this_town 5), cI G 5 a_town_workNoise)]) (wc := []) (wr := [(h_this, oX9 ad_this v_keptCount), ((ad_this 4), oX1 ad_this_book v_book_days), ((ad_this_book 0), cI G 5 a_book_signs), ((ad_this_book 1), cI G 5 a_book_works), ((ad_this 9), oX5 ad_this_future v_future_turned), ((ad_this_future 1), cJ G 3 a_future_came), ((ad_this_future 0), cJ G 3 a_future_stayed), ((ad_this 8), oX5 ad_this_now v_now_turned), ((ad_this_now 1), cJ G 3 a_now_came), ((ad_this_now 0), cJ G 3 a_now_stayed), ((ad_this 2), oX8 ad_this_town v_town_signCount v_town_houseCount v_town_boatCount v_town_workCount v_town_turnCost v_town_boatDayCost), ((ad_this_town 0), cI G 3 a_town_lighter), ((ad_this_town 1), cI G 16 a_town_signNumbers), ((ad_this_town 5), cI G 5 a_town_workNoise)]) (w1 := []) (va_runS (As := [.int x2, .int v_town_workCount]) (rest := []) ⟨hx, hb, hml, hown, hg⟩ (c_X9_isSet l G x2 v_town_workCount q17 c_17 H.size) (va_cwS 2 hg (gS wd_2_166 wd_2_167 wd_1_1 wd_2_168) rfl rfl rfl hdS_X9_isSet ⟨(Nat.le_of_ble_eq_true rfl), (Nat.le_of_ble_eq_true rfl)⟩) (preS hc hW [] rfl (by decide)) rfl rfl hl.1 rfl (lv_room (Nat.le_of_ble_eq_true rfl)) dX9_near_17 ⟨Nat.zero_le _, Nat.zero_le _⟩) hA hW [] [0, 1, 2, 3, 4, 5, 6, 7, 8, 9, 10, 11, 12, 13] [0, 1, 2, 3, 4, 5, 6, 7, 8, 9, 10, 11, 12, 13] rfl rfl (by decide) (by decide) rfl (by decide) (fun z_17 H locs hW => ?_)
    refine lv_if_eq (tgt := 32) hx hb dX9_near_20 (by decide) (fun c_20 => ?_) (fun c_20 => ?_)
    · have hF := ite_t hF c_20
      refine lv_ldc2 (v := (-1)) hx hb hown (hg _ wd_2_216) dX9_near_32 ?_
      obtain rfl := Option.some.inj hF
      exact hret _ _ _ _ hW dX9_near_35
    · have hF := ite_f hF c_20
      refine lv_iload_n hx hb dX9_near_23 rfl (lv_at hl 3 rfl) ?_
      refine lv_iconst (v := 0) hx hb dX9_near_24 (by decide) ?_
      refine lv_iconst (v := 1) hx hb dX9_near_25 (by decide) ?_
      obtain ⟨q26, c_26, hF⟩ := bd_el hF
      refine wcZ (ws' := [(h_this, oX9 ad_this v_keptCount), ((ad_this 4), oX1 ad_this_book v_book_days), ((ad_this_book 0), cI G 5 a_book_signs), ((ad_this_book 1), cI G 5 a_book_works), ((ad_this 9), oX5 ad_this_future v_future_turned), ((ad_this_future 1), cJ G 3 a_future_came), ((ad_this_future 0), cJ G 3 a_future_stayed), ((ad_this 8), oX5 ad_this_now v_now_turned), ((ad_this_now 1), cJ G 3 a_now_came), ((ad_this_now 0), cJ G 3 a_now_stayed), ((ad_this 2), oX8 ad_this_town v_town_signCount v_town_houseCount v_town_boatCount v_town_workCount v_town_turnCost v_town_boatDayCost), ((ad_this_town 0), cI G 3 a_town_lighter), ((ad_this_town 1), cI G 16 a_town_signNumbers), ((ad_this_town 5), cI G 5 a_town_workNoise)]) (wc := []) (wr := [(h_this, oX9 ad_this v_keptCount), ((ad_this 4), oX1 ad_this_book v_book_days), ((ad_this_book 0), cI G 5 a_book_signs), ((ad_this_book 1), cI G 5 a_book_works), ((ad_this 9), oX5 ad_this_future v_future_turned), ((ad_this_future 1), cJ G 3 a_future_came), ((ad_this_future 0), cJ G 3 a_future_stayed), ((ad_this 8), oX5 ad_this_now v_now_turned), ((ad_this_now 1), cJ G 3 a_now_came), ((ad_this_now 0), cJ G 3 a_now_stayed), ((ad_this 2), oX8 ad_this_town v_town_signCount v_town_houseCount v_town_boatCount v_town_workCount v_town_turnCost v_town_boatDayCost), ((ad_this_town 0), cI G 3 a_town_lighter), ((ad_this_town 1), cI G 16 a_town_signNumbers), ((ad_this_town 5), cI G 5 a_town_workNoise)]) (w1 := []) (va_runS (As := [.int x3, .int 0, .int 1]) (rest := []) ⟨hx, hb, hml, hown, hg⟩ (c_X9_isWithin l G x3 0 1 q26 c_26 H.size) (va_cwS 3 hg (gS wd_2_140 wd_2_47 wd_1_1 wd_2_48) rfl rfl rfl hdS_X9_isWithin ⟨(Nat.le_of_ble_eq_true rfl), (Nat.le_of_ble_eq_true rfl)⟩) (preS hc hW [] rfl (by decide)) rfl rfl hl.1 rfl (lv_room (Nat.le_of_ble_eq_true rfl)) dX9_near_26 ⟨Nat.zero_le _, Nat.zero_le _⟩) hA hW [] [0, 1, 2, 3, 4, 5, 6, 7, 8, 9, 10, 11, 12, 13] [0, 1, 2, 3, 4, 5, 6, 7, 8, 9, 10, 11, 12, 13] rfl rfl (by decide) (by decide) rfl (by decide) (fun z_26 H locs hW => ?_)
      refine lv_if_ne (tgt := 36) hx hb dX9_near_29 (by decide) (fun c_29 => ?_) (fun c_29 => ?_)
      · have hF := ite_f hF c_29
        refine lv_aload_n hx hb dX9_near_36 rfl (lv_at hl 0 rfl) ?_
        obtain ⟨q37, c_37, hF⟩ := bd_el hF
        refine wcZ (ws' := [(h_this, oX9 ad_this v_keptCount), ((ad_this 4), oX1 ad_this_book v_book_days), ((ad_this_book 0), cI G 5 a_book_signs), ((ad_this_book 1), cI G 5 a_book_works), ((ad_this 9), oX5 ad_this_future v_future_turned), ((ad_this_future 1), cJ G 3 a_future_came), ((ad_this_future 0), cJ G 3 a_future_stayed), ((ad_this 8), oX5 ad_this_now q37.2.1), ((ad_this_now 1), cJ G 3 q37.2.2.1), ((ad_this_now 0), cJ G 3 q37.2.2.2), ((ad_this 2), oX8 ad_this_town v_town_signCount v_town_houseCount v_town_boatCount v_town_workCount v_town_turnCost v_town_boatDayCost), ((ad_this_town 0), cI G 3 a_town_lighter), ((ad_this_town 1), cI G 16 a_town_signNumbers), ((ad_this_town 5), cI G 5 a_town_workNoise)]) (wc := [(h_this, oX9 ad_this v_keptCount), ((ad_this 4), oX1 ad_this_book v_book_days), ((ad_this_book 0), cI G 5 a_book_signs), ((ad_this_book 1), cI G 5 a_book_works), ((ad_this 8), oX5 ad_this_now v_now_turned), ((ad_this_now 1), cJ G 3 a_now_came), ((ad_this_now 0), cJ G 3 a_now_stayed), ((ad_this 2), oX8 ad_this_town v_town_signCount v_town_houseCount v_town_boatCount v_town_workCount v_town_turnCost v_town_boatDayCost), ((ad_this_town 0), cI G 3 a_town_lighter), ((ad_this_town 1), cI G 16 a_town_signNumbers), ((ad_this_town 5), cI G 5 a_town_workNoise)]) (wr := [((ad_this 9), oX5 ad_this_future v_future_turned), ((ad_this_future 1), cJ G 3 a_future_came), ((ad_this_future 0), cJ G 3 a_future_stayed)]) (w1 := [(h_this, oX9 ad_this v_keptCount), ((ad_this 4), oX1 ad_this_book v_book_days), ((ad_this_book 0), cI G 5 a_book_signs), ((ad_this_book 1), cI G 5 a_book_works), ((ad_this 8), oX5 ad_this_now q37.2.1), ((ad_this_now 1), cJ G 3 q37.2.2.1), ((ad_this_now 0), cJ G 3 q37.2.2.2), ((ad_this 2), oX8 ad_this_town v_town_signCount v_town_houseCount v_town_boatCount v_town_workCount v_town_turnCost v_town_boatDayCost), ((ad_this_town 0), cI G 3 a_town_lighter), ((ad_this_town 1), cI G 16 a_town_signNumbers), ((ad_this_town 5), cI G 5 a_town_workNoise)]) (va_runV (As := []) (rest := []) ⟨hx, hb, hml, hown, hg⟩ (c_X9_diaryCanBe l G h_this ad_this ad_this_book ad_this_now ad_this_town v_keptCount v_book_days a_book_signs a_book_works v_now_turned a_now_came a_now_stayed v_town_signCount v_town_houseCount v_town_boatCount v_town_workCount v_town_turnCost v_town_boatDayCost a_town_lighter a_town_signNumbers a_town_workNoise q37 c_37 H.size) (cwV 0 hg (gV wd_2_217 wd_2_219 wd_0_11 wd_1_1 wd_2_220) rfl rfl rfl hdV_X9_diaryCanBe ⟨(Nat.le_of_ble_eq_true rfl), (Nat.le_of_ble_eq_true rfl)⟩) (preV hc hW [0, 1, 2, 3, 7, 8, 9, 10, 11, 12, 13] rfl (by decide) rfl rfl) rfl rfl hl.1 rfl (lv_room (Nat.le_of_ble_eq_true rfl)) dX9_near_37 ⟨Nat.zero_le _, Nat.zero_le _⟩) hA hW [0, 1, 2, 3, 7, 8, 9, 10, 11, 12, 13] [4, 5, 6] [3, 4, 5, 6, 0, 1, 2, 7, 8, 9, 10, 11, 12, 13] rfl rfl (by decide) (by decide) rfl (by decide) (fun z_37 H locs hW => ?_)
        refine lv_if_ne (tgt := 47) hx hb dX9_near_40 (by decide) (fun c_40 => ?_) (fun c_40 => ?_)
        · have hF := ite_f hF c_40
          refine lv_aload_n hx hb dX9_near_47 rfl (lv_at hl 0 rfl) ?_
          refine lv_iload_n hx hb dX9_near_48 rfl (lv_at hl 1 rfl) ?_
          refine lv_iload_n hx hb dX9_near_49 rfl (lv_at hl 2 rfl) ?_
          obtain ⟨q50, c_50, hF⟩ := bd_el hF
          refine wcV (ws' := [(h_this, oX9 ad_this v_keptCount), ((ad_this 4), oX1 ad_this_book v_book_days), ((ad_this_book 0), cI G 5 a_book_signs), ((ad_this_book 1), cI G 5 a_book_works), ((ad_this 9), oX5 ad_this_future q50.1), ((ad_this_future 1), cJ G 3 q50.2.1), ((ad_this_future 0), cJ G 3 q50.2.2), ((ad_this 8), oX5 ad_this_now q37.2.1), ((ad_this_now 1), cJ G 3 q37.2.2.1), ((ad_this_now 0), cJ G 3 q37.2.2.2), ((ad_this 2), oX8 ad_this_town v_town_signCount v_town_houseCount v_town_boatCount v_town_workCount v_town_turnCost v_town_boatDayCost), ((ad_this_town 0), cI G 3 a_town_lighter), ((ad_this_town 1), cI G 16 a_town_signNumbers), ((ad_this_town 5), cI G 5 a_town_workNoise)]) (wc := [(h_this, oX9 ad_this v_keptCount), ((ad_this 9), oX5 ad_this_future v_future_turned), ((ad_this_future 1), cJ G 3 a_future_came), ((ad_this_future 0), cJ G 3 a_future_stayed), ((ad_this 8), oX5 ad_this_now q37.2.1), ((ad_this_now 1), cJ G 3 q37.2.2.1), ((ad_this_now 0), cJ G 3 q37.2.2.2), ((ad_this 2), oX8 ad_this_town v_town_signCount v_town_houseCount v_town_boatCount v_town_workCount v_town_turnCost v_town_boatDayCost), ((ad_this_town 0), cI G 3 a_town_lighter), ((ad_this_town 5), cI G 5 a_town_workNoise)]) (wr := [((ad_this 4), oX1 ad_this_book v_book_days), ((ad_this_book 0), cI G 5 a_book_signs), ((ad_this_book 1), cI G 5 a_book_works), ((ad_this_town 1), cI G 16 a_town_signNumbers)]) (w1 := [(h_this, oX9 ad_this v_keptCount), ((ad_this 9), oX5 ad_this_future q50.1), ((ad_this_future 1), cJ G 3 q50.2.1), ((ad_this_future 0), cJ G 3 q50.2.2), ((ad_this 8), oX5 ad_this_now q37.2.1), ((ad_this_now 1), cJ G 3 q37.2.2.1), ((ad_this_now 0), cJ G 3 q37.2.2.2), ((ad_this 2), oX8 ad_this_town v_town_signCount v_town_houseCount v_town_boatCount v_town_workCount v_town_turnCost v_town_boatDayCost), ((ad_this_town 0), cI G 3 a_town_lighter), ((ad_this_town 5), cI G 5 a_town_workNoise)]) (va_runV (As := [.int x1, .int x2]) (rest := []) ⟨hx, hb, hml, hown, hg⟩ (c_X9_lookAhead l G x1 x2 h_this ad_this ad_this_future ad_this_now ad_this_town v_keptCount v_future_turned a_future_came a_future_stayed q37.2.1 q37.2.2.1 q37.2.2.2 v_town_signCount v_town_houseCount v_town_boatCount v_town_workCount v_town_turnCost v_town_boatDayCost a_town_lighter a_town_workNoise q50 c_50 H.size) (cwV 2 hg (gV wd_3_46 wd_3_48 wd_0_15 wd_1_1 wd_3_49) rfl rfl rfl hdV_X9_lookAhead ⟨(Nat.le_of_ble_eq_true rfl), (Nat.le_of_ble_eq_true rfl)⟩) (preV hc hW [0, 4, 5, 6, 7, 8, 9, 10, 11, 13] rfl (by decide) rfl rfl) rfl rfl hl.1 rfl (lv_room (Nat.le_of_ble_eq_true rfl)) dX9_near_50 ⟨Nat.zero_le _, Nat.zero_le _⟩) hA hW [0, 4, 5, 6, 7, 8, 9, 10, 11, 13] [1, 2, 3, 12] [4, 0, 1, 2, 5, 6, 7, 8, 9, 10, 11, 12, 3, 13] rfl rfl (by decide) (by decide) rfl (by decide) (fun H locs hW => ?_)
          refine lv_aload_n hx hb dX9_near_53 rfl (lv_at hl 0 rfl) ?_
          refine va_get (D := G.1) (ci := 8) (v := .ref ((ad_this 9))) (C := RX9) (T := TX9) (N := 13) hx hb hg hu_X9 hown hc.1 hW.1 0 rfl rfl 9 (by decide) (hg _ wd_2_104) (fun _ h9 => h9) rfl dX9_near_54 ?_
          refine va_get (D := G.1) (ci := 4) (v := .long q50.1) (C := RX5) (T := TX5) (N := 3) hx hb hg hu_X5 hown hc.1 hW.1 4 rfl rfl 2 (by decide) (hg _ wd_1_144) (fun _ h9 => h9) rfl dX9_near_57 ?_
          refine lv_aload_n hx hb dX9_near_60 rfl (lv_at hl 0 rfl) ?_
          refine va_get (D := G.1) (ci := 8) (v := .ref ((ad_this 9))) (C := RX9) (T := TX9) (N := 13) hx hb hg hu_X9 hown hc.1 hW.1 0 rfl rfl 9 (by decide) (hg _ wd_2_104) (fun _ h9 => h9) rfl dX9_near_61 ?_
          obtain ⟨q64, c_64, hF⟩ := bd_el hF
          refine wcJ (ws' := [(h_this, oX9 ad_this v_keptCount), ((ad_this 4), oX1 ad_this_book v_book_days), ((ad_this_book 0), cI G 5 a_book_signs), ((ad_this_book 1), cI G 5 a_book_works), ((ad_this 9), oX5 ad_this_future q50.1), ((ad_this_future 1), cJ G 3 q50.2.1), ((ad_this_future 0), cJ G 3 q50.2.2), ((ad_this 8), oX5 ad_this_now q37.2.1), ((ad_this_now 1), cJ G 3 q37.2.2.1), ((ad_this_now 0), cJ G 3 q37.2.2.2), ((ad_this 2), oX8 ad_this_town v_town_signCount v_town_houseCount v_town_boatCount v_town_workCount v_town_turnCost v_town_boatDayCost), ((ad_this_town 0), cI G 3 a_town_lighter), ((ad_this_town 1), cI G 16 a_town_signNumbers), ((ad_this_town 5), cI G 5 a_town_workNoise)]) (wc := [((ad_this 9), oX5 ad_this_future q50.1), ((ad_this_future 1), cJ G 3 q50.2.1), ((ad_this_future 0), cJ G 3 q50.2.2)]) (wr := [(h_this, oX9 ad_this v_keptCount), ((ad_this 4), oX1 ad_this_book v_book_days), ((ad_this_book 0), cI G 5 a_book_signs), ((ad_this_book 1), cI G 5 a_book_works), ((ad_this 8), oX5 ad_this_now q37.2.1), ((ad_this_now 1), cJ G 3 q37.2.2.1), ((ad_this_now 0), cJ G 3 q37.2.2.2), ((ad_this 2), oX8 ad_this_town v_town_signCount v_town_houseCount v_town_boatCount v_town_workCount v_town_turnCost v_town_boatDayCost), ((ad_this_town 0), cI G 3 a_town_lighter), ((ad_this_town 1), cI G 16 a_town_signNumbers), ((ad_this_town 5), cI G 5 a_town_workNoise)]) (w1 := [((ad_this 9), oX5 ad_this_future q50.1), ((ad_this_future 1), cJ G 3 q50.2.1), ((ad_this_future 0), cJ G 3 q50.2.2)]) (va_runV (As := []) (rest := [.long q50.1]) ⟨hx, hb, hml, hown, hg⟩ (c_X5_all l G ((ad_this 9)) ad_this_future q50.1 q50.2.1 q50.2.2 q64 c_64 H.size) (cwV 0 hg (gV wd_3_55 wd_3_56 wd_3_57 wd_1_6 wd_3_58) rfl rfl rfl hdV_X5_all ⟨(Nat.le_of_ble_eq_true rfl), (Nat.le_of_ble_eq_true rfl)⟩) (preV hc hW [4, 5, 6] rfl (by decide) rfl rfl) rfl rfl hl.1 rfl (lv_room (Nat.le_of_ble_eq_true rfl)) dX9_near_64 ⟨Nat.zero_le _, Nat.zero_le _⟩) hA hW [4, 5, 6] [0, 1, 2, 3, 7, 8, 9, 10, 11, 12, 13] [0, 1, 2, 3, 11, 12, 13, 4, 5, 6, 7, 8, 9, 10] rfl rfl (by decide) (by decide) rfl (by decide) (fun H locs hW => ?_)
          refine lv_iload_n hx hb dX9_near_67 rfl (lv_at hl 3 rfl) ?_
          obtain ⟨q68, c_68, hF⟩ := bd_el hF
          refine wcJ (ws' := [(h_this, oX9 ad_this v_keptCount), ((ad_this 4), oX1 ad_this_book v_book_days), ((ad_this_book 0), cI G 5 a_book_signs), ((ad_this_book 1), cI G 5 a_book_works), ((ad_this 9), oX5 ad_this_future q50.1), ((ad_this_future 1), cJ G 3 q50.2.1), ((ad_this_future 0), cJ G 3 q50.2.2), ((ad_this 8), oX5 ad_this_now q37.2.1), ((ad_this_now 1), cJ G 3 q37.2.2.1), ((ad_this_now 0), cJ G 3 q37.2.2.2), ((ad_this 2), oX8 ad_this_town v_town_signCount v_town_houseCount v_town_boatCount v_town_workCount v_town_turnCost v_town_boatDayCost), ((ad_this_town 0), cI G 3 a_town_lighter), ((ad_this_town 1), cI G 16 a_town_signNumbers), ((ad_this_town 5), cI G 5 a_town_workNoise)]) (wc := []) (wr := [(h_this, oX9 ad_this v_keptCount), ((ad_this 4), oX1 ad_this_book v_book_days), ((ad_this_book 0), cI G 5 a_book_signs), ((ad_this_book 1), cI G 5 a_book_works), ((ad_this 9), oX5 ad_this_future q50.1), ((ad_this_future 1), cJ G 3 q50.2.1), ((ad_this_future 0), cJ G 3 q50.2.2), ((ad_this 8), oX5 ad_this_now q37.2.1), ((ad_this_now 1), cJ G 3 q37.2.2.1), ((ad_this_now 0), cJ G 3 q37.2.2.2), ((ad_this 2), oX8 ad_this_town v_town_signCount v_town_houseCount v_town_boatCount v_town_workCount v_town_turnCost v_town_boatDayCost), ((ad_this_town 0), cI G 3 a_town_lighter), ((ad_this_town 1), cI G 16 a_town_signNumbers), ((ad_this_town 5), cI G 5 a_town_workNoise)]) (w1 := []) (va_runS (As := [.long q50.1, .long q64, .int x3]) (rest := []) ⟨hx, hb, hml, hown, hg⟩ (c_X9_inLowestTerms l G q50.1 q64 x3 q68 c_68 H.size) (va_cwS 3 hg (gS wd_3_36 wd_3_37 wd_1_1 wd_3_38) rfl rfl rfl hdS_X9_inLowestTerms ⟨(Nat.le_of_ble_eq_true rfl), (Nat.le_of_ble_eq_true rfl)⟩) (preS hc hW [] rfl (by decide)) rfl rfl hl.1 rfl (lv_room (Nat.le_of_ble_eq_true rfl)) dX9_near_68 ⟨Nat.zero_le _, Nat.zero_le _⟩) hA hW [] [0, 1, 2, 3, 4, 5, 6, 7, 8, 9, 10, 11, 12, 13] [0, 1, 2, 3, 4, 5, 6, 7, 8, 9, 10, 11, 12, 13] rfl rfl (by decide) (by decide) rfl (by decide) (fun H locs hW => ?_)
          obtain rfl := Option.some.inj hF
          exact hret _ _ _ _ hW dX9_near_71
        · have hF := ite_t hF c_40
          refine lv_ldc2 (v := (-4)) hx hb hown (hg _ wd_3_34) dX9_near_43 ?_
          obtain rfl := Option.some.inj hF
          exact hret _ _ _ _ hW dX9_near_46
      · have hF := ite_t hF c_29
        refine lv_ldc2 (v := (-1)) hx hb hown (hg _ wd_2_216) dX9_near_32 ?_
        obtain rfl := Option.some.inj hF
        exact hret _ _ _ _ hW dX9_near_35
theorem dX9_sight_0 : decode cX9_sight 0 = .ok (.iload_n 1, 1) := by decide +kernel
theorem dX9_sight_1 : decode cX9_sight 1 = .ok (.iconst 0, 1) := by decide +kernel
theorem dX9_sight_2 : decode cX9_sight 2 = .ok (.aload_n 0, 1) := by decide +kernel
theorem dX9_sight_3 : decode cX9_sight 3 = .ok (.getfield 26, 3) := by decide +kernel
theorem dX9_sight_6 : decode cX9_sight 6 = .ok (.getfield 110, 3) := by decide +kernel
theorem dX9_sight_9 : decode cX9_sight 9 = .ok (.iconst 1, 1) := by decide +kernel
theorem dX9_sight_10 : decode cX9_sight 10 = .ok (.isub, 1) := by decide +kernel
theorem dX9_sight_11 : decode cX9_sight 11 = .ok (.invokestatic 104, 3) := by decide +kernel
theorem dX9_sight_14 : decode cX9_sight 14 = .ok (.ifCond .eq 26, 3) := by decide +kernel
theorem dX9_sight_17 : decode cX9_sight 17 = .ok (.iload_n 2, 1) := by decide +kernel
theorem dX9_sight_18 : decode cX9_sight 18 = .ok (.aload_n 0, 1) := by decide +kernel
theorem dX9_sight_19 : decode cX9_sight 19 = .ok (.getfield 26, 3) := by decide +kernel
theorem dX9_sight_22 : decode cX9_sight 22 = .ok (.getfield 123, 3) := by decide +kernel
theorem dX9_sight_25 : decode cX9_sight 25 = .ok (.invokestatic 126, 3) := by decide +kernel
theorem dX9_sight_28 : decode cX9_sight 28 = .ok (.ifCond .eq 12, 3) := by decide +kernel
theorem dX9_sight_31 : decode cX9_sight 31 = .ok (.iload_n 3, 1) := by decide +kernel
theorem dX9_sight_32 : decode cX9_sight 32 = .ok (.iconst 0, 1) := by decide +kernel
theorem dX9_sight_33 : decode cX9_sight 33 = .ok (.iconst 1, 1) := by decide +kernel
theorem dX9_sight_34 : decode cX9_sight 34 = .ok (.invokestatic 104, 3) := by decide +kernel
theorem dX9_sight_37 : decode cX9_sight 37 = .ok (.ifCond .ne 7, 3) := by decide +kernel
theorem dX9_sight_40 : decode cX9_sight 40 = .ok (.ldc2_w 146, 3) := by decide +kernel
theorem dX9_sight_43 : decode cX9_sight 43 = .ok (.lreturn, 1) := by decide +kernel
theorem dX9_sight_44 : decode cX9_sight 44 = .ok (.aload_n 0, 1) := by decide +kernel
theorem dX9_sight_45 : decode cX9_sight 45 = .ok (.invokevirtual 148, 3) := by decide +kernel
theorem dX9_sight_48 : decode cX9_sight 48 = .ok (.ifCond .eq 11, 3) := by decide +kernel
theorem dX9_sight_51 : decode cX9_sight 51 = .ok (.aload_n 0, 1) := by decide +kernel
theorem dX9_sight_52 : decode cX9_sight 52 = .ok (.iload_n 2, 1) := by decide +kernel
theorem dX9_sight_53 : decode cX9_sight 53 = .ok (.invokevirtual 176, 3) := by decide +kernel
theorem dX9_sight_56 : decode cX9_sight 56 = .ok (.ifCond .ne 7, 3) := by decide +kernel
theorem dX9_sight_59 : decode cX9_sight 59 = .ok (.ldc2_w 152, 3) := by decide +kernel
theorem dX9_sight_62 : decode cX9_sight 62 = .ok (.lreturn, 1) := by decide +kernel
theorem dX9_sight_63 : decode cX9_sight 63 = .ok (.aload_n 0, 1) := by decide +kernel
theorem dX9_sight_64 : decode cX9_sight 64 = .ok (.getfield 57, 3) := by decide +kernel
theorem dX9_sight_67 : decode cX9_sight 67 = .ok (.aload_n 0, 1) := by decide +kernel
theorem dX9_sight_68 : decode cX9_sight 68 = .ok (.getfield 26, 3) := by decide +kernel
theorem dX9_sight_71 : decode cX9_sight 71 = .ok (.iload_n 1, 1) := by decide +kernel
theorem dX9_sight_72 : decode cX9_sight 72 = .ok (.invokevirtual 180, 3) := by decide +kernel
theorem dX9_sight_75 : decode cX9_sight 75 = .ok (.aload_n 0, 1) := by decide +kernel
theorem dX9_sight_76 : decode cX9_sight 76 = .ok (.getfield 57, 3) := by decide +kernel
theorem dX9_sight_79 : decode cX9_sight 79 = .ok (.invokevirtual 158, 3) := by decide +kernel
theorem dX9_sight_82 : decode cX9_sight 82 = .ok (.ldc2_w 184, 3) := by decide +kernel
theorem dX9_sight_85 : decode cX9_sight 85 = .ok (.lmul, 1) := by decide +kernel
theorem dX9_sight_86 : decode cX9_sight 86 = .ok (.iload_n 3, 1) := by decide +kernel
theorem dX9_sight_87 : decode cX9_sight 87 = .ok (.invokestatic 162, 3) := by decide +kernel
theorem dX9_sight_90 : decode cX9_sight 90 = .ok (.lreturn, 1) := by decide +kernel
def F_X9_sight (x1 : Int32) (x2 : Int32) (x3 : Int32) (v_book_days : Int32) (a_book_signs : Nat → Int32) (a_book_works : Nat → Int32) (v_future_turned : Int64) (a_future_came : Nat → Int64) (a_future_stayed : Nat → Int64) (v_now_turned : Int64) (a_now_came : Nat → Int64) (a_now_stayed : Nat → Int64) (v_town_signCount : Int32) (v_town_workCount : Int32) (a_town_lighter : Nat → Int32) (a_town_signNumbers : Nat → Int32) (a_town_workNoise : Nat → Int32) : Option (Int64 × Int64 × (Nat → Int64) × (Nat → Int64) × Int64 × (Nat → Int64) × (Nat → Int64)) := (F_X9_isWithin x1 0 ((v_town_signCount - 1))).bind (fun q11 => (if q11 = 0 then some ((-1), v_future_turned, a_future_came, a_future_stayed, v_now_turned, a_now_came, a_now_stayed) else (F_X9_isSet x2 v_town_workCount).bind (fun q25 => (if q25 = 0 then some ((-1), v_future_turned, a_future_came, a_future_stayed, v_now_turned, a_now_came, a_now_stayed) else (F_X9_isWithin x3 0 1).bind (fun q34 => (if q34 = 0 then some ((-1), v_future_turned, a_future_came, a_future_stayed, v_now_turned, a_now_came, a_now_stayed) else (F_X9_diaryCanBe v_book_days a_book_signs a_book_works v_now_turned a_now_came a_now_stayed v_town_signCount v_town_workCount a_town_lighter a_town_signNumbers a_town_workNoise).bind (fun q45 => (if q45.1 = 0 then some ((-4), v_future_turned, a_future_came, a_future_stayed, q45.2.1, q45.2.2.1, q45.2.2.2) else (F_X9_nextDayCanBe x2 v_future_turned a_future_came a_future_stayed q45.2.1 q45.2.2.1 q45.2.2.2 v_town_workCount a_town_lighter a_town_workNoise).bind (fun q53 => (if q53.1 = 0 then some ((-4), q53.2.1, q53.2.2.1, q53.2.2.2, q45.2.1, q45.2.2.1, q45.2.2.2) else (F_X5_sightings x1 a_town_signNumbers q53.2.2.1 q53.2.2.2).bind (fun q72 => (F_X5_total q53.2.2.1 q53.2.2.2).bind (fun q79 => (F_X9_inLowestTerms q72 ((q79 * 256)) x3).bind (fun q87 => some (q87, q53.2.1, q53.2.2.1, q53.2.2.2, q45.2.1, q45.2.2.1, q45.2.2.2))))))))))))))
theorem hdV_X9_sight : yX9_sight.cls = RX9 ∧ yX9_sight.cls ≠ "java/lang/invoke/MethodHandle" ∧ yX9_sight.cls ≠ "java/lang/invoke/VarHandle" ∧ (parseMethodDescriptor yX9_sight.desc).map (fun d => d.parameters.length) = some 3 := by decide +kernel
set_option maxHeartbeats 4000000 in
set_option maxRecDepth 100000 in
theorem c_X9_sight (l : Launch) (G : GG) (x1 : Int32) (x2 : Int32) (x3 : Int32) (h_this : Nat) (ad_this : Nat → Nat) (ad_this_book : Nat → Nat) (ad_this_future : Nat → Nat) (ad_this_now : Nat → Nat) (ad_this_town : Nat → Nat) (v_keptCount : Int32) (v_book_days : Int32) (a_book_signs : Nat → Int32) (a_book_works : Nat → Int32) (v_future_turned : Int64) (a_future_came : Nat → Int64) (a_future_stayed : Nat → Int64) (v_now_turned : Int64) (a_now_came : Nat → Int64) (a_now_stayed : Nat → Int64) (v_town_signCount : Int32) (v_town_houseCount : Int32) (v_town_boatCount : Int32) (v_town_workCount : Int32) (v_town_turnCost : Int32) (v_town_boatDayCost : Int32) (a_town_lighter : Nat → Int32) (a_town_signNumbers : Nat → Int32) (a_town_workNoise : Nat → Int32) (out : Int64 × Int64 × (Nat → Int64) × (Nat → Int64) × Int64 × (Nat → Int64) × (Nat → Int64)) (hF : F_X9_sight x1 x2 x3 v_book_days a_book_signs a_book_works v_future_turned a_future_came a_future_stayed v_now_turned a_now_came a_now_stayed v_town_signCount v_town_workCount a_town_lighter a_town_signNumbers a_town_workNoise = some out) : CtrJ l yX9_sight (WS yX9_sight cX9_sight 4 (some .long)) { frames := 7, cells := 0, slots := 0, locals := 160 } G [.ref h_this, .int x1, .int x2, .int x3] [(h_this, oX9 ad_this v_keptCount), ((ad_this 4), oX1 ad_this_book v_book_days), ((ad_this_book 0), cI G 5 a_book_signs), ((ad_this_book 1), cI G 5 a_book_works), ((ad_this 9), oX5 ad_this_future v_future_turned), ((ad_this_future 1), cJ G 3 a_future_came), ((ad_this_future 0), cJ G 3 a_future_stayed), ((ad_this 8), oX5 ad_this_now v_now_turned), ((ad_this_now 1), cJ G 3 a_now_came), ((ad_this_now 0), cJ G 3 a_now_stayed), ((ad_this 2), oX8 ad_this_town v_town_signCount v_town_houseCount v_town_boatCount v_town_workCount v_town_turnCost v_town_boatDayCost), ((ad_this_town 0), cI G 3 a_town_lighter), ((ad_this_town 1), cI G 16 a_town_signNumbers), ((ad_this_town 5), cI G 5 a_town_workNoise)] [(h_this, oX9 ad_this v_keptCount), ((ad_this 4), oX1 ad_this_book v_book_days), ((ad_this_book 0), cI G 5 a_book_signs), ((ad_this_book 1), cI G 5 a_book_works), ((ad_this 9), oX5 ad_this_future out.2.1), ((ad_this_future 1), cJ G 3 out.2.2.1), ((ad_this_future 0), cJ G 3 out.2.2.2.1), ((ad_this 8), oX5 ad_this_now out.2.2.2.2.1), ((ad_this_now 1), cJ G 3 out.2.2.2.2.2.1), ((ad_this_now 0), cJ G 3 out.2.2.2.2.2.2), ((ad_this 2), oX8 ad_this_town v_town_signCount v_town_houseCount v_town_boatCount v_town_workCount v_town_turnCost v_town_boatDayCost), ((ad_this_town 0), cI G 3 a_town_lighter), ((ad_this_town 1), cI G 16 a_town_signNumbers), ((ad_this_town 5), cI G 5 a_town_workNoise)] out.1 := by
  refine startJ (cc := cX9_sight) (maxL := 4) (by decide) rfl (Nat.le_of_ble_eq_true rfl) ?_
  intro p e s m args below meth c A Q hx hb hml hts hown hc hA hret ls H locs hl hW
  have hown : s.vm.findClass RX9 = some m.cls := hown
  have hg : ∀ w ∈ GOODS, w.before _ s = true := fun w h => hts w (List.mem_cons_of_mem _ h)
  have hl : lv_has ls 4 [(0, .ref h_this), (1, .int x1), (2, .int x2), (3, .int x3)] := hl
  rw [F_X9_sight] at hF
  refine lv_iload_n hx hb dX9_sight_0 rfl (lv_at hl 1 rfl) ?_
  refine lv_iconst (v := 0) hx hb dX9_sight_1 (by decide) ?_
  refine lv_aload_n hx hb dX9_sight_2 rfl (lv_at hl 0 rfl) ?_
  refine va_get (D := G.1) (ci := 8) (v := .ref ((ad_this 2))) (C := RX9) (T := TX9) (N := 13) hx hb hg hu_X9 hown hc.1 hW.1 0 rfl rfl 2 (by decide) (hg _ wd_2_97) (fun _ h9 => h9) rfl dX9_sight_3 ?_
  refine va_get (D := G.1) (ci := 7) (v := .int v_town_signCount) (C := RX8) (T := TX8) (N := 13) hx hb hg hu_X8 hown hc.1 hW.1 10 rfl rfl 7 (by decide) (hg _ wd_1_77) (fun _ h9 => h9) rfl dX9_sight_6 ?_
  refine lv_iconst (v := 1) hx hb dX9_sight_9 (by decide) ?_
  refine lv_isub hx hb dX9_sight_10 ?_
  obtain ⟨q11, c_11, hF⟩ := bd_el hF
  refine wcZ (ws' := [(h_this, oX9 ad_this v_keptCount), ((ad_this 4), oX1 ad_this_book v_book_days), ((ad_this_book 0), cI G 5 a_book_signs), ((ad_this_book 1), cI G 5 a_book_works), ((ad_this 9), oX5 ad_this_future v_future_turned), ((ad_this_future 1), cJ G 3 a_future_came), ((ad_this_future 0), cJ G 3 a_future_stayed), ((ad_this 8), oX5 ad_this_now v_now_turned), ((ad_this_now 1), cJ G 3 a_now_came), ((ad_this_now 0), cJ G 3 a_now_stayed), ((ad_this 2), oX8 ad_this_town v_town_signCount v_town_houseCount v_town_boatCount v_town_workCount v_town_turnCost v_town_boatDayCost), ((ad_this_town 0), cI G 3 a_town_lighter), ((ad_this_town 1), cI G 16 a_town_signNumbers), ((ad_this_town 5), cI G 5 a_town_workNoise)]) (wc := []) (wr := [(h_this, oX9 ad_this v_keptCount), ((ad_this 4), oX1 ad_this_book v_book_days), ((ad_this_book 0), cI G 5 a_book_signs), ((ad_this_book 1), cI G 5 a_book_works), ((ad_this 9), oX5 ad_this_future v_future_turned), ((ad_this_future 1), cJ G 3 a_future_came), ((ad_this_future 0), cJ G 3 a_future_stayed), ((ad_this 8), oX5 ad_this_now v_now_turned), ((ad_this_now 1), cJ G 3 a_now_came), ((ad_this_now 0), cJ G 3 a_now_stayed), ((ad_this 2), oX8 ad_this_town v_town_signCount v_town_houseCount v_town_boatCount v_town_workCount v_town_turnCost v_town_boatDayCost), ((ad_this_town 0), cI G 3 a_town_lighter), ((ad_this_town 1), cI G 16 a_town_signNumbers), ((ad_this_town 5), cI G 5 a_town_workNoise)]) (w1 := []) (va_runS (As := [.int x1, .int 0, .int ((v_town_signCount - 1))]) (rest := []) ⟨hx, hb, hml, hown, hg⟩ (c_X9_isWithin l G x1 0 ((v_town_signCount - 1)) q11 c_11 H.size) (va_cwS 3 hg (gS wd_2_140 wd_2_47 wd_1_1 wd_2_48) rfl rfl rfl hdS_X9_isWithin ⟨(Nat.le_of_ble_eq_true rfl), (Nat.le_of_ble_eq_true rfl)⟩) (preS hc hW [] rfl (by decide)) rfl rfl hl.1 rfl (lv_room (Nat.le_of_ble_eq_true rfl)) dX9_sight_11 ⟨Nat.zero_le _, Nat.zero_le _⟩) hA hW [] [0, 1, 2, 3, 4, 5, 6, 7, 8, 9, 10, 11, 12, 13] [0, 1, 2, 3, 4, 5, 6, 7, 8, 9, 10, 11, 12, 13] rfl rfl (by decide) (by decide) rfl (by decide) (fun z_11 H locs hW => ?_)
  refine lv_if_eq (tgt := 40) hx hb dX9_sight_14 (by decide) (fun c_14 => ?_) (fun c_14 => ?_)
  · have hF := ite_t hF c_14
    refine lv_ldc2 (v := (-1)) hx hb hown (hg _ wd_2_216) dX9_sight_40 ?_
    obtain rfl := Option.some.inj hF
    exact hret _ _ _ _ hW dX9_sight_43
  · have hF := ite_f hF c_14
    refine lv_iload_n hx hb dX9_sight_17 rfl (lv_at hl 2 rfl) ?_
    refine lv_aload_n hx hb dX9_sight_18 rfl (lv_at hl 0 rfl) ?_
    refine va_get (D := G.1) (ci := 8) (v := .ref ((ad_this 2))) (C := RX9) (T := TX9) (N := 13) hx hb hg hu_X9 hown hc.1 hW.1 0 rfl rfl 2 (by decide) (hg _ wd_2_97) (fun _ h9 => h9) rfl dX9_sight_19 ?_
    refine va_get (D := G.1) (ci := 7) (v := .int v_town_workCount) (C := RX8) (T := TX8) (N := 13) hx hb hg hu_X8 hown hc.1 hW.1 10 rfl rfl 10 (by decide) (hg _ wd_1_85) (fun _ h9 => h9) rfl dX9_sight_22 ?_
    obtain ⟨q25, c_25, hF⟩ := bd_el hF
    refine wcZ (ws' := [(h_this, oX9 ad_this v_keptCount), ((ad_this 4), oX1 ad_this_book v_book_days), ((ad_this_book 0), cI G 5 a_book_signs), ((ad_this_book 1), cI G 5 a_book_works), ((ad_this 9), oX5 ad_this_future v_future_turned), ((ad_this_future 1), cJ G 3 a_future_came), ((ad_this_future 0), cJ G 3 a_future_stayed), ((ad_this 8), oX5 ad_this_now v_now_turned), ((ad_this_now 1), cJ G 3 a_now_came), ((ad_this_now 0), cJ G 3 a_now_stayed), ((ad_this 2), oX8 ad_this_town v_town_signCount v_town_houseCount v_town_boatCount v_town_workCount v_town_turnCost v_town_boatDayCost), ((ad_this_town 0), cI G 3 a_town_lighter), ((ad_this_town 1), cI G 16 a_town_signNumbers), ((ad_this_town 5), cI G 5 a_town_workNoise)]) (wc := []) (wr := [(h_this, oX9 ad_this v_keptCount), ((ad_this 4), oX1 ad_this_book v_book_days), ((ad_this_book 0), cI G 5 a_book_signs), ((ad_this_book 1), cI G 5 a_book_works), ((ad_this 9), oX5 ad_this_future v_future_turned), ((ad_this_future 1), cJ G 3 a_future_came), ((ad_this_future 0), cJ G 3 a_future_stayed), ((ad_this 8), oX5 ad_this_now v_now_turned), ((ad_this_now 1), cJ G 3 a_now_came), ((ad_this_now 0), cJ G 3 a_now_stayed), ((ad_this 2), oX8 ad_this_town v_town_signCount v_town_houseCount v_town_boatCount v_town_workCount v_town_turnCost v_town_boatDayCost), ((ad_this_town 0), cI G 3 a_town_lighter), ((ad_this_town 1), cI G 16 a_town_signNumbers), ((ad_this_town 5), cI G 5 a_town_workNoise)]) (w1 := []) (va_runS (As := [.int x2, .int v_town_workCount]) (rest := []) ⟨hx, hb, hml, hown, hg⟩ (c_X9_isSet l G x2 v_town_workCount q25 c_25 H.size) (va_cwS 2 hg (gS wd_2_166 wd_2_167 wd_1_1 wd_2_168) rfl rfl rfl hdS_X9_isSet ⟨(Nat.le_of_ble_eq_true rfl), (Nat.le_of_ble_eq_true rfl)⟩) (preS hc hW [] rfl (by decide)) rfl rfl hl.1 rfl (lv_room (Nat.le_of_ble_eq_true rfl)) dX9_sight_25 ⟨Nat.zero_le _, Nat.zero_le _⟩) hA hW [] [0, 1, 2, 3, 4, 5, 6, 7, 8, 9, 10, 11, 12, 13] [0, 1, 2, 3, 4, 5, 6, 7, 8, 9, 10, 11, 12, 13] rfl rfl (by decide) (by decide) rfl (by decide) (fun z_25 H locs hW => ?_)
    refine lv_if_eq (tgt := 40) hx hb dX9_sight_28 (by decide) (fun c_28 => ?_) (fun c_28 => ?_)
    · have hF := ite_t hF c_28
      refine lv_ldc2 (v := (-1)) hx hb hown (hg _ wd_2_216) dX9_sight_40 ?_
      obtain rfl := Option.some.inj hF
      exact hret _ _ _ _ hW dX9_sight_43
    · have hF := ite_f hF c_28
      refine lv_iload_n hx hb dX9_sight_31 rfl (lv_at hl 3 rfl) ?_
      refine lv_iconst (v := 0) hx hb dX9_sight_32 (by decide) ?_
      refine lv_iconst (v := 1) hx hb dX9_sight_33 (by decide) ?_
      obtain ⟨q34, c_34, hF⟩ := bd_el hF
      refine wcZ (ws' := [(h_this, oX9 ad_this v_keptCount), ((ad_this 4), oX1 ad_this_book v_book_days), ((ad_this_book 0), cI G 5 a_book_signs), ((ad_this_book 1), cI G 5 a_book_works), ((ad_this 9), oX5 ad_this_future v_future_turned), ((ad_this_future 1), cJ G 3 a_future_came), ((ad_this_future 0), cJ G 3 a_future_stayed), ((ad_this 8), oX5 ad_this_now v_now_turned), ((ad_this_now 1), cJ G 3 a_now_came), ((ad_this_now 0), cJ G 3 a_now_stayed), ((ad_this 2), oX8 ad_this_town v_town_signCount v_town_houseCount v_town_boatCount v_town_workCount v_town_turnCost v_town_boatDayCost), ((ad_this_town 0), cI G 3 a_town_lighter), ((ad_this_town 1), cI G 16 a_town_signNumbers), ((ad_this_town 5), cI G 5 a_town_workNoise)]) (wc := []) (wr := [(h_this, oX9 ad_this v_keptCount), ((ad_this 4), oX1 ad_this_book v_book_days), ((ad_this_book 0), cI G 5 a_book_signs), ((ad_this_book 1), cI G 5 a_book_works), ((ad_this 9), oX5 ad_this_future v_future_turned), ((ad_this_future 1), cJ G 3 a_future_came), ((ad_this_future 0), cJ G 3 a_future_stayed), ((ad_this 8), oX5 ad_this_now v_now_turned), ((ad_this_now 1), cJ G 3 a_now_came), ((ad_this_now 0), cJ G 3 a_now_stayed), ((ad_this 2), oX8 ad_this_town v_town_signCount v_town_houseCount v_town_boatCount v_town_workCount v_town_turnCost v_town_boatDayCost), ((ad_this_town 0), cI G 3 a_town_lighter), ((ad_this_town 1), cI G 16 a_town_signNumbers), ((ad_this_town 5), cI G 5 a_town_workNoise)]) (w1 := []) (va_runS (As := [.int x3, .int 0, .int 1]) (rest := []) ⟨hx, hb, hml, hown, hg⟩ (c_X9_isWithin l G x3 0 1 q34 c_34 H.size) (va_cwS 3 hg (gS wd_2_140 wd_2_47 wd_1_1 wd_2_48) rfl rfl rfl hdS_X9_isWithin ⟨(Nat.le_of_ble_eq_true rfl), (Nat.le_of_ble_eq_true rfl)⟩) (preS hc hW [] rfl (by decide)) rfl rfl hl.1 rfl (lv_room (Nat.le_of_ble_eq_true rfl)) dX9_sight_34 ⟨Nat.zero_le _, Nat.zero_le _⟩) hA hW [] [0, 1, 2, 3, 4, 5, 6, 7, 8, 9, 10, 11, 12, 13] [0, 1, 2, 3, 4, 5, 6, 7, 8, 9, 10, 11, 12, 13] rfl rfl (by decide) (by decide) rfl (by decide) (fun z_34 H locs hW => ?_)
      refine lv_if_ne (tgt := 44) hx hb dX9_sight_37 (by decide) (fun c_37 => ?_) (fun c_37 => ?_)
      · have hF := ite_f hF c_37
        refine lv_aload_n hx hb dX9_sight_44 rfl (lv_at hl 0 rfl) ?_
        obtain ⟨q45, c_45, hF⟩ := bd_el hF
        refine wcZ (ws' := [(h_this, oX9 ad_this v_keptCount), ((ad_this 4), oX1 ad_this_book v_book_days), ((ad_this_book 0), cI G 5 a_book_signs), ((ad_this_book 1), cI G 5 a_book_works), ((ad_this 9), oX5 ad_this_future v_future_turned), ((ad_this_future 1), cJ G 3 a_future_came), ((ad_this_future 0), cJ G 3 a_future_stayed), ((ad_this 8), oX5 ad_this_now q45.2.1), ((ad_this_now 1), cJ G 3 q45.2.2.1), ((ad_this_now 0), cJ G 3 q45.2.2.2), ((ad_this 2), oX8 ad_this_town v_town_signCount v_town_houseCount v_town_boatCount v_town_workCount v_town_turnCost v_town_boatDayCost), ((ad_this_town 0), cI G 3 a_town_lighter), ((ad_this_town 1), cI G 16 a_town_signNumbers), ((ad_this_town 5), cI G 5 a_town_workNoise)]) (wc := [(h_this, oX9 ad_this v_keptCount), ((ad_this 4), oX1 ad_this_book v_book_days), ((ad_this_book 0), cI G 5 a_book_signs), ((ad_this_book 1), cI G 5 a_book_works), ((ad_this 8), oX5 ad_this_now v_now_turned), ((ad_this_now 1), cJ G 3 a_now_came), ((ad_this_now 0), cJ G 3 a_now_stayed), ((ad_this 2), oX8 ad_this_town v_town_signCount v_town_houseCount v_town_boatCount v_town_workCount v_town_turnCost v_town_boatDayCost), ((ad_this_town 0), cI G 3 a_town_lighter), ((ad_this_town 1), cI G 16 a_town_signNumbers), ((ad_this_town 5), cI G 5 a_town_workNoise)]) (wr := [((ad_this 9), oX5 ad_this_future v_future_turned), ((ad_this_future 1), cJ G 3 a_future_came), ((ad_this_future 0), cJ G 3 a_future_stayed)]) (w1 := [(h_this, oX9 ad_this v_keptCount), ((ad_this 4), oX1 ad_this_book v_book_days), ((ad_this_book 0), cI G 5 a_book_signs), ((ad_this_book 1), cI G 5 a_book_works), ((ad_this 8), oX5 ad_this_now q45.2.1), ((ad_this_now 1), cJ G 3 q45.2.2.1), ((ad_this_now 0), cJ G 3 q45.2.2.2), ((ad_this 2), oX8 ad_this_town v_town_signCount v_town_houseCount v_town_boatCount v_town_workCount v_town_turnCost v_town_boatDayCost), ((ad_this_town 0), cI G 3 a_town_lighter), ((ad_this_town 1), cI G 16 a_town_signNumbers), ((ad_this_town 5), cI G 5 a_town_workNoise)]) (va_runV (As := []) (rest := []) ⟨hx, hb, hml, hown, hg⟩ (c_X9_diaryCanBe l G h_this ad_this ad_this_book ad_this_now ad_this_town v_keptCount v_book_days a_book_signs a_book_works v_now_turned a_now_came a_now_stayed v_town_signCount v_town_houseCount v_town_boatCount v_town_workCount v_town_turnCost v_town_boatDayCost a_town_lighter a_town_signNumbers a_town_workNoise q45 c_45 H.size) (cwV 0 hg (gV wd_2_217 wd_2_219 wd_0_11 wd_1_1 wd_2_220) rfl rfl rfl hdV_X9_diaryCanBe ⟨(Nat.le_of_ble_eq_true rfl), (Nat.le_of_ble_eq_true rfl)⟩) (preV hc hW [0, 1, 2, 3, 7, 8, 9, 10, 11, 12, 13] rfl (by decide) rfl rfl) rfl rfl hl.1 rfl (lv_room (Nat.le_of_ble_eq_true rfl)) dX9_sight_45 ⟨Nat.zero_le _, Nat.zero_le _⟩) hA hW [0, 1, 2, 3, 7, 8, 9, 10, 11, 12, 13] [4, 5, 6] [3, 4, 5, 6, 0, 1, 2, 7, 8, 9, 10, 11, 12, 13] rfl rfl (by decide) (by decide) rfl (by decide) (fun z_45 H locs hW => ?_)
        refine lv_if_eq (tgt := 59) hx hb dX9_sight_48 (by decide) (fun c_48 => ?_) (fun c_48 => ?_)
        · have hF := ite_t hF c_48
          refine lv_ldc2 (v := (-4)) hx hb hown (hg _ wd_3_34) dX9_sight_59 ?_
          obtain rfl := Option.some.inj hF
          exact hret _ _ _ _ hW dX9_sight_62
        · have hF := ite_f hF c_48
          refine lv_aload_n hx hb dX9_sight_51 rfl (lv_at hl 0 rfl) ?_
          refine lv_iload_n hx hb dX9_sight_52 rfl (lv_at hl 2 rfl) ?_
          obtain ⟨q53, c_53, hF⟩ := bd_el hF
          refine wcZ (ws' := [(h_this, oX9 ad_this v_keptCount), ((ad_this 4), oX1 ad_this_book v_book_days), ((ad_this_book 0), cI G 5 a_book_signs), ((ad_this_book 1), cI G 5 a_book_works), ((ad_this 9), oX5 ad_this_future q53.2.1), ((ad_this_future 1), cJ G 3 q53.2.2.1), ((ad_this_future 0), cJ G 3 q53.2.2.2), ((ad_this 8), oX5 ad_this_now q45.2.1), ((ad_this_now 1), cJ G 3 q45.2.2.1), ((ad_this_now 0), cJ G 3 q45.2.2.2), ((ad_this 2), oX8 ad_this_town v_town_signCount v_town_houseCount v_town_boatCount v_town_workCount v_town_turnCost v_town_boatDayCost), ((ad_this_town 0), cI G 3 a_town_lighter), ((ad_this_town 1), cI G 16 a_town_signNumbers), ((ad_this_town 5), cI G 5 a_town_workNoise)]) (wc := [(h_this, oX9 ad_this v_keptCount), ((ad_this 9), oX5 ad_this_future v_future_turned), ((ad_this_future 1), cJ G 3 a_future_came), ((ad_this_future 0), cJ G 3 a_future_stayed), ((ad_this 8), oX5 ad_this_now q45.2.1), ((ad_this_now 1), cJ G 3 q45.2.2.1), ((ad_this_now 0), cJ G 3 q45.2.2.2), ((ad_this 2), oX8 ad_this_town v_town_signCount v_town_houseCount v_town_boatCount v_town_workCount v_town_turnCost v_town_boatDayCost), ((ad_this_town 0), cI G 3 a_town_lighter), ((ad_this_town 5), cI G 5 a_town_workNoise)]) (wr := [((ad_this 4), oX1 ad_this_book v_book_days), ((ad_this_book 0), cI G 5 a_book_signs), ((ad_this_book 1), cI G 5 a_book_works), ((ad_this_town 1), cI G 16 a_town_signNumbers)]) (w1 := [(h_this, oX9 ad_this v_keptCount), ((ad_this 9), oX5 ad_this_future q53.2.1), ((ad_this_future 1), cJ G 3 q53.2.2.1), ((ad_this_future 0), cJ G 3 q53.2.2.2), ((ad_this 8), oX5 ad_this_now q45.2.1), ((ad_this_now 1), cJ G 3 q45.2.2.1), ((ad_this_now 0), cJ G 3 q45.2.2.2), ((ad_this 2), oX8 ad_this_town v_town_signCount v_town_houseCount v_town_boatCount v_town_workCount v_town_turnCost v_town_boatDayCost), ((ad_this_town 0), cI G 3 a_town_lighter), ((ad_this_town 5), cI G 5 a_town_workNoise)]) (va_runV (As := [.int x2]) (rest := []) ⟨hx, hb, hml, hown, hg⟩ (c_X9_nextDayCanBe l G x2 h_this ad_this ad_this_future ad_this_now ad_this_town v_keptCount v_future_turned a_future_came a_future_stayed q45.2.1 q45.2.2.1 q45.2.2.2 v_town_signCount v_town_houseCount v_town_boatCount v_town_workCount v_town_turnCost v_town_boatDayCost a_town_lighter a_town_workNoise q53 c_53 H.size) (cwV 1 hg (gV wd_3_64 wd_3_66 wd_0_16 wd_1_1 wd_3_67) rfl rfl rfl hdV_X9_nextDayCanBe ⟨(Nat.le_of_ble_eq_true rfl), (Nat.le_of_ble_eq_true rfl)⟩) (preV hc hW [0, 4, 5, 6, 7, 8, 9, 10, 11, 13] rfl (by decide) rfl rfl) rfl rfl hl.1 rfl (lv_room (Nat.le_of_ble_eq_true rfl)) dX9_sight_53 ⟨Nat.zero_le _, Nat.zero_le _⟩) hA hW [0, 4, 5, 6, 7, 8, 9, 10, 11, 13] [1, 2, 3, 12] [4, 0, 1, 2, 5, 6, 7, 8, 9, 10, 11, 12, 3, 13] rfl rfl (by decide) (by decide) rfl (by decide) (fun z_53 H locs hW => ?_)
          refine lv_if_ne (tgt := 63) hx hb dX9_sight_56 (by decide) (fun c_56 => ?_) (fun c_56 => ?_)
          · have hF := ite_f hF c_56
            refine lv_aload_n hx hb dX9_sight_63 rfl (lv_at hl 0 rfl) ?_
            refine va_get (D := G.1) (ci := 8) (v := .ref ((ad_this 9))) (C := RX9) (T := TX9) (N := 13) hx hb hg hu_X9 hown hc.1 hW.1 0 rfl rfl 9 (by decide) (hg _ wd_2_104) (fun _ h9 => h9) rfl dX9_sight_64 ?_
            refine lv_aload_n hx hb dX9_sight_67 rfl (lv_at hl 0 rfl) ?_
            refine va_get (D := G.1) (ci := 8) (v := .ref ((ad_this 2))) (C := RX9) (T := TX9) (N := 13) hx hb hg hu_X9 hown hc.1 hW.1 0 rfl rfl 2 (by decide) (hg _ wd_2_97) (fun _ h9 => h9) rfl dX9_sight_68 ?_
            refine lv_iload_n hx hb dX9_sight_71 rfl (lv_at hl 1 rfl) ?_
            obtain ⟨q72, c_72, hF⟩ := bd_el hF
            refine wcJ (ws' := [(h_this, oX9 ad_this v_keptCount), ((ad_this 4), oX1 ad_this_book v_book_days), ((ad_this_book 0), cI G 5 a_book_signs), ((ad_this_book 1), cI G 5 a_book_works), ((ad_this 9), oX5 ad_this_future q53.2.1), ((ad_this_future 1), cJ G 3 q53.2.2.1), ((ad_this_future 0), cJ G 3 q53.2.2.2), ((ad_this 8), oX5 ad_this_now q45.2.1), ((ad_this_now 1), cJ G 3 q45.2.2.1), ((ad_this_now 0), cJ G 3 q45.2.2.2), ((ad_this 2), oX8 ad_this_town v_town_signCount v_town_houseCount v_town_boatCount v_town_workCount v_town_turnCost v_town_boatDayCost), ((ad_this_town 0), cI G 3 a_town_lighter), ((ad_this_town 1), cI G 16 a_town_signNumbers), ((ad_this_town 5), cI G 5 a_town_workNoise)]) (wc := [((ad_this 9), oX5 ad_this_future q53.2.1), ((ad_this 2), oX8 ad_this_town v_town_signCount v_town_houseCount v_town_boatCount v_town_workCount v_town_turnCost v_town_boatDayCost), ((ad_this_town 1), cI G 16 a_town_signNumbers), ((ad_this_future 1), cJ G 3 q53.2.2.1), ((ad_this_future 0), cJ G 3 q53.2.2.2)]) (wr := [(h_this, oX9 ad_this v_keptCount), ((ad_this 4), oX1 ad_this_book v_book_days), ((ad_this_book 0), cI G 5 a_book_signs), ((ad_this_book 1), cI G 5 a_book_works), ((ad_this 8), oX5 ad_this_now q45.2.1), ((ad_this_now 1), cJ G 3 q45.2.2.1), ((ad_this_now 0), cJ G 3 q45.2.2.2), ((ad_this_town 0), cI G 3 a_town_lighter), ((ad_this_town 5), cI G 5 a_town_workNoise)]) (w1 := [((ad_this 9), oX5 ad_this_future q53.2.1), ((ad_this 2), oX8 ad_this_town v_town_signCount v_town_houseCount v_town_boatCount v_town_workCount v_town_turnCost v_town_boatDayCost), ((ad_this_town 1), cI G 16 a_town_signNumbers), ((ad_this_future 1), cJ G 3 q53.2.2.1), ((ad_this_future 0), cJ G 3 q53.2.2.2)]) (va_runV (As := [.ref ((ad_this 2)), .int x1]) (rest := []) ⟨hx, hb, hml, hown, hg⟩ (c_X5_sightings l G x1 ((ad_this 9)) ((ad_this 2)) ad_this_future ad_this_town q53.2.1 v_town_signCount v_town_houseCount v_town_boatCount v_town_workCount v_town_turnCost v_town_boatDayCost a_town_signNumbers q53.2.2.1 q53.2.2.2 q72 c_72 H.size) (cwV 2 hg (gV wd_3_68 wd_3_69 wd_3_70 wd_1_6 wd_3_71) rfl rfl rfl hdV_X5_sightings ⟨(Nat.le_of_ble_eq_true rfl), (Nat.le_of_ble_eq_true rfl)⟩) (preV hc hW [4, 10, 12, 5, 6] rfl (by decide) rfl rfl) rfl rfl hl.1 rfl (lv_room (Nat.le_of_ble_eq_true rfl)) dX9_sight_72 ⟨Nat.zero_le _, Nat.zero_le _⟩) hA hW [4, 10, 12, 5, 6] [0, 1, 2, 3, 7, 8, 9, 11, 13] [0, 1, 2, 3, 9, 12, 13, 4, 5, 6, 10, 7, 11, 8] rfl rfl (by decide) (by decide) rfl (by decide) (fun H locs hW => ?_)
            refine lv_aload_n hx hb dX9_sight_75 rfl (lv_at hl 0 rfl) ?_
            refine va_get (D := G.1) (ci := 8) (v := .ref ((ad_this 9))) (C := RX9) (T := TX9) (N := 13) hx hb hg hu_X9 hown hc.1 hW.1 0 rfl rfl 9 (by decide) (hg _ wd_2_104) (fun _ h9 => h9) rfl dX9_sight_76 ?_
            obtain ⟨q79, c_79, hF⟩ := bd_el hF
            refine wcJ (ws' := [(h_this, oX9 ad_this v_keptCount), ((ad_this 4), oX1 ad_this_book v_book_days), ((ad_this_book 0), cI G 5 a_book_signs), ((ad_this_book 1), cI G 5 a_book_works), ((ad_this 9), oX5 ad_this_future q53.2.1), ((ad_this_future 1), cJ G 3 q53.2.2.1), ((ad_this_future 0), cJ G 3 q53.2.2.2), ((ad_this 8), oX5 ad_this_now q45.2.1), ((ad_this_now 1), cJ G 3 q45.2.2.1), ((ad_this_now 0), cJ G 3 q45.2.2.2), ((ad_this 2), oX8 ad_this_town v_town_signCount v_town_houseCount v_town_boatCount v_town_workCount v_town_turnCost v_town_boatDayCost), ((ad_this_town 0), cI G 3 a_town_lighter), ((ad_this_town 1), cI G 16 a_town_signNumbers), ((ad_this_town 5), cI G 5 a_town_workNoise)]) (wc := [((ad_this 9), oX5 ad_this_future q53.2.1), ((ad_this_future 1), cJ G 3 q53.2.2.1), ((ad_this_future 0), cJ G 3 q53.2.2.2)]) (wr := [(h_this, oX9 ad_this v_keptCount), ((ad_this 4), oX1 ad_this_book v_book_days), ((ad_this_book 0), cI G 5 a_book_signs), ((ad_this_book 1), cI G 5 a_book_works), ((ad_this 8), oX5 ad_this_now q45.2.1), ((ad_this_now 1), cJ G 3 q45.2.2.1), ((ad_this_now 0), cJ G 3 q45.2.2.2), ((ad_this 2), oX8 ad_this_town v_town_signCount v_town_houseCount v_town_boatCount v_town_workCount v_town_turnCost v_town_boatDayCost), ((ad_this_town 0), cI G 3 a_town_lighter), ((ad_this_town 1), cI G 16 a_town_signNumbers), ((ad_this_town 5), cI G 5 a_town_workNoise)]) (w1 := [((ad_this 9), oX5 ad_this_future q53.2.1), ((ad_this_future 1), cJ G 3 q53.2.2.1), ((ad_this_future 0), cJ G 3 q53.2.2.2)]) (va_runV (As := []) (rest := [.long q72]) ⟨hx, hb, hml, hown, hg⟩ (c_X5_total l G ((ad_this 9)) ad_this_future q53.2.1 q53.2.2.1 q53.2.2.2 q79 c_79 H.size) (cwV 0 hg (gV wd_3_30 wd_3_31 wd_3_32 wd_1_6 wd_3_33) rfl rfl rfl hdV_X5_total ⟨(Nat.le_of_ble_eq_true rfl), (Nat.le_of_ble_eq_true rfl)⟩) (preV hc hW [4, 5, 6] rfl (by decide) rfl rfl) rfl rfl hl.1 rfl (lv_room (Nat.le_of_ble_eq_true rfl)) dX9_sight_79 ⟨Nat.zero_le _, Nat.zero_le _⟩) hA hW [4, 5, 6] [0, 1, 2, 3, 7, 8, 9, 10, 11, 12, 13] [0, 1, 2, 3, 11, 12, 13, 4, 5, 6, 7, 8, 9, 10] rfl rfl (by decide) (by decide) rfl (by decide) (fun H locs hW => ?_)
            refine lv_ldc2 (v := 256) hx hb hown (hg _ wd_3_76) dX9_sight_82 ?_
            refine lv_lmul hx hb dX9_sight_85 ?_
            refine lv_iload_n hx hb dX9_sight_86 rfl (lv_at hl 3 rfl) ?_
            obtain ⟨q87, c_87, hF⟩ := bd_el hF
            refine wcJ (ws' := [(h_this, oX9 ad_this v_keptCount), ((ad_this 4), oX1 ad_this_book v_book_days), ((ad_this_book 0), cI G 5 a_book_signs), ((ad_this_book 1), cI G 5 a_book_works), ((ad_this 9), oX5 ad_this_future q53.2.1), ((ad_this_future 1), cJ G 3 q53.2.2.1), ((ad_this_future 0), cJ G 3 q53.2.2.2), ((ad_this 8), oX5 ad_this_now q45.2.1), ((ad_this_now 1), cJ G 3 q45.2.2.1), ((ad_this_now 0), cJ G 3 q45.2.2.2), ((ad_this 2), oX8 ad_this_town v_town_signCount v_town_houseCount v_town_boatCount v_town_workCount v_town_turnCost v_town_boatDayCost), ((ad_this_town 0), cI G 3 a_town_lighter), ((ad_this_town 1), cI G 16 a_town_signNumbers), ((ad_this_town 5), cI G 5 a_town_workNoise)]) (wc := []) (wr := [(h_this, oX9 ad_this v_keptCount), ((ad_this 4), oX1 ad_this_book v_book_days), ((ad_this_book 0), cI G 5 a_book_signs), ((ad_this_book 1), cI G 5 a_book_works), ((ad_this 9), oX5 ad_this_future q53.2.1), ((ad_this_future 1), cJ G 3 q53.2.2.1), ((ad_this_future 0), cJ G 3 q53.2.2.2), ((ad_this 8), oX5 ad_this_now q45.2.1), ((ad_this_now 1), cJ G 3 q45.2.2.1), ((ad_this_now 0), cJ G 3 q45.2.2.2), ((ad_this 2), oX8 ad_this_town v_town_signCount v_town_houseCount v_town_boatCount v_town_workCount v_town_turnCost v_town_boatDayCost), ((ad_this_town 0), cI G 3 a_town_lighter), ((ad_this_town 1), cI G 16 a_town_signNumbers), ((ad_this_town 5), cI G 5 a_town_workNoise)]) (w1 := []) (va_runS (As := [.long q72, .long ((q79 * 256)), .int x3]) (rest := []) ⟨hx, hb, hml, hown, hg⟩ (c_X9_inLowestTerms l G q72 ((q79 * 256)) x3 q87 c_87 H.size) (va_cwS 3 hg (gS wd_3_36 wd_3_37 wd_1_1 wd_3_38) rfl rfl rfl hdS_X9_inLowestTerms ⟨(Nat.le_of_ble_eq_true rfl), (Nat.le_of_ble_eq_true rfl)⟩) (preS hc hW [] rfl (by decide)) rfl rfl hl.1 rfl (lv_room (Nat.le_of_ble_eq_true rfl)) dX9_sight_87 ⟨Nat.zero_le _, Nat.zero_le _⟩) hA hW [] [0, 1, 2, 3, 4, 5, 6, 7, 8, 9, 10, 11, 12, 13] [0, 1, 2, 3, 4, 5, 6, 7, 8, 9, 10, 11, 12, 13] rfl rfl (by decide) (by decide) rfl (by decide) (fun H locs hW => ?_)
            obtain rfl := Option.some.inj hF
            exact hret _ _ _ _ hW dX9_sight_90
          · have hF := ite_t hF c_56
            refine lv_ldc2 (v := (-4)) hx hb hown (hg _ wd_3_34) dX9_sight_59 ?_
            obtain rfl := Option.some.inj hF
            exact hret _ _ _ _ hW dX9_sight_62
      · have hF := ite_t hF c_37
        refine lv_ldc2 (v := (-1)) hx hb hown (hg _ wd_2_216) dX9_sight_40 ?_
        obtain rfl := Option.some.inj hF
        exact hret _ _ _ _ hW dX9_sight_43
theorem dX9_tells_0 : decode cX9_tells 0 = .ok (.iload_n 1, 1) := by decide +kernel
theorem dX9_tells_1 : decode cX9_tells 1 = .ok (.aload_n 0, 1) := by decide +kernel
theorem dX9_tells_2 : decode cX9_tells 2 = .ok (.getfield 26, 3) := by decide +kernel
theorem dX9_tells_5 : decode cX9_tells 5 = .ok (.getfield 123, 3) := by decide +kernel
theorem dX9_tells_8 : decode cX9_tells 8 = .ok (.invokestatic 126, 3) := by decide +kernel
theorem dX9_tells_11 : decode cX9_tells 11 = .ok (.ifCond .ne 5, 3) := by decide +kernel
theorem dX9_tells_14 : decode cX9_tells 14 = .ok (.iconst (-1), 1) := by decide +kernel
theorem dX9_tells_15 : decode cX9_tells 15 = .ok (.ireturn, 1) := by decide +kernel
theorem dX9_tells_16 : decode cX9_tells 16 = .ok (.aload_n 0, 1) := by decide +kernel
theorem dX9_tells_17 : decode cX9_tells 17 = .ok (.invokevirtual 148, 3) := by decide +kernel
theorem dX9_tells_20 : decode cX9_tells 20 = .ok (.ifCond .eq 11, 3) := by decide +kernel
theorem dX9_tells_23 : decode cX9_tells 23 = .ok (.aload_n 0, 1) := by decide +kernel
theorem dX9_tells_24 : decode cX9_tells 24 = .ok (.iload_n 1, 1) := by decide +kernel
theorem dX9_tells_25 : decode cX9_tells 25 = .ok (.invokevirtual 176, 3) := by decide +kernel
theorem dX9_tells_28 : decode cX9_tells 28 = .ok (.ifCond .ne 6, 3) := by decide +kernel
theorem dX9_tells_31 : decode cX9_tells 31 = .ok (.bipush (-4), 2) := by decide +kernel
theorem dX9_tells_33 : decode cX9_tells 33 = .ok (.ireturn, 1) := by decide +kernel
theorem dX9_tells_34 : decode cX9_tells 34 = .ok (.iconst 0, 1) := by decide +kernel
theorem dX9_tells_35 : decode cX9_tells 35 = .ok (.istore_n 2, 1) := by decide +kernel
theorem dX9_tells_36 : decode cX9_tells 36 = .ok (.aload_n 0, 1) := by decide +kernel
theorem dX9_tells_37 : decode cX9_tells 37 = .ok (.iconst 0, 1) := by decide +kernel
theorem dX9_tells_38 : decode cX9_tells 38 = .ok (.invokevirtual 186, 3) := by decide +kernel
theorem dX9_tells_41 : decode cX9_tells 41 = .ok (.lstore_n 3, 1) := by decide +kernel
theorem dX9_tells_42 : decode cX9_tells 42 = .ok (.iconst 1, 1) := by decide +kernel
theorem dX9_tells_43 : decode cX9_tells 43 = .ok (.istore 5, 2) := by decide +kernel
theorem dX9_tells_45 : decode cX9_tells 45 = .ok (.iload 5, 2) := by decide +kernel
theorem dX9_tells_47 : decode cX9_tells 47 = .ok (.aload_n 0, 1) := by decide +kernel
theorem dX9_tells_48 : decode cX9_tells 48 = .ok (.getfield 26, 3) := by decide +kernel
theorem dX9_tells_51 : decode cX9_tells 51 = .ok (.getfield 110, 3) := by decide +kernel
theorem dX9_tells_54 : decode cX9_tells 54 = .ok (.if_icmp .ge 30, 3) := by decide +kernel
theorem dX9_tells_57 : decode cX9_tells 57 = .ok (.aload_n 0, 1) := by decide +kernel
theorem dX9_tells_58 : decode cX9_tells 58 = .ok (.iload 5, 2) := by decide +kernel
theorem dX9_tells_60 : decode cX9_tells 60 = .ok (.invokevirtual 186, 3) := by decide +kernel
theorem dX9_tells_63 : decode cX9_tells 63 = .ok (.lstore 6, 2) := by decide +kernel
theorem dX9_tells_65 : decode cX9_tells 65 = .ok (.lload 6, 2) := by decide +kernel
theorem dX9_tells_67 : decode cX9_tells 67 = .ok (.lload_n 3, 1) := by decide +kernel
theorem dX9_tells_68 : decode cX9_tells 68 = .ok (.lcmp, 1) := by decide +kernel
theorem dX9_tells_69 : decode cX9_tells 69 = .ok (.ifCond .ge 9, 3) := by decide +kernel
theorem dX9_tells_72 : decode cX9_tells 72 = .ok (.lload 6, 2) := by decide +kernel
theorem dX9_tells_74 : decode cX9_tells 74 = .ok (.lstore_n 3, 1) := by decide +kernel
theorem dX9_tells_75 : decode cX9_tells 75 = .ok (.iload 5, 2) := by decide +kernel
theorem dX9_tells_77 : decode cX9_tells 77 = .ok (.istore_n 2, 1) := by decide +kernel
theorem dX9_tells_78 : decode cX9_tells 78 = .ok (.iinc 5 1, 3) := by decide +kernel
theorem dX9_tells_81 : decode cX9_tells 81 = .ok (.goto (-36), 3) := by decide +kernel
theorem dX9_tells_84 : decode cX9_tells 84 = .ok (.iload_n 2, 1) := by decide +kernel
theorem dX9_tells_85 : decode cX9_tells 85 = .ok (.ireturn, 1) := by decide +kernel
def L_X9_tells_45 (v_town_signCount : Int32) (a_town_signNumbers : Nat → Int32) (q17 : Int32 × Int64 × (Nat → Int64) × (Nat → Int64)) (q25 : Int32 × Int64 × (Nat → Int64) × (Nat → Int64))  : Nat → Int32 → Int64 → Int32 → (Nat → Int64) → (Nat → Int64) → Option (Int32 × Int64 × (Nat → Int64) × (Nat → Int64) × Int64 × (Nat → Int64) × (Nat → Int64))
  | 0, _, _, _, _, _ => none
  | n + 1, x2_45, x3_45, x5_45, a_future_came_45, a_future_stayed_45 => (if v_town_signCount ≤ x5_45 then some (x2_45, q25.2.1, a_future_came_45, a_future_stayed_45, q17.2.1, q17.2.2.1, q17.2.2.2) else (F_X9_awayFromHalf x5_45 a_future_came_45 a_future_stayed_45 a_town_signNumbers).bind (fun q60 => jn (fun (x2_78 : Int32) (x3_78 : Int64) => L_X9_tells_45 v_town_signCount a_town_signNumbers q17 q25 n x2_78 x3_78 ((x5_45 + 1)) a_future_came_45 a_future_stayed_45) (fun k_78 => (if 0 ≤ (lg_cmp q60 x3_45) then k_78 x2_45 x3_45 else k_78 x5_45 q60))))
def F_X9_tells (x1 : Int32) (v_book_days : Int32) (a_book_signs : Nat → Int32) (a_book_works : Nat → Int32) (v_future_turned : Int64) (a_future_came : Nat → Int64) (a_future_stayed : Nat → Int64) (v_now_turned : Int64) (a_now_came : Nat → Int64) (a_now_stayed : Nat → Int64) (v_town_signCount : Int32) (v_town_workCount : Int32) (a_town_lighter : Nat → Int32) (a_town_signNumbers : Nat → Int32) (a_town_workNoise : Nat → Int32) : Option (Int32 × Int64 × (Nat → Int64) × (Nat → Int64) × Int64 × (Nat → Int64) × (Nat → Int64)) := (F_X9_isSet x1 v_town_workCount).bind (fun q8 => (if q8 = 0 then some ((-1), v_future_turned, a_future_came, a_future_stayed, v_now_turned, a_now_came, a_now_stayed) else (F_X9_diaryCanBe v_book_days a_book_signs a_book_works v_now_turned a_now_came a_now_stayed v_town_signCount v_town_workCount a_town_lighter a_town_signNumbers a_town_workNoise).bind (fun q17 => (if q17.1 = 0 then some ((-4), v_future_turned, a_future_came, a_future_stayed, q17.2.1, q17.2.2.1, q17.2.2.2) else (F_X9_nextDayCanBe x1 v_future_turned a_future_came a_future_stayed q17.2.1 q17.2.2.1 q17.2.2.2 v_town_workCount a_town_lighter a_town_workNoise).bind (fun q25 => (if q25.1 = 0 then some ((-4), q25.2.1, q25.2.2.1, q25.2.2.2, q17.2.1, q17.2.2.1, q17.2.2.2) else (F_X9_awayFromHalf 0 q25.2.2.1 q25.2.2.2 a_town_signNumbers).bind (fun q38 => L_X9_tells_45 v_town_signCount a_town_signNumbers q17 q25 5000 0 q38 1 q25.2.2.1 q25.2.2.2)))))))
theorem hdV_X9_tells : yX9_tells.cls = RX9 ∧ yX9_tells.cls ≠ "java/lang/invoke/MethodHandle" ∧ yX9_tells.cls ≠ "java/lang/invoke/VarHandle" ∧ (parseMethodDescriptor yX9_tells.desc).map (fun d => d.parameters.length) = some 1 := by decide +kernel
set_option maxHeartbeats 4000000 in
set_option maxRecDepth 100000 in
theorem c_X9_tells (l : Launch) (G : GG) (x1 : Int32) (h_this : Nat) (ad_this : Nat → Nat) (ad_this_book : Nat → Nat) (ad_this_future : Nat → Nat) (ad_this_now : Nat → Nat) (ad_this_town : Nat → Nat) (v_keptCount : Int32) (v_book_days : Int32) (a_book_signs : Nat → Int32) (a_book_works : Nat → Int32) (v_future_turned : Int64) (a_future_came : Nat → Int64) (a_future_stayed : Nat → Int64) (v_now_turned : Int64) (a_now_came : Nat → Int64) (a_now_stayed : Nat → Int64) (v_town_signCount : Int32) (v_town_houseCount : Int32) (v_town_boatCount : Int32) (v_town_workCount : Int32) (v_town_turnCost : Int32) (v_town_boatDayCost : Int32) (a_town_lighter : Nat → Int32) (a_town_signNumbers : Nat → Int32) (a_town_workNoise : Nat → Int32) (out : Int32 × Int64 × (Nat → Int64) × (Nat → Int64) × Int64 × (Nat → Int64) × (Nat → Int64)) (hF : F_X9_tells x1 v_book_days a_book_signs a_book_works v_future_turned a_future_came a_future_stayed v_now_turned a_now_came a_now_stayed v_town_signCount v_town_workCount a_town_lighter a_town_signNumbers a_town_workNoise = some out) : CtrI l yX9_tells (WS yX9_tells cX9_tells 8 (some .int)) { frames := 7, cells := 0, slots := 0, locals := 160 } G [.ref h_this, .int x1] [(h_this, oX9 ad_this v_keptCount), ((ad_this 4), oX1 ad_this_book v_book_days), ((ad_this_book 0), cI G 5 a_book_signs), ((ad_this_book 1), cI G 5 a_book_works), ((ad_this 9), oX5 ad_this_future v_future_turned), ((ad_this_future 1), cJ G 3 a_future_came), ((ad_this_future 0), cJ G 3 a_future_stayed), ((ad_this 8), oX5 ad_this_now v_now_turned), ((ad_this_now 1), cJ G 3 a_now_came), ((ad_this_now 0), cJ G 3 a_now_stayed), ((ad_this 2), oX8 ad_this_town v_town_signCount v_town_houseCount v_town_boatCount v_town_workCount v_town_turnCost v_town_boatDayCost), ((ad_this_town 0), cI G 3 a_town_lighter), ((ad_this_town 1), cI G 16 a_town_signNumbers), ((ad_this_town 5), cI G 5 a_town_workNoise)] [(h_this, oX9 ad_this v_keptCount), ((ad_this 4), oX1 ad_this_book v_book_days), ((ad_this_book 0), cI G 5 a_book_signs), ((ad_this_book 1), cI G 5 a_book_works), ((ad_this 9), oX5 ad_this_future out.2.1), ((ad_this_future 1), cJ G 3 out.2.2.1), ((ad_this_future 0), cJ G 3 out.2.2.2.1), ((ad_this 8), oX5 ad_this_now out.2.2.2.2.1), ((ad_this_now 1), cJ G 3 out.2.2.2.2.2.1), ((ad_this_now 0), cJ G 3 out.2.2.2.2.2.2), ((ad_this 2), oX8 ad_this_town v_town_signCount v_town_houseCount v_town_boatCount v_town_workCount v_town_turnCost v_town_boatDayCost), ((ad_this_town 0), cI G 3 a_town_lighter), ((ad_this_town 1), cI G 16 a_town_signNumbers), ((ad_this_town 5), cI G 5 a_town_workNoise)] out.1 := by
  refine startI (cc := cX9_tells) (maxL := 8) (by decide) rfl (Nat.le_of_ble_eq_true rfl) ?_
  intro p e s m args below meth c A Q hx hb hml hts hown hc hA hret ls H locs hl hW
  have hown : s.vm.findClass RX9 = some m.cls := hown
  have hg : ∀ w ∈ GOODS, w.before _ s = true := fun w h => hts w (List.mem_cons_of_mem _ h)
  have hl : lv_has ls 8 [(0, .ref h_this), (1, .int x1)] := hl
  rw [F_X9_tells] at hF
  refine lv_iload_n hx hb dX9_tells_0 rfl (lv_at hl 1 rfl) ?_
  refine lv_aload_n hx hb dX9_tells_1 rfl (lv_at hl 0 rfl) ?_
  refine va_get (D := G.1) (ci := 8) (v := .ref ((ad_this 2))) (C := RX9) (T := TX9) (N := 13) hx hb hg hu_X9 hown hc.1 hW.1 0 rfl rfl 2 (by decide) (hg _ wd_2_97) (fun _ h9 => h9) rfl dX9_tells_2 ?_
  refine va_get (D := G.1) (ci := 7) (v := .int v_town_workCount) (C := RX8) (T := TX8) (N := 13) hx hb hg hu_X8 hown hc.1 hW.1 10 rfl rfl 10 (by decide) (hg _ wd_1_85) (fun _ h9 => h9) rfl dX9_tells_5 ?_
  obtain ⟨q8, c_8, hF⟩ := bd_el hF
  refine wcZ (ws' := [(h_this, oX9 ad_this v_keptCount), ((ad_this 4), oX1 ad_this_book v_book_days), ((ad_this_book 0), cI G 5 a_book_signs), ((ad_this_book 1), cI G 5 a_book_works), ((ad_this 9), oX5 ad_this_future v_future_turned), ((ad_this_future 1), cJ G 3 a_future_came), ((ad_this_future 0), cJ G 3 a_future_stayed), ((ad_this 8), oX5 ad_this_now v_now_turned), ((ad_this_now 1), cJ G 3 a_now_came), ((ad_this_now 0), cJ G 3 a_now_stayed), ((ad_this 2), oX8 ad_this_town v_town_signCount v_town_houseCount v_town_boatCount v_town_workCount v_town_turnCost v_town_boatDayCost), ((ad_this_town 0), cI G 3 a_town_lighter), ((ad_this_town 1), cI G 16 a_town_signNumbers), ((ad_this_town 5), cI G 5 a_town_workNoise)]) (wc := []) (wr := [(h_this, oX9 ad_this v_keptCount), ((ad_this 4), oX1 ad_this_book v_book_days), ((ad_this_book 0), cI G 5 a_book_signs), ((ad_this_book 1), cI G 5 a_book_works), ((ad_this 9), oX5 ad_this_future v_future_turned), ((ad_this_future 1), cJ G 3 a_future_came), ((ad_this_future 0), cJ G 3 a_future_stayed), ((ad_this 8), oX5 ad_this_now v_now_turned), ((ad_this_now 1), cJ G 3 a_now_came), ((ad_this_now 0), cJ G 3 a_now_stayed), ((ad_this 2), oX8 ad_this_town v_town_signCount v_town_houseCount v_town_boatCount v_town_workCount v_town_turnCost v_town_boatDayCost), ((ad_this_town 0), cI G 3 a_town_lighter), ((ad_this_town 1), cI G 16 a_town_signNumbers), ((ad_this_town 5), cI G 5 a_town_workNoise)]) (w1 := []) (va_runS (As := [.int x1, .int v_town_workCount]) (rest := []) ⟨hx, hb, hml, hown, hg⟩ (c_X9_isSet l G x1 v_town_workCount q8 c_8 H.size) (va_cwS 2 hg (gS wd_2_166 wd_2_167 wd_1_1 wd_2_168) rfl rfl rfl hdS_X9_isSet ⟨(Nat.le_of_ble_eq_true rfl), (Nat.le_of_ble_eq_true rfl)⟩) (preS hc hW [] rfl (by decide)) rfl rfl hl.1 rfl (lv_room (Nat.le_of_ble_eq_true rfl)) dX9_tells_8 ⟨Nat.zero_le _, Nat.zero_le _⟩) hA hW [] [0, 1, 2, 3, 4, 5, 6, 7, 8, 9, 10, 11, 12, 13] [0, 1, 2, 3, 4, 5, 6, 7, 8, 9, 10, 11, 12, 13] rfl rfl (by decide) (by decide) rfl (by decide) (fun z_8 H locs hW => ?_)
  refine lv_if_ne (tgt := 16) hx hb dX9_tells_11 (by decide) (fun c_11 => ?_) (fun c_11 => ?_)
  · have hF := ite_f hF c_11
    refine lv_aload_n hx hb dX9_tells_16 rfl (lv_at hl 0 rfl) ?_
    obtain ⟨q17, c_17, hF⟩ := bd_el hF
    refine wcZ (ws' := [(h_this, oX9 ad_this v_keptCount), ((ad_this 4), oX1 ad_this_book v_book_days), ((ad_this_book 0), cI G 5 a_book_signs), ((ad_this_book 1), cI G 5 a_book_works), ((ad_this 9), oX5 ad_this_future v_future_turned), ((ad_this_future 1), cJ G 3 a_future_came), ((ad_this_future 0), cJ G 3 a_future_stayed), ((ad_this 8), oX5 ad_this_now q17.2.1), ((ad_this_now 1), cJ G 3 q17.2.2.1), ((ad_this_now 0), cJ G 3 q17.2.2.2), ((ad_this 2), oX8 ad_this_town v_town_signCount v_town_houseCount v_town_boatCount v_town_workCount v_town_turnCost v_town_boatDayCost), ((ad_this_town 0), cI G 3 a_town_lighter), ((ad_this_town 1), cI G 16 a_town_signNumbers), ((ad_this_town 5), cI G 5 a_town_workNoise)]) (wc := [(h_this, oX9 ad_this v_keptCount), ((ad_this 4), oX1 ad_this_book v_book_days), ((ad_this_book 0), cI G 5 a_book_signs), ((ad_this_book 1), cI G 5 a_book_works), ((ad_this 8), oX5 ad_this_now v_now_turned), ((ad_this_now 1), cJ G 3 a_now_came), ((ad_this_now 0), cJ G 3 a_now_stayed), ((ad_this 2), oX8 ad_this_town v_town_signCount v_town_houseCount v_town_boatCount v_town_workCount v_town_turnCost v_town_boatDayCost), ((ad_this_town 0), cI G 3 a_town_lighter), ((ad_this_town 1), cI G 16 a_town_signNumbers), ((ad_this_town 5), cI G 5 a_town_workNoise)]) (wr := [((ad_this 9), oX5 ad_this_future v_future_turned), ((ad_this_future 1), cJ G 3 a_future_came), ((ad_this_future 0), cJ G 3 a_future_stayed)]) (w1 := [(h_this, oX9 ad_this v_keptCount), ((ad_this 4), oX1 ad_this_book v_book_days), ((ad_this_book 0), cI G 5 a_book_signs), ((ad_this_book 1), cI G 5 a_book_works), ((ad_this 8), oX5 ad_this_now q17.2.1), ((ad_this_now 1), cJ G 3 q17.2.2.1), ((ad_this_now 0), cJ G 3 q17.2.2.2), ((ad_this 2), oX8 ad_this_town v_town_signCount v_town_houseCount v_town_boatCount v_town_workCount v_town_turnCost v_town_boatDayCost), ((ad_this_town 0), cI G 3 a_town_lighter), ((ad_this_town 1), cI G 16 a_town_signNumbers), ((ad_this_town 5), cI G 5 a_town_workNoise)]) (va_runV (As := []) (rest := []) ⟨hx, hb, hml, hown, hg⟩ (c_X9_diaryCanBe l G h_this ad_this ad_this_book ad_this_now ad_this_town v_keptCount v_book_days a_book_signs a_book_works v_now_turned a_now_came a_now_stayed v_town_signCount v_town_houseCount v_town_boatCount v_town_workCount v_town_turnCost v_town_boatDayCost a_town_lighter a_town_signNumbers a_town_workNoise q17 c_17 H.size) (cwV 0 hg (gV wd_2_217 wd_2_219 wd_0_11 wd_1_1 wd_2_220) rfl rfl rfl hdV_X9_diaryCanBe ⟨(Nat.le_of_ble_eq_true rfl), (Nat.le_of_ble_eq_true rfl)⟩) (preV hc hW [0, 1, 2, 3, 7, 8, 9, 10, 11, 12, 13] rfl (by decide) rfl rfl) rfl rfl hl.1 rfl (lv_room (Nat.le_of_ble_eq_true rfl)) dX9_tells_17 ⟨Nat.zero_le _, Nat.zero_le _⟩) hA hW [0, 1, 2, 3, 7, 8, 9, 10, 11, 12, 13] [4, 5, 6] [3, 4, 5, 6, 0, 1, 2, 7, 8, 9, 10, 11, 12, 13] rfl rfl (by decide) (by decide) rfl (by decide) (fun z_17 H locs hW => ?_)
    refine lv_if_eq (tgt := 31) hx hb dX9_tells_20 (by decide) (fun c_20 => ?_) (fun c_20 => ?_)
    · have hF := ite_t hF c_20
      refine lv_bipush (v := (-4)) hx hb dX9_tells_31 (by decide) ?_
      obtain rfl := Option.some.inj hF
      exact hret _ _ _ _ hW dX9_tells_33
    · have hF := ite_f hF c_20
      refine lv_aload_n hx hb dX9_tells_23 rfl (lv_at hl 0 rfl) ?_
      refine lv_iload_n hx hb dX9_tells_24 rfl (lv_at hl 1 rfl) ?_
      obtain ⟨q25, c_25, hF⟩ := bd_el hF
      refine wcZ (ws' := [(h_this, oX9 ad_this v_keptCount), ((ad_this 4), oX1 ad_this_book v_book_days), ((ad_this_book 0), cI G 5 a_book_signs), ((ad_this_book 1), cI G 5 a_book_works), ((ad_this 9), oX5 ad_this_future q25.2.1), ((ad_this_future 1), cJ G 3 q25.2.2.1), ((ad_this_future 0), cJ G 3 q25.2.2.2), ((ad_this 8), oX5 ad_this_now q17.2.1), ((ad_this_now 1), cJ G 3 q17.2.2.1), ((ad_this_now 0), cJ G 3 q17.2.2.2), ((ad_this 2), oX8 ad_this_town v_town_signCount v_town_houseCount v_town_boatCount v_town_workCount v_town_turnCost v_town_boatDayCost), ((ad_this_town 0), cI G 3 a_town_lighter), ((ad_this_town 1), cI G 16 a_town_signNumbers), ((ad_this_town 5), cI G 5 a_town_workNoise)]) (wc := [(h_this, oX9 ad_this v_keptCount), ((ad_this 9), oX5 ad_this_future v_future_turned), ((ad_this_future 1), cJ G 3 a_future_came), ((ad_this_future 0), cJ G 3 a_future_stayed), ((ad_this 8), oX5 ad_this_now q17.2.1), ((ad_this_now 1), cJ G 3 q17.2.2.1), ((ad_this_now 0), cJ G 3 q17.2.2.2), ((ad_this 2), oX8 ad_this_town v_town_signCount v_town_houseCount v_town_boatCount v_town_workCount v_town_turnCost v_town_boatDayCost), ((ad_this_town 0), cI G 3 a_town_lighter), ((ad_this_town 5), cI G 5 a_town_workNoise)]) (wr := [((ad_this 4), oX1 ad_this_book v_book_days), ((ad_this_book 0), cI G 5 a_book_signs), ((ad_this_book 1), cI G 5 a_book_works), ((ad_this_town 1), cI G 16 a_town_signNumbers)]) (w1 := [(h_this, oX9 ad_this v_keptCount), ((ad_this 9), oX5 ad_this_future q25.2.1), ((ad_this_future 1), cJ G 3 q25.2.2.1), ((ad_this_future 0), cJ G 3 q25.2.2.2), ((ad_this 8), oX5 ad_this_now q17.2.1), ((ad_this_now 1), cJ G 3 q17.2.2.1), ((ad_this_now 0), cJ G 3 q17.2.2.2), ((ad_this 2), oX8 ad_this_town v_town_signCount v_town_houseCount v_town_boatCount v_town_workCount v_town_turnCost v_town_boatDayCost), ((ad_this_town 0), cI G 3 a_town_lighter), ((ad_this_town 5), cI G 5 a_town_workNoise)]) (va_runV (As := [.int x1]) (rest := []) ⟨hx, hb, hml, hown, hg⟩ (c_X9_nextDayCanBe l G x1 h_this ad_this ad_this_future ad_this_now ad_this_town v_keptCount v_future_turned a_future_came a_future_stayed q17.2.1 q17.2.2.1 q17.2.2.2 v_town_signCount v_town_houseCount v_town_boatCount v_town_workCount v_town_turnCost v_town_boatDayCost a_town_lighter a_town_workNoise q25 c_25 H.size) (cwV 1 hg (gV wd_3_64 wd_3_66 wd_0_16 wd_1_1 wd_3_67) rfl rfl rfl hdV_X9_nextDayCanBe ⟨(Nat.le_of_ble_eq_true rfl), (Nat.le_of_ble_eq_true rfl)⟩) (preV hc hW [0, 4, 5, 6, 7, 8, 9, 10, 11, 13] rfl (by decide) rfl rfl) rfl rfl hl.1 rfl (lv_room (Nat.le_of_ble_eq_true rfl)) dX9_tells_25 ⟨Nat.zero_le _, Nat.zero_le _⟩) hA hW [0, 4, 5, 6, 7, 8, 9, 10, 11, 13] [1, 2, 3, 12] [4, 0, 1, 2, 5, 6, 7, 8, 9, 10, 11, 12, 3, 13] rfl rfl (by decide) (by decide) rfl (by decide) (fun z_25 H locs hW => ?_)
      refine lv_if_ne (tgt := 34) hx hb dX9_tells_28 (by decide) (fun c_28 => ?_) (fun c_28 => ?_)
      · have hF := ite_f hF c_28
        refine lv_iconst (v := 0) hx hb dX9_tells_34 (by decide) ?_
        refine lv_istore_n (lv' := [(2, .int 0), (0, .ref h_this), (1, .int x1)]) hx hb dX9_tells_35 rfl hl (by decide) rfl (fun ls hl => ?_)
        refine lv_aload_n hx hb dX9_tells_36 rfl (lv_at hl 1 rfl) ?_
        refine lv_iconst (v := 0) hx hb dX9_tells_37 (by decide) ?_
        obtain ⟨q38, c_38, hF⟩ := bd_el hF
        refine wcJ (ws' := [(h_this, oX9 ad_this v_keptCount), ((ad_this 4), oX1 ad_this_book v_book_days), ((ad_this_book 0), cI G 5 a_book_signs), ((ad_this_book 1), cI G 5 a_book_works), ((ad_this 9), oX5 ad_this_future q25.2.1), ((ad_this_future 1), cJ G 3 q25.2.2.1), ((ad_this_future 0), cJ G 3 q25.2.2.2), ((ad_this 8), oX5 ad_this_now q17.2.1), ((ad_this_now 1), cJ G 3 q17.2.2.1), ((ad_this_now 0), cJ G 3 q17.2.2.2), ((ad_this 2), oX8 ad_this_town v_town_signCount v_town_houseCount v_town_boatCount v_town_workCount v_town_turnCost v_town_boatDayCost), ((ad_this_town 0), cI G 3 a_town_lighter), ((ad_this_town 1), cI G 16 a_town_signNumbers), ((ad_this_town 5), cI G 5 a_town_workNoise)]) (wc := [(h_this, oX9 ad_this v_keptCount), ((ad_this 9), oX5 ad_this_future q25.2.1), ((ad_this_future 1), cJ G 3 q25.2.2.1), ((ad_this_future 0), cJ G 3 q25.2.2.2), ((ad_this 2), oX8 ad_this_town v_town_signCount v_town_houseCount v_town_boatCount v_town_workCount v_town_turnCost v_town_boatDayCost), ((ad_this_town 1), cI G 16 a_town_signNumbers)]) (wr := [((ad_this 4), oX1 ad_this_book v_book_days), ((ad_this_book 0), cI G 5 a_book_signs), ((ad_this_book 1), cI G 5 a_book_works), ((ad_this 8), oX5 ad_this_now q17.2.1), ((ad_this_now 1), cJ G 3 q17.2.2.1), ((ad_this_now 0), cJ G 3 q17.2.2.2), ((ad_this_town 0), cI G 3 a_town_lighter), ((ad_this_town 5), cI G 5 a_town_workNoise)]) (w1 := [(h_this, oX9 ad_this v_keptCount), ((ad_this 9), oX5 ad_this_future q25.2.1), ((ad_this_future 1), cJ G 3 q25.2.2.1), ((ad_this_future 0), cJ G 3 q25.2.2.2), ((ad_this 2), oX8 ad_this_town v_town_signCount v_town_houseCount v_town_boatCount v_town_workCount v_town_turnCost v_town_boatDayCost), ((ad_this_town 1), cI G 16 a_town_signNumbers)]) (va_runV (As := [.int 0]) (rest := []) ⟨hx, hb, hml, hown, hg⟩ (c_X9_awayFromHalf l G 0 h_this ad_this ad_this_future ad_this_town v_keptCount q25.2.1 q25.2.2.1 q25.2.2.2 v_town_signCount v_town_houseCount v_town_boatCount v_town_workCount v_town_turnCost v_town_boatDayCost a_town_signNumbers q38 c_38 H.size) (cwV 1 hg (gV wd_3_81 wd_3_83 wd_0_17 wd_1_1 wd_3_84) rfl rfl rfl hdV_X9_awayFromHalf ⟨(Nat.le_of_ble_eq_true rfl), (Nat.le_of_ble_eq_true rfl)⟩) (preV hc hW [0, 4, 5, 6, 10, 12] rfl (by decide) rfl rfl) rfl rfl hl.1 rfl (lv_room (Nat.le_of_ble_eq_true rfl)) dX9_tells_38 ⟨Nat.zero_le _, Nat.zero_le _⟩) hA hW [0, 4, 5, 6, 10, 12] [1, 2, 3, 7, 8, 9, 11, 13] [8, 0, 1, 2, 9, 10, 11, 3, 4, 5, 12, 6, 13, 7] rfl rfl (by decide) (by decide) rfl (by decide) (fun H locs hW => ?_)
        refine lv_lstore_n (lv' := [(3, .long q38), (2, .int 0), (0, .ref h_this), (1, .int x1)]) hx hb dX9_tells_41 rfl hl (by decide) rfl (fun ls hl => ?_)
        refine lv_iconst (v := 1) hx hb dX9_tells_42 (by decide) ?_
        refine lv_istore (lv' := [(5, .int 1), (3, .long q38), (2, .int 0), (0, .ref h_this), (1, .int x1)]) hx hb dX9_tells_43 hl (by decide) rfl (fun ls hl => ?_)
        have L_45 : ∀ (n : Nat) (x2_45 : Int32) (x3_45 : Int64) (x5_45 : Int32) (a_future_came_45 : Nat → Int64) (a_future_stayed_45 : Nat → Int64) (ls : Array Slot) (H : Heap) (locs : List Loc), L_X9_tells_45 v_town_signCount a_town_signNumbers q17 q25 n x2_45 x3_45 x5_45 a_future_came_45 a_future_stayed_45 = some out → lv_has ls 8 [(0, .ref h_this), (2, .int x2_45), (3, .long x3_45), (5, .int x5_45)] → Wd G A s.heap [(h_this, oX9 ad_this v_keptCount), ((ad_this 4), oX1 ad_this_book v_book_days), ((ad_this_book 0), cI G 5 a_book_signs), ((ad_this_book 1), cI G 5 a_book_works), ((ad_this 9), oX5 ad_this_future q25.2.1), ((ad_this_future 1), cJ G 3 a_future_came_45), ((ad_this_future 0), cJ G 3 a_future_stayed_45), ((ad_this 8), oX5 ad_this_now q17.2.1), ((ad_this_now 1), cJ G 3 q17.2.2.1), ((ad_this_now 0), cJ G 3 q17.2.2.2), ((ad_this 2), oX8 ad_this_town v_town_signCount v_town_houseCount v_town_boatCount v_town_workCount v_town_turnCost v_town_boatDayCost), ((ad_this_town 0), cI G 3 a_town_lighter), ((ad_this_town 1), cI G 16 a_town_signNumbers), ((ad_this_town 5), cI G 5 a_town_workNoise)] H locs → W p l e ({ frames := 7, cells := 0, slots := 0, locals := 160 } : Room) s m args below meth c H locs 0 0 Q (F0 m 45 ls []) := by
          intro n
          induction n with
          | zero => intro x2_45 x3_45 x5_45 a_future_came_45 a_future_stayed_45 ls H locs hF hl hW; have h0 : none = some out := hF; cases h0
          | succ n ih =>
            intro x2_45 x3_45 x5_45 a_future_came_45 a_future_stayed_45 ls H locs hF hl hW
            rw [L_X9_tells_45] at hF
            refine lv_iload hx hb dX9_tells_45 (lv_at hl 3 rfl) ?_
            refine lv_aload_n hx hb dX9_tells_47 rfl (lv_at hl 0 rfl) ?_
            refine va_get (D := G.1) (ci := 8) (v := .ref ((ad_this 2))) (C := RX9) (T := TX9) (N := 13) hx hb hg hu_X9 hown hc.1 hW.1 0 rfl rfl 2 (by decide) (hg _ wd_2_97) (fun _ h9 => h9) rfl dX9_tells_48 ?_
            refine va_get (D := G.1) (ci := 7) (v := .int v_town_signCount) (C := RX8) (T := TX8) (N := 13) hx hb hg hu_X8 hown hc.1 hW.1 10 rfl rfl 7 (by decide) (hg _ wd_1_77) (fun _ h9 => h9) rfl dX9_tells_51 ?_
            refine lv_icmp_ge (tgt := 84) hx hb dX9_tells_54 (by decide) (fun c_54 => ?_) (fun c_54 => ?_)
            · have hF := ite_t hF c_54
              refine lv_iload_n hx hb dX9_tells_84 rfl (lv_at hl 1 rfl) ?_
              obtain rfl := Option.some.inj hF
              exact hret _ _ _ _ hW dX9_tells_85
            · have hF := ite_f hF c_54
              refine lv_aload_n hx hb dX9_tells_57 rfl (lv_at hl 0 rfl) ?_
              refine lv_iload hx hb dX9_tells_58 (lv_at hl 3 rfl) ?_
              obtain ⟨q60, c_60, hF⟩ := bd_el hF
              refine wcJ (ws' := [(h_this, oX9 ad_this v_keptCount), ((ad_this 4), oX1 ad_this_book v_book_days), ((ad_this_book 0), cI G 5 a_book_signs), ((ad_this_book 1), cI G 5 a_book_works), ((ad_this 9), oX5 ad_this_future q25.2.1), ((ad_this_future 1), cJ G 3 a_future_came_45), ((ad_this_future 0), cJ G 3 a_future_stayed_45), ((ad_this 8), oX5 ad_this_now q17.2.1), ((ad_this_now 1), cJ G 3 q17.2.2.1), ((ad_this_now 0), cJ G 3 q17.2.2.2), ((ad_this 2), oX8 ad_this_town v_town_signCount v_town_houseCount v_town_boatCount v_town_workCount v_town_turnCost v_town_boatDayCost), ((ad_this_town 0), cI G 3 a_town_lighter), ((ad_this_town 1), cI G 16 a_town_signNumbers), ((ad_this_town 5), cI G 5 a_town_workNoise)]) (wc := [(h_this, oX9 ad_this v_keptCount), ((ad_this 9), oX5 ad_this_future q25.2.1), ((ad_this_future 1), cJ G 3 a_future_came_45), ((ad_this_future 0), cJ G 3 a_future_stayed_45), ((ad_this 2), oX8 ad_this_town v_town_signCount v_town_houseCount v_town_boatCount v_town_workCount v_town_turnCost v_town_boatDayCost), ((ad_this_town 1), cI G 16 a_town_signNumbers)]) (wr := [((ad_this 4), oX1 ad_this_book v_book_days), ((ad_this_book 0), cI G 5 a_book_signs), ((ad_this_book 1), cI G 5 a_book_works), ((ad_this 8), oX5 ad_this_now q17.2.1), ((ad_this_now 1), cJ G 3 q17.2.2.1), ((ad_this_now 0), cJ G 3 q17.2.2.2), ((ad_this_town 0), cI G 3 a_town_lighter), ((ad_this_town 5), cI G 5 a_town_workNoise)]) (w1 := [(h_this, oX9 ad_this v_keptCount), ((ad_this 9), oX5 ad_this_future q25.2.1), ((ad_this_future 1), cJ G 3 a_future_came_45), ((ad_this_future 0), cJ G 3 a_future_stayed_45), ((ad_this 2), oX8 ad_this_town v_town_signCount v_town_houseCount v_town_boatCount v_town_workCount v_town_turnCost v_town_boatDayCost), ((ad_this_town 1), cI G 16 a_town_signNumbers)]) (va_runV (As := [.int x5_45]) (rest := []) ⟨hx, hb, hml, hown, hg⟩ (c_X9_awayFromHalf l G x5_45 h_this ad_this ad_this_future ad_this_town v_keptCount q25.2.1 a_future_came_45 a_future_stayed_45 v_town_signCount v_town_houseCount v_town_boatCount v_town_workCount v_town_turnCost v_town_boatDayCost a_town_signNumbers q60 c_60 H.size) (cwV 1 hg (gV wd_3_81 wd_3_83 wd_0_17 wd_1_1 wd_3_84) rfl rfl rfl hdV_X9_awayFromHalf ⟨(Nat.le_of_ble_eq_true rfl), (Nat.le_of_ble_eq_true rfl)⟩) (preV hc hW [0, 4, 5, 6, 10, 12] rfl (by decide) rfl rfl) rfl rfl hl.1 rfl (lv_room (Nat.le_of_ble_eq_true rfl)) dX9_tells_60 ⟨Nat.zero_le _, Nat.zero_le _⟩) hA hW [0, 4, 5, 6, 10, 12] [1, 2, 3, 7, 8, 9, 11, 13] [8, 0, 1, 2, 9, 10, 11, 3, 4, 5, 12, 6, 13, 7] rfl rfl (by decide) (by decide) rfl (by decide) (fun H locs hW => ?_)
              refine lv_lstore (lv' := [(6, .long q60), (0, .ref h_this), (2, .int x2_45), (3, .long x3_45), (5, .int x5_45)]) hx hb dX9_tells_63 hl (by decide) rfl (fun ls hl => ?_)
              refine lv_lload hx hb dX9_tells_65 (lv_at hl 0 rfl) ?_
              refine lv_lload_n hx hb dX9_tells_67 rfl (lv_at hl 3 rfl) ?_
              refine W.lcmp hx hb dX9_tells_68 ?_
              obtain ⟨k_78, e_78, hF⟩ := jn_el hF
              have J_78 : ∀ (x2_78 : Int32) (x3_78 : Int64) (ls : Array Slot) (H : Heap) (locs : List Loc), k_78 x2_78 x3_78 = some out → lv_has ls 8 [(0, .ref h_this), (2, .int x2_78), (3, .long x3_78), (5, .int x5_45)] → Wd G A s.heap [(h_this, oX9 ad_this v_keptCount), ((ad_this 4), oX1 ad_this_book v_book_days), ((ad_this_book 0), cI G 5 a_book_signs), ((ad_this_book 1), cI G 5 a_book_works), ((ad_this 9), oX5 ad_this_future q25.2.1), ((ad_this_future 1), cJ G 3 a_future_came_45), ((ad_this_future 0), cJ G 3 a_future_stayed_45), ((ad_this 8), oX5 ad_this_now q17.2.1), ((ad_this_now 1), cJ G 3 q17.2.2.1), ((ad_this_now 0), cJ G 3 q17.2.2.2), ((ad_this 2), oX8 ad_this_town v_town_signCount v_town_houseCount v_town_boatCount v_town_workCount v_town_turnCost v_town_boatDayCost), ((ad_this_town 0), cI G 3 a_town_lighter), ((ad_this_town 1), cI G 16 a_town_signNumbers), ((ad_this_town 5), cI G 5 a_town_workNoise)] H locs → W p l e ({ frames := 7, cells := 0, slots := 0, locals := 160 } : Room) s m args below meth c H locs 0 0 Q (F0 m 78 ls []) := by
                intro x2_78 x3_78 ls H locs hF hl hW
                rw [e_78] at hF
                dsimp only at hF
                refine lv_iinc (v := (x5_45 + 1)) (lv' := [(5, .int ((x5_45 + 1))), (0, .ref h_this), (2, .int x2_78), (3, .long x3_78)]) hx hb dX9_tells_78 hl (k := 3) rfl rfl (by decide) rfl (fun ls hl => ?_)
                refine lv_goto (tgt := 45) hx hb dX9_tells_81 (by decide) ?_
                exact ih x2_78 x3_78 ((x5_45 + 1)) a_future_came_45 a_future_stayed_45 _ _ _ hF (lv_sub hl [1, 2, 3, 0] rfl) hW
              refine lv_if_ge (tgt := 78) hx hb dX9_tells_69 (by decide) (fun c_69 => ?_) (fun c_69 => ?_)
              · have hF := ite_t hF c_69
                exact J_78 x2_45 x3_45 _ _ _ hF (lv_sub hl [1, 2, 3, 4] rfl) hW
              · have hF := ite_f hF c_69
                refine lv_lload hx hb dX9_tells_72 (lv_at hl 0 rfl) ?_
                refine lv_lstore_n (lv' := [(3, .long q60), (6, .long q60), (0, .ref h_this), (2, .int x2_45), (5, .int x5_45)]) hx hb dX9_tells_74 rfl hl (by decide) rfl (fun ls hl => ?_)
                refine lv_iload hx hb dX9_tells_75 (lv_at hl 4 rfl) ?_
                refine lv_istore_n (lv' := [(2, .int x5_45), (3, .long q60), (6, .long q60), (0, .ref h_this), (5, .int x5_45)]) hx hb dX9_tells_77 rfl hl (by decide) rfl (fun ls hl => ?_)
                exact J_78 x5_45 q60 _ _ _ hF (lv_sub hl [3, 0, 1, 4] rfl) hW
        exact L_45 5000 0 q38 1 q25.2.2.1 q25.2.2.2 _ _ _ hF (lv_sub hl [3, 2, 1, 0] rfl) hW
      · have hF := ite_t hF c_28
        refine lv_bipush (v := (-4)) hx hb dX9_tells_31 (by decide) ?_
        obtain rfl := Option.some.inj hF
        exact hret _ _ _ _ hW dX9_tells_33
  · have hF := ite_t hF c_11
    refine lv_iconst (v := (-1)) hx hb dX9_tells_14 (by decide) ?_
    obtain rfl := Option.some.inj hF
    exact hret _ _ _ _ hW dX9_tells_15
theorem dX9_board_0 : decode cX9_board 0 = .ok (.iload_n 1, 1) := by decide +kernel
theorem dX9_board_1 : decode cX9_board 1 = .ok (.aload_n 0, 1) := by decide +kernel
theorem dX9_board_2 : decode cX9_board 2 = .ok (.getfield 26, 3) := by decide +kernel
theorem dX9_board_5 : decode cX9_board 5 = .ok (.getfield 123, 3) := by decide +kernel
theorem dX9_board_8 : decode cX9_board 8 = .ok (.invokestatic 126, 3) := by decide +kernel
theorem dX9_board_11 : decode cX9_board 11 = .ok (.ifCond .eq 12, 3) := by decide +kernel
theorem dX9_board_14 : decode cX9_board 14 = .ok (.iload_n 2, 1) := by decide +kernel
theorem dX9_board_15 : decode cX9_board 15 = .ok (.iconst 0, 1) := by decide +kernel
theorem dX9_board_16 : decode cX9_board 16 = .ok (.iconst 2, 1) := by decide +kernel
theorem dX9_board_17 : decode cX9_board 17 = .ok (.invokestatic 104, 3) := by decide +kernel
theorem dX9_board_20 : decode cX9_board 20 = .ok (.ifCond .ne 7, 3) := by decide +kernel
theorem dX9_board_23 : decode cX9_board 23 = .ok (.ldc2_w 146, 3) := by decide +kernel
theorem dX9_board_26 : decode cX9_board 26 = .ok (.lreturn, 1) := by decide +kernel
theorem dX9_board_27 : decode cX9_board 27 = .ok (.aload_n 0, 1) := by decide +kernel
theorem dX9_board_28 : decode cX9_board 28 = .ok (.invokevirtual 148, 3) := by decide +kernel
theorem dX9_board_31 : decode cX9_board 31 = .ok (.ifCond .ne 7, 3) := by decide +kernel
theorem dX9_board_34 : decode cX9_board 34 = .ok (.ldc2_w 152, 3) := by decide +kernel
theorem dX9_board_37 : decode cX9_board 37 = .ok (.lreturn, 1) := by decide +kernel
theorem dX9_board_38 : decode cX9_board 38 = .ok (.iconst 0, 1) := by decide +kernel
theorem dX9_board_39 : decode cX9_board 39 = .ok (.istore_n 3, 1) := by decide +kernel
theorem dX9_board_40 : decode cX9_board 40 = .ok (.aload_n 0, 1) := by decide +kernel
theorem dX9_board_41 : decode cX9_board 41 = .ok (.iconst 0, 1) := by decide +kernel
theorem dX9_board_42 : decode cX9_board 42 = .ok (.iload_n 1, 1) := by decide +kernel
theorem dX9_board_43 : decode cX9_board 43 = .ok (.invokevirtual 189, 3) := by decide +kernel
theorem dX9_board_46 : decode cX9_board 46 = .ok (.lstore 4, 2) := by decide +kernel
theorem dX9_board_48 : decode cX9_board 48 = .ok (.iconst 1, 1) := by decide +kernel
theorem dX9_board_49 : decode cX9_board 49 = .ok (.istore 6, 2) := by decide +kernel
theorem dX9_board_51 : decode cX9_board 51 = .ok (.iload 6, 2) := by decide +kernel
theorem dX9_board_53 : decode cX9_board 53 = .ok (.iconst 3, 1) := by decide +kernel
theorem dX9_board_54 : decode cX9_board 54 = .ok (.if_icmp .gt 33, 3) := by decide +kernel
theorem dX9_board_57 : decode cX9_board 57 = .ok (.aload_n 0, 1) := by decide +kernel
theorem dX9_board_58 : decode cX9_board 58 = .ok (.iload 6, 2) := by decide +kernel
theorem dX9_board_60 : decode cX9_board 60 = .ok (.iload_n 1, 1) := by decide +kernel
theorem dX9_board_61 : decode cX9_board 61 = .ok (.invokevirtual 189, 3) := by decide +kernel
theorem dX9_board_64 : decode cX9_board 64 = .ok (.lstore 7, 2) := by decide +kernel
theorem dX9_board_66 : decode cX9_board 66 = .ok (.lload 7, 2) := by decide +kernel
theorem dX9_board_68 : decode cX9_board 68 = .ok (.lload 4, 2) := by decide +kernel
theorem dX9_board_70 : decode cX9_board 70 = .ok (.lcmp, 1) := by decide +kernel
theorem dX9_board_71 : decode cX9_board 71 = .ok (.ifCond .ge 10, 3) := by decide +kernel
theorem dX9_board_74 : decode cX9_board 74 = .ok (.lload 7, 2) := by decide +kernel
theorem dX9_board_76 : decode cX9_board 76 = .ok (.lstore 4, 2) := by decide +kernel
theorem dX9_board_78 : decode cX9_board 78 = .ok (.iload 6, 2) := by decide +kernel
theorem dX9_board_80 : decode cX9_board 80 = .ok (.istore_n 3, 1) := by decide +kernel
theorem dX9_board_81 : decode cX9_board 81 = .ok (.iinc 6 1, 3) := by decide +kernel
theorem dX9_board_84 : decode cX9_board 84 = .ok (.goto (-33), 3) := by decide +kernel
theorem dX9_board_87 : decode cX9_board 87 = .ok (.iload_n 2, 1) := by decide +kernel
theorem dX9_board_88 : decode cX9_board 88 = .ok (.ifCond .ne 8, 3) := by decide +kernel
theorem dX9_board_91 : decode cX9_board 91 = .ok (.iload_n 3, 1) := by decide +kernel
theorem dX9_board_92 : decode cX9_board 92 = .ok (.i2l, 1) := by decide +kernel
theorem dX9_board_93 : decode cX9_board 93 = .ok (.goto 23, 3) := by decide +kernel
theorem dX9_board_96 : decode cX9_board 96 = .ok (.lload 4, 2) := by decide +kernel
theorem dX9_board_98 : decode cX9_board 98 = .ok (.aload_n 0, 1) := by decide +kernel
theorem dX9_board_99 : decode cX9_board 99 = .ok (.getfield 53, 3) := by decide +kernel
theorem dX9_board_102 : decode cX9_board 102 = .ok (.invokevirtual 158, 3) := by decide +kernel
theorem dX9_board_105 : decode cX9_board 105 = .ok (.iconst 3, 1) := by decide +kernel
theorem dX9_board_106 : decode cX9_board 106 = .ok (.invokestatic 193, 3) := by decide +kernel
theorem dX9_board_109 : decode cX9_board 109 = .ok (.lmul, 1) := by decide +kernel
theorem dX9_board_110 : decode cX9_board 110 = .ok (.iload_n 2, 1) := by decide +kernel
theorem dX9_board_111 : decode cX9_board 111 = .ok (.iconst 1, 1) := by decide +kernel
theorem dX9_board_112 : decode cX9_board 112 = .ok (.isub, 1) := by decide +kernel
theorem dX9_board_113 : decode cX9_board 113 = .ok (.invokestatic 162, 3) := by decide +kernel
theorem dX9_board_116 : decode cX9_board 116 = .ok (.lreturn, 1) := by decide +kernel
def L_X9_board_51 (x1 : Int32) (v_town_boatDayCost : Int32) (v_town_turnCost : Int32) (v_town_workCount : Int32) (a_town_lighter : Nat → Int32) (a_town_workNoise : Nat → Int32) (k_87 : Int32 → Int64 → Int64 → (Nat → Int64) → (Nat → Int64) → Int64 → (Nat → Int64) → (Nat → Int64) → Option (Int64 × Int64 × (Nat → Int64) × (Nat → Int64) × Int64 × (Nat → Int64) × (Nat → Int64))) : Nat → Int32 → Int64 → Int32 → Int64 → (Nat → Int64) → (Nat → Int64) → Int64 → (Nat → Int64) → (Nat → Int64) → Option (Int64 × Int64 × (Nat → Int64) × (Nat → Int64) × Int64 × (Nat → Int64) × (Nat → Int64))
  | 0, _, _, _, _, _, _, _, _, _ => none
  | n + 1, x3_51, x4_51, x6_51, v_future_turned_51, a_future_came_51, a_future_stayed_51, v_now_turned_51, a_now_came_51, a_now_stayed_51 => (if 3 < x6_51 then k_87 x3_51 x4_51 v_future_turned_51 a_future_came_51 a_future_stayed_51 v_now_turned_51 a_now_came_51 a_now_stayed_51 else (F_X9_costOfBoarding x6_51 x1 v_future_turned_51 a_future_came_51 a_future_stayed_51 v_now_turned_51 a_now_came_51 a_now_stayed_51 v_town_boatDayCost v_town_turnCost v_town_workCount a_town_lighter a_town_workNoise).bind (fun q61 => jn (fun (x3_81 : Int32) (x4_81 : Int64) => L_X9_board_51 x1 v_town_boatDayCost v_town_turnCost v_town_workCount a_town_lighter a_town_workNoise k_87 n x3_81 x4_81 ((x6_51 + 1)) q61.2.1 q61.2.2.1 q61.2.2.2 v_now_turned_51 a_now_came_51 a_now_stayed_51) (fun k_81 => (if 0 ≤ (lg_cmp q61.1 x4_51) then k_81 x3_51 x4_51 else k_81 x6_51 q61.1))))
def F_X9_board (x1 : Int32) (x2 : Int32) (v_book_days : Int32) (a_book_signs : Nat → Int32) (a_book_works : Nat → Int32) (v_future_turned : Int64) (a_future_came : Nat → Int64) (a_future_stayed : Nat → Int64) (v_now_turned : Int64) (a_now_came : Nat → Int64) (a_now_stayed : Nat → Int64) (v_town_boatDayCost : Int32) (v_town_signCount : Int32) (v_town_turnCost : Int32) (v_town_workCount : Int32) (a_town_lighter : Nat → Int32) (a_town_signNumbers : Nat → Int32) (a_town_workNoise : Nat → Int32) : Option (Int64 × Int64 × (Nat → Int64) × (Nat → Int64) × Int64 × (Nat → Int64) × (Nat → Int64)) := (F_X9_isSet x1 v_town_workCount).bind (fun q8 => (if q8 = 0 then some ((-1), v_future_turned, a_future_came, a_future_stayed, v_now_turned, a_now_came, a_now_stayed) else (F_X9_isWithin x2 0 2).bind (fun q17 => (if q17 = 0 then some ((-1), v_future_turned, a_future_came, a_future_stayed, v_now_turned, a_now_came, a_now_stayed) else (F_X9_diaryCanBe v_book_days a_book_signs a_book_works v_now_turned a_now_came a_now_stayed v_town_signCount v_town_workCount a_town_lighter a_town_signNumbers a_town_workNoise).bind (fun q28 => (if q28.1 = 0 then some ((-4), v_future_turned, a_future_came, a_future_stayed, q28.2.1, q28.2.2.1, q28.2.2.2) else (F_X9_costOfBoarding 0 x1 v_future_turned a_future_came a_future_stayed q28.2.1 q28.2.2.1 q28.2.2.2 v_town_boatDayCost v_town_turnCost v_town_workCount a_town_lighter a_town_workNoise).bind (fun q43 => jn (fun (x3_87 : Int32) (x4_87 : Int64) (v_future_turned_87 : Int64) (a_future_came_87 : Nat → Int64) (a_future_stayed_87 : Nat → Int64) (v_now_turned_87 : Int64) (a_now_came_87 : Nat → Int64) (a_now_stayed_87 : Nat → Int64) => (if x2 = 0 then some ((Int32.toInt64 x3_87), v_future_turned_87, a_future_came_87, a_future_stayed_87, v_now_turned_87, a_now_came_87, a_now_stayed_87) else (F_X5_total a_now_came_87 a_now_stayed_87).bind (fun q102 => (F_X9_fourTo 3).bind (fun q106 => (F_X9_inLowestTerms x4_87 ((q102 * q106)) ((x2 - 1))).bind (fun q113 => some (q113, v_future_turned_87, a_future_came_87, a_future_stayed_87, v_now_turned_87, a_now_came_87, a_now_stayed_87)))))) (fun k_87 => L_X9_board_51 x1 v_town_boatDayCost v_town_turnCost v_town_workCount a_town_lighter a_town_workNoise k_87 5000 0 q43.1 1 q43.2.1 q43.2.2.1 q43.2.2.2 q28.2.1 q28.2.2.1 q28.2.2.2))))))))
theorem hdV_X9_board : yX9_board.cls = RX9 ∧ yX9_board.cls ≠ "java/lang/invoke/MethodHandle" ∧ yX9_board.cls ≠ "java/lang/invoke/VarHandle" ∧ (parseMethodDescriptor yX9_board.desc).map (fun d => d.parameters.length) = some 2 := by decide +kernel
set_option maxHeartbeats 4000000 in
set_option maxRecDepth 100000 in
theorem c_X9_board (l : Launch) (G : GG) (x1 : Int32) (x2 : Int32) (h_this : Nat) (ad_this : Nat → Nat) (ad_this_book : Nat → Nat) (ad_this_future : Nat → Nat) (ad_this_now : Nat → Nat) (ad_this_town : Nat → Nat) (v_keptCount : Int32) (v_book_days : Int32) (a_book_signs : Nat → Int32) (a_book_works : Nat → Int32) (v_future_turned : Int64) (a_future_came : Nat → Int64) (a_future_stayed : Nat → Int64) (v_now_turned : Int64) (a_now_came : Nat → Int64) (a_now_stayed : Nat → Int64) (v_town_signCount : Int32) (v_town_houseCount : Int32) (v_town_boatCount : Int32) (v_town_workCount : Int32) (v_town_turnCost : Int32) (v_town_boatDayCost : Int32) (a_town_lighter : Nat → Int32) (a_town_signNumbers : Nat → Int32) (a_town_workNoise : Nat → Int32) (out : Int64 × Int64 × (Nat → Int64) × (Nat → Int64) × Int64 × (Nat → Int64) × (Nat → Int64)) (hF : F_X9_board x1 x2 v_book_days a_book_signs a_book_works v_future_turned a_future_came a_future_stayed v_now_turned a_now_came a_now_stayed v_town_boatDayCost v_town_signCount v_town_turnCost v_town_workCount a_town_lighter a_town_signNumbers a_town_workNoise = some out) : CtrJ l yX9_board (WS yX9_board cX9_board 9 (some .long)) { frames := 7, cells := 0, slots := 0, locals := 160 } G [.ref h_this, .int x1, .int x2] [(h_this, oX9 ad_this v_keptCount), ((ad_this 4), oX1 ad_this_book v_book_days), ((ad_this_book 0), cI G 5 a_book_signs), ((ad_this_book 1), cI G 5 a_book_works), ((ad_this 9), oX5 ad_this_future v_future_turned), ((ad_this_future 1), cJ G 3 a_future_came), ((ad_this_future 0), cJ G 3 a_future_stayed), ((ad_this 8), oX5 ad_this_now v_now_turned), ((ad_this_now 1), cJ G 3 a_now_came), ((ad_this_now 0), cJ G 3 a_now_stayed), ((ad_this 2), oX8 ad_this_town v_town_signCount v_town_houseCount v_town_boatCount v_town_workCount v_town_turnCost v_town_boatDayCost), ((ad_this_town 0), cI G 3 a_town_lighter), ((ad_this_town 1), cI G 16 a_town_signNumbers), ((ad_this_town 5), cI G 5 a_town_workNoise)] [(h_this, oX9 ad_this v_keptCount), ((ad_this 4), oX1 ad_this_book v_book_days), ((ad_this_book 0), cI G 5 a_book_signs), ((ad_this_book 1), cI G 5 a_book_works), ((ad_this 9), oX5 ad_this_future out.2.1), ((ad_this_future 1), cJ G 3 out.2.2.1), ((ad_this_future 0), cJ G 3 out.2.2.2.1), ((ad_this 8), oX5 ad_this_now out.2.2.2.2.1), ((ad_this_now 1), cJ G 3 out.2.2.2.2.2.1), ((ad_this_now 0), cJ G 3 out.2.2.2.2.2.2), ((ad_this 2), oX8 ad_this_town v_town_signCount v_town_houseCount v_town_boatCount v_town_workCount v_town_turnCost v_town_boatDayCost), ((ad_this_town 0), cI G 3 a_town_lighter), ((ad_this_town 1), cI G 16 a_town_signNumbers), ((ad_this_town 5), cI G 5 a_town_workNoise)] out.1 := by
  refine startJ (cc := cX9_board) (maxL := 9) (by decide) rfl (Nat.le_of_ble_eq_true rfl) ?_
  intro p e s m args below meth c A Q hx hb hml hts hown hc hA hret ls H locs hl hW
  have hown : s.vm.findClass RX9 = some m.cls := hown
  have hg : ∀ w ∈ GOODS, w.before _ s = true := fun w h => hts w (List.mem_cons_of_mem _ h)
  have hl : lv_has ls 9 [(0, .ref h_this), (1, .int x1), (2, .int x2)] := hl
  rw [F_X9_board] at hF
  refine lv_iload_n hx hb dX9_board_0 rfl (lv_at hl 1 rfl) ?_
  refine lv_aload_n hx hb dX9_board_1 rfl (lv_at hl 0 rfl) ?_
  refine va_get (D := G.1) (ci := 8) (v := .ref ((ad_this 2))) (C := RX9) (T := TX9) (N := 13) hx hb hg hu_X9 hown hc.1 hW.1 0 rfl rfl 2 (by decide) (hg _ wd_2_97) (fun _ h9 => h9) rfl dX9_board_2 ?_
  refine va_get (D := G.1) (ci := 7) (v := .int v_town_workCount) (C := RX8) (T := TX8) (N := 13) hx hb hg hu_X8 hown hc.1 hW.1 10 rfl rfl 10 (by decide) (hg _ wd_1_85) (fun _ h9 => h9) rfl dX9_board_5 ?_
  obtain ⟨q8, c_8, hF⟩ := bd_el hF
  refine wcZ (ws' := [(h_this, oX9 ad_this v_keptCount), ((ad_this 4), oX1 ad_this_book v_book_days), ((ad_this_book 0), cI G 5 a_book_signs), ((ad_this_book 1), cI G 5 a_book_works), ((ad_this 9), oX5 ad_this_future v_future_turned), ((ad_this_future 1), cJ G 3 a_future_came), ((ad_this_future 0), cJ G 3 a_future_stayed), ((ad_this 8), oX5 ad_this_now v_now_turned), ((ad_this_now 1), cJ G 3 a_now_came), ((ad_this_now 0), cJ G 3 a_now_stayed), ((ad_this 2), oX8 ad_this_town v_town_signCount v_town_houseCount v_town_boatCount v_town_workCount v_town_turnCost v_town_boatDayCost), ((ad_this_town 0), cI G 3 a_town_lighter), ((ad_this_town 1), cI G 16 a_town_signNumbers), ((ad_this_town 5), cI G 5 a_town_workNoise)]) (wc := []) (wr := [(h_this, oX9 ad_this v_keptCount), ((ad_this 4), oX1 ad_this_book v_book_days), ((ad_this_book 0), cI G 5 a_book_signs), ((ad_this_book 1), cI G 5 a_book_works), ((ad_this 9), oX5 ad_this_future v_future_turned), ((ad_this_future 1), cJ G 3 a_future_came), ((ad_this_future 0), cJ G 3 a_future_stayed), ((ad_this 8), oX5 ad_this_now v_now_turned), ((ad_this_now 1), cJ G 3 a_now_came), ((ad_this_now 0), cJ G 3 a_now_stayed), ((ad_this 2), oX8 ad_this_town v_town_signCount v_town_houseCount v_town_boatCount v_town_workCount v_town_turnCost v_town_boatDayCost), ((ad_this_town 0), cI G 3 a_town_lighter), ((ad_this_town 1), cI G 16 a_town_signNumbers), ((ad_this_town 5), cI G 5 a_town_workNoise)]) (w1 := []) (va_runS (As := [.int x1, .int v_town_workCount]) (rest := []) ⟨hx, hb, hml, hown, hg⟩ (c_X9_isSet l G x1 v_town_workCount q8 c_8 H.size) (va_cwS 2 hg (gS wd_2_166 wd_2_167 wd_1_1 wd_2_168) rfl rfl rfl hdS_X9_isSet ⟨(Nat.le_of_ble_eq_true rfl), (Nat.le_of_ble_eq_true rfl)⟩) (preS hc hW [] rfl (by decide)) rfl rfl hl.1 rfl (lv_room (Nat.le_of_ble_eq_true rfl)) dX9_board_8 ⟨Nat.zero_le _, Nat.zero_le _⟩) hA hW [] [0, 1, 2, 3, 4, 5, 6, 7, 8, 9, 10, 11, 12, 13] [0, 1, 2, 3, 4, 5, 6, 7, 8, 9, 10, 11, 12, 13] rfl rfl (by decide) (by decide) rfl (by decide) (fun z_8 H locs hW => ?_)
  refine lv_if_eq (tgt := 23) hx hb dX9_board_11 (by decide) (fun c_11 => ?_) (fun c_11 => ?_)
  · have hF := ite_t hF c_11
    refine lv_ldc2 (v := (-1)) hx hb hown (hg _ wd_2_216) dX9_board_23 ?_
    obtain rfl := Option.some.inj hF
    exact hret _ _ _ _ hW dX9_board_26
  · have hF := ite_f hF c_11
    refine lv_iload_n hx hb dX9_board_14 rfl (lv_at hl 2 rfl) ?_
    refine lv_iconst (v := 0) hx hb dX9_board_15 (by decide) ?_
    refine lv_iconst (v := 2) hx hb dX9_board_16 (by decide) ?_
    obtain ⟨q17, c_17, hF⟩ := bd_el hF
    refine wcZ (ws' := [(h_this, oX9 ad_this v_keptCount), ((ad_this 4), oX1 ad_this_book v_book_days), ((ad_this_book 0), cI G 5 a_book_signs), ((ad_this_book 1), cI G 5 a_book_works), ((ad_this 9), oX5 ad_this_future v_future_turned), ((ad_this_future 1), cJ G 3 a_future_came), ((ad_this_future 0), cJ G 3 a_future_stayed), ((ad_this 8), oX5 ad_this_now v_now_turned), ((ad_this_now 1), cJ G 3 a_now_came), ((ad_this_now 0), cJ G 3 a_now_stayed), ((ad_this 2), oX8 ad_this_town v_town_signCount v_town_houseCount v_town_boatCount v_town_workCount v_town_turnCost v_town_boatDayCost), ((ad_this_town 0), cI G 3 a_town_lighter), ((ad_this_town 1), cI G 16 a_town_signNumbers), ((ad_this_town 5), cI G 5 a_town_workNoise)]) (wc := []) (wr := [(h_this, oX9 ad_this v_keptCount), ((ad_this 4), oX1 ad_this_book v_book_days), ((ad_this_book 0), cI G 5 a_book_signs), ((ad_this_book 1), cI G 5 a_book_works), ((ad_this 9), oX5 ad_this_future v_future_turned), ((ad_this_future 1), cJ G 3 a_future_came), ((ad_this_future 0), cJ G 3 a_future_stayed), ((ad_this 8), oX5 ad_this_now v_now_turned), ((ad_this_now 1), cJ G 3 a_now_came), ((ad_this_now 0), cJ G 3 a_now_stayed), ((ad_this 2), oX8 ad_this_town v_town_signCount v_town_houseCount v_town_boatCount v_town_workCount v_town_turnCost v_town_boatDayCost), ((ad_this_town 0), cI G 3 a_town_lighter), ((ad_this_town 1), cI G 16 a_town_signNumbers), ((ad_this_town 5), cI G 5 a_town_workNoise)]) (w1 := []) (va_runS (As := [.int x2, .int 0, .int 2]) (rest := []) ⟨hx, hb, hml, hown, hg⟩ (c_X9_isWithin l G x2 0 2 q17 c_17 H.size) (va_cwS 3 hg (gS wd_2_140 wd_2_47 wd_1_1 wd_2_48) rfl rfl rfl hdS_X9_isWithin ⟨(Nat.le_of_ble_eq_true rfl), (Nat.le_of_ble_eq_true rfl)⟩) (preS hc hW [] rfl (by decide)) rfl rfl hl.1 rfl (lv_room (Nat.le_of_ble_eq_true rfl)) dX9_board_17 ⟨Nat.zero_le _, Nat.zero_le _⟩) hA hW [] [0, 1, 2, 3, 4, 5, 6, 7, 8, 9, 10, 11, 12, 13] [0, 1, 2, 3, 4, 5, 6, 7, 8, 9, 10, 11, 12, 13] rfl rfl (by decide) (by decide) rfl (by decide) (fun z_17 H locs hW => ?_)
    refine lv_if_ne (tgt := 27) hx hb dX9_board_20 (by decide) (fun c_20 => ?_) (fun c_20 => ?_)
    · have hF := ite_f hF c_20
      refine lv_aload_n hx hb dX9_board_27 rfl (lv_at hl 0 rfl) ?_
      obtain ⟨q28, c_28, hF⟩ := bd_el hF
      refine wcZ (ws' := [(h_this, oX9 ad_this v_keptCount), ((ad_this 4), oX1 ad_this_book v_book_days), ((ad_this_book 0), cI G 5 a_book_signs), ((ad_this_book 1), cI G 5 a_book_works), ((ad_this 9), oX5 ad_this_future v_future_turned), ((ad_this_future 1), cJ G 3 a_future_came), ((ad_this_future 0), cJ G 3 a_future_stayed), ((ad_this 8), oX5 ad_this_now q28.2.1), ((ad_this_now 1), cJ G 3 q28.2.2.1), ((ad_this_now 0), cJ G 3 q28.2.2.2), ((ad_this 2), oX8 ad_this_town v_town_signCount v_town_houseCount v_town_boatCount v_town_workCount v_town_turnCost v_town_boatDayCost), ((ad_this_town 0), cI G 3 a_town_lighter), ((ad_this_town 1), cI G 16 a_town_signNumbers), ((ad_this_town 5), cI G 5 a_town_workNoise)]) (wc := [(h_this, oX9 ad_this v_keptCount), ((ad_this 4), oX1 ad_this_book v_book_days), ((ad_this_book 0), cI G 5 a_book_signs), ((ad_this_book 1), cI G 5 a_book_works), ((ad_this 8), oX5 ad_this_now v_now_turned), ((ad_this_now 1), cJ G 3 a_now_came), ((ad_this_now 0), cJ G 3 a_now_stayed), ((ad_this 2), oX8 ad_this_town v_town_signCount v_town_houseCount v_town_boatCount v_town_workCount v_town_turnCost v_town_boatDayCost), ((ad_this_town 0), cI G 3 a_town_lighter), ((ad_this_town 1), cI G 16 a_town_signNumbers), ((ad_this_town 5), cI G 5 a_town_workNoise)]) (wr := [((ad_this 9), oX5 ad_this_future v_future_turned), ((ad_this_future 1), cJ G 3 a_future_came), ((ad_this_future 0), cJ G 3 a_future_stayed)]) (w1 := [(h_this, oX9 ad_this v_keptCount), ((ad_this 4), oX1 ad_this_book v_book_days), ((ad_this_book 0), cI G 5 a_book_signs), ((ad_this_book 1), cI G 5 a_book_works), ((ad_this 8), oX5 ad_this_now q28.2.1), ((ad_this_now 1), cJ G 3 q28.2.2.1), ((ad_this_now 0), cJ G 3 q28.2.2.2), ((ad_this 2), oX8 ad_this_town v_town_signCount v_town_houseCount v_town_boatCount v_town_workCount v_town_turnCost v_town_boatDayCost), ((ad_this_town 0), cI G 3 a_town_lighter), ((ad_this_town 1), cI G 16 a_town_signNumbers), ((ad_this_town 5), cI G 5 a_town_workNoise)]) (va_runV (As := []) (rest := []) ⟨hx, hb, hml, hown, hg⟩ (c_X9_diaryCanBe l G h_this ad_this ad_this_book ad_this_now ad_this_town v_keptCount v_book_days a_book_signs a_book_works v_now_turned a_now_came a_now_stayed v_town_signCount v_town_houseCount v_town_boatCount v_town_workCount v_town_turnCost v_town_boatDayCost a_town_lighter a_town_signNumbers a_town_workNoise q28 c_28 H.size) (cwV 0 hg (gV wd_2_217 wd_2_219 wd_0_11 wd_1_1 wd_2_220) rfl rfl rfl hdV_X9_diaryCanBe ⟨(Nat.le_of_ble_eq_true rfl), (Nat.le_of_ble_eq_true rfl)⟩) (preV hc hW [0, 1, 2, 3, 7, 8, 9, 10, 11, 12, 13] rfl (by decide) rfl rfl) rfl rfl hl.1 rfl (lv_room (Nat.le_of_ble_eq_true rfl)) dX9_board_28 ⟨Nat.zero_le _, Nat.zero_le _⟩) hA hW [0, 1, 2, 3, 7, 8, 9, 10, 11, 12, 13] [4, 5, 6] [3, 4, 5, 6, 0, 1, 2, 7, 8, 9, 10, 11, 12, 13] rfl rfl (by decide) (by decide) rfl (by decide) (fun z_28 H locs hW => ?_)
      refine lv_if_ne (tgt := 38) hx hb dX9_board_31 (by decide) (fun c_31 => ?_) (fun c_31 => ?_)
      · have hF := ite_f hF c_31
        refine lv_iconst (v := 0) hx hb dX9_board_38 (by decide) ?_
        refine lv_istore_n (lv' := [(3, .int 0), (0, .ref h_this), (1, .int x1), (2, .int x2)]) hx hb dX9_board_39 rfl hl (by decide) rfl (fun ls hl => ?_)
        refine lv_aload_n hx hb dX9_board_40 rfl (lv_at hl 1 rfl) ?_
        refine lv_iconst (v := 0) hx hb dX9_board_41 (by decide) ?_
        refine lv_iload_n hx hb dX9_board_42 rfl (lv_at hl 2 rfl) ?_
        obtain ⟨q43, c_43, hF⟩ := bd_el hF
        refine wcJ (ws' := [(h_this, oX9 ad_this v_keptCount), ((ad_this 4), oX1 ad_this_book v_book_days), ((ad_this_book 0), cI G 5 a_book_signs), ((ad_this_book 1), cI G 5 a_book_works), ((ad_this 9), oX5 ad_this_future q43.2.1), ((ad_this_future 1), cJ G 3 q43.2.2.1), ((ad_this_future 0), cJ G 3 q43.2.2.2), ((ad_this 8), oX5 ad_this_now q28.2.1), ((ad_this_now 1), cJ G 3 q28.2.2.1), ((ad_this_now 0), cJ G 3 q28.2.2.2), ((ad_this 2), oX8 ad_this_town v_town_signCount v_town_houseCount v_town_boatCount v_town_workCount v_town_turnCost v_town_boatDayCost), ((ad_this_town 0), cI G 3 a_town_lighter), ((ad_this_town 1), cI G 16 a_town_signNumbers), ((ad_this_town 5), cI G 5 a_town_workNoise)]) (wc := [(h_this, oX9 ad_this v_keptCount), ((ad_this 9), oX5 ad_this_future v_future_turned), ((ad_this_future 1), cJ G 3 a_future_came), ((ad_this_future 0), cJ G 3 a_future_stayed), ((ad_this 8), oX5 ad_this_now q28.2.1), ((ad_this_now 1), cJ G 3 q28.2.2.1), ((ad_this_now 0), cJ G 3 q28.2.2.2), ((ad_this 2), oX8 ad_this_town v_town_signCount v_town_houseCount v_town_boatCount v_town_workCount v_town_turnCost v_town_boatDayCost), ((ad_this_town 0), cI G 3 a_town_lighter), ((ad_this_town 5), cI G 5 a_town_workNoise)]) (wr := [((ad_this 4), oX1 ad_this_book v_book_days), ((ad_this_book 0), cI G 5 a_book_signs), ((ad_this_book 1), cI G 5 a_book_works), ((ad_this_town 1), cI G 16 a_town_signNumbers)]) (w1 := [(h_this, oX9 ad_this v_keptCount), ((ad_this 9), oX5 ad_this_future q43.2.1), ((ad_this_future 1), cJ G 3 q43.2.2.1), ((ad_this_future 0), cJ G 3 q43.2.2.2), ((ad_this 8), oX5 ad_this_now q28.2.1), ((ad_this_now 1), cJ G 3 q28.2.2.1), ((ad_this_now 0), cJ G 3 q28.2.2.2), ((ad_this 2), oX8 ad_this_town v_town_signCount v_town_houseCount v_town_boatCount v_town_workCount v_town_turnCost v_town_boatDayCost), ((ad_this_town 0), cI G 3 a_town_lighter), ((ad_this_town 5), cI G 5 a_town_workNoise)]) (va_runV (As := [.int 0, .int x1]) (rest := []) ⟨hx, hb, hml, hown, hg⟩ (c_X9_costOfBoarding l G 0 x1 h_this ad_this ad_this_future ad_this_now ad_this_town v_keptCount v_future_turned a_future_came a_future_stayed q28.2.1 q28.2.2.1 q28.2.2.2 v_town_signCount v_town_houseCount v_town_boatCount v_town_workCount v_town_turnCost v_town_boatDayCost a_town_lighter a_town_workNoise q43 c_43 H.size) (cwV 2 hg (gV wd_3_93 wd_3_95 wd_0_18 wd_1_1 wd_3_96) rfl rfl rfl hdV_X9_costOfBoarding ⟨(Nat.le_of_ble_eq_true rfl), (Nat.le_of_ble_eq_true rfl)⟩) (preV hc hW [0, 4, 5, 6, 7, 8, 9, 10, 11, 13] rfl (by decide) rfl rfl) rfl rfl hl.1 rfl (lv_room (Nat.le_of_ble_eq_true rfl)) dX9_board_43 ⟨Nat.zero_le _, Nat.zero_le _⟩) hA hW [0, 4, 5, 6, 7, 8, 9, 10, 11, 13] [1, 2, 3, 12] [4, 0, 1, 2, 5, 6, 7, 8, 9, 10, 11, 12, 3, 13] rfl rfl (by decide) (by decide) rfl (by decide) (fun H locs hW => ?_)
        refine lv_lstore (lv' := [(4, .long q43.1), (3, .int 0), (0, .ref h_this), (1, .int x1), (2, .int x2)]) hx hb dX9_board_46 hl (by decide) rfl (fun ls hl => ?_)
        refine lv_iconst (v := 1) hx hb dX9_board_48 (by decide) ?_
        refine lv_istore (lv' := [(6, .int 1), (4, .long q43.1), (3, .int 0), (0, .ref h_this), (1, .int x1), (2, .int x2)]) hx hb dX9_board_49 hl (by decide) rfl (fun ls hl => ?_)
        obtain ⟨k_87, e_87, hF⟩ := jn_el hF
        have J_87 : ∀ (x3_87 : Int32) (x4_87 : Int64) (v_future_turned_87 : Int64) (a_future_came_87 : Nat → Int64) (a_future_stayed_87 : Nat → Int64) (v_now_turned_87 : Int64) (a_now_came_87 : Nat → Int64) (a_now_stayed_87 : Nat → Int64) (ls : Array Slot) (H : Heap) (locs : List Loc), k_87 x3_87 x4_87 v_future_turned_87 a_future_came_87 a_future_stayed_87 v_now_turned_87 a_now_came_87 a_now_stayed_87 = some out → lv_has ls 9 [(0, .ref h_this), (2, .int x2), (3, .int x3_87), (4, .long x4_87)] → Wd G A s.heap [(h_this, oX9 ad_this v_keptCount), ((ad_this 4), oX1 ad_this_book v_book_days), ((ad_this_book 0), cI G 5 a_book_signs), ((ad_this_book 1), cI G 5 a_book_works), ((ad_this 9), oX5 ad_this_future v_future_turned_87), ((ad_this_future 1), cJ G 3 a_future_came_87), ((ad_this_future 0), cJ G 3 a_future_stayed_87), ((ad_this 8), oX5 ad_this_now v_now_turned_87), ((ad_this_now 1), cJ G 3 a_now_came_87), ((ad_this_now 0), cJ G 3 a_now_stayed_87), ((ad_this 2), oX8 ad_this_town v_town_signCount v_town_houseCount v_town_boatCount v_town_workCount v_town_turnCost v_town_boatDayCost), ((ad_this_town 0), cI G 3 a_town_lighter), ((ad_this_town 1), cI G 16 a_town_signNumbers), ((ad_this_town 5), cI G 5 a_town_workNoise)] H locs → W p l e ({ frames := 7, cells := 0, slots := 0, locals := 160 } : Room) s m args below meth c H locs 0 0 Q (F0 m 87 ls []) := by
          intro x3_87 x4_87 v_future_turned_87 a_future_came_87 a_future_stayed_87 v_now_turned_87 a_now_came_87 a_now_stayed_87 ls H locs hF hl hW
          rw [e_87] at hF
          dsimp only at hF
          refine lv_iload_n hx hb dX9_board_87 rfl (lv_at hl 1 rfl) ?_
          refine lv_if_ne (tgt := 96) hx hb dX9_board_88 (by decide) (fun c_88 => ?_) (fun c_88 => ?_)
          · have hF := ite_f hF c_88
            refine lv_lload hx hb dX9_board_96 (lv_at hl 3 rfl) ?_
            refine lv_aload_n hx hb dX9_board_98 rfl (lv_at hl 0 rfl) ?_
            refine va_get (D := G.1) (ci := 8) (v := .ref ((ad_this 8))) (C := RX9) (T := TX9) (N := 13) hx hb hg hu_X9 hown hc.1 hW.1 0 rfl rfl 8 (by decide) (hg _ wd_2_103) (fun _ h9 => h9) rfl dX9_board_99 ?_
            obtain ⟨q102, c_102, hF⟩ := bd_el hF
            refine wcJ (ws' := [(h_this, oX9 ad_this v_keptCount), ((ad_this 4), oX1 ad_this_book v_book_days), ((ad_this_book 0), cI G 5 a_book_signs), ((ad_this_book 1), cI G 5 a_book_works), ((ad_this 9), oX5 ad_this_future v_future_turned_87), ((ad_this_future 1), cJ G 3 a_future_came_87), ((ad_this_future 0), cJ G 3 a_future_stayed_87), ((ad_this 8), oX5 ad_this_now v_now_turned_87), ((ad_this_now 1), cJ G 3 a_now_came_87), ((ad_this_now 0), cJ G 3 a_now_stayed_87), ((ad_this 2), oX8 ad_this_town v_town_signCount v_town_houseCount v_town_boatCount v_town_workCount v_town_turnCost v_town_boatDayCost), ((ad_this_town 0), cI G 3 a_town_lighter), ((ad_this_town 1), cI G 16 a_town_signNumbers), ((ad_this_town 5), cI G 5 a_town_workNoise)]) (wc := [((ad_this 8), oX5 ad_this_now v_now_turned_87), ((ad_this_now 1), cJ G 3 a_now_came_87), ((ad_this_now 0), cJ G 3 a_now_stayed_87)]) (wr := [(h_this, oX9 ad_this v_keptCount), ((ad_this 4), oX1 ad_this_book v_book_days), ((ad_this_book 0), cI G 5 a_book_signs), ((ad_this_book 1), cI G 5 a_book_works), ((ad_this 9), oX5 ad_this_future v_future_turned_87), ((ad_this_future 1), cJ G 3 a_future_came_87), ((ad_this_future 0), cJ G 3 a_future_stayed_87), ((ad_this 2), oX8 ad_this_town v_town_signCount v_town_houseCount v_town_boatCount v_town_workCount v_town_turnCost v_town_boatDayCost), ((ad_this_town 0), cI G 3 a_town_lighter), ((ad_this_town 1), cI G 16 a_town_signNumbers), ((ad_this_town 5), cI G 5 a_town_workNoise)]) (w1 := [((ad_this 8), oX5 ad_this_now v_now_turned_87), ((ad_this_now 1), cJ G 3 a_now_came_87), ((ad_this_now 0), cJ G 3 a_now_stayed_87)]) (va_runV (As := []) (rest := [.long x4_87]) ⟨hx, hb, hml, hown, hg⟩ (c_X5_total l G ((ad_this 8)) ad_this_now v_now_turned_87 a_now_came_87 a_now_stayed_87 q102 c_102 H.size) (cwV 0 hg (gV wd_3_30 wd_3_31 wd_3_32 wd_1_6 wd_3_33) rfl rfl rfl hdV_X5_total ⟨(Nat.le_of_ble_eq_true rfl), (Nat.le_of_ble_eq_true rfl)⟩) (preV hc hW [7, 8, 9] rfl (by decide) rfl rfl) rfl rfl hl.1 rfl (lv_room (Nat.le_of_ble_eq_true rfl)) dX9_board_102 ⟨Nat.zero_le _, Nat.zero_le _⟩) hA hW [7, 8, 9] [0, 1, 2, 3, 4, 5, 6, 10, 11, 12, 13] [0, 1, 2, 3, 4, 5, 6, 11, 12, 13, 7, 8, 9, 10] rfl rfl (by decide) (by decide) rfl (by decide) (fun H locs hW => ?_)
            refine lv_iconst (v := 3) hx hb dX9_board_105 (by decide) ?_
            obtain ⟨q106, c_106, hF⟩ := bd_el hF
            refine wcJ (ws' := [(h_this, oX9 ad_this v_keptCount), ((ad_this 4), oX1 ad_this_book v_book_days), ((ad_this_book 0), cI G 5 a_book_signs), ((ad_this_book 1), cI G 5 a_book_works), ((ad_this 9), oX5 ad_this_future v_future_turned_87), ((ad_this_future 1), cJ G 3 a_future_came_87), ((ad_this_future 0), cJ G 3 a_future_stayed_87), ((ad_this 8), oX5 ad_this_now v_now_turned_87), ((ad_this_now 1), cJ G 3 a_now_came_87), ((ad_this_now 0), cJ G 3 a_now_stayed_87), ((ad_this 2), oX8 ad_this_town v_town_signCount v_town_houseCount v_town_boatCount v_town_workCount v_town_turnCost v_town_boatDayCost), ((ad_this_town 0), cI G 3 a_town_lighter), ((ad_this_town 1), cI G 16 a_town_signNumbers), ((ad_this_town 5), cI G 5 a_town_workNoise)]) (wc := []) (wr := [(h_this, oX9 ad_this v_keptCount), ((ad_this 4), oX1 ad_this_book v_book_days), ((ad_this_book 0), cI G 5 a_book_signs), ((ad_this_book 1), cI G 5 a_book_works), ((ad_this 9), oX5 ad_this_future v_future_turned_87), ((ad_this_future 1), cJ G 3 a_future_came_87), ((ad_this_future 0), cJ G 3 a_future_stayed_87), ((ad_this 8), oX5 ad_this_now v_now_turned_87), ((ad_this_now 1), cJ G 3 a_now_came_87), ((ad_this_now 0), cJ G 3 a_now_stayed_87), ((ad_this 2), oX8 ad_this_town v_town_signCount v_town_houseCount v_town_boatCount v_town_workCount v_town_turnCost v_town_boatDayCost), ((ad_this_town 0), cI G 3 a_town_lighter), ((ad_this_town 1), cI G 16 a_town_signNumbers), ((ad_this_town 5), cI G 5 a_town_workNoise)]) (w1 := []) (va_runS (As := [.int 3]) (rest := [.long q102, .long x4_87]) ⟨hx, hb, hml, hown, hg⟩ (c_X9_fourTo l G 3 q106 c_106 H.size) (va_cwS 1 hg (gS wd_3_97 wd_3_98 wd_1_1 wd_3_99) rfl rfl rfl hdS_X9_fourTo ⟨(Nat.le_of_ble_eq_true rfl), (Nat.le_of_ble_eq_true rfl)⟩) (preS hc hW [] rfl (by decide)) rfl rfl hl.1 rfl (lv_room (Nat.le_of_ble_eq_true rfl)) dX9_board_106 ⟨Nat.zero_le _, Nat.zero_le _⟩) hA hW [] [0, 1, 2, 3, 4, 5, 6, 7, 8, 9, 10, 11, 12, 13] [0, 1, 2, 3, 4, 5, 6, 7, 8, 9, 10, 11, 12, 13] rfl rfl (by decide) (by decide) rfl (by decide) (fun H locs hW => ?_)
            refine lv_lmul hx hb dX9_board_109 ?_
            refine lv_iload_n hx hb dX9_board_110 rfl (lv_at hl 1 rfl) ?_
            refine lv_iconst (v := 1) hx hb dX9_board_111 (by decide) ?_
            refine lv_isub hx hb dX9_board_112 ?_
            obtain ⟨q113, c_113, hF⟩ := bd_el hF
            refine wcJ (ws' := [(h_this, oX9 ad_this v_keptCount), ((ad_this 4), oX1 ad_this_book v_book_days), ((ad_this_book 0), cI G 5 a_book_signs), ((ad_this_book 1), cI G 5 a_book_works), ((ad_this 9), oX5 ad_this_future v_future_turned_87), ((ad_this_future 1), cJ G 3 a_future_came_87), ((ad_this_future 0), cJ G 3 a_future_stayed_87), ((ad_this 8), oX5 ad_this_now v_now_turned_87), ((ad_this_now 1), cJ G 3 a_now_came_87), ((ad_this_now 0), cJ G 3 a_now_stayed_87), ((ad_this 2), oX8 ad_this_town v_town_signCount v_town_houseCount v_town_boatCount v_town_workCount v_town_turnCost v_town_boatDayCost), ((ad_this_town 0), cI G 3 a_town_lighter), ((ad_this_town 1), cI G 16 a_town_signNumbers), ((ad_this_town 5), cI G 5 a_town_workNoise)]) (wc := []) (wr := [(h_this, oX9 ad_this v_keptCount), ((ad_this 4), oX1 ad_this_book v_book_days), ((ad_this_book 0), cI G 5 a_book_signs), ((ad_this_book 1), cI G 5 a_book_works), ((ad_this 9), oX5 ad_this_future v_future_turned_87), ((ad_this_future 1), cJ G 3 a_future_came_87), ((ad_this_future 0), cJ G 3 a_future_stayed_87), ((ad_this 8), oX5 ad_this_now v_now_turned_87), ((ad_this_now 1), cJ G 3 a_now_came_87), ((ad_this_now 0), cJ G 3 a_now_stayed_87), ((ad_this 2), oX8 ad_this_town v_town_signCount v_town_houseCount v_town_boatCount v_town_workCount v_town_turnCost v_town_boatDayCost), ((ad_this_town 0), cI G 3 a_town_lighter), ((ad_this_town 1), cI G 16 a_town_signNumbers), ((ad_this_town 5), cI G 5 a_town_workNoise)]) (w1 := []) (va_runS (As := [.long x4_87, .long ((q102 * q106)), .int ((x2 - 1))]) (rest := []) ⟨hx, hb, hml, hown, hg⟩ (c_X9_inLowestTerms l G x4_87 ((q102 * q106)) ((x2 - 1)) q113 c_113 H.size) (va_cwS 3 hg (gS wd_3_36 wd_3_37 wd_1_1 wd_3_38) rfl rfl rfl hdS_X9_inLowestTerms ⟨(Nat.le_of_ble_eq_true rfl), (Nat.le_of_ble_eq_true rfl)⟩) (preS hc hW [] rfl (by decide)) rfl rfl hl.1 rfl (lv_room (Nat.le_of_ble_eq_true rfl)) dX9_board_113 ⟨Nat.zero_le _, Nat.zero_le _⟩) hA hW [] [0, 1, 2, 3, 4, 5, 6, 7, 8, 9, 10, 11, 12, 13] [0, 1, 2, 3, 4, 5, 6, 7, 8, 9, 10, 11, 12, 13] rfl rfl (by decide) (by decide) rfl (by decide) (fun H locs hW => ?_)
            obtain rfl := Option.some.inj hF
            exact hret _ _ _ _ hW dX9_board_116
          · have hF := ite_t hF c_88
            refine lv_iload_n hx hb dX9_board_91 rfl (lv_at hl 2 rfl) ?_
            refine lv_i2l (v := (Int32.toInt64 x3_87)) hx hb dX9_board_92 rfl ?_
            refine lv_goto (tgt := 116) hx hb dX9_board_93 (by decide) ?_
            obtain rfl := Option.some.inj hF
            exact hret _ _ _ _ hW dX9_board_116
        have L_51 : ∀ (n : Nat) (x3_51 : Int32) (x4_51 : Int64) (x6_51 : Int32) (v_future_turned_51 : Int64) (a_future_came_51 : Nat → Int64) (a_future_stayed_51 : Nat → Int64) (v_now_turned_51 : Int64) (a_now_came_51 : Nat → Int64) (a_now_stayed_51 : Nat → Int64) (ls : Array Slot) (H : Heap) (locs : List Loc), L_X9_board_51 x1 v_town_boatDayCost v_town_turnCost v_town_workCount a_town_lighter a_town_workNoise k_87 n x3_51 x4_51 x6_51 v_future_turned_51 a_future_came_51 a_future_stayed_51 v_now_turned_51 a_now_came_51 a_now_stayed_51 = some out → lv_has ls 9 [(0, .ref h_this), (1, .int x1), (2, .int x2), (3, .int x3_51), (4, .long x4_51), (6, .int x6_51)] → Wd G A s.heap [(h_this, oX9 ad_this v_keptCount), ((ad_this 4), oX1 ad_this_book v_book_days), ((ad_this_book 0), cI G 5 a_book_signs), ((ad_this_book 1), cI G 5 a_book_works), ((ad_this 9), oX5 ad_this_future v_future_turned_51), ((ad_this_future 1), cJ G 3 a_future_came_51), ((ad_this_future 0), cJ G 3 a_future_stayed_51), ((ad_this 8), oX5 ad_this_now v_now_turned_51), ((ad_this_now 1), cJ G 3 a_now_came_51), ((ad_this_now 0), cJ G 3 a_now_stayed_51), ((ad_this 2), oX8 ad_this_town v_town_signCount v_town_houseCount v_town_boatCount v_town_workCount v_town_turnCost v_town_boatDayCost), ((ad_this_town 0), cI G 3 a_town_lighter), ((ad_this_town 1), cI G 16 a_town_signNumbers), ((ad_this_town 5), cI G 5 a_town_workNoise)] H locs → W p l e ({ frames := 7, cells := 0, slots := 0, locals := 160 } : Room) s m args below meth c H locs 0 0 Q (F0 m 51 ls []) := by
          intro n
          induction n with
          | zero => intro x3_51 x4_51 x6_51 v_future_turned_51 a_future_came_51 a_future_stayed_51 v_now_turned_51 a_now_came_51 a_now_stayed_51 ls H locs hF hl hW; have h0 : none = some out := hF; cases h0
          | succ n ih =>
            intro x3_51 x4_51 x6_51 v_future_turned_51 a_future_came_51 a_future_stayed_51 v_now_turned_51 a_now_came_51 a_now_stayed_51 ls H locs hF hl hW
            rw [L_X9_board_51] at hF
            refine lv_iload hx hb dX9_board_51 (lv_at hl 5 rfl) ?_
            refine lv_iconst (v := 3) hx hb dX9_board_53 (by decide) ?_
            refine lv_icmp_gt (tgt := 87) hx hb dX9_board_54 (by decide) (fun c_54 => ?_) (fun c_54 => ?_)
            · have hF := ite_t hF c_54
              exact J_87 x3_51 x4_51 v_future_turned_51 a_future_came_51 a_future_stayed_51 v_now_turned_51 a_now_came_51 a_now_stayed_51 _ _ _ hF (lv_sub hl [0, 2, 3, 4] rfl) hW
            · have hF := ite_f hF c_54
              refine lv_aload_n hx hb dX9_board_57 rfl (lv_at hl 0 rfl) ?_
              refine lv_iload hx hb dX9_board_58 (lv_at hl 5 rfl) ?_
              refine lv_iload_n hx hb dX9_board_60 rfl (lv_at hl 1 rfl) ?_
              obtain ⟨q61, c_61, hF⟩ := bd_el hF
              refine wcJ (ws' := [(h_this, oX9 ad_this v_keptCount), ((ad_this 4), oX1 ad_this_book v_book_days), ((ad_this_book 0), cI G 5 a_book_signs), ((ad_this_book 1), cI G 5 a_book_works), ((ad_this 9), oX5 ad_this_future q61.2.1), ((ad_this_future 1), cJ G 3 q61.2.2.1), ((ad_this_future 0), cJ G 3 q61.2.2.2), ((ad_this 8), oX5 ad_this_now v_now_turned_51), ((ad_this_now 1), cJ G 3 a_now_came_51), ((ad_this_now 0), cJ G 3 a_now_stayed_51), ((ad_this 2), oX8 ad_this_town v_town_signCount v_town_houseCount v_town_boatCount v_town_workCount v_town_turnCost v_town_boatDayCost), ((ad_this_town 0), cI G 3 a_town_lighter), ((ad_this_town 1), cI G 16 a_town_signNumbers), ((ad_this_town 5), cI G 5 a_town_workNoise)]) (wc := [(h_this, oX9 ad_this v_keptCount), ((ad_this 9), oX5 ad_this_future v_future_turned_51), ((ad_this_future 1), cJ G 3 a_future_came_51), ((ad_this_future 0), cJ G 3 a_future_stayed_51), ((ad_this 8), oX5 ad_this_now v_now_turned_51), ((ad_this_now 1), cJ G 3 a_now_came_51), ((ad_this_now 0), cJ G 3 a_now_stayed_51), ((ad_this 2), oX8 ad_this_town v_town_signCount v_town_houseCount v_town_boatCount v_town_workCount v_town_turnCost v_town_boatDayCost), ((ad_this_town 0), cI G 3 a_town_lighter), ((ad_this_town 5), cI G 5 a_town_workNoise)]) (wr := [((ad_this 4), oX1 ad_this_book v_book_days), ((ad_this_book 0), cI G 5 a_book_signs), ((ad_this_book 1), cI G 5 a_book_works), ((ad_this_town 1), cI G 16 a_town_signNumbers)]) (w1 := [(h_this, oX9 ad_this v_keptCount), ((ad_this 9), oX5 ad_this_future q61.2.1), ((ad_this_future 1), cJ G 3 q61.2.2.1), ((ad_this_future 0), cJ G 3 q61.2.2.2), ((ad_this 8), oX5 ad_this_now v_now_turned_51), ((ad_this_now 1), cJ G 3 a_now_came_51), ((ad_this_now 0), cJ G 3 a_now_stayed_51), ((ad_this 2), oX8 ad_this_town v_town_signCount v_town_houseCount v_town_boatCount v_town_workCount v_town_turnCost v_town_boatDayCost), ((ad_this_town 0), cI G 3 a_town_lighter), ((ad_this_town 5), cI G 5 a_town_workNoise)]) (va_runV (As := [.int x6_51, .int x1]) (rest := []) ⟨hx, hb, hml, hown, hg⟩ (c_X9_costOfBoarding l G x6_51 x1 h_this ad_this ad_this_future ad_this_now ad_this_town v_keptCount v_future_turned_51 a_future_came_51 a_future_stayed_51 v_now_turned_51 a_now_came_51 a_now_stayed_51 v_town_signCount v_town_houseCount v_town_boatCount v_town_workCount v_town_turnCost v_town_boatDayCost a_town_lighter a_town_workNoise q61 c_61 H.size) (cwV 2 hg (gV wd_3_93 wd_3_95 wd_0_18 wd_1_1 wd_3_96) rfl rfl rfl hdV_X9_costOfBoarding ⟨(Nat.le_of_ble_eq_true rfl), (Nat.le_of_ble_eq_true rfl)⟩) (preV hc hW [0, 4, 5, 6, 7, 8, 9, 10, 11, 13] rfl (by decide) rfl rfl) rfl rfl hl.1 rfl (lv_room (Nat.le_of_ble_eq_true rfl)) dX9_board_61 ⟨Nat.zero_le _, Nat.zero_le _⟩) hA hW [0, 4, 5, 6, 7, 8, 9, 10, 11, 13] [1, 2, 3, 12] [4, 0, 1, 2, 5, 6, 7, 8, 9, 10, 11, 12, 3, 13] rfl rfl (by decide) (by decide) rfl (by decide) (fun H locs hW => ?_)
              refine lv_lstore (lv' := [(7, .long q61.1), (0, .ref h_this), (1, .int x1), (2, .int x2), (3, .int x3_51), (4, .long x4_51), (6, .int x6_51)]) hx hb dX9_board_64 hl (by decide) rfl (fun ls hl => ?_)
              refine lv_lload hx hb dX9_board_66 (lv_at hl 0 rfl) ?_
              refine lv_lload hx hb dX9_board_68 (lv_at hl 5 rfl) ?_
              refine W.lcmp hx hb dX9_board_70 ?_
              obtain ⟨k_81, e_81, hF⟩ := jn_el hF
              have J_81 : ∀ (x3_81 : Int32) (x4_81 : Int64) (ls : Array Slot) (H : Heap) (locs : List Loc), k_81 x3_81 x4_81 = some out → lv_has ls 9 [(0, .ref h_this), (1, .int x1), (2, .int x2), (3, .int x3_81), (4, .long x4_81), (6, .int x6_51)] → Wd G A s.heap [(h_this, oX9 ad_this v_keptCount), ((ad_this 4), oX1 ad_this_book v_book_days), ((ad_this_book 0), cI G 5 a_book_signs), ((ad_this_book 1), cI G 5 a_book_works), ((ad_this 9), oX5 ad_this_future q61.2.1), ((ad_this_future 1), cJ G 3 q61.2.2.1), ((ad_this_future 0), cJ G 3 q61.2.2.2), ((ad_this 8), oX5 ad_this_now v_now_turned_51), ((ad_this_now 1), cJ G 3 a_now_came_51), ((ad_this_now 0), cJ G 3 a_now_stayed_51), ((ad_this 2), oX8 ad_this_town v_town_signCount v_town_houseCount v_town_boatCount v_town_workCount v_town_turnCost v_town_boatDayCost), ((ad_this_town 0), cI G 3 a_town_lighter), ((ad_this_town 1), cI G 16 a_town_signNumbers), ((ad_this_town 5), cI G 5 a_town_workNoise)] H locs → W p l e ({ frames := 7, cells := 0, slots := 0, locals := 160 } : Room) s m args below meth c H locs 0 0 Q (F0 m 81 ls []) := by
                intro x3_81 x4_81 ls H locs hF hl hW
                rw [e_81] at hF
                dsimp only at hF
                refine lv_iinc (v := (x6_51 + 1)) (lv' := [(6, .int ((x6_51 + 1))), (0, .ref h_this), (1, .int x1), (2, .int x2), (3, .int x3_81), (4, .long x4_81)]) hx hb dX9_board_81 hl (k := 5) rfl rfl (by decide) rfl (fun ls hl => ?_)
                refine lv_goto (tgt := 51) hx hb dX9_board_84 (by decide) ?_
                exact ih x3_81 x4_81 ((x6_51 + 1)) q61.2.1 q61.2.2.1 q61.2.2.2 v_now_turned_51 a_now_came_51 a_now_stayed_51 _ _ _ hF (lv_sub hl [1, 2, 3, 4, 5, 0] rfl) hW
              refine lv_if_ge (tgt := 81) hx hb dX9_board_71 (by decide) (fun c_71 => ?_) (fun c_71 => ?_)
              · have hF := ite_t hF c_71
                exact J_81 x3_51 x4_51 _ _ _ hF (lv_sub hl [1, 2, 3, 4, 5, 6] rfl) hW
              · have hF := ite_f hF c_71
                refine lv_lload hx hb dX9_board_74 (lv_at hl 0 rfl) ?_
                refine lv_lstore (lv' := [(4, .long q61.1), (7, .long q61.1), (0, .ref h_this), (1, .int x1), (2, .int x2), (3, .int x3_51), (6, .int x6_51)]) hx hb dX9_board_76 hl (by decide) rfl (fun ls hl => ?_)
                refine lv_iload hx hb dX9_board_78 (lv_at hl 6 rfl) ?_
                refine lv_istore_n (lv' := [(3, .int x6_51), (4, .long q61.1), (7, .long q61.1), (0, .ref h_this), (1, .int x1), (2, .int x2), (6, .int x6_51)]) hx hb dX9_board_80 rfl hl (by decide) rfl (fun ls hl => ?_)
                exact J_81 x6_51 q61.1 _ _ _ hF (lv_sub hl [3, 4, 5, 0, 1, 6] rfl) hW
        exact L_51 5000 0 q43.1 1 q43.2.1 q43.2.2.1 q43.2.2.2 q28.2.1 q28.2.2.1 q28.2.2.2 _ _ _ hF (lv_sub hl [3, 4, 5, 2, 1, 0] rfl) hW
      · have hF := ite_t hF c_31
        refine lv_ldc2 (v := (-4)) hx hb hown (hg _ wd_3_34) dX9_board_34 ?_
        obtain rfl := Option.some.inj hF
        exact hret _ _ _ _ hW dX9_board_37
    · have hF := ite_t hF c_20
      refine lv_ldc2 (v := (-1)) hx hb hown (hg _ wd_2_216) dX9_board_23 ?_
      obtain rfl := Option.some.inj hF
      exact hret _ _ _ _ hW dX9_board_26
theorem dX9_quiet_0 : decode cX9_quiet 0 = .ok (.iload_n 1, 1) := by decide +kernel
theorem dX9_quiet_1 : decode cX9_quiet 1 = .ok (.iconst 0, 1) := by decide +kernel
theorem dX9_quiet_2 : decode cX9_quiet 2 = .ok (.bipush 100, 2) := by decide +kernel
theorem dX9_quiet_4 : decode cX9_quiet 4 = .ok (.invokestatic 104, 3) := by decide +kernel
theorem dX9_quiet_7 : decode cX9_quiet 7 = .ok (.ifCond .eq 12, 3) := by decide +kernel
theorem dX9_quiet_10 : decode cX9_quiet 10 = .ok (.iload_n 2, 1) := by decide +kernel
theorem dX9_quiet_11 : decode cX9_quiet 11 = .ok (.iconst 0, 1) := by decide +kernel
theorem dX9_quiet_12 : decode cX9_quiet 12 = .ok (.iconst 1, 1) := by decide +kernel
theorem dX9_quiet_13 : decode cX9_quiet 13 = .ok (.invokestatic 104, 3) := by decide +kernel
theorem dX9_quiet_16 : decode cX9_quiet 16 = .ok (.ifCond .ne 5, 3) := by decide +kernel
theorem dX9_quiet_19 : decode cX9_quiet 19 = .ok (.iconst (-1), 1) := by decide +kernel
theorem dX9_quiet_20 : decode cX9_quiet 20 = .ok (.ireturn, 1) := by decide +kernel
theorem dX9_quiet_21 : decode cX9_quiet 21 = .ok (.aload_n 0, 1) := by decide +kernel
theorem dX9_quiet_22 : decode cX9_quiet 22 = .ok (.invokevirtual 148, 3) := by decide +kernel
theorem dX9_quiet_25 : decode cX9_quiet 25 = .ok (.ifCond .ne 6, 3) := by decide +kernel
theorem dX9_quiet_28 : decode cX9_quiet 28 = .ok (.bipush (-4), 2) := by decide +kernel
theorem dX9_quiet_30 : decode cX9_quiet 30 = .ok (.ireturn, 1) := by decide +kernel
theorem dX9_quiet_31 : decode cX9_quiet 31 = .ok (.bipush (-4), 2) := by decide +kernel
theorem dX9_quiet_33 : decode cX9_quiet 33 = .ok (.istore_n 3, 1) := by decide +kernel
theorem dX9_quiet_34 : decode cX9_quiet 34 = .ok (.bipush (-4), 2) := by decide +kernel
theorem dX9_quiet_36 : decode cX9_quiet 36 = .ok (.istore 4, 2) := by decide +kernel
theorem dX9_quiet_38 : decode cX9_quiet 38 = .ok (.iconst 0, 1) := by decide +kernel
theorem dX9_quiet_39 : decode cX9_quiet 39 = .ok (.istore 5, 2) := by decide +kernel
theorem dX9_quiet_41 : decode cX9_quiet 41 = .ok (.iload 5, 2) := by decide +kernel
theorem dX9_quiet_43 : decode cX9_quiet 43 = .ok (.aload_n 0, 1) := by decide +kernel
theorem dX9_quiet_44 : decode cX9_quiet 44 = .ok (.getfield 26, 3) := by decide +kernel
theorem dX9_quiet_47 : decode cX9_quiet 47 = .ok (.getfield 123, 3) := by decide +kernel
theorem dX9_quiet_50 : decode cX9_quiet 50 = .ok (.invokestatic 196, 3) := by decide +kernel
theorem dX9_quiet_53 : decode cX9_quiet 53 = .ok (.if_icmp .ge 44, 3) := by decide +kernel
theorem dX9_quiet_56 : decode cX9_quiet 56 = .ok (.aload_n 0, 1) := by decide +kernel
theorem dX9_quiet_57 : decode cX9_quiet 57 = .ok (.getfield 26, 3) := by decide +kernel
theorem dX9_quiet_60 : decode cX9_quiet 60 = .ok (.iload 5, 2) := by decide +kernel
theorem dX9_quiet_62 : decode cX9_quiet 62 = .ok (.invokevirtual 134, 3) := by decide +kernel
theorem dX9_quiet_65 : decode cX9_quiet 65 = .ok (.istore 6, 2) := by decide +kernel
theorem dX9_quiet_67 : decode cX9_quiet 67 = .ok (.iload 6, 2) := by decide +kernel
theorem dX9_quiet_69 : decode cX9_quiet 69 = .ok (.iload 4, 2) := by decide +kernel
theorem dX9_quiet_71 : decode cX9_quiet 71 = .ok (.if_icmp .le 20, 3) := by decide +kernel
theorem dX9_quiet_74 : decode cX9_quiet 74 = .ok (.aload_n 0, 1) := by decide +kernel
theorem dX9_quiet_75 : decode cX9_quiet 75 = .ok (.iload 5, 2) := by decide +kernel
theorem dX9_quiet_77 : decode cX9_quiet 77 = .ok (.iload_n 1, 1) := by decide +kernel
theorem dX9_quiet_78 : decode cX9_quiet 78 = .ok (.invokevirtual 199, 3) := by decide +kernel
theorem dX9_quiet_81 : decode cX9_quiet 81 = .ok (.ifCond .eq 10, 3) := by decide +kernel
theorem dX9_quiet_84 : decode cX9_quiet 84 = .ok (.iload 6, 2) := by decide +kernel
theorem dX9_quiet_86 : decode cX9_quiet 86 = .ok (.istore 4, 2) := by decide +kernel
theorem dX9_quiet_88 : decode cX9_quiet 88 = .ok (.iload 5, 2) := by decide +kernel
theorem dX9_quiet_90 : decode cX9_quiet 90 = .ok (.istore_n 3, 1) := by decide +kernel
theorem dX9_quiet_91 : decode cX9_quiet 91 = .ok (.iinc 5 1, 3) := by decide +kernel
theorem dX9_quiet_94 : decode cX9_quiet 94 = .ok (.goto (-53), 3) := by decide +kernel
theorem dX9_quiet_97 : decode cX9_quiet 97 = .ok (.iload_n 2, 1) := by decide +kernel
theorem dX9_quiet_98 : decode cX9_quiet 98 = .ok (.ifCond .ne 7, 3) := by decide +kernel
theorem dX9_quiet_101 : decode cX9_quiet 101 = .ok (.iload_n 3, 1) := by decide +kernel
theorem dX9_quiet_102 : decode cX9_quiet 102 = .ok (.goto 5, 3) := by decide +kernel
theorem dX9_quiet_105 : decode cX9_quiet 105 = .ok (.iload 4, 2) := by decide +kernel
theorem dX9_quiet_107 : decode cX9_quiet 107 = .ok (.ireturn, 1) := by decide +kernel
def L_X9_quiet_41 (x1 : Int32) (v_town_workCount : Int32) (a_town_lighter : Nat → Int32) (a_town_workGain : Nat → Int32) (a_town_workNoise : Nat → Int32) (k_97 : Int32 → Int32 → Int64 → (Nat → Int64) → (Nat → Int64) → Int64 → (Nat → Int64) → (Nat → Int64) → Option (Int32 × Int64 × (Nat → Int64) × (Nat → Int64) × Int64 × (Nat → Int64) × (Nat → Int64))) : Nat → Int32 → Int32 → Int32 → Int64 → (Nat → Int64) → (Nat → Int64) → Int64 → (Nat → Int64) → (Nat → Int64) → Option (Int32 × Int64 × (Nat → Int64) × (Nat → Int64) × Int64 × (Nat → Int64) × (Nat → Int64))
  | 0, _, _, _, _, _, _, _, _, _ => none
  | n + 1, x3_41, x4_41, x5_41, v_future_turned_41, a_future_came_41, a_future_stayed_41, v_now_turned_41, a_now_came_41, a_now_stayed_41 => (F_X9_setsOf v_town_workCount).bind (fun q50 => (if q50 ≤ x5_41 then k_97 x3_41 x4_41 v_future_turned_41 a_future_came_41 a_future_stayed_41 v_now_turned_41 a_now_came_41 a_now_stayed_41 else (F_X8_gainOf x5_41 v_town_workCount a_town_workGain).bind (fun q62 => jn (fun (x3_91 : Int32) (x4_91 : Int32) (v_future_turned_91 : Int64) (a_future_came_91 : Nat → Int64) (a_future_stayed_91 : Nat → Int64) => L_X9_quiet_41 x1 v_town_workCount a_town_lighter a_town_workGain a_town_workNoise k_97 n x3_91 x4_91 ((x5_41 + 1)) v_future_turned_91 a_future_came_91 a_future_stayed_91 v_now_turned_41 a_now_came_41 a_now_stayed_41) (fun k_91 => (if q62 ≤ x4_41 then k_91 x3_41 x4_41 v_future_turned_41 a_future_came_41 a_future_stayed_41 else (F_X9_isQuiet x5_41 x1 v_future_turned_41 a_future_came_41 a_future_stayed_41 v_now_turned_41 a_now_came_41 a_now_stayed_41 v_town_workCount a_town_lighter a_town_workNoise).bind (fun q78 => (if q78.1 = 0 then k_91 x3_41 x4_41 q78.2.1 q78.2.2.1 q78.2.2.2 else k_91 x5_41 q62 q78.2.1 q78.2.2.1 q78.2.2.2)))))))
def F_X9_quiet (x1 : Int32) (x2 : Int32) (v_book_days : Int32) (a_book_signs : Nat → Int32) (a_book_works : Nat → Int32) (v_future_turned : Int64) (a_future_came : Nat → Int64) (a_future_stayed : Nat → Int64) (v_now_turned : Int64) (a_now_came : Nat → Int64) (a_now_stayed : Nat → Int64) (v_town_signCount : Int32) (v_town_workCount : Int32) (a_town_lighter : Nat → Int32) (a_town_signNumbers : Nat → Int32) (a_town_workGain : Nat → Int32) (a_town_workNoise : Nat → Int32) : Option (Int32 × Int64 × (Nat → Int64) × (Nat → Int64) × Int64 × (Nat → Int64) × (Nat → Int64)) := (F_X9_isWithin x1 0 100).bind (fun q4 => (if q4 = 0 then some ((-1), v_future_turned, a_future_came, a_future_stayed, v_now_turned, a_now_came, a_now_stayed) else (F_X9_isWithin x2 0 1).bind (fun q13 => (if q13 = 0 then some ((-1), v_future_turned, a_future_came, a_future_stayed, v_now_turned, a_now_came, a_now_stayed) else (F_X9_diaryCanBe v_book_days a_book_signs a_book_works v_now_turned a_now_came a_now_stayed v_town_signCount v_town_workCount a_town_lighter a_town_signNumbers a_town_workNoise).bind (fun q22 => (if q22.1 = 0 then some ((-4), v_future_turned, a_future_came, a_future_stayed, q22.2.1, q22.2.2.1, q22.2.2.2) else jn (fun (x3_97 : Int32) (x4_97 : Int32) (v_future_turned_97 : Int64) (a_future_came_97 : Nat → Int64) (a_future_stayed_97 : Nat → Int64) (v_now_turned_97 : Int64) (a_now_came_97 : Nat → Int64) (a_now_stayed_97 : Nat → Int64) => (if x2 = 0 then some (x3_97, v_future_turned_97, a_future_came_97, a_future_stayed_97, v_now_turned_97, a_now_came_97, a_now_stayed_97) else some (x4_97, v_future_turned_97, a_future_came_97, a_future_stayed_97, v_now_turned_97, a_now_came_97, a_now_stayed_97))) (fun k_97 => L_X9_quiet_41 x1 v_town_workCount a_town_lighter a_town_workGain a_town_workNoise k_97 5000 ((-4)) ((-4)) 0 v_future_turned a_future_came a_future_stayed q22.2.1 q22.2.2.1 q22.2.2.2)))))))
theorem hdV_X9_quiet : yX9_quiet.cls = RX9 ∧ yX9_quiet.cls ≠ "java/lang/invoke/MethodHandle" ∧ yX9_quiet.cls ≠ "java/lang/invoke/VarHandle" ∧ (parseMethodDescriptor yX9_quiet.desc).map (fun d => d.parameters.length) = some 2 := by decide +kernel
set_option maxHeartbeats 4000000 in
set_option maxRecDepth 100000 in
theorem c_X9_quiet (l : Launch) (G : GG) (x1 : Int32) (x2 : Int32) (h_this : Nat) (ad_this : Nat → Nat) (ad_this_book : Nat → Nat) (ad_this_future : Nat → Nat) (ad_this_now : Nat → Nat) (ad_this_town : Nat → Nat) (v_keptCount : Int32) (v_book_days : Int32) (a_book_signs : Nat → Int32) (a_book_works : Nat → Int32) (v_future_turned : Int64) (a_future_came : Nat → Int64) (a_future_stayed : Nat → Int64) (v_now_turned : Int64) (a_now_came : Nat → Int64) (a_now_stayed : Nat → Int64) (v_town_signCount : Int32) (v_town_houseCount : Int32) (v_town_boatCount : Int32) (v_town_workCount : Int32) (v_town_turnCost : Int32) (v_town_boatDayCost : Int32) (a_town_lighter : Nat → Int32) (a_town_signNumbers : Nat → Int32) (a_town_workGain : Nat → Int32) (a_town_workNoise : Nat → Int32) (out : Int32 × Int64 × (Nat → Int64) × (Nat → Int64) × Int64 × (Nat → Int64) × (Nat → Int64)) (hF : F_X9_quiet x1 x2 v_book_days a_book_signs a_book_works v_future_turned a_future_came a_future_stayed v_now_turned a_now_came a_now_stayed v_town_signCount v_town_workCount a_town_lighter a_town_signNumbers a_town_workGain a_town_workNoise = some out) : CtrI l yX9_quiet (WS yX9_quiet cX9_quiet 7 (some .int)) { frames := 7, cells := 0, slots := 0, locals := 160 } G [.ref h_this, .int x1, .int x2] [(h_this, oX9 ad_this v_keptCount), ((ad_this 4), oX1 ad_this_book v_book_days), ((ad_this_book 0), cI G 5 a_book_signs), ((ad_this_book 1), cI G 5 a_book_works), ((ad_this 9), oX5 ad_this_future v_future_turned), ((ad_this_future 1), cJ G 3 a_future_came), ((ad_this_future 0), cJ G 3 a_future_stayed), ((ad_this 8), oX5 ad_this_now v_now_turned), ((ad_this_now 1), cJ G 3 a_now_came), ((ad_this_now 0), cJ G 3 a_now_stayed), ((ad_this 2), oX8 ad_this_town v_town_signCount v_town_houseCount v_town_boatCount v_town_workCount v_town_turnCost v_town_boatDayCost), ((ad_this_town 0), cI G 3 a_town_lighter), ((ad_this_town 1), cI G 16 a_town_signNumbers), ((ad_this_town 6), cI G 5 a_town_workGain), ((ad_this_town 5), cI G 5 a_town_workNoise)] [(h_this, oX9 ad_this v_keptCount), ((ad_this 4), oX1 ad_this_book v_book_days), ((ad_this_book 0), cI G 5 a_book_signs), ((ad_this_book 1), cI G 5 a_book_works), ((ad_this 9), oX5 ad_this_future out.2.1), ((ad_this_future 1), cJ G 3 out.2.2.1), ((ad_this_future 0), cJ G 3 out.2.2.2.1), ((ad_this 8), oX5 ad_this_now out.2.2.2.2.1), ((ad_this_now 1), cJ G 3 out.2.2.2.2.2.1), ((ad_this_now 0), cJ G 3 out.2.2.2.2.2.2), ((ad_this 2), oX8 ad_this_town v_town_signCount v_town_houseCount v_town_boatCount v_town_workCount v_town_turnCost v_town_boatDayCost), ((ad_this_town 0), cI G 3 a_town_lighter), ((ad_this_town 1), cI G 16 a_town_signNumbers), ((ad_this_town 6), cI G 5 a_town_workGain), ((ad_this_town 5), cI G 5 a_town_workNoise)] out.1 := by
  refine startI (cc := cX9_quiet) (maxL := 7) (by decide) rfl (Nat.le_of_ble_eq_true rfl) ?_
  intro p e s m args below meth c A Q hx hb hml hts hown hc hA hret ls H locs hl hW
  have hown : s.vm.findClass RX9 = some m.cls := hown
  have hg : ∀ w ∈ GOODS, w.before _ s = true := fun w h => hts w (List.mem_cons_of_mem _ h)
  have hl : lv_has ls 7 [(0, .ref h_this), (1, .int x1), (2, .int x2)] := hl
  rw [F_X9_quiet] at hF
  refine lv_iload_n hx hb dX9_quiet_0 rfl (lv_at hl 1 rfl) ?_
  refine lv_iconst (v := 0) hx hb dX9_quiet_1 (by decide) ?_
  refine lv_bipush (v := 100) hx hb dX9_quiet_2 (by decide) ?_
  obtain ⟨q4, c_4, hF⟩ := bd_el hF
  refine wcZ (ws' := [(h_this, oX9 ad_this v_keptCount), ((ad_this 4), oX1 ad_this_book v_book_days), ((ad_this_book 0), cI G 5 a_book_signs), ((ad_this_book 1), cI G 5 a_book_works), ((ad_this 9), oX5 ad_this_future v_future_turned), ((ad_this_future 1), cJ G 3 a_future_came), ((ad_this_future 0), cJ G 3 a_future_stayed), ((ad_this 8), oX5 ad_this_now v_now_turned), ((ad_this_now 1), cJ G 3 a_now_came), ((ad_this_now 0), cJ G 3 a_now_stayed), ((ad_this 2), oX8 ad_this_town v_town_signCount v_town_houseCount v_town_boatCount v_town_workCount v_town_turnCost v_town_boatDayCost), ((ad_this_town 0), cI G 3 a_town_lighter), ((ad_this_town 1), cI G 16 a_town_signNumbers), ((ad_this_town 6), cI G 5 a_town_workGain), ((ad_this_town 5), cI G 5 a_town_workNoise)]) (wc := []) (wr := [(h_this, oX9 ad_this v_keptCount), ((ad_this 4), oX1 ad_this_book v_book_days), ((ad_this_book 0), cI G 5 a_book_signs), ((ad_this_book 1), cI G 5 a_book_works), ((ad_this 9), oX5 ad_this_future v_future_turned), ((ad_this_future 1), cJ G 3 a_future_came), ((ad_this_future 0), cJ G 3 a_future_stayed), ((ad_this 8), oX5 ad_this_now v_now_turned), ((ad_this_now 1), cJ G 3 a_now_came), ((ad_this_now 0), cJ G 3 a_now_stayed), ((ad_this 2), oX8 ad_this_town v_town_signCount v_town_houseCount v_town_boatCount v_town_workCount v_town_turnCost v_town_boatDayCost), ((ad_this_town 0), cI G 3 a_town_lighter), ((ad_this_town 1), cI G 16 a_town_signNumbers), ((ad_this_town 6), cI G 5 a_town_workGain), ((ad_this_town 5), cI G 5 a_town_workNoise)]) (w1 := []) (va_runS (As := [.int x1, .int 0, .int 100]) (rest := []) ⟨hx, hb, hml, hown, hg⟩ (c_X9_isWithin l G x1 0 100 q4 c_4 H.size) (va_cwS 3 hg (gS wd_2_140 wd_2_47 wd_1_1 wd_2_48) rfl rfl rfl hdS_X9_isWithin ⟨(Nat.le_of_ble_eq_true rfl), (Nat.le_of_ble_eq_true rfl)⟩) (preS hc hW [] rfl (by decide)) rfl rfl hl.1 rfl (lv_room (Nat.le_of_ble_eq_true rfl)) dX9_quiet_4 ⟨Nat.zero_le _, Nat.zero_le _⟩) hA hW [] [0, 1, 2, 3, 4, 5, 6, 7, 8, 9, 10, 11, 12, 13, 14] [0, 1, 2, 3, 4, 5, 6, 7, 8, 9, 10, 11, 12, 13, 14] rfl rfl (by decide) (by decide) rfl (by decide) (fun z_4 H locs hW => ?_)
  refine lv_if_eq (tgt := 19) hx hb dX9_quiet_7 (by decide) (fun c_7 => ?_) (fun c_7 => ?_)
  · have hF := ite_t hF c_7
    refine lv_iconst (v := (-1)) hx hb dX9_quiet_19 (by decide) ?_
    obtain rfl := Option.some.inj hF
    exact hret _ _ _ _ hW dX9_quiet_20
  · have hF := ite_f hF c_7
    refine lv_iload_n hx hb dX9_quiet_10 rfl (lv_at hl 2 rfl) ?_
    refine lv_iconst (v := 0) hx hb dX9_quiet_11 (by decide) ?_
    refine lv_iconst (v := 1) hx hb dX9_quiet_12 (by decide) ?_
    obtain ⟨q13, c_13, hF⟩ := bd_el hF
    refine wcZ (ws' := [(h_this, oX9 ad_this v_keptCount), ((ad_this 4), oX1 ad_this_book v_book_days), ((ad_this_book 0), cI G 5 a_book_signs), ((ad_this_book 1), cI G 5 a_book_works), ((ad_this 9), oX5 ad_this_future v_future_turned), ((ad_this_future 1), cJ G 3 a_future_came), ((ad_this_future 0), cJ G 3 a_future_stayed), ((ad_this 8), oX5 ad_this_now v_now_turned), ((ad_this_now 1), cJ G 3 a_now_came), ((ad_this_now 0), cJ G 3 a_now_stayed), ((ad_this 2), oX8 ad_this_town v_town_signCount v_town_houseCount v_town_boatCount v_town_workCount v_town_turnCost v_town_boatDayCost), ((ad_this_town 0), cI G 3 a_town_lighter), ((ad_this_town 1), cI G 16 a_town_signNumbers), ((ad_this_town 6), cI G 5 a_town_workGain), ((ad_this_town 5), cI G 5 a_town_workNoise)]) (wc := []) (wr := [(h_this, oX9 ad_this v_keptCount), ((ad_this 4), oX1 ad_this_book v_book_days), ((ad_this_book 0), cI G 5 a_book_signs), ((ad_this_book 1), cI G 5 a_book_works), ((ad_this 9), oX5 ad_this_future v_future_turned), ((ad_this_future 1), cJ G 3 a_future_came), ((ad_this_future 0), cJ G 3 a_future_stayed), ((ad_this 8), oX5 ad_this_now v_now_turned), ((ad_this_now 1), cJ G 3 a_now_came), ((ad_this_now 0), cJ G 3 a_now_stayed), ((ad_this 2), oX8 ad_this_town v_town_signCount v_town_houseCount v_town_boatCount v_town_workCount v_town_turnCost v_town_boatDayCost), ((ad_this_town 0), cI G 3 a_town_lighter), ((ad_this_town 1), cI G 16 a_town_signNumbers), ((ad_this_town 6), cI G 5 a_town_workGain), ((ad_this_town 5), cI G 5 a_town_workNoise)]) (w1 := []) (va_runS (As := [.int x2, .int 0, .int 1]) (rest := []) ⟨hx, hb, hml, hown, hg⟩ (c_X9_isWithin l G x2 0 1 q13 c_13 H.size) (va_cwS 3 hg (gS wd_2_140 wd_2_47 wd_1_1 wd_2_48) rfl rfl rfl hdS_X9_isWithin ⟨(Nat.le_of_ble_eq_true rfl), (Nat.le_of_ble_eq_true rfl)⟩) (preS hc hW [] rfl (by decide)) rfl rfl hl.1 rfl (lv_room (Nat.le_of_ble_eq_true rfl)) dX9_quiet_13 ⟨Nat.zero_le _, Nat.zero_le _⟩) hA hW [] [0, 1, 2, 3, 4, 5, 6, 7, 8, 9, 10, 11, 12, 13, 14] [0, 1, 2, 3, 4, 5, 6, 7, 8, 9, 10, 11, 12, 13, 14] rfl rfl (by decide) (by decide) rfl (by decide) (fun z_13 H locs hW => ?_)
    refine lv_if_ne (tgt := 21) hx hb dX9_quiet_16 (by decide) (fun c_16 => ?_) (fun c_16 => ?_)
    · have hF := ite_f hF c_16
      refine lv_aload_n hx hb dX9_quiet_21 rfl (lv_at hl 0 rfl) ?_
      obtain ⟨q22, c_22, hF⟩ := bd_el hF
      refine wcZ (ws' := [(h_this, oX9 ad_this v_keptCount), ((ad_this 4), oX1 ad_this_book v_book_days), ((ad_this_book 0), cI G 5 a_book_signs), ((ad_this_book 1), cI G 5 a_book_works), ((ad_this 9), oX5 ad_this_future v_future_turned), ((ad_this_future 1), cJ G 3 a_future_came), ((ad_this_future 0), cJ G 3 a_future_stayed), ((ad_this 8), oX5 ad_this_now q22.2.1), ((ad_this_now 1), cJ G 3 q22.2.2.1), ((ad_this_now 0), cJ G 3 q22.2.2.2), ((ad_this 2), oX8 ad_this_town v_town_signCount v_town_houseCount v_town_boatCount v_town_workCount v_town_turnCost v_town_boatDayCost), ((ad_this_town 0), cI G 3 a_town_lighter), ((ad_this_town 1), cI G 16 a_town_signNumbers), ((ad_this_town 6), cI G 5 a_town_workGain), ((ad_this_town 5), cI G 5 a_town_workNoise)]) (wc := [(h_this, oX9 ad_this v_keptCount), ((ad_this 4), oX1 ad_this_book v_book_days), ((ad_this_book 0), cI G 5 a_book_signs), ((ad_this_book 1), cI G 5 a_book_works), ((ad_this 8), oX5 ad_this_now v_now_turned), ((ad_this_now 1), cJ G 3 a_now_came), ((ad_this_now 0), cJ G 3 a_now_stayed), ((ad_this 2), oX8 ad_this_town v_town_signCount v_town_houseCount v_town_boatCount v_town_workCount v_town_turnCost v_town_boatDayCost), ((ad_this_town 0), cI G 3 a_town_lighter), ((ad_this_town 1), cI G 16 a_town_signNumbers), ((ad_this_town 5), cI G 5 a_town_workNoise)]) (wr := [((ad_this 9), oX5 ad_this_future v_future_turned), ((ad_this_future 1), cJ G 3 a_future_came), ((ad_this_future 0), cJ G 3 a_future_stayed), ((ad_this_town 6), cI G 5 a_town_workGain)]) (w1 := [(h_this, oX9 ad_this v_keptCount), ((ad_this 4), oX1 ad_this_book v_book_days), ((ad_this_book 0), cI G 5 a_book_signs), ((ad_this_book 1), cI G 5 a_book_works), ((ad_this 8), oX5 ad_this_now q22.2.1), ((ad_this_now 1), cJ G 3 q22.2.2.1), ((ad_this_now 0), cJ G 3 q22.2.2.2), ((ad_this 2), oX8 ad_this_town v_town_signCount v_town_houseCount v_town_boatCount v_town_workCount v_town_turnCost v_town_boatDayCost), ((ad_this_town 0), cI G 3 a_town_lighter), ((ad_this_town 1), cI G 16 a_town_signNumbers), ((ad_this_town 5), cI G 5 a_town_workNoise)]) (va_runV (As := []) (rest := []) ⟨hx, hb, hml, hown, hg⟩ (c_X9_diaryCanBe l G h_this ad_this ad_this_book ad_this_now ad_this_town v_keptCount v_book_days a_book_signs a_book_works v_now_turned a_now_came a_now_stayed v_town_signCount v_town_houseCount v_town_boatCount v_town_workCount v_town_turnCost v_town_boatDayCost a_town_lighter a_town_signNumbers a_town_workNoise q22 c_22 H.size) (cwV 0 hg (gV wd_2_217 wd_2_219 wd_0_11 wd_1_1 wd_2_220) rfl rfl rfl hdV_X9_diaryCanBe ⟨(Nat.le_of_ble_eq_true rfl), (Nat.le_of_ble_eq_true rfl)⟩) (preV hc hW [0, 1, 2, 3, 7, 8, 9, 10, 11, 12, 14] rfl (by decide) rfl rfl) rfl rfl hl.1 rfl (lv_room (Nat.le_of_ble_eq_true rfl)) dX9_quiet_22 ⟨Nat.zero_le _, Nat.zero_le _⟩) hA hW [0, 1, 2, 3, 7, 8, 9, 10, 11, 12, 14] [4, 5, 6, 13] [4, 5, 6, 7, 0, 1, 2, 8, 9, 10, 11, 12, 13, 3, 14] rfl rfl (by decide) (by decide) rfl (by decide) (fun z_22 H locs hW => ?_)
      refine lv_if_ne (tgt := 31) hx hb dX9_quiet_25 (by decide) (fun c_25 => ?_) (fun c_25 => ?_)
      · have hF := ite_f hF c_25
        refine lv_bipush (v := (-4)) hx hb dX9_quiet_31 (by decide) ?_
        refine lv_istore_n (lv' := [(3, .int ((-4))), (0, .ref h_this), (1, .int x1), (2, .int x2)]) hx hb dX9_quiet_33 rfl hl (by decide) rfl (fun ls hl => ?_)
        refine lv_bipush (v := (-4)) hx hb dX9_quiet_34 (by decide) ?_
        refine lv_istore (lv' := [(4, .int ((-4))), (3, .int ((-4))), (0, .ref h_this), (1, .int x1), (2, .int x2)]) hx hb dX9_quiet_36 hl (by decide) rfl (fun ls hl => ?_)
        refine lv_iconst (v := 0) hx hb dX9_quiet_38 (by decide) ?_
        refine lv_istore (lv' := [(5, .int 0), (4, .int ((-4))), (3, .int ((-4))), (0, .ref h_this), (1, .int x1), (2, .int x2)]) hx hb dX9_quiet_39 hl (by decide) rfl (fun ls hl => ?_)
        obtain ⟨k_97, e_97, hF⟩ := jn_el hF
        have J_97 : ∀ (x3_97 : Int32) (x4_97 : Int32) (v_future_turned_97 : Int64) (a_future_came_97 : Nat → Int64) (a_future_stayed_97 : Nat → Int64) (v_now_turned_97 : Int64) (a_now_came_97 : Nat → Int64) (a_now_stayed_97 : Nat → Int64) (ls : Array Slot) (H : Heap) (locs : List Loc), k_97 x3_97 x4_97 v_future_turned_97 a_future_came_97 a_future_stayed_97 v_now_turned_97 a_now_came_97 a_now_stayed_97 = some out → lv_has ls 7 [(2, .int x2), (3, .int x3_97), (4, .int x4_97)] → Wd G A s.heap [(h_this, oX9 ad_this v_keptCount), ((ad_this 4), oX1 ad_this_book v_book_days), ((ad_this_book 0), cI G 5 a_book_signs), ((ad_this_book 1), cI G 5 a_book_works), ((ad_this 9), oX5 ad_this_future v_future_turned_97), ((ad_this_future 1), cJ G 3 a_future_came_97), ((ad_this_future 0), cJ G 3 a_future_stayed_97), ((ad_this 8), oX5 ad_this_now v_now_turned_97), ((ad_this_now 1), cJ G 3 a_now_came_97), ((ad_this_now 0), cJ G 3 a_now_stayed_97), ((ad_this 2), oX8 ad_this_town v_town_signCount v_town_houseCount v_town_boatCount v_town_workCount v_town_turnCost v_town_boatDayCost), ((ad_this_town 0), cI G 3 a_town_lighter), ((ad_this_town 1), cI G 16 a_town_signNumbers), ((ad_this_town 6), cI G 5 a_town_workGain), ((ad_this_town 5), cI G 5 a_town_workNoise)] H locs → W p l e ({ frames := 7, cells := 0, slots := 0, locals := 160 } : Room) s m args below meth c H locs 0 0 Q (F0 m 97 ls []) := by
          intro x3_97 x4_97 v_future_turned_97 a_future_came_97 a_future_stayed_97 v_now_turned_97 a_now_came_97 a_now_stayed_97 ls H locs hF hl hW
          rw [e_97] at hF
          dsimp only at hF
          refine lv_iload_n hx hb dX9_quiet_97 rfl (lv_at hl 0 rfl) ?_
          refine lv_if_ne (tgt := 105) hx hb dX9_quiet_98 (by decide) (fun c_98 => ?_) (fun c_98 => ?_)
          · have hF := ite_f hF c_98
            refine lv_iload hx hb dX9_quiet_105 (lv_at hl 2 rfl) ?_
            obtain rfl := Option.some.inj hF
            exact hret _ _ _ _ hW dX9_quiet_107
          · have hF := ite_t hF c_98
            refine lv_iload_n hx hb dX9_quiet_101 rfl (lv_at hl 1 rfl) ?_
            refine lv_goto (tgt := 107) hx hb dX9_quiet_102 (by decide) ?_
            obtain rfl := Option.some.inj hF
            exact hret _ _ _ _ hW dX9_quiet_107
        have L_41 : ∀ (n : Nat) (x3_41 : Int32) (x4_41 : Int32) (x5_41 : Int32) (v_future_turned_41 : Int64) (a_future_came_41 : Nat → Int64) (a_future_stayed_41 : Nat → Int64) (v_now_turned_41 : Int64) (a_now_came_41 : Nat → Int64) (a_now_stayed_41 : Nat → Int64) (ls : Array Slot) (H : Heap) (locs : List Loc), L_X9_quiet_41 x1 v_town_workCount a_town_lighter a_town_workGain a_town_workNoise k_97 n x3_41 x4_41 x5_41 v_future_turned_41 a_future_came_41 a_future_stayed_41 v_now_turned_41 a_now_came_41 a_now_stayed_41 = some out → lv_has ls 7 [(0, .ref h_this), (1, .int x1), (2, .int x2), (3, .int x3_41), (4, .int x4_41), (5, .int x5_41)] → Wd G A s.heap [(h_this, oX9 ad_this v_keptCount), ((ad_this 4), oX1 ad_this_book v_book_days), ((ad_this_book 0), cI G 5 a_book_signs), ((ad_this_book 1), cI G 5 a_book_works), ((ad_this 9), oX5 ad_this_future v_future_turned_41), ((ad_this_future 1), cJ G 3 a_future_came_41), ((ad_this_future 0), cJ G 3 a_future_stayed_41), ((ad_this 8), oX5 ad_this_now v_now_turned_41), ((ad_this_now 1), cJ G 3 a_now_came_41), ((ad_this_now 0), cJ G 3 a_now_stayed_41), ((ad_this 2), oX8 ad_this_town v_town_signCount v_town_houseCount v_town_boatCount v_town_workCount v_town_turnCost v_town_boatDayCost), ((ad_this_town 0), cI G 3 a_town_lighter), ((ad_this_town 1), cI G 16 a_town_signNumbers), ((ad_this_town 6), cI G 5 a_town_workGain), ((ad_this_town 5), cI G 5 a_town_workNoise)] H locs → W p l e ({ frames := 7, cells := 0, slots := 0, locals := 160 } : Room) s m args below meth c H locs 0 0 Q (F0 m 41 ls []) := by
          intro n
          induction n with
          | zero => intro x3_41 x4_41 x5_41 v_future_turned_41 a_future_came_41 a_future_stayed_41 v_now_turned_41 a_now_came_41 a_now_stayed_41 ls H locs hF hl hW; have h0 : none = some out := hF; cases h0
          | succ n ih =>
            intro x3_41 x4_41 x5_41 v_future_turned_41 a_future_came_41 a_future_stayed_41 v_now_turned_41 a_now_came_41 a_now_stayed_41 ls H locs hF hl hW
            rw [L_X9_quiet_41] at hF
            refine lv_iload hx hb dX9_quiet_41 (lv_at hl 5 rfl) ?_
            refine lv_aload_n hx hb dX9_quiet_43 rfl (lv_at hl 0 rfl) ?_
            refine va_get (D := G.1) (ci := 8) (v := .ref ((ad_this 2))) (C := RX9) (T := TX9) (N := 13) hx hb hg hu_X9 hown hc.1 hW.1 0 rfl rfl 2 (by decide) (hg _ wd_2_97) (fun _ h9 => h9) rfl dX9_quiet_44 ?_
            refine va_get (D := G.1) (ci := 7) (v := .int v_town_workCount) (C := RX8) (T := TX8) (N := 13) hx hb hg hu_X8 hown hc.1 hW.1 10 rfl rfl 10 (by decide) (hg _ wd_1_85) (fun _ h9 => h9) rfl dX9_quiet_47 ?_
            obtain ⟨q50, c_50, hF⟩ := bd_el hF
            refine wcI (ws' := [(h_this, oX9 ad_this v_keptCount), ((ad_this 4), oX1 ad_this_book v_book_days), ((ad_this_book 0), cI G 5 a_book_signs), ((ad_this_book 1), cI G 5 a_book_works), ((ad_this 9), oX5 ad_this_future v_future_turned_41), ((ad_this_future 1), cJ G 3 a_future_came_41), ((ad_this_future 0), cJ G 3 a_future_stayed_41), ((ad_this 8), oX5 ad_this_now v_now_turned_41), ((ad_this_now 1), cJ G 3 a_now_came_41), ((ad_this_now 0), cJ G 3 a_now_stayed_41), ((ad_this 2), oX8 ad_this_town v_town_signCount v_town_houseCount v_town_boatCount v_town_workCount v_town_turnCost v_town_boatDayCost), ((ad_this_town 0), cI G 3 a_town_lighter), ((ad_this_town 1), cI G 16 a_town_signNumbers), ((ad_this_town 6), cI G 5 a_town_workGain), ((ad_this_town 5), cI G 5 a_town_workNoise)]) (wc := []) (wr := [(h_this, oX9 ad_this v_keptCount), ((ad_this 4), oX1 ad_this_book v_book_days), ((ad_this_book 0), cI G 5 a_book_signs), ((ad_this_book 1), cI G 5 a_book_works), ((ad_this 9), oX5 ad_this_future v_future_turned_41), ((ad_this_future 1), cJ G 3 a_future_came_41), ((ad_this_future 0), cJ G 3 a_future_stayed_41), ((ad_this 8), oX5 ad_this_now v_now_turned_41), ((ad_this_now 1), cJ G 3 a_now_came_41), ((ad_this_now 0), cJ G 3 a_now_stayed_41), ((ad_this 2), oX8 ad_this_town v_town_signCount v_town_houseCount v_town_boatCount v_town_workCount v_town_turnCost v_town_boatDayCost), ((ad_this_town 0), cI G 3 a_town_lighter), ((ad_this_town 1), cI G 16 a_town_signNumbers), ((ad_this_town 6), cI G 5 a_town_workGain), ((ad_this_town 5), cI G 5 a_town_workNoise)]) (w1 := []) (va_runS (As := [.int v_town_workCount]) (rest := [.int x5_41]) ⟨hx, hb, hml, hown, hg⟩ (c_X9_setsOf l G v_town_workCount q50 c_50 H.size) (va_cwS 1 hg (gS wd_2_169 wd_2_170 wd_1_1 wd_2_171) rfl rfl rfl hdS_X9_setsOf ⟨(Nat.le_of_ble_eq_true rfl), (Nat.le_of_ble_eq_true rfl)⟩) (preS hc hW [] rfl (by decide)) rfl rfl hl.1 rfl (lv_room (Nat.le_of_ble_eq_true rfl)) dX9_quiet_50 ⟨Nat.zero_le _, Nat.zero_le _⟩) hA hW [] [0, 1, 2, 3, 4, 5, 6, 7, 8, 9, 10, 11, 12, 13, 14] [0, 1, 2, 3, 4, 5, 6, 7, 8, 9, 10, 11, 12, 13, 14] rfl rfl (by decide) (by decide) rfl (by decide) (fun H locs hW => ?_)
            refine lv_icmp_ge (tgt := 97) hx hb dX9_quiet_53 (by decide) (fun c_53 => ?_) (fun c_53 => ?_)
            · have hF := ite_t hF c_53
              exact J_97 x3_41 x4_41 v_future_turned_41 a_future_came_41 a_future_stayed_41 v_now_turned_41 a_now_came_41 a_now_stayed_41 _ _ _ hF (lv_sub hl [2, 3, 4] rfl) hW
            · have hF := ite_f hF c_53
              refine lv_aload_n hx hb dX9_quiet_56 rfl (lv_at hl 0 rfl) ?_
              refine va_get (D := G.1) (ci := 8) (v := .ref ((ad_this 2))) (C := RX9) (T := TX9) (N := 13) hx hb hg hu_X9 hown hc.1 hW.1 0 rfl rfl 2 (by decide) (hg _ wd_2_97) (fun _ h9 => h9) rfl dX9_quiet_57 ?_
              refine lv_iload hx hb dX9_quiet_60 (lv_at hl 5 rfl) ?_
              obtain ⟨q62, c_62, hF⟩ := bd_el hF
              refine wcI (ws' := [(h_this, oX9 ad_this v_keptCount), ((ad_this 4), oX1 ad_this_book v_book_days), ((ad_this_book 0), cI G 5 a_book_signs), ((ad_this_book 1), cI G 5 a_book_works), ((ad_this 9), oX5 ad_this_future v_future_turned_41), ((ad_this_future 1), cJ G 3 a_future_came_41), ((ad_this_future 0), cJ G 3 a_future_stayed_41), ((ad_this 8), oX5 ad_this_now v_now_turned_41), ((ad_this_now 1), cJ G 3 a_now_came_41), ((ad_this_now 0), cJ G 3 a_now_stayed_41), ((ad_this 2), oX8 ad_this_town v_town_signCount v_town_houseCount v_town_boatCount v_town_workCount v_town_turnCost v_town_boatDayCost), ((ad_this_town 0), cI G 3 a_town_lighter), ((ad_this_town 1), cI G 16 a_town_signNumbers), ((ad_this_town 6), cI G 5 a_town_workGain), ((ad_this_town 5), cI G 5 a_town_workNoise)]) (wc := [((ad_this 2), oX8 ad_this_town v_town_signCount v_town_houseCount v_town_boatCount v_town_workCount v_town_turnCost v_town_boatDayCost), ((ad_this_town 6), cI G 5 a_town_workGain)]) (wr := [(h_this, oX9 ad_this v_keptCount), ((ad_this 4), oX1 ad_this_book v_book_days), ((ad_this_book 0), cI G 5 a_book_signs), ((ad_this_book 1), cI G 5 a_book_works), ((ad_this 9), oX5 ad_this_future v_future_turned_41), ((ad_this_future 1), cJ G 3 a_future_came_41), ((ad_this_future 0), cJ G 3 a_future_stayed_41), ((ad_this 8), oX5 ad_this_now v_now_turned_41), ((ad_this_now 1), cJ G 3 a_now_came_41), ((ad_this_now 0), cJ G 3 a_now_stayed_41), ((ad_this_town 0), cI G 3 a_town_lighter), ((ad_this_town 1), cI G 16 a_town_signNumbers), ((ad_this_town 5), cI G 5 a_town_workNoise)]) (w1 := [((ad_this 2), oX8 ad_this_town v_town_signCount v_town_houseCount v_town_boatCount v_town_workCount v_town_turnCost v_town_boatDayCost), ((ad_this_town 6), cI G 5 a_town_workGain)]) (va_runV (As := [.int x5_41]) (rest := []) ⟨hx, hb, hml, hown, hg⟩ (c_X8_gainOf l G x5_41 ((ad_this 2)) ad_this_town v_town_signCount v_town_houseCount v_town_boatCount v_town_workCount v_town_turnCost v_town_boatDayCost a_town_workGain q62 c_62 H.size) (cwV 1 hg (gV wd_2_182 wd_2_183 wd_2_184 wd_1_4 wd_2_185) rfl rfl rfl hdV_X8_gainOf ⟨(Nat.le_of_ble_eq_true rfl), (Nat.le_of_ble_eq_true rfl)⟩) (preV hc hW [10, 13] rfl (by decide) rfl rfl) rfl rfl hl.1 rfl (lv_room (Nat.le_of_ble_eq_true rfl)) dX9_quiet_62 ⟨Nat.zero_le _, Nat.zero_le _⟩) hA hW [10, 13] [0, 1, 2, 3, 4, 5, 6, 7, 8, 9, 11, 12, 14] [0, 1, 2, 3, 4, 5, 6, 7, 8, 9, 13, 10, 11, 14, 12] rfl rfl (by decide) (by decide) rfl (by decide) (fun H locs hW => ?_)
              refine lv_istore (lv' := [(6, .int q62), (0, .ref h_this), (1, .int x1), (2, .int x2), (3, .int x3_41), (4, .int x4_41), (5, .int x5_41)]) hx hb dX9_quiet_65 hl (by decide) rfl (fun ls hl => ?_)
              refine lv_iload hx hb dX9_quiet_67 (lv_at hl 0 rfl) ?_
              refine lv_iload hx hb dX9_quiet_69 (lv_at hl 5 rfl) ?_
              obtain ⟨k_91, e_91, hF⟩ := jn_el hF
              have J_91 : ∀ (x3_91 : Int32) (x4_91 : Int32) (v_future_turned_91 : Int64) (a_future_came_91 : Nat → Int64) (a_future_stayed_91 : Nat → Int64) (ls : Array Slot) (H : Heap) (locs : List Loc), k_91 x3_91 x4_91 v_future_turned_91 a_future_came_91 a_future_stayed_91 = some out → lv_has ls 7 [(0, .ref h_this), (1, .int x1), (2, .int x2), (3, .int x3_91), (4, .int x4_91), (5, .int x5_41)] → Wd G A s.heap [(h_this, oX9 ad_this v_keptCount), ((ad_this 4), oX1 ad_this_book v_book_days), ((ad_this_book 0), cI G 5 a_book_signs), ((ad_this_book 1), cI G 5 a_book_works), ((ad_this 9), oX5 ad_this_future v_future_turned_91), ((ad_this_future 1), cJ G 3 a_future_came_91), ((ad_this_future 0), cJ G 3 a_future_stayed_91), ((ad_this 8), oX5 ad_this_now v_now_turned_41), ((ad_this_now 1), cJ G 3 a_now_came_41), ((ad_this_now 0), cJ G 3 a_now_stayed_41), ((ad_this 2), oX8 ad_this_town v_town_signCount v_town_houseCount v_town_boatCount v_town_workCount v_town_turnCost v_town_boatDayCost), ((ad_this_town 0), cI G 3 a_town_lighter), ((ad_this_town 1), cI G 16 a_town_signNumbers), ((ad_this_town 6), cI G 5 a_town_workGain), ((ad_this_town 5), cI G 5 a_town_workNoise)] H locs → W p l e ({ frames := 7, cells := 0, slots := 0, locals := 160 } : Room) s m args below meth c H locs 0 0 Q (F0 m 91 ls []) := by
                intro x3_91 x4_91 v_future_turned_91 a_future_came_91 a_future_stayed_91 ls H locs hF hl hW
                rw [e_91] at hF
                dsimp only at hF
                refine lv_iinc (v := (x5_41 + 1)) (lv' := [(5, .int ((x5_41 + 1))), (0, .ref h_this), (1, .int x1), (2, .int x2), (3, .int x3_91), (4, .int x4_91)]) hx hb dX9_quiet_91 hl (k := 5) rfl rfl (by decide) rfl (fun ls hl => ?_)
                refine lv_goto (tgt := 41) hx hb dX9_quiet_94 (by decide) ?_
                exact ih x3_91 x4_91 ((x5_41 + 1)) v_future_turned_91 a_future_came_91 a_future_stayed_91 v_now_turned_41 a_now_came_41 a_now_stayed_41 _ _ _ hF (lv_sub hl [1, 2, 3, 4, 5, 0] rfl) hW
              refine lv_icmp_le (tgt := 91) hx hb dX9_quiet_71 (by decide) (fun c_71 => ?_) (fun c_71 => ?_)
              · have hF := ite_t hF c_71
                exact J_91 x3_41 x4_41 v_future_turned_41 a_future_came_41 a_future_stayed_41 _ _ _ hF (lv_sub hl [1, 2, 3, 4, 5, 6] rfl) hW
              · have hF := ite_f hF c_71
                refine lv_aload_n hx hb dX9_quiet_74 rfl (lv_at hl 1 rfl) ?_
                refine lv_iload hx hb dX9_quiet_75 (lv_at hl 6 rfl) ?_
                refine lv_iload_n hx hb dX9_quiet_77 rfl (lv_at hl 2 rfl) ?_
                obtain ⟨q78, c_78, hF⟩ := bd_el hF
                refine wcZ (ws' := [(h_this, oX9 ad_this v_keptCount), ((ad_this 4), oX1 ad_this_book v_book_days), ((ad_this_book 0), cI G 5 a_book_signs), ((ad_this_book 1), cI G 5 a_book_works), ((ad_this 9), oX5 ad_this_future q78.2.1), ((ad_this_future 1), cJ G 3 q78.2.2.1), ((ad_this_future 0), cJ G 3 q78.2.2.2), ((ad_this 8), oX5 ad_this_now v_now_turned_41), ((ad_this_now 1), cJ G 3 a_now_came_41), ((ad_this_now 0), cJ G 3 a_now_stayed_41), ((ad_this 2), oX8 ad_this_town v_town_signCount v_town_houseCount v_town_boatCount v_town_workCount v_town_turnCost v_town_boatDayCost), ((ad_this_town 0), cI G 3 a_town_lighter), ((ad_this_town 1), cI G 16 a_town_signNumbers), ((ad_this_town 6), cI G 5 a_town_workGain), ((ad_this_town 5), cI G 5 a_town_workNoise)]) (wc := [(h_this, oX9 ad_this v_keptCount), ((ad_this 9), oX5 ad_this_future v_future_turned_41), ((ad_this_future 1), cJ G 3 a_future_came_41), ((ad_this_future 0), cJ G 3 a_future_stayed_41), ((ad_this 8), oX5 ad_this_now v_now_turned_41), ((ad_this_now 1), cJ G 3 a_now_came_41), ((ad_this_now 0), cJ G 3 a_now_stayed_41), ((ad_this 2), oX8 ad_this_town v_town_signCount v_town_houseCount v_town_boatCount v_town_workCount v_town_turnCost v_town_boatDayCost), ((ad_this_town 0), cI G 3 a_town_lighter), ((ad_this_town 5), cI G 5 a_town_workNoise)]) (wr := [((ad_this 4), oX1 ad_this_book v_book_days), ((ad_this_book 0), cI G 5 a_book_signs), ((ad_this_book 1), cI G 5 a_book_works), ((ad_this_town 1), cI G 16 a_town_signNumbers), ((ad_this_town 6), cI G 5 a_town_workGain)]) (w1 := [(h_this, oX9 ad_this v_keptCount), ((ad_this 9), oX5 ad_this_future q78.2.1), ((ad_this_future 1), cJ G 3 q78.2.2.1), ((ad_this_future 0), cJ G 3 q78.2.2.2), ((ad_this 8), oX5 ad_this_now v_now_turned_41), ((ad_this_now 1), cJ G 3 a_now_came_41), ((ad_this_now 0), cJ G 3 a_now_stayed_41), ((ad_this 2), oX8 ad_this_town v_town_signCount v_town_houseCount v_town_boatCount v_town_workCount v_town_turnCost v_town_boatDayCost), ((ad_this_town 0), cI G 3 a_town_lighter), ((ad_this_town 5), cI G 5 a_town_workNoise)]) (va_runV (As := [.int x5_41, .int x1]) (rest := []) ⟨hx, hb, hml, hown, hg⟩ (c_X9_isQuiet l G x5_41 x1 h_this ad_this ad_this_future ad_this_now ad_this_town v_keptCount v_future_turned_41 a_future_came_41 a_future_stayed_41 v_now_turned_41 a_now_came_41 a_now_stayed_41 v_town_signCount v_town_houseCount v_town_boatCount v_town_workCount v_town_turnCost v_town_boatDayCost a_town_lighter a_town_workNoise q78 c_78 H.size) (cwV 2 hg (gV wd_3_104 wd_3_106 wd_0_19 wd_1_1 wd_3_107) rfl rfl rfl hdV_X9_isQuiet ⟨(Nat.le_of_ble_eq_true rfl), (Nat.le_of_ble_eq_true rfl)⟩) (preV hc hW [0, 4, 5, 6, 7, 8, 9, 10, 11, 14] rfl (by decide) rfl rfl) rfl rfl hl.1 rfl (lv_room (Nat.le_of_ble_eq_true rfl)) dX9_quiet_78 ⟨Nat.zero_le _, Nat.zero_le _⟩) hA hW [0, 4, 5, 6, 7, 8, 9, 10, 11, 14] [1, 2, 3, 12, 13] [5, 0, 1, 2, 6, 7, 8, 9, 10, 11, 12, 13, 3, 4, 14] rfl rfl (by decide) (by decide) rfl (by decide) (fun z_78 H locs hW => ?_)
                refine lv_if_eq (tgt := 91) hx hb dX9_quiet_81 (by decide) (fun c_81 => ?_) (fun c_81 => ?_)
                · have hF := ite_t hF c_81
                  exact J_91 x3_41 x4_41 q78.2.1 q78.2.2.1 q78.2.2.2 _ _ _ hF (lv_sub hl [1, 2, 3, 4, 5, 6] rfl) hW
                · have hF := ite_f hF c_81
                  refine lv_iload hx hb dX9_quiet_84 (lv_at hl 0 rfl) ?_
                  refine lv_istore (lv' := [(4, .int q62), (6, .int q62), (0, .ref h_this), (1, .int x1), (2, .int x2), (3, .int x3_41), (5, .int x5_41)]) hx hb dX9_quiet_86 hl (by decide) rfl (fun ls hl => ?_)
                  refine lv_iload hx hb dX9_quiet_88 (lv_at hl 6 rfl) ?_
                  refine lv_istore_n (lv' := [(3, .int x5_41), (4, .int q62), (6, .int q62), (0, .ref h_this), (1, .int x1), (2, .int x2), (5, .int x5_41)]) hx hb dX9_quiet_90 rfl hl (by decide) rfl (fun ls hl => ?_)
                  exact J_91 x5_41 q62 q78.2.1 q78.2.2.1 q78.2.2.2 _ _ _ hF (lv_sub hl [3, 4, 5, 0, 1, 6] rfl) hW
        exact L_41 5000 ((-4)) ((-4)) 0 v_future_turned a_future_came a_future_stayed q22.2.1 q22.2.2.1 q22.2.2.2 _ _ _ hF (lv_sub hl [3, 4, 5, 2, 1, 0] rfl) hW
      · have hF := ite_t hF c_25
        refine lv_bipush (v := (-4)) hx hb dX9_quiet_28 (by decide) ?_
        obtain rfl := Option.some.inj hF
        exact hret _ _ _ _ hW dX9_quiet_30
    · have hF := ite_t hF c_16
      refine lv_iconst (v := (-1)) hx hb dX9_quiet_19 (by decide) ?_
      obtain rfl := Option.some.inj hF
      exact hret _ _ _ _ hW dX9_quiet_20
theorem dX9_feigned_0 : decode cX9_feigned 0 = .ok (.lconst 0, 1) := by decide +kernel
theorem dX9_feigned_1 : decode cX9_feigned 1 = .ok (.lstore_n 1, 1) := by decide +kernel
theorem dX9_feigned_2 : decode cX9_feigned 2 = .ok (.iconst 0, 1) := by decide +kernel
theorem dX9_feigned_3 : decode cX9_feigned 3 = .ok (.istore_n 3, 1) := by decide +kernel
theorem dX9_feigned_4 : decode cX9_feigned 4 = .ok (.iconst 0, 1) := by decide +kernel
theorem dX9_feigned_5 : decode cX9_feigned 5 = .ok (.istore 4, 2) := by decide +kernel
theorem dX9_feigned_7 : decode cX9_feigned 7 = .ok (.iload 4, 2) := by decide +kernel
theorem dX9_feigned_9 : decode cX9_feigned 9 = .ok (.aload_n 0, 1) := by decide +kernel
theorem dX9_feigned_10 : decode cX9_feigned 10 = .ok (.getfield 36, 3) := by decide +kernel
theorem dX9_feigned_13 : decode cX9_feigned 13 = .ok (.getfield 113, 3) := by decide +kernel
theorem dX9_feigned_16 : decode cX9_feigned 16 = .ok (.if_icmp .ge 61, 3) := by decide +kernel
theorem dX9_feigned_19 : decode cX9_feigned 19 = .ok (.aload_n 0, 1) := by decide +kernel
theorem dX9_feigned_20 : decode cX9_feigned 20 = .ok (.getfield 53, 3) := by decide +kernel
theorem dX9_feigned_23 : decode cX9_feigned 23 = .ok (.aload_n 0, 1) := by decide +kernel
theorem dX9_feigned_24 : decode cX9_feigned 24 = .ok (.getfield 26, 3) := by decide +kernel
theorem dX9_feigned_27 : decode cX9_feigned 27 = .ok (.aload_n 0, 1) := by decide +kernel
theorem dX9_feigned_28 : decode cX9_feigned 28 = .ok (.getfield 36, 3) := by decide +kernel
theorem dX9_feigned_31 : decode cX9_feigned 31 = .ok (.iload 4, 2) := by decide +kernel
theorem dX9_feigned_33 : decode cX9_feigned 33 = .ok (.invokevirtual 239, 3) := by decide +kernel
theorem dX9_feigned_36 : decode cX9_feigned 36 = .ok (.aload_n 0, 1) := by decide +kernel
theorem dX9_feigned_37 : decode cX9_feigned 37 = .ok (.getfield 53, 3) := by decide +kernel
theorem dX9_feigned_40 : decode cX9_feigned 40 = .ok (.invokevirtual 158, 3) := by decide +kernel
theorem dX9_feigned_43 : decode cX9_feigned 43 = .ok (.lstore 5, 2) := by decide +kernel
theorem dX9_feigned_45 : decode cX9_feigned 45 = .ok (.lload 5, 2) := by decide +kernel
theorem dX9_feigned_47 : decode cX9_feigned 47 = .ok (.lload_n 1, 1) := by decide +kernel
theorem dX9_feigned_48 : decode cX9_feigned 48 = .ok (.lcmp, 1) := by decide +kernel
theorem dX9_feigned_49 : decode cX9_feigned 49 = .ok (.ifCond .le 8, 3) := by decide +kernel
theorem dX9_feigned_52 : decode cX9_feigned 52 = .ok (.lload 5, 2) := by decide +kernel
theorem dX9_feigned_54 : decode cX9_feigned 54 = .ok (.lstore_n 1, 1) := by decide +kernel
theorem dX9_feigned_55 : decode cX9_feigned 55 = .ok (.iconst 0, 1) := by decide +kernel
theorem dX9_feigned_56 : decode cX9_feigned 56 = .ok (.istore_n 3, 1) := by decide +kernel
theorem dX9_feigned_57 : decode cX9_feigned 57 = .ok (.lload 5, 2) := by decide +kernel
theorem dX9_feigned_59 : decode cX9_feigned 59 = .ok (.lload_n 1, 1) := by decide +kernel
theorem dX9_feigned_60 : decode cX9_feigned 60 = .ok (.lcmp, 1) := by decide +kernel
theorem dX9_feigned_61 : decode cX9_feigned 61 = .ok (.ifCond .ne 10, 3) := by decide +kernel
theorem dX9_feigned_64 : decode cX9_feigned 64 = .ok (.iload_n 3, 1) := by decide +kernel
theorem dX9_feigned_65 : decode cX9_feigned 65 = .ok (.iconst 1, 1) := by decide +kernel
theorem dX9_feigned_66 : decode cX9_feigned 66 = .ok (.iload 4, 2) := by decide +kernel
theorem dX9_feigned_68 : decode cX9_feigned 68 = .ok (.ishl, 1) := by decide +kernel
theorem dX9_feigned_69 : decode cX9_feigned 69 = .ok (.ior, 1) := by decide +kernel
theorem dX9_feigned_70 : decode cX9_feigned 70 = .ok (.istore_n 3, 1) := by decide +kernel
theorem dX9_feigned_71 : decode cX9_feigned 71 = .ok (.iinc 4 1, 3) := by decide +kernel
theorem dX9_feigned_74 : decode cX9_feigned 74 = .ok (.goto (-67), 3) := by decide +kernel
theorem dX9_feigned_77 : decode cX9_feigned 77 = .ok (.lload_n 1, 1) := by decide +kernel
theorem dX9_feigned_78 : decode cX9_feigned 78 = .ok (.lconst 0, 1) := by decide +kernel
theorem dX9_feigned_79 : decode cX9_feigned 79 = .ok (.lcmp, 1) := by decide +kernel
theorem dX9_feigned_80 : decode cX9_feigned 80 = .ok (.ifCond .ne 8, 3) := by decide +kernel
theorem dX9_feigned_83 : decode cX9_feigned 83 = .ok (.bipush (-4), 2) := by decide +kernel
theorem dX9_feigned_85 : decode cX9_feigned 85 = .ok (.goto 4, 3) := by decide +kernel
theorem dX9_feigned_88 : decode cX9_feigned 88 = .ok (.iload_n 3, 1) := by decide +kernel
theorem dX9_feigned_89 : decode cX9_feigned 89 = .ok (.ireturn, 1) := by decide +kernel
def L_X9_feigned_7 (v_book_days : Int32) (a_book_signs : Nat → Int32) (a_book_works : Nat → Int32) (v_town_signCount : Int32) (v_town_workCount : Int32) (a_town_lighter : Nat → Int32) (a_town_signNumbers : Nat → Int32) (a_town_workNoise : Nat → Int32) (k_77 : Int64 → Int32 → Int64 → (Nat → Int64) → (Nat → Int64) → Option (Int32 × Int64 × (Nat → Int64) × (Nat → Int64))) : Nat → Int64 → Int32 → Int32 → Int64 → (Nat → Int64) → (Nat → Int64) → Option (Int32 × Int64 × (Nat → Int64) × (Nat → Int64))
  | 0, _, _, _, _, _, _ => none
  | n + 1, x1_7, x3_7, x4_7, v_now_turned_7, a_now_came_7, a_now_stayed_7 => (if v_book_days ≤ x4_7 then k_77 x1_7 x3_7 v_now_turned_7 a_now_came_7 a_now_stayed_7 else (F_X5_passDiary x4_7 v_now_turned_7 v_town_signCount v_town_workCount a_town_lighter a_town_signNumbers a_town_workNoise v_book_days a_book_signs a_book_works a_now_came_7 a_now_stayed_7).bind (fun q33 => (F_X5_total q33.2.1 q33.2.2).bind (fun q40 => jn (fun (x1_57 : Int64) (x3_57 : Int32) => jn (fun (x3_71 : Int32) => L_X9_feigned_7 v_book_days a_book_signs a_book_works v_town_signCount v_town_workCount a_town_lighter a_town_signNumbers a_town_workNoise k_77 n x1_57 x3_71 ((x4_7 + 1)) q33.1 q33.2.1 q33.2.2) (fun k_71 => (if (lg_cmp q40 x1_57) = 0 then k_71 ((x3_57 ||| ((1 : Int32) <<< (x4_7 &&& 31)))) else k_71 x3_57))) (fun k_57 => (if (lg_cmp q40 x1_7) ≤ 0 then k_57 x1_7 x3_7 else k_57 q40 0)))))
def F_X9_feigned (v_book_days : Int32) (a_book_signs : Nat → Int32) (a_book_works : Nat → Int32) (v_now_turned : Int64) (a_now_came : Nat → Int64) (a_now_stayed : Nat → Int64) (v_town_signCount : Int32) (v_town_workCount : Int32) (a_town_lighter : Nat → Int32) (a_town_signNumbers : Nat → Int32) (a_town_workNoise : Nat → Int32) : Option (Int32 × Int64 × (Nat → Int64) × (Nat → Int64)) := jn (fun (x1_77 : Int64) (x3_77 : Int32) (v_now_turned_77 : Int64) (a_now_came_77 : Nat → Int64) (a_now_stayed_77 : Nat → Int64) => (if (lg_cmp x1_77 0) = 0 then some ((-4), v_now_turned_77, a_now_came_77, a_now_stayed_77) else some (x3_77, v_now_turned_77, a_now_came_77, a_now_stayed_77))) (fun k_77 => L_X9_feigned_7 v_book_days a_book_signs a_book_works v_town_signCount v_town_workCount a_town_lighter a_town_signNumbers a_town_workNoise k_77 5000 0 0 0 v_now_turned a_now_came a_now_stayed)
theorem hdV_X9_feigned : yX9_feigned.cls = RX9 ∧ yX9_feigned.cls ≠ "java/lang/invoke/MethodHandle" ∧ yX9_feigned.cls ≠ "java/lang/invoke/VarHandle" ∧ (parseMethodDescriptor yX9_feigned.desc).map (fun d => d.parameters.length) = some 0 := by decide +kernel
set_option maxHeartbeats 4000000 in
set_option maxRecDepth 100000 in
theorem c_X9_feigned (l : Launch) (G : GG) (h_this : Nat) (ad_this : Nat → Nat) (ad_this_book : Nat → Nat) (ad_this_now : Nat → Nat) (ad_this_town : Nat → Nat) (v_keptCount : Int32) (v_book_days : Int32) (a_book_signs : Nat → Int32) (a_book_works : Nat → Int32) (v_now_turned : Int64) (a_now_came : Nat → Int64) (a_now_stayed : Nat → Int64) (v_town_signCount : Int32) (v_town_houseCount : Int32) (v_town_boatCount : Int32) (v_town_workCount : Int32) (v_town_turnCost : Int32) (v_town_boatDayCost : Int32) (a_town_lighter : Nat → Int32) (a_town_signNumbers : Nat → Int32) (a_town_workNoise : Nat → Int32) (out : Int32 × Int64 × (Nat → Int64) × (Nat → Int64)) (hF : F_X9_feigned v_book_days a_book_signs a_book_works v_now_turned a_now_came a_now_stayed v_town_signCount v_town_workCount a_town_lighter a_town_signNumbers a_town_workNoise = some out) : CtrI l yX9_feigned (WS yX9_feigned cX9_feigned 7 (some .int)) { frames := 6, cells := 0, slots := 0, locals := 140 } G [.ref h_this] [(h_this, oX9 ad_this v_keptCount), ((ad_this 4), oX1 ad_this_book v_book_days), ((ad_this_book 0), cI G 5 a_book_signs), ((ad_this_book 1), cI G 5 a_book_works), ((ad_this 8), oX5 ad_this_now v_now_turned), ((ad_this_now 1), cJ G 3 a_now_came), ((ad_this_now 0), cJ G 3 a_now_stayed), ((ad_this 2), oX8 ad_this_town v_town_signCount v_town_houseCount v_town_boatCount v_town_workCount v_town_turnCost v_town_boatDayCost), ((ad_this_town 0), cI G 3 a_town_lighter), ((ad_this_town 1), cI G 16 a_town_signNumbers), ((ad_this_town 5), cI G 5 a_town_workNoise)] [(h_this, oX9 ad_this v_keptCount), ((ad_this 4), oX1 ad_this_book v_book_days), ((ad_this_book 0), cI G 5 a_book_signs), ((ad_this_book 1), cI G 5 a_book_works), ((ad_this 8), oX5 ad_this_now out.2.1), ((ad_this_now 1), cJ G 3 out.2.2.1), ((ad_this_now 0), cJ G 3 out.2.2.2), ((ad_this 2), oX8 ad_this_town v_town_signCount v_town_houseCount v_town_boatCount v_town_workCount v_town_turnCost v_town_boatDayCost), ((ad_this_town 0), cI G 3 a_town_lighter), ((ad_this_town 1), cI G 16 a_town_signNumbers), ((ad_this_town 5), cI G 5 a_town_workNoise)] out.1 := by
  refine startI (cc := cX9_feigned) (maxL := 7) (by decide) rfl (Nat.le_of_ble_eq_true rfl) ?_
  intro p e s m args below meth c A Q hx hb hml hts hown hc hA hret ls H locs hl hW
  have hown : s.vm.findClass RX9 = some m.cls := hown
  have hg : ∀ w ∈ GOODS, w.before _ s = true := fun w h => hts w (List.mem_cons_of_mem _ h)
  have hl : lv_has ls 7 [(0, .ref h_this)] := hl
  rw [F_X9_feigned] at hF
  refine lv_lconst (v := 0) hx hb dX9_feigned_0 (by decide) ?_
  refine lv_lstore_n (lv' := [(1, .long 0), (0, .ref h_this)]) hx hb dX9_feigned_1 rfl hl (by decide) rfl (fun ls hl => ?_)
  refine lv_iconst (v := 0) hx hb dX9_feigned_2 (by decide) ?_
  refine lv_istore_n (lv' := [(3, .int 0), (1, .long 0), (0, .ref h_this)]) hx hb dX9_feigned_3 rfl hl (by decide) rfl (fun ls hl => ?_)
  refine lv_iconst (v := 0) hx hb dX9_feigned_4 (by decide) ?_
  refine lv_istore (lv' := [(4, .int 0), (3, .int 0), (1, .long 0), (0, .ref h_this)]) hx hb dX9_feigned_5 hl (by decide) rfl (fun ls hl => ?_)
  obtain ⟨k_77, e_77, hF⟩ := jn_el hF
  have J_77 : ∀ (x1_77 : Int64) (x3_77 : Int32) (v_now_turned_77 : Int64) (a_now_came_77 : Nat → Int64) (a_now_stayed_77 : Nat → Int64) (ls : Array Slot) (H : Heap) (locs : List Loc), k_77 x1_77 x3_77 v_now_turned_77 a_now_came_77 a_now_stayed_77 = some out → lv_has ls 7 [(1, .long x1_77), (3, .int x3_77)] → Wd G A s.heap [(h_this, oX9 ad_this v_keptCount), ((ad_this 4), oX1 ad_this_book v_book_days), ((ad_this_book 0), cI G 5 a_book_signs), ((ad_this_book 1), cI G 5 a_book_works), ((ad_this 8), oX5 ad_this_now v_now_turned_77), ((ad_this_now 1), cJ G 3 a_now_came_77), ((ad_this_now 0), cJ G 3 a_now_stayed_77), ((ad_this 2), oX8 ad_this_town v_town_signCount v_town_houseCount v_town_boatCount v_town_workCount v_town_turnCost v_town_boatDayCost), ((ad_this_town 0), cI G 3 a_town_lighter), ((ad_this_town 1), cI G 16 a_town_signNumbers), ((ad_this_town 5), cI G 5 a_town_workNoise)] H locs → W p l e ({ frames := 6, cells := 0, slots := 0, locals := 140 } : Room) s m args below meth c H locs 0 0 Q (F0 m 77 ls []) := by
    intro x1_77 x3_77 v_now_turned_77 a_now_came_77 a_now_stayed_77 ls H locs hF hl hW
    rw [e_77] at hF
    dsimp only at hF
    refine lv_lload_n hx hb dX9_feigned_77 rfl (lv_at hl 0 rfl) ?_
    refine lv_lconst (v := 0) hx hb dX9_feigned_78 (by decide) ?_
    refine W.lcmp hx hb dX9_feigned_79 ?_
    refine lv_if_ne (tgt := 88) hx hb dX9_feigned_80 (by decide) (fun c_80 => ?_) (fun c_80 => ?_)
    · have hF := ite_f hF c_80
      refine lv_iload_n hx hb dX9_feigned_88 rfl (lv_at hl 1 rfl) ?_
      obtain rfl := Option.some.inj hF
      exact hret _ _ _ _ hW dX9_feigned_89
    · have hF := ite_t hF c_80
      refine lv_bipush (v := (-4)) hx hb dX9_feigned_83 (by decide) ?_
      refine lv_goto (tgt := 89) hx hb dX9_feigned_85 (by decide) ?_
      obtain rfl := Option.some.inj hF
      exact hret _ _ _ _ hW dX9_feigned_89
  have L_7 : ∀ (n : Nat) (x1_7 : Int64) (x3_7 : Int32) (x4_7 : Int32) (v_now_turned_7 : Int64) (a_now_came_7 : Nat → Int64) (a_now_stayed_7 : Nat → Int64) (ls : Array Slot) (H : Heap) (locs : List Loc), L_X9_feigned_7 v_book_days a_book_signs a_book_works v_town_signCount v_town_workCount a_town_lighter a_town_signNumbers a_town_workNoise k_77 n x1_7 x3_7 x4_7 v_now_turned_7 a_now_came_7 a_now_stayed_7 = some out → lv_has ls 7 [(0, .ref h_this), (1, .long x1_7), (3, .int x3_7), (4, .int x4_7)] → Wd G A s.heap [(h_this, oX9 ad_this v_keptCount), ((ad_this 4), oX1 ad_this_book v_book_days), ((ad_this_book 0), cI G 5 a_book_signs), ((ad_this_book 1), cI G 5 a_book_works), ((ad_this 8), oX5 ad_this_now v_now_turned_7), ((ad_this_now 1), cJ G 3 a_now_came_7), ((ad_this_now 0), cJ G 3 a_now_stayed_7), ((ad_this 2), oX8 ad_this_town v_town_signCount v_town_houseCount v_town_boatCount v_town_workCount v_town_turnCost v_town_boatDayCost), ((ad_this_town 0), cI G 3 a_town_lighter), ((ad_this_town 1), cI G 16 a_town_signNumbers), ((ad_this_town 5), cI G 5 a_town_workNoise)] H locs → W p l e ({ frames := 6, cells := 0, slots := 0, locals := 140 } : Room) s m args below meth c H locs 0 0 Q (F0 m 7 ls []) := by
    intro n
    induction n with
    | zero => intro x1_7 x3_7 x4_7 v_now_turned_7 a_now_came_7 a_now_stayed_7 ls H locs hF hl hW; have h0 : none = some out := hF; cases h0
    | succ n ih =>
      intro x1_7 x3_7 x4_7 v_now_turned_7 a_now_came_7 a_now_stayed_7 ls H locs hF hl hW
      rw [L_X9_feigned_7] at hF
      refine lv_iload hx hb dX9_feigned_7 (lv_at hl 3 rfl) ?_
      refine lv_aload_n hx hb dX9_feigned_9 rfl (lv_at hl 0 rfl) ?_
      refine va_get (D := G.1) (ci := 8) (v := .ref ((ad_this 4))) (C := RX9) (T := TX9) (N := 13) hx hb hg hu_X9 hown hc.1 hW.1 0 rfl rfl 4 (by decide) (hg _ wd_2_99) (fun _ h9 => h9) rfl dX9_feigned_10 ?_
      refine va_get (D := G.1) (ci := 1) (v := .int v_book_days) (C := RX1) (T := TX1) (N := 3) hx hb hg hu_X1 hown hc.1 hW.1 1 rfl rfl 2 (by decide) (hg _ wd_1_126) (fun _ h9 => h9) rfl dX9_feigned_13 ?_
      refine lv_icmp_ge (tgt := 77) hx hb dX9_feigned_16 (by decide) (fun c_16 => ?_) (fun c_16 => ?_)
      · have hF := ite_t hF c_16
        exact J_77 x1_7 x3_7 v_now_turned_7 a_now_came_7 a_now_stayed_7 _ _ _ hF (lv_sub hl [1, 2] rfl) hW
      · have hF := ite_f hF c_16
        refine lv_aload_n hx hb dX9_feigned_19 rfl (lv_at hl 0 rfl) ?_
        refine va_get (D := G.1) (ci := 8) (v := .ref ((ad_this 8))) (C := RX9) (T := TX9) (N := 13) hx hb hg hu_X9 hown hc.1 hW.1 0 rfl rfl 8 (by decide) (hg _ wd_2_103) (fun _ h9 => h9) rfl dX9_feigned_20 ?_
        refine lv_aload_n hx hb dX9_feigned_23 rfl (lv_at hl 0 rfl) ?_
        refine va_get (D := G.1) (ci := 8) (v := .ref ((ad_this 2))) (C := RX9) (T := TX9) (N := 13) hx hb hg hu_X9 hown hc.1 hW.1 0 rfl rfl 2 (by decide) (hg _ wd_2_97) (fun _ h9 => h9) rfl dX9_feigned_24 ?_
        refine lv_aload_n hx hb dX9_feigned_27 rfl (lv_at hl 0 rfl) ?_
        refine va_get (D := G.1) (ci := 8) (v := .ref ((ad_this 4))) (C := RX9) (T := TX9) (N := 13) hx hb hg hu_X9 hown hc.1 hW.1 0 rfl rfl 4 (by decide) (hg _ wd_2_99) (fun _ h9 => h9) rfl dX9_feigned_28 ?_
        refine lv_iload hx hb dX9_feigned_31 (lv_at hl 3 rfl) ?_
        obtain ⟨q33, c_33, hF⟩ := bd_el hF
        refine wcV (ws' := [(h_this, oX9 ad_this v_keptCount), ((ad_this 4), oX1 ad_this_book v_book_days), ((ad_this_book 0), cI G 5 a_book_signs), ((ad_this_book 1), cI G 5 a_book_works), ((ad_this 8), oX5 ad_this_now q33.1), ((ad_this_now 1), cJ G 3 q33.2.1), ((ad_this_now 0), cJ G 3 q33.2.2), ((ad_this 2), oX8 ad_this_town v_town_signCount v_town_houseCount v_town_boatCount v_town_workCount v_town_turnCost v_town_boatDayCost), ((ad_this_town 0), cI G 3 a_town_lighter), ((ad_this_town 1), cI G 16 a_town_signNumbers), ((ad_this_town 5), cI G 5 a_town_workNoise)]) (wc := [((ad_this 8), oX5 ad_this_now v_now_turned_7), ((ad_this 2), oX8 ad_this_town v_town_signCount v_town_houseCount v_town_boatCount v_town_workCount v_town_turnCost v_town_boatDayCost), ((ad_this_town 0), cI G 3 a_town_lighter), ((ad_this_town 1), cI G 16 a_town_signNumbers), ((ad_this_town 5), cI G 5 a_town_workNoise), ((ad_this 4), oX1 ad_this_book v_book_days), ((ad_this_book 0), cI G 5 a_book_signs), ((ad_this_book 1), cI G 5 a_book_works), ((ad_this_now 1), cJ G 3 a_now_came_7), ((ad_this_now 0), cJ G 3 a_now_stayed_7)]) (wr := [(h_this, oX9 ad_this v_keptCount)]) (w1 := [((ad_this 8), oX5 ad_this_now q33.1), ((ad_this 2), oX8 ad_this_town v_town_signCount v_town_houseCount v_town_boatCount v_town_workCount v_town_turnCost v_town_boatDayCost), ((ad_this_town 0), cI G 3 a_town_lighter), ((ad_this_town 1), cI G 16 a_town_signNumbers), ((ad_this_town 5), cI G 5 a_town_workNoise), ((ad_this 4), oX1 ad_this_book v_book_days), ((ad_this_book 0), cI G 5 a_book_signs), ((ad_this_book 1), cI G 5 a_book_works), ((ad_this_now 1), cJ G 3 q33.2.1), ((ad_this_now 0), cJ G 3 q33.2.2)]) (va_runV (As := [.ref ((ad_this 2)), .ref ((ad_this 4)), .int x4_7]) (rest := []) ⟨hx, hb, hml, hown, hg⟩ (c_X5_passDiary l G x4_7 ((ad_this 8)) ((ad_this 2)) ((ad_this 4)) ad_this_now ad_this_town ad_this_book v_now_turned_7 v_town_signCount v_town_houseCount v_town_boatCount v_town_workCount v_town_turnCost v_town_boatDayCost a_town_lighter a_town_signNumbers a_town_workNoise v_book_days a_book_signs a_book_works a_now_came_7 a_now_stayed_7 q33 c_33 H.size) (cwV 3 hg (gV wd_2_221 wd_2_222 wd_2_223 wd_1_6 wd_2_224) rfl rfl rfl hdV_X5_passDiary ⟨(Nat.le_of_ble_eq_true rfl), (Nat.le_of_ble_eq_true rfl)⟩) (preV hc hW [4, 7, 8, 9, 10, 1, 2, 3, 5, 6] rfl (by decide) rfl rfl) rfl rfl hl.1 rfl (lv_room (Nat.le_of_ble_eq_true rfl)) dX9_feigned_33 ⟨Nat.zero_le _, Nat.zero_le _⟩) hA hW [4, 7, 8, 9, 10, 1, 2, 3, 5, 6] [0] [0, 6, 7, 8, 1, 9, 10, 2, 3, 4, 5] rfl rfl (by decide) (by decide) rfl (by decide) (fun H locs hW => ?_)
        refine lv_aload_n hx hb dX9_feigned_36 rfl (lv_at hl 0 rfl) ?_
        refine va_get (D := G.1) (ci := 8) (v := .ref ((ad_this 8))) (C := RX9) (T := TX9) (N := 13) hx hb hg hu_X9 hown hc.1 hW.1 0 rfl rfl 8 (by decide) (hg _ wd_2_103) (fun _ h9 => h9) rfl dX9_feigned_37 ?_
        obtain ⟨q40, c_40, hF⟩ := bd_el hF
        refine wcJ (ws' := [(h_this, oX9 ad_this v_keptCount), ((ad_this 4), oX1 ad_this_book v_book_days), ((ad_this_book 0), cI G 5 a_book_signs), ((ad_this_book 1), cI G 5 a_book_works), ((ad_this 8), oX5 ad_this_now q33.1), ((ad_this_now 1), cJ G 3 q33.2.1), ((ad_this_now 0), cJ G 3 q33.2.2), ((ad_this 2), oX8 ad_this_town v_town_signCount v_town_houseCount v_town_boatCount v_town_workCount v_town_turnCost v_town_boatDayCost), ((ad_this_town 0), cI G 3 a_town_lighter), ((ad_this_town 1), cI G 16 a_town_signNumbers), ((ad_this_town 5), cI G 5 a_town_workNoise)]) (wc := [((ad_this 8), oX5 ad_this_now q33.1), ((ad_this_now 1), cJ G 3 q33.2.1), ((ad_this_now 0), cJ G 3 q33.2.2)]) (wr := [(h_this, oX9 ad_this v_keptCount), ((ad_this 4), oX1 ad_this_book v_book_days), ((ad_this_book 0), cI G 5 a_book_signs), ((ad_this_book 1), cI G 5 a_book_works), ((ad_this 2), oX8 ad_this_town v_town_signCount v_town_houseCount v_town_boatCount v_town_workCount v_town_turnCost v_town_boatDayCost), ((ad_this_town 0), cI G 3 a_town_lighter), ((ad_this_town 1), cI G 16 a_town_signNumbers), ((ad_this_town 5), cI G 5 a_town_workNoise)]) (w1 := [((ad_this 8), oX5 ad_this_now q33.1), ((ad_this_now 1), cJ G 3 q33.2.1), ((ad_this_now 0), cJ G 3 q33.2.2)]) (va_runV (As := []) (rest := []) ⟨hx, hb, hml, hown, hg⟩ (c_X5_total l G ((ad_this 8)) ad_this_now q33.1 q33.2.1 q33.2.2 q40 c_40 H.size) (cwV 0 hg (gV wd_3_30 wd_3_31 wd_3_32 wd_1_6 wd_3_33) rfl rfl rfl hdV_X5_total ⟨(Nat.le_of_ble_eq_true rfl), (Nat.le_of_ble_eq_true rfl)⟩) (preV hc hW [4, 5, 6] rfl (by decide) rfl rfl) rfl rfl hl.1 rfl (lv_room (Nat.le_of_ble_eq_true rfl)) dX9_feigned_40 ⟨Nat.zero_le _, Nat.zero_le _⟩) hA hW [4, 5, 6] [0, 1, 2, 3, 7, 8, 9, 10] [0, 1, 2, 3, 8, 9, 10, 4, 5, 6, 7] rfl rfl (by decide) (by decide) rfl (by decide) (fun H locs hW => ?_)
        refine lv_lstore (lv' := [(5, .long q40), (0, .ref h_this), (1, .long x1_7), (3, .int x3_7), (4, .int x4_7)]) hx hb dX9_feigned_43 hl (by decide) rfl (fun ls hl => ?_)
        refine lv_lload hx hb dX9_feigned_45 (lv_at hl 0 rfl) ?_
        refine lv_lload_n hx hb dX9_feigned_47 rfl (lv_at hl 2 rfl) ?_
        refine W.lcmp hx hb dX9_feigned_48 ?_
        obtain ⟨k_57, e_57, hF⟩ := jn_el hF
        have J_57 : ∀ (x1_57 : Int64) (x3_57 : Int32) (ls : Array Slot) (H : Heap) (locs : List Loc), k_57 x1_57 x3_57 = some out → lv_has ls 7 [(0, .ref h_this), (1, .long x1_57), (3, .int x3_57), (4, .int x4_7), (5, .long q40)] → Wd G A s.heap [(h_this, oX9 ad_this v_keptCount), ((ad_this 4), oX1 ad_this_book v_book_days), ((ad_this_book 0), cI G 5 a_book_signs), ((ad_this_book 1), cI G 5 a_book_works), ((ad_this 8), oX5 ad_this_now q33.1), ((ad_this_now 1), cJ G 3 q33.2.1), ((ad_this_now 0), cJ G 3 q33.2.2), ((ad_this 2), oX8 ad_this_town v_town_signCount v_town_houseCount v_town_boatCount v_town_workCount v_town_turnCost v_town_boatDayCost), ((ad_this_town 0), cI G 3 a_town_lighter), ((ad_this_town 1), cI G 16 a_town_signNumbers), ((ad_this_town 5), cI G 5 a_town_workNoise)] H locs → W p l e ({ frames := 6, cells := 0, slots := 0, locals := 140 } : Room) s m args below meth c H locs 0 0 Q (F0 m 57 ls []) := by
          intro x1_57 x3_57 ls H locs hF hl hW
          rw [e_57] at hF
          dsimp only at hF
          refine lv_lload hx hb dX9_feigned_57 (lv_at hl 4 rfl) ?_
          refine lv_lload_n hx hb dX9_feigned_59 rfl (lv_at hl 1 rfl) ?_
          refine W.lcmp hx hb dX9_feigned_60 ?_
          obtain ⟨k_71, e_71, hF⟩ := jn_el hF
          have J_71 : ∀ (x3_71 : Int32) (ls : Array Slot) (H : Heap) (locs : List Loc), k_71 x3_71 = some out → lv_has ls 7 [(0, .ref h_this), (1, .long x1_57), (3, .int x3_71), (4, .int x4_7)] → Wd G A s.heap [(h_this, oX9 ad_this v_keptCount), ((ad_this 4), oX1 ad_this_book v_book_days), ((ad_this_book 0), cI G 5 a_book_signs), ((ad_this_book 1), cI G 5 a_book_works), ((ad_this 8), oX5 ad_this_now q33.1), ((ad_this_now 1), cJ G 3 q33.2.1), ((ad_this_now 0), cJ G 3 q33.2.2), ((ad_this 2), oX8 ad_this_town v_town_signCount v_town_houseCount v_town_boatCount v_town_workCount v_town_turnCost v_town_boatDayCost), ((ad_this_town 0), cI G 3 a_town_lighter), ((ad_this_town 1), cI G 16 a_town_signNumbers), ((ad_this_town 5), cI G 5 a_town_workNoise)] H locs → W p l e ({ frames := 6, cells := 0, slots := 0, locals := 140 } : Room) s m args below meth c H locs 0 0 Q (F0 m 71 ls []) := by
            intro x3_71 ls H locs hF hl hW
            rw [e_71] at hF
            dsimp only at hF
            refine lv_iinc (v := (x4_7 + 1)) (lv' := [(4, .int ((x4_7 + 1))), (0, .ref h_this), (1, .long x1_57), (3, .int x3_71)]) hx hb dX9_feigned_71 hl (k := 3) rfl rfl (by decide) rfl (fun ls hl => ?_)
            refine lv_goto (tgt := 7) hx hb dX9_feigned_74 (by decide) ?_
            exact ih x1_57 x3_71 ((x4_7 + 1)) q33.1 q33.2.1 q33.2.2 _ _ _ hF (lv_sub hl [1, 2, 3, 0] rfl) hW
          refine lv_if_ne (tgt := 71) hx hb dX9_feigned_61 (by decide) (fun c_61 => ?_) (fun c_61 => ?_)
          · have hF := ite_f hF c_61
            exact J_71 x3_57 _ _ _ hF (lv_sub hl [0, 1, 2, 3] rfl) hW
          · have hF := ite_t hF c_61
            refine lv_iload_n hx hb dX9_feigned_64 rfl (lv_at hl 2 rfl) ?_
            refine lv_iconst (v := 1) hx hb dX9_feigned_65 (by decide) ?_
            refine lv_iload hx hb dX9_feigned_66 (lv_at hl 3 rfl) ?_
            refine lv_ishl hx hb dX9_feigned_68 ?_
            refine lv_ior hx hb dX9_feigned_69 ?_
            refine lv_istore_n (lv' := [(3, .int ((x3_57 ||| ((1 : Int32) <<< (x4_7 &&& 31))))), (0, .ref h_this), (1, .long x1_57), (4, .int x4_7), (5, .long q40)]) hx hb dX9_feigned_70 rfl hl (by decide) rfl (fun ls hl => ?_)
            exact J_71 ((x3_57 ||| ((1 : Int32) <<< (x4_7 &&& 31)))) _ _ _ hF (lv_sub hl [1, 2, 0, 3] rfl) hW
        refine lv_if_le (tgt := 57) hx hb dX9_feigned_49 (by decide) (fun c_49 => ?_) (fun c_49 => ?_)
        · have hF := ite_t hF c_49
          exact J_57 x1_7 x3_7 _ _ _ hF (lv_sub hl [1, 2, 3, 4, 0] rfl) hW
        · have hF := ite_f hF c_49
          refine lv_lload hx hb dX9_feigned_52 (lv_at hl 0 rfl) ?_
          refine lv_lstore_n (lv' := [(1, .long q40), (5, .long q40), (0, .ref h_this), (3, .int x3_7), (4, .int x4_7)]) hx hb dX9_feigned_54 rfl hl (by decide) rfl (fun ls hl => ?_)
          refine lv_iconst (v := 0) hx hb dX9_feigned_55 (by decide) ?_
          refine lv_istore_n (lv' := [(3, .int 0), (1, .long q40), (5, .long q40), (0, .ref h_this), (4, .int x4_7)]) hx hb dX9_feigned_56 rfl hl (by decide) rfl (fun ls hl => ?_)
          exact J_57 q40 0 _ _ _ hF (lv_sub hl [3, 1, 0, 4, 2] rfl) hW
  exact L_7 5000 0 0 0 v_now_turned a_now_came a_now_stayed _ _ _ hF (lv_sub hl [3, 2, 1, 0] rfl) hW
theorem dX9_spring_0 : decode cX9_spring 0 = .ok (.iload_n 1, 1) := by decide +kernel
theorem dX9_spring_1 : decode cX9_spring 1 = .ok (.iconst 0, 1) := by decide +kernel
theorem dX9_spring_2 : decode cX9_spring 2 = .ok (.sipush 9999, 3) := by decide +kernel
theorem dX9_spring_5 : decode cX9_spring 5 = .ok (.invokestatic 104, 3) := by decide +kernel
theorem dX9_spring_8 : decode cX9_spring 8 = .ok (.ifCond .eq 26, 3) := by decide +kernel
theorem dX9_spring_11 : decode cX9_spring 11 = .ok (.iload_n 2, 1) := by decide +kernel
theorem dX9_spring_12 : decode cX9_spring 12 = .ok (.aload_n 0, 1) := by decide +kernel
theorem dX9_spring_13 : decode cX9_spring 13 = .ok (.getfield 26, 3) := by decide +kernel
theorem dX9_spring_16 : decode cX9_spring 16 = .ok (.getfield 123, 3) := by decide +kernel
theorem dX9_spring_19 : decode cX9_spring 19 = .ok (.invokestatic 126, 3) := by decide +kernel
theorem dX9_spring_22 : decode cX9_spring 22 = .ok (.ifCond .eq 12, 3) := by decide +kernel
theorem dX9_spring_25 : decode cX9_spring 25 = .ok (.iload_n 3, 1) := by decide +kernel
theorem dX9_spring_26 : decode cX9_spring 26 = .ok (.iconst 0, 1) := by decide +kernel
theorem dX9_spring_27 : decode cX9_spring 27 = .ok (.iconst 1, 1) := by decide +kernel
theorem dX9_spring_28 : decode cX9_spring 28 = .ok (.invokestatic 104, 3) := by decide +kernel
theorem dX9_spring_31 : decode cX9_spring 31 = .ok (.ifCond .ne 5, 3) := by decide +kernel
theorem dX9_spring_34 : decode cX9_spring 34 = .ok (.iconst (-1), 1) := by decide +kernel
theorem dX9_spring_35 : decode cX9_spring 35 = .ok (.ireturn, 1) := by decide +kernel
theorem dX9_spring_36 : decode cX9_spring 36 = .ok (.aload_n 0, 1) := by decide +kernel
theorem dX9_spring_37 : decode cX9_spring 37 = .ok (.getfield 26, 3) := by decide +kernel
theorem dX9_spring_40 : decode cX9_spring 40 = .ok (.iload_n 2, 1) := by decide +kernel
theorem dX9_spring_41 : decode cX9_spring 41 = .ok (.invokevirtual 130, 3) := by decide +kernel
theorem dX9_spring_44 : decode cX9_spring 44 = .ok (.istore 4, 2) := by decide +kernel
theorem dX9_spring_46 : decode cX9_spring 46 = .ok (.iconst 0, 1) := by decide +kernel
theorem dX9_spring_47 : decode cX9_spring 47 = .ok (.istore 5, 2) := by decide +kernel
theorem dX9_spring_49 : decode cX9_spring 49 = .ok (.iconst 0, 1) := by decide +kernel
theorem dX9_spring_50 : decode cX9_spring 50 = .ok (.istore 6, 2) := by decide +kernel
theorem dX9_spring_52 : decode cX9_spring 52 = .ok (.bipush (-4), 2) := by decide +kernel
theorem dX9_spring_54 : decode cX9_spring 54 = .ok (.istore 7, 2) := by decide +kernel
theorem dX9_spring_56 : decode cX9_spring 56 = .ok (.iconst 1, 1) := by decide +kernel
theorem dX9_spring_57 : decode cX9_spring 57 = .ok (.istore 8, 2) := by decide +kernel
theorem dX9_spring_59 : decode cX9_spring 59 = .ok (.iload 8, 2) := by decide +kernel
theorem dX9_spring_61 : decode cX9_spring 61 = .ok (.bipush 60, 2) := by decide +kernel
theorem dX9_spring_63 : decode cX9_spring 63 = .ok (.if_icmp .gt 59, 3) := by decide +kernel
theorem dX9_spring_66 : decode cX9_spring 66 = .ok (.iload 5, 2) := by decide +kernel
theorem dX9_spring_68 : decode cX9_spring 68 = .ok (.iconst 3, 1) := by decide +kernel
theorem dX9_spring_69 : decode cX9_spring 69 = .ok (.if_icmp .ge 53, 3) := by decide +kernel
theorem dX9_spring_72 : decode cX9_spring 72 = .ok (.iload_n 1, 1) := by decide +kernel
theorem dX9_spring_73 : decode cX9_spring 73 = .ok (.iload 8, 2) := by decide +kernel
theorem dX9_spring_75 : decode cX9_spring 75 = .ok (.invokestatic 243, 3) := by decide +kernel
theorem dX9_spring_78 : decode cX9_spring 78 = .ok (.iconst 4, 1) := by decide +kernel
theorem dX9_spring_79 : decode cX9_spring 79 = .ok (.irem, 1) := by decide +kernel
theorem dX9_spring_80 : decode cX9_spring 80 = .ok (.aload_n 0, 1) := by decide +kernel
theorem dX9_spring_81 : decode cX9_spring 81 = .ok (.getfield 26, 3) := by decide +kernel
theorem dX9_spring_84 : decode cX9_spring 84 = .ok (.iload 5, 2) := by decide +kernel
theorem dX9_spring_86 : decode cX9_spring 86 = .ok (.iload 4, 2) := by decide +kernel
theorem dX9_spring_88 : decode cX9_spring 88 = .ok (.invokevirtual 246, 3) := by decide +kernel
theorem dX9_spring_91 : decode cX9_spring 91 = .ok (.if_icmp .ge 6, 3) := by decide +kernel
theorem dX9_spring_94 : decode cX9_spring 94 = .ok (.iinc 5 1, 3) := by decide +kernel
theorem dX9_spring_97 : decode cX9_spring 97 = .ok (.iload 5, 2) := by decide +kernel
theorem dX9_spring_99 : decode cX9_spring 99 = .ok (.iconst 2, 1) := by decide +kernel
theorem dX9_spring_100 : decode cX9_spring 100 = .ok (.if_icmp .ne 6, 3) := by decide +kernel
theorem dX9_spring_103 : decode cX9_spring 103 = .ok (.iinc 6 1, 3) := by decide +kernel
theorem dX9_spring_106 : decode cX9_spring 106 = .ok (.iload 5, 2) := by decide +kernel
theorem dX9_spring_108 : decode cX9_spring 108 = .ok (.iconst 3, 1) := by decide +kernel
theorem dX9_spring_109 : decode cX9_spring 109 = .ok (.if_icmp .ne 7, 3) := by decide +kernel
theorem dX9_spring_112 : decode cX9_spring 112 = .ok (.iload 8, 2) := by decide +kernel
theorem dX9_spring_114 : decode cX9_spring 114 = .ok (.istore 7, 2) := by decide +kernel
theorem dX9_spring_116 : decode cX9_spring 116 = .ok (.iinc 8 1, 3) := by decide +kernel
theorem dX9_spring_119 : decode cX9_spring 119 = .ok (.goto (-60), 3) := by decide +kernel
theorem dX9_spring_122 : decode cX9_spring 122 = .ok (.iload_n 3, 1) := by decide +kernel
theorem dX9_spring_123 : decode cX9_spring 123 = .ok (.ifCond .ne 8, 3) := by decide +kernel
theorem dX9_spring_126 : decode cX9_spring 126 = .ok (.iload 7, 2) := by decide +kernel
theorem dX9_spring_128 : decode cX9_spring 128 = .ok (.goto 5, 3) := by decide +kernel
theorem dX9_spring_131 : decode cX9_spring 131 = .ok (.iload 6, 2) := by decide +kernel
theorem dX9_spring_133 : decode cX9_spring 133 = .ok (.ireturn, 1) := by decide +kernel
def L_X9_spring_59 (x1 : Int32) (a_town_lighter : Nat → Int32) (q41 : Int32) (k_122 : Int32 → Int32 → Option (Int32)) : Nat → Int32 → Int32 → Int32 → Int32 → Option (Int32)
  | 0, _, _, _, _ => none
  | n + 1, x5_59, x6_59, x7_59, x8_59 => (if 60 < x8_59 then k_122 x6_59 x7_59 else (if 3 ≤ x5_59 then k_122 x6_59 x7_59 else (F_X9_draw x1 x8_59).bind (fun q75 => (F_X8_chance x5_59 q41 a_town_lighter).bind (fun q88 => jn (fun (x5_97 : Int32) => jn (fun (x6_106 : Int32) => jn (fun (x7_116 : Int32) => L_X9_spring_59 x1 a_town_lighter q41 k_122 n x5_97 x6_106 x7_116 ((x8_59 + 1))) (fun k_116 => (if x5_97 = 3 then k_116 x8_59 else k_116 x7_59))) (fun k_106 => (if x5_97 = 2 then k_106 ((x6_59 + 1)) else k_106 x6_59))) (fun k_97 => (if q88 ≤ (q75 - q75 / 4 * 4) then k_97 x5_59 else k_97 ((x5_59 + 1))))))))
def F_X9_spring (x1 : Int32) (x2 : Int32) (x3 : Int32) (v_town_workCount : Int32) (a_town_lighter : Nat → Int32) (a_town_workNoise : Nat → Int32) : Option (Int32) := (F_X9_isWithin x1 0 9999).bind (fun q5 => (if q5 = 0 then some ((-1)) else (F_X9_isSet x2 v_town_workCount).bind (fun q19 => (if q19 = 0 then some ((-1)) else (F_X9_isWithin x3 0 1).bind (fun q28 => (if q28 = 0 then some ((-1)) else (F_X8_noiseOf x2 v_town_workCount a_town_workNoise).bind (fun q41 => jn (fun (x6_122 : Int32) (x7_122 : Int32) => (if x3 = 0 then some (x7_122) else some (x6_122))) (fun k_122 => L_X9_spring_59 x1 a_town_lighter q41 k_122 5000 0 0 ((-4)) 1))))))))
theorem hdV_X9_spring : yX9_spring.cls = RX9 ∧ yX9_spring.cls ≠ "java/lang/invoke/MethodHandle" ∧ yX9_spring.cls ≠ "java/lang/invoke/VarHandle" ∧ (parseMethodDescriptor yX9_spring.desc).map (fun d => d.parameters.length) = some 3 := by decide +kernel
set_option maxHeartbeats 4000000 in
set_option maxRecDepth 100000 in
theorem c_X9_spring (l : Launch) (G : GG) (x1 : Int32) (x2 : Int32) (x3 : Int32) (h_this : Nat) (ad_this : Nat → Nat) (ad_this_town : Nat → Nat) (v_keptCount : Int32) (v_town_signCount : Int32) (v_town_houseCount : Int32) (v_town_boatCount : Int32) (v_town_workCount : Int32) (v_town_turnCost : Int32) (v_town_boatDayCost : Int32) (a_town_lighter : Nat → Int32) (a_town_workNoise : Nat → Int32) (out : Int32) (hF : F_X9_spring x1 x2 x3 v_town_workCount a_town_lighter a_town_workNoise = some out) : CtrI l yX9_spring (WS yX9_spring cX9_spring 9 (some .int)) { frames := 3, cells := 0, slots := 0, locals := 66 } G [.ref h_this, .int x1, .int x2, .int x3] [(h_this, oX9 ad_this v_keptCount), ((ad_this 2), oX8 ad_this_town v_town_signCount v_town_houseCount v_town_boatCount v_town_workCount v_town_turnCost v_town_boatDayCost), ((ad_this_town 0), cI G 3 a_town_lighter), ((ad_this_town 5), cI G 5 a_town_workNoise)] [(h_this, oX9 ad_this v_keptCount), ((ad_this 2), oX8 ad_this_town v_town_signCount v_town_houseCount v_town_boatCount v_town_workCount v_town_turnCost v_town_boatDayCost), ((ad_this_town 0), cI G 3 a_town_lighter), ((ad_this_town 5), cI G 5 a_town_workNoise)] out := by
  refine startI (cc := cX9_spring) (maxL := 9) (by decide) rfl (Nat.le_of_ble_eq_true rfl) ?_
  intro p e s m args below meth c A Q hx hb hml hts hown hc hA hret ls H locs hl hW
  have hown : s.vm.findClass RX9 = some m.cls := hown
  have hg : ∀ w ∈ GOODS, w.before _ s = true := fun w h => hts w (List.mem_cons_of_mem _ h)
  have hl : lv_has ls 9 [(0, .ref h_this), (1, .int x1), (2, .int x2), (3, .int x3)] := hl
  rw [F_X9_spring] at hF
  refine lv_iload_n hx hb dX9_spring_0 rfl (lv_at hl 1 rfl) ?_
  refine lv_iconst (v := 0) hx hb dX9_spring_1 (by decide) ?_
  refine lv_sipush (v := 9999) hx hb dX9_spring_2 (by decide) ?_
  obtain ⟨q5, c_5, hF⟩ := bd_el hF
  refine wcZ (ws' := [(h_this, oX9 ad_this v_keptCount), ((ad_this 2), oX8 ad_this_town v_town_signCount v_town_houseCount v_town_boatCount v_town_workCount v_town_turnCost v_town_boatDayCost), ((ad_this_town 0), cI G 3 a_town_lighter), ((ad_this_town 5), cI G 5 a_town_workNoise)]) (wc := []) (wr := [(h_this, oX9 ad_this v_keptCount), ((ad_this 2), oX8 ad_this_town v_town_signCount v_town_houseCount v_town_boatCount v_town_workCount v_town_turnCost v_town_boatDayCost), ((ad_this_town 0), cI G 3 a_town_lighter), ((ad_this_town 5), cI G 5 a_town_workNoise)]) (w1 := []) (va_runS (As := [.int x1, .int 0, .int 9999]) (rest := []) ⟨hx, hb, hml, hown, hg⟩ (c_X9_isWithin l G x1 0 9999 q5 c_5 H.size) (va_cwS 3 hg (gS wd_2_140 wd_2_47 wd_1_1 wd_2_48) rfl rfl rfl hdS_X9_isWithin ⟨(Nat.le_of_ble_eq_true rfl), (Nat.le_of_ble_eq_true rfl)⟩) (preS hc hW [] rfl (by decide)) rfl rfl hl.1 rfl (lv_room (Nat.le_of_ble_eq_true rfl)) dX9_spring_5 ⟨Nat.zero_le _, Nat.zero_le _⟩) hA hW [] [0, 1, 2, 3] [0, 1, 2, 3] rfl rfl (by decide) (by decide) rfl (by decide) (fun z_5 H locs hW => ?_)
  refine lv_if_eq (tgt := 34) hx hb dX9_spring_8 (by decide) (fun c_8 => ?_) (fun c_8 => ?_)
  · have hF := ite_t hF c_8
    refine lv_iconst (v := (-1)) hx hb dX9_spring_34 (by decide) ?_
    obtain rfl := Option.some.inj hF
    exact hret _ _ _ _ hW dX9_spring_35
  · have hF := ite_f hF c_8
    refine lv_iload_n hx hb dX9_spring_11 rfl (lv_at hl 2 rfl) ?_
    refine lv_aload_n hx hb dX9_spring_12 rfl (lv_at hl 0 rfl) ?_
    refine va_get (D := G.1) (ci := 8) (v := .ref ((ad_this 2))) (C := RX9) (T := TX9) (N := 13) hx hb hg hu_X9 hown hc.1 hW.1 0 rfl rfl 2 (by decide) (hg _ wd_2_97) (fun _ h9 => h9) rfl dX9_spring_13 ?_
    refine va_get (D := G.1) (ci := 7) (v := .int v_town_workCount) (C := RX8) (T := TX8) (N := 13) hx hb hg hu_X8 hown hc.1 hW.1 1 rfl rfl 10 (by decide) (hg _ wd_1_85) (fun _ h9 => h9) rfl dX9_spring_16 ?_
    obtain ⟨q19, c_19, hF⟩ := bd_el hF
    refine wcZ (ws' := [(h_this, oX9 ad_this v_keptCount), ((ad_this 2), oX8 ad_this_town v_town_signCount v_town_houseCount v_town_boatCount v_town_workCount v_town_turnCost v_town_boatDayCost), ((ad_this_town 0), cI G 3 a_town_lighter), ((ad_this_town 5), cI G 5 a_town_workNoise)]) (wc := []) (wr := [(h_this, oX9 ad_this v_keptCount), ((ad_this 2), oX8 ad_this_town v_town_signCount v_town_houseCount v_town_boatCount v_town_workCount v_town_turnCost v_town_boatDayCost), ((ad_this_town 0), cI G 3 a_town_lighter), ((ad_this_town 5), cI G 5 a_town_workNoise)]) (w1 := []) (va_runS (As := [.int x2, .int v_town_workCount]) (rest := []) ⟨hx, hb, hml, hown, hg⟩ (c_X9_isSet l G x2 v_town_workCount q19 c_19 H.size) (va_cwS 2 hg (gS wd_2_166 wd_2_167 wd_1_1 wd_2_168) rfl rfl rfl hdS_X9_isSet ⟨(Nat.le_of_ble_eq_true rfl), (Nat.le_of_ble_eq_true rfl)⟩) (preS hc hW [] rfl (by decide)) rfl rfl hl.1 rfl (lv_room (Nat.le_of_ble_eq_true rfl)) dX9_spring_19 ⟨Nat.zero_le _, Nat.zero_le _⟩) hA hW [] [0, 1, 2, 3] [0, 1, 2, 3] rfl rfl (by decide) (by decide) rfl (by decide) (fun z_19 H locs hW => ?_)
    refine lv_if_eq (tgt := 34) hx hb dX9_spring_22 (by decide) (fun c_22 => ?_) (fun c_22 => ?_)
    · have hF := ite_t hF c_22
      refine lv_iconst (v := (-1)) hx hb dX9_spring_34 (by decide) ?_
      obtain rfl := Option.some.inj hF
      exact hret _ _ _ _ hW dX9_spring_35
    · have hF := ite_f hF c_22
      refine lv_iload_n hx hb dX9_spring_25 rfl (lv_at hl 3 rfl) ?_
      refine lv_iconst (v := 0) hx hb dX9_spring_26 (by decide) ?_
      refine lv_iconst (v := 1) hx hb dX9_spring_27 (by decide) ?_
      obtain ⟨q28, c_28, hF⟩ := bd_el hF
      refine wcZ (ws' := [(h_this, oX9 ad_this v_keptCount), ((ad_this 2), oX8 ad_this_town v_town_signCount v_town_houseCount v_town_boatCount v_town_workCount v_town_turnCost v_town_boatDayCost), ((ad_this_town 0), cI G 3 a_town_lighter), ((ad_this_town 5), cI G 5 a_town_workNoise)]) (wc := []) (wr := [(h_this, oX9 ad_this v_keptCount), ((ad_this 2), oX8 ad_this_town v_town_signCount v_town_houseCount v_town_boatCount v_town_workCount v_town_turnCost v_town_boatDayCost), ((ad_this_town 0), cI G 3 a_town_lighter), ((ad_this_town 5), cI G 5 a_town_workNoise)]) (w1 := []) (va_runS (As := [.int x3, .int 0, .int 1]) (rest := []) ⟨hx, hb, hml, hown, hg⟩ (c_X9_isWithin l G x3 0 1 q28 c_28 H.size) (va_cwS 3 hg (gS wd_2_140 wd_2_47 wd_1_1 wd_2_48) rfl rfl rfl hdS_X9_isWithin ⟨(Nat.le_of_ble_eq_true rfl), (Nat.le_of_ble_eq_true rfl)⟩) (preS hc hW [] rfl (by decide)) rfl rfl hl.1 rfl (lv_room (Nat.le_of_ble_eq_true rfl)) dX9_spring_28 ⟨Nat.zero_le _, Nat.zero_le _⟩) hA hW [] [0, 1, 2, 3] [0, 1, 2, 3] rfl rfl (by decide) (by decide) rfl (by decide) (fun z_28 H locs hW => ?_)
      refine lv_if_ne (tgt := 36) hx hb dX9_spring_31 (by decide) (fun c_31 => ?_) (fun c_31 => ?_)
      · have hF := ite_f hF c_31
        refine lv_aload_n hx hb dX9_spring_36 rfl (lv_at hl 0 rfl) ?_
        refine va_get (D := G.1) (ci := 8) (v := .ref ((ad_this 2))) (C := RX9) (T := TX9) (N := 13) hx hb hg hu_X9 hown hc.1 hW.1 0 rfl rfl 2 (by decide) (hg _ wd_2_97) (fun _ h9 => h9) rfl dX9_spring_37 ?_
        refine lv_iload_n hx hb dX9_spring_40 rfl (lv_at hl 2 rfl) ?_
        obtain ⟨q41, c_41, hF⟩ := bd_el hF
        refine wcI (ws' := [(h_this, oX9 ad_this v_keptCount), ((ad_this 2), oX8 ad_this_town v_town_signCount v_town_houseCount v_town_boatCount v_town_workCount v_town_turnCost v_town_boatDayCost), ((ad_this_town 0), cI G 3 a_town_lighter), ((ad_this_town 5), cI G 5 a_town_workNoise)]) (wc := [((ad_this 2), oX8 ad_this_town v_town_signCount v_town_houseCount v_town_boatCount v_town_workCount v_town_turnCost v_town_boatDayCost), ((ad_this_town 5), cI G 5 a_town_workNoise)]) (wr := [(h_this, oX9 ad_this v_keptCount), ((ad_this_town 0), cI G 3 a_town_lighter)]) (w1 := [((ad_this 2), oX8 ad_this_town v_town_signCount v_town_houseCount v_town_boatCount v_town_workCount v_town_turnCost v_town_boatDayCost), ((ad_this_town 5), cI G 5 a_town_workNoise)]) (va_runV (As := [.int x2]) (rest := []) ⟨hx, hb, hml, hown, hg⟩ (c_X8_noiseOf l G x2 ((ad_this 2)) ad_this_town v_town_signCount v_town_houseCount v_town_boatCount v_town_workCount v_town_turnCost v_town_boatDayCost a_town_workNoise q41 c_41 H.size) (cwV 1 hg (gV wd_2_172 wd_2_173 wd_2_174 wd_1_4 wd_2_175) rfl rfl rfl hdV_X8_noiseOf ⟨(Nat.le_of_ble_eq_true rfl), (Nat.le_of_ble_eq_true rfl)⟩) (preV hc hW [1, 3] rfl (by decide) rfl rfl) rfl rfl hl.1 rfl (lv_room (Nat.le_of_ble_eq_true rfl)) dX9_spring_41 ⟨Nat.zero_le _, Nat.zero_le _⟩) hA hW [1, 3] [0, 2] [0, 2, 1, 3] rfl rfl (by decide) (by decide) rfl (by decide) (fun H locs hW => ?_)
        refine lv_istore (lv' := [(4, .int q41), (0, .ref h_this), (1, .int x1), (2, .int x2), (3, .int x3)]) hx hb dX9_spring_44 hl (by decide) rfl (fun ls hl => ?_)
        refine lv_iconst (v := 0) hx hb dX9_spring_46 (by decide) ?_
        refine lv_istore (lv' := [(5, .int 0), (4, .int q41), (0, .ref h_this), (1, .int x1), (2, .int x2), (3, .int x3)]) hx hb dX9_spring_47 hl (by decide) rfl (fun ls hl => ?_)
        refine lv_iconst (v := 0) hx hb dX9_spring_49 (by decide) ?_
        refine lv_istore (lv' := [(6, .int 0), (5, .int 0), (4, .int q41), (0, .ref h_this), (1, .int x1), (2, .int x2), (3, .int x3)]) hx hb dX9_spring_50 hl (by decide) rfl (fun ls hl => ?_)
        refine lv_bipush (v := (-4)) hx hb dX9_spring_52 (by decide) ?_
        refine lv_istore (lv' := [(7, .int ((-4))), (6, .int 0), (5, .int 0), (4, .int q41), (0, .ref h_this), (1, .int x1), (2, .int x2), (3, .int x3)]) hx hb dX9_spring_54 hl (by decide) rfl (fun ls hl => ?_)
        refine lv_iconst (v := 1) hx hb dX9_spring_56 (by decide) ?_
        refine lv_istore (lv' := [(8, .int 1), (7, .int ((-4))), (6, .int 0), (5, .int 0), (4, .int q41), (0, .ref h_this), (1, .int x1), (2, .int x2), (3, .int x3)]) hx hb dX9_spring_57 hl (by decide) rfl (fun ls hl => ?_)
        obtain ⟨k_122, e_122, hF⟩ := jn_el hF
        have J_122 : ∀ (x6_122 : Int32) (x7_122 : Int32) (ls : Array Slot) (H : Heap) (locs : List Loc), k_122 x6_122 x7_122 = some out → lv_has ls 9 [(3, .int x3), (6, .int x6_122), (7, .int x7_122)] → Wd G A s.heap [(h_this, oX9 ad_this v_keptCount), ((ad_this 2), oX8 ad_this_town v_town_signCount v_town_houseCount v_town_boatCount v_town_workCount v_town_turnCost v_town_boatDayCost), ((ad_this_town 0), cI G 3 a_town_lighter), ((ad_this_town 5), cI G 5 a_town_workNoise)] H locs → W p l e ({ frames := 3, cells := 0, slots := 0, locals := 66 } : Room) s m args below meth c H locs 0 0 Q (F0 m 122 ls []) := by
          intro x6_122 x7_122 ls H locs hF hl hW
          rw [e_122] at hF
          dsimp only at hF
          refine lv_iload_n hx hb dX9_spring_122 rfl (lv_at hl 0 rfl) ?_
          refine lv_if_ne (tgt := 131) hx hb dX9_spring_123 (by decide) (fun c_123 => ?_) (fun c_123 => ?_)
          · have hF := ite_f hF c_123
            refine lv_iload hx hb dX9_spring_131 (lv_at hl 1 rfl) ?_
            obtain rfl := Option.some.inj hF
            exact hret _ _ _ _ hW dX9_spring_133
          · have hF := ite_t hF c_123
            refine lv_iload hx hb dX9_spring_126 (lv_at hl 2 rfl) ?_
            refine lv_goto (tgt := 133) hx hb dX9_spring_128 (by decide) ?_
            obtain rfl := Option.some.inj hF
            exact hret _ _ _ _ hW dX9_spring_133
        have L_59 : ∀ (n : Nat) (x5_59 : Int32) (x6_59 : Int32) (x7_59 : Int32) (x8_59 : Int32) (ls : Array Slot) (H : Heap) (locs : List Loc), L_X9_spring_59 x1 a_town_lighter q41 k_122 n x5_59 x6_59 x7_59 x8_59 = some out → lv_has ls 9 [(0, .ref h_this), (1, .int x1), (3, .int x3), (4, .int q41), (5, .int x5_59), (6, .int x6_59), (7, .int x7_59), (8, .int x8_59)] → Wd G A s.heap [(h_this, oX9 ad_this v_keptCount), ((ad_this 2), oX8 ad_this_town v_town_signCount v_town_houseCount v_town_boatCount v_town_workCount v_town_turnCost v_town_boatDayCost), ((ad_this_town 0), cI G 3 a_town_lighter), ((ad_this_town 5), cI G 5 a_town_workNoise)] H locs → W p l e ({ frames := 3, cells := 0, slots := 0, locals := 66 } : Room) s m args below meth c H locs 0 0 Q (F0 m 59 ls []) := by
          intro n
          induction n with
          | zero => intro x5_59 x6_59 x7_59 x8_59 ls H locs hF hl hW; have h0 : none = some out := hF; cases h0
          | succ n ih =>
            intro x5_59 x6_59 x7_59 x8_59 ls H locs hF hl hW
            rw [L_X9_spring_59] at hF
            refine lv_iload hx hb dX9_spring_59 (lv_at hl 7 rfl) ?_
            refine lv_bipush (v := 60) hx hb dX9_spring_61 (by decide) ?_
            refine lv_icmp_gt (tgt := 122) hx hb dX9_spring_63 (by decide) (fun c_63 => ?_) (fun c_63 => ?_)
            · have hF := ite_t hF c_63
              exact J_122 x6_59 x7_59 _ _ _ hF (lv_sub hl [2, 5, 6] rfl) hW
            · have hF := ite_f hF c_63
              refine lv_iload hx hb dX9_spring_66 (lv_at hl 4 rfl) ?_
              refine lv_iconst (v := 3) hx hb dX9_spring_68 (by decide) ?_
              refine lv_icmp_ge (tgt := 122) hx hb dX9_spring_69 (by decide) (fun c_69 => ?_) (fun c_69 => ?_)
              · have hF := ite_t hF c_69
                exact J_122 x6_59 x7_59 _ _ _ hF (lv_sub hl [2, 5, 6] rfl) hW
              · have hF := ite_f hF c_69
                refine lv_iload_n hx hb dX9_spring_72 rfl (lv_at hl 1 rfl) ?_
                refine lv_iload hx hb dX9_spring_73 (lv_at hl 7 rfl) ?_
                obtain ⟨q75, c_75, hF⟩ := bd_el hF
                refine wcI (ws' := [(h_this, oX9 ad_this v_keptCount), ((ad_this 2), oX8 ad_this_town v_town_signCount v_town_houseCount v_town_boatCount v_town_workCount v_town_turnCost v_town_boatDayCost), ((ad_this_town 0), cI G 3 a_town_lighter), ((ad_this_town 5), cI G 5 a_town_workNoise)]) (wc := []) (wr := [(h_this, oX9 ad_this v_keptCount), ((ad_this 2), oX8 ad_this_town v_town_signCount v_town_houseCount v_town_boatCount v_town_workCount v_town_turnCost v_town_boatDayCost), ((ad_this_town 0), cI G 3 a_town_lighter), ((ad_this_town 5), cI G 5 a_town_workNoise)]) (w1 := []) (va_runS (As := [.int x1, .int x8_59]) (rest := []) ⟨hx, hb, hml, hown, hg⟩ (c_X9_draw l G x1 x8_59 q75 c_75 H.size) (va_cwS 2 hg (gS wd_3_224 wd_3_225 wd_1_1 wd_3_226) rfl rfl rfl hdS_X9_draw ⟨(Nat.le_of_ble_eq_true rfl), (Nat.le_of_ble_eq_true rfl)⟩) (preS hc hW [] rfl (by decide)) rfl rfl hl.1 rfl (lv_room (Nat.le_of_ble_eq_true rfl)) dX9_spring_75 ⟨Nat.zero_le _, Nat.zero_le _⟩) hA hW [] [0, 1, 2, 3] [0, 1, 2, 3] rfl rfl (by decide) (by decide) rfl (by decide) (fun H locs hW => ?_)
                refine lv_iconst (v := 4) hx hb dX9_spring_78 (by decide) ?_
                refine lv_irem hx hb dX9_spring_79 (by decide) ?_
                refine lv_aload_n hx hb dX9_spring_80 rfl (lv_at hl 0 rfl) ?_
                refine va_get (D := G.1) (ci := 8) (v := .ref ((ad_this 2))) (C := RX9) (T := TX9) (N := 13) hx hb hg hu_X9 hown hc.1 hW.1 0 rfl rfl 2 (by decide) (hg _ wd_2_97) (fun _ h9 => h9) rfl dX9_spring_81 ?_
                refine lv_iload hx hb dX9_spring_84 (lv_at hl 4 rfl) ?_
                refine lv_iload hx hb dX9_spring_86 (lv_at hl 3 rfl) ?_
                obtain ⟨q88, c_88, hF⟩ := bd_el hF
                refine wcI (ws' := [(h_this, oX9 ad_this v_keptCount), ((ad_this 2), oX8 ad_this_town v_town_signCount v_town_houseCount v_town_boatCount v_town_workCount v_town_turnCost v_town_boatDayCost), ((ad_this_town 0), cI G 3 a_town_lighter), ((ad_this_town 5), cI G 5 a_town_workNoise)]) (wc := [((ad_this 2), oX8 ad_this_town v_town_signCount v_town_houseCount v_town_boatCount v_town_workCount v_town_turnCost v_town_boatDayCost), ((ad_this_town 0), cI G 3 a_town_lighter)]) (wr := [(h_this, oX9 ad_this v_keptCount), ((ad_this_town 5), cI G 5 a_town_workNoise)]) (w1 := [((ad_this 2), oX8 ad_this_town v_town_signCount v_town_houseCount v_town_boatCount v_town_workCount v_town_turnCost v_town_boatDayCost), ((ad_this_town 0), cI G 3 a_town_lighter)]) (va_runV (As := [.int x5_59, .int q41]) (rest := [.int ((q75 - q75 / 4 * 4))]) ⟨hx, hb, hml, hown, hg⟩ (c_X8_chance l G x5_59 q41 ((ad_this 2)) ad_this_town v_town_signCount v_town_houseCount v_town_boatCount v_town_workCount v_town_turnCost v_town_boatDayCost a_town_lighter q88 c_88 H.size) (cwV 2 hg (gV wd_3_231 wd_2_236 wd_2_237 wd_1_4 wd_2_238) rfl rfl rfl hdV_X8_chance ⟨(Nat.le_of_ble_eq_true rfl), (Nat.le_of_ble_eq_true rfl)⟩) (preV hc hW [1, 2] rfl (by decide) rfl rfl) rfl rfl hl.1 rfl (lv_room (Nat.le_of_ble_eq_true rfl)) dX9_spring_88 ⟨Nat.zero_le _, Nat.zero_le _⟩) hA hW [1, 2] [0, 3] [0, 2, 3, 1] rfl rfl (by decide) (by decide) rfl (by decide) (fun H locs hW => ?_)
                obtain ⟨k_97, e_97, hF⟩ := jn_el hF
                have J_97 : ∀ (x5_97 : Int32) (ls : Array Slot) (H : Heap) (locs : List Loc), k_97 x5_97 = some out → lv_has ls 9 [(0, .ref h_this), (1, .int x1), (3, .int x3), (4, .int q41), (5, .int x5_97), (6, .int x6_59), (7, .int x7_59), (8, .int x8_59)] → Wd G A s.heap [(h_this, oX9 ad_this v_keptCount), ((ad_this 2), oX8 ad_this_town v_town_signCount v_town_houseCount v_town_boatCount v_town_workCount v_town_turnCost v_town_boatDayCost), ((ad_this_town 0), cI G 3 a_town_lighter), ((ad_this_town 5), cI G 5 a_town_workNoise)] H locs → W p l e ({ frames := 3, cells := 0, slots := 0, locals := 66 } : Room) s m args below meth c H locs 0 0 Q (F0 m 97 ls []) := by
                  intro x5_97 ls H locs hF hl hW
                  rw [e_97] at hF
                  dsimp only at hF
                  refine lv_iload hx hb dX9_spring_97 (lv_at hl 4 rfl) ?_
                  refine lv_iconst (v := 2) hx hb dX9_spring_99 (by decide) ?_
                  obtain ⟨k_106, e_106, hF⟩ := jn_el hF
                  have J_106 : ∀ (x6_106 : Int32) (ls : Array Slot) (H : Heap) (locs : List Loc), k_106 x6_106 = some out → lv_has ls 9 [(0, .ref h_this), (1, .int x1), (3, .int x3), (4, .int q41), (5, .int x5_97), (6, .int x6_106), (7, .int x7_59), (8, .int x8_59)] → Wd G A s.heap [(h_this, oX9 ad_this v_keptCount), ((ad_this 2), oX8 ad_this_town v_town_signCount v_town_houseCount v_town_boatCount v_town_workCount v_town_turnCost v_town_boatDayCost), ((ad_this_town 0), cI G 3 a_town_lighter), ((ad_this_town 5), cI G 5 a_town_workNoise)] H locs → W p l e ({ frames := 3, cells := 0, slots := 0, locals := 66 } : Room) s m args below meth c H locs 0 0 Q (F0 m 106 ls []) := by
                    intro x6_106 ls H locs hF hl hW
                    rw [e_106] at hF
                    dsimp only at hF
                    refine lv_iload hx hb dX9_spring_106 (lv_at hl 4 rfl) ?_
                    refine lv_iconst (v := 3) hx hb dX9_spring_108 (by decide) ?_
                    obtain ⟨k_116, e_116, hF⟩ := jn_el hF
                    have J_116 : ∀ (x7_116 : Int32) (ls : Array Slot) (H : Heap) (locs : List Loc), k_116 x7_116 = some out → lv_has ls 9 [(0, .ref h_this), (1, .int x1), (3, .int x3), (4, .int q41), (5, .int x5_97), (6, .int x6_106), (7, .int x7_116), (8, .int x8_59)] → Wd G A s.heap [(h_this, oX9 ad_this v_keptCount), ((ad_this 2), oX8 ad_this_town v_town_signCount v_town_houseCount v_town_boatCount v_town_workCount v_town_turnCost v_town_boatDayCost), ((ad_this_town 0), cI G 3 a_town_lighter), ((ad_this_town 5), cI G 5 a_town_workNoise)] H locs → W p l e ({ frames := 3, cells := 0, slots := 0, locals := 66 } : Room) s m args below meth c H locs 0 0 Q (F0 m 116 ls []) := by
                      intro x7_116 ls H locs hF hl hW
                      rw [e_116] at hF
                      dsimp only at hF
                      refine lv_iinc (v := (x8_59 + 1)) (lv' := [(8, .int ((x8_59 + 1))), (0, .ref h_this), (1, .int x1), (3, .int x3), (4, .int q41), (5, .int x5_97), (6, .int x6_106), (7, .int x7_116)]) hx hb dX9_spring_116 hl (k := 7) rfl rfl (by decide) rfl (fun ls hl => ?_)
                      refine lv_goto (tgt := 59) hx hb dX9_spring_119 (by decide) ?_
                      exact ih x5_97 x6_106 x7_116 ((x8_59 + 1)) _ _ _ hF (lv_sub hl [1, 2, 3, 4, 5, 6, 7, 0] rfl) hW
                    refine lv_icmp_ne (tgt := 116) hx hb dX9_spring_109 (by decide) (fun c_109 => ?_) (fun c_109 => ?_)
                    · have hF := ite_f hF c_109
                      exact J_116 x7_59 _ _ _ hF (lv_sub hl [0, 1, 2, 3, 4, 5, 6, 7] rfl) hW
                    · have hF := ite_t hF c_109
                      refine lv_iload hx hb dX9_spring_112 (lv_at hl 7 rfl) ?_
                      refine lv_istore (lv' := [(7, .int x8_59), (0, .ref h_this), (1, .int x1), (3, .int x3), (4, .int q41), (5, .int x5_97), (6, .int x6_106), (8, .int x8_59)]) hx hb dX9_spring_114 hl (by decide) rfl (fun ls hl => ?_)
                      exact J_116 x8_59 _ _ _ hF (lv_sub hl [1, 2, 3, 4, 5, 6, 0, 7] rfl) hW
                  refine lv_icmp_ne (tgt := 106) hx hb dX9_spring_100 (by decide) (fun c_100 => ?_) (fun c_100 => ?_)
                  · have hF := ite_f hF c_100
                    exact J_106 x6_59 _ _ _ hF (lv_sub hl [0, 1, 2, 3, 4, 5, 6, 7] rfl) hW
                  · have hF := ite_t hF c_100
                    refine lv_iinc (v := (x6_59 + 1)) (lv' := [(6, .int ((x6_59 + 1))), (0, .ref h_this), (1, .int x1), (3, .int x3), (4, .int q41), (5, .int x5_97), (7, .int x7_59), (8, .int x8_59)]) hx hb dX9_spring_103 hl (k := 5) rfl rfl (by decide) rfl (fun ls hl => ?_)
                    exact J_106 ((x6_59 + 1)) _ _ _ hF (lv_sub hl [1, 2, 3, 4, 5, 0, 6, 7] rfl) hW
                refine lv_icmp_ge (tgt := 97) hx hb dX9_spring_91 (by decide) (fun c_91 => ?_) (fun c_91 => ?_)
                · have hF := ite_t hF c_91
                  exact J_97 x5_59 _ _ _ hF (lv_sub hl [0, 1, 2, 3, 4, 5, 6, 7] rfl) hW
                · have hF := ite_f hF c_91
                  refine lv_iinc (v := (x5_59 + 1)) (lv' := [(5, .int ((x5_59 + 1))), (0, .ref h_this), (1, .int x1), (3, .int x3), (4, .int q41), (6, .int x6_59), (7, .int x7_59), (8, .int x8_59)]) hx hb dX9_spring_94 hl (k := 4) rfl rfl (by decide) rfl (fun ls hl => ?_)
                  exact J_97 ((x5_59 + 1)) _ _ _ hF (lv_sub hl [1, 2, 3, 4, 0, 5, 6, 7] rfl) hW
        exact L_59 5000 0 0 ((-4)) 1 _ _ _ hF (lv_sub hl [5, 6, 8, 4, 3, 2, 1, 0] rfl) hW
      · have hF := ite_t hF c_31
        refine lv_iconst (v := (-1)) hx hb dX9_spring_34 (by decide) ?_
        obtain rfl := Option.some.inj hF
        exact hret _ _ _ _ hW dX9_spring_35
theorem dX9_count_0 : decode cX9_count 0 = .ok (.iload_n 1, 1) := by decide +kernel
theorem dX9_count_1 : decode cX9_count 1 = .ok (.tableswitch 120 0 8 #[51, 59, 67, 75, 83, 91, 99, 104, 112], 51) := by decide +kernel
theorem dX9_count_52 : decode cX9_count 52 = .ok (.aload_n 0, 1) := by decide +kernel
theorem dX9_count_53 : decode cX9_count 53 = .ok (.getfield 26, 3) := by decide +kernel
theorem dX9_count_56 : decode cX9_count 56 = .ok (.getfield 110, 3) := by decide +kernel
theorem dX9_count_59 : decode cX9_count 59 = .ok (.ireturn, 1) := by decide +kernel
theorem dX9_count_60 : decode cX9_count 60 = .ok (.aload_n 0, 1) := by decide +kernel
theorem dX9_count_61 : decode cX9_count 61 = .ok (.getfield 26, 3) := by decide +kernel
theorem dX9_count_64 : decode cX9_count 64 = .ok (.getfield 213, 3) := by decide +kernel
theorem dX9_count_67 : decode cX9_count 67 = .ok (.ireturn, 1) := by decide +kernel
theorem dX9_count_68 : decode cX9_count 68 = .ok (.aload_n 0, 1) := by decide +kernel
theorem dX9_count_69 : decode cX9_count 69 = .ok (.getfield 26, 3) := by decide +kernel
theorem dX9_count_72 : decode cX9_count 72 = .ok (.getfield 253, 3) := by decide +kernel
theorem dX9_count_75 : decode cX9_count 75 = .ok (.ireturn, 1) := by decide +kernel
theorem dX9_count_76 : decode cX9_count 76 = .ok (.aload_n 0, 1) := by decide +kernel
theorem dX9_count_77 : decode cX9_count 77 = .ok (.getfield 26, 3) := by decide +kernel
theorem dX9_count_80 : decode cX9_count 80 = .ok (.getfield 123, 3) := by decide +kernel
theorem dX9_count_83 : decode cX9_count 83 = .ok (.ireturn, 1) := by decide +kernel
theorem dX9_count_84 : decode cX9_count 84 = .ok (.aload_n 0, 1) := by decide +kernel
theorem dX9_count_85 : decode cX9_count 85 = .ok (.getfield 36, 3) := by decide +kernel
theorem dX9_count_88 : decode cX9_count 88 = .ok (.getfield 113, 3) := by decide +kernel
theorem dX9_count_91 : decode cX9_count 91 = .ok (.ireturn, 1) := by decide +kernel
theorem dX9_count_92 : decode cX9_count 92 = .ok (.aload_n 0, 1) := by decide +kernel
theorem dX9_count_93 : decode cX9_count 93 = .ok (.getfield 63, 3) := by decide +kernel
theorem dX9_count_96 : decode cX9_count 96 = .ok (.getfield 116, 3) := by decide +kernel
theorem dX9_count_99 : decode cX9_count 99 = .ok (.ireturn, 1) := by decide +kernel
theorem dX9_count_100 : decode cX9_count 100 = .ok (.aload_n 0, 1) := by decide +kernel
theorem dX9_count_101 : decode cX9_count 101 = .ok (.getfield 46, 3) := by decide +kernel
theorem dX9_count_104 : decode cX9_count 104 = .ok (.ireturn, 1) := by decide +kernel
theorem dX9_count_105 : decode cX9_count 105 = .ok (.aload_n 0, 1) := by decide +kernel
theorem dX9_count_106 : decode cX9_count 106 = .ok (.getfield 10, 3) := by decide +kernel
theorem dX9_count_109 : decode cX9_count 109 = .ok (.getfield 108, 3) := by decide +kernel
theorem dX9_count_112 : decode cX9_count 112 = .ok (.ireturn, 1) := by decide +kernel
theorem dX9_count_113 : decode cX9_count 113 = .ok (.aload_n 0, 1) := by decide +kernel
theorem dX9_count_114 : decode cX9_count 114 = .ok (.getfield 26, 3) := by decide +kernel
theorem dX9_count_117 : decode cX9_count 117 = .ok (.invokevirtual 256, 3) := by decide +kernel
theorem dX9_count_120 : decode cX9_count 120 = .ok (.ireturn, 1) := by decide +kernel
theorem dX9_count_121 : decode cX9_count 121 = .ok (.iconst (-1), 1) := by decide +kernel
theorem dX9_count_122 : decode cX9_count 122 = .ok (.ireturn, 1) := by decide +kernel
def F_X9_count (x1 : Int32) (v_keptCount : Int32) (v_book_days : Int32) (v_text_length : Int32) (v_told_pairs : Int32) (v_town_boatCount : Int32) (v_town_houseCount : Int32) (v_town_signCount : Int32) (v_town_workCount : Int32) (a_town_houseMinutes : Nat → Int32) (a_town_housePeople : Nat → Int32) : Option (Int32) := (if x1 = 0 then some (v_town_signCount) else (if x1 = 1 then some (v_town_houseCount) else (if x1 = 2 then some (v_town_boatCount) else (if x1 = 3 then some (v_town_workCount) else (if x1 = 4 then some (v_book_days) else (if x1 = 5 then some (v_told_pairs) else (if x1 = 6 then some (v_keptCount) else (if x1 = 7 then some (v_text_length) else (if x1 = 8 then (F_X8_people v_town_houseCount a_town_houseMinutes a_town_housePeople).bind (fun q117 => some (q117)) else some ((-1)))))))))))
theorem hdV_X9_count : yX9_count.cls = RX9 ∧ yX9_count.cls ≠ "java/lang/invoke/MethodHandle" ∧ yX9_count.cls ≠ "java/lang/invoke/VarHandle" ∧ (parseMethodDescriptor yX9_count.desc).map (fun d => d.parameters.length) = some 1 := by decide +kernel
set_option maxHeartbeats 4000000 in
set_option maxRecDepth 100000 in
theorem c_X9_count (l : Launch) (G : GG) (x1 : Int32) (h_this : Nat) (ad_this : Nat → Nat) (ad_this_book : Nat → Nat) (ad_this_text : Nat → Nat) (ad_this_told : Nat → Nat) (ad_this_town : Nat → Nat) (v_keptCount : Int32) (v_book_days : Int32) (v_text_length : Int32) (v_told_pairs : Int32) (v_town_signCount : Int32) (v_town_houseCount : Int32) (v_town_boatCount : Int32) (v_town_workCount : Int32) (v_town_turnCost : Int32) (v_town_boatDayCost : Int32) (a_town_houseMinutes : Nat → Int32) (a_town_housePeople : Nat → Int32) (out : Int32) (hF : F_X9_count x1 v_keptCount v_book_days v_text_length v_told_pairs v_town_boatCount v_town_houseCount v_town_signCount v_town_workCount a_town_houseMinutes a_town_housePeople = some out) : CtrI l yX9_count (WS yX9_count cX9_count 2 (some .int)) { frames := 4, cells := 0, slots := 0, locals := 85 } G [.ref h_this, .int x1] [(h_this, oX9 ad_this v_keptCount), ((ad_this 4), oX1 ad_this_book v_book_days), ((ad_this 0), oX6 ad_this_text v_text_length), ((ad_this 10), oX7 ad_this_told v_told_pairs), ((ad_this 2), oX8 ad_this_town v_town_signCount v_town_houseCount v_town_boatCount v_town_workCount v_town_turnCost v_town_boatDayCost), ((ad_this_town 3), cI G 6 a_town_houseMinutes), ((ad_this_town 2), cI G 6 a_town_housePeople)] [(h_this, oX9 ad_this v_keptCount), ((ad_this 4), oX1 ad_this_book v_book_days), ((ad_this 0), oX6 ad_this_text v_text_length), ((ad_this 10), oX7 ad_this_told v_told_pairs), ((ad_this 2), oX8 ad_this_town v_town_signCount v_town_houseCount v_town_boatCount v_town_workCount v_town_turnCost v_town_boatDayCost), ((ad_this_town 3), cI G 6 a_town_houseMinutes), ((ad_this_town 2), cI G 6 a_town_housePeople)] out := by
  refine startI (cc := cX9_count) (maxL := 2) (by decide) rfl (Nat.le_of_ble_eq_true rfl) ?_
  intro p e s m args below meth c A Q hx hb hml hts hown hc hA hret ls H locs hl hW
  have hown : s.vm.findClass RX9 = some m.cls := hown
  have hg : ∀ w ∈ GOODS, w.before _ s = true := fun w h => hts w (List.mem_cons_of_mem _ h)
  have hl : lv_has ls 2 [(0, .ref h_this), (1, .int x1)] := hl
  rw [F_X9_count] at hF
  refine lv_iload_n hx hb dX9_count_0 rfl (lv_at hl 1 rfl) ?_
  by_cases w_1_0 : x1 = 0
  · have hF := ite_t hF w_1_0
    refine lv_tableIn (off := 51) (tgt := 52) hx hb dX9_count_1 (by rw [w_1_0]; decide +kernel) (by rw [w_1_0]; decide +kernel) (by rw [w_1_0]; decide +kernel) (by decide) ?_
    refine lv_aload_n hx hb dX9_count_52 rfl (lv_at hl 0 rfl) ?_
    refine va_get (D := G.1) (ci := 8) (v := .ref ((ad_this 2))) (C := RX9) (T := TX9) (N := 13) hx hb hg hu_X9 hown hc.1 hW.1 0 rfl rfl 2 (by decide) (hg _ wd_2_97) (fun _ h9 => h9) rfl dX9_count_53 ?_
    refine va_get (D := G.1) (ci := 7) (v := .int v_town_signCount) (C := RX8) (T := TX8) (N := 13) hx hb hg hu_X8 hown hc.1 hW.1 4 rfl rfl 7 (by decide) (hg _ wd_1_77) (fun _ h9 => h9) rfl dX9_count_56 ?_
    obtain rfl := Option.some.inj hF
    exact hret _ _ _ _ hW dX9_count_59
  have hF := ite_f hF w_1_0
  by_cases w_1_1 : x1 = 1
  · have hF := ite_t hF w_1_1
    refine lv_tableIn (off := 59) (tgt := 60) hx hb dX9_count_1 (by rw [w_1_1]; decide +kernel) (by rw [w_1_1]; decide +kernel) (by rw [w_1_1]; decide +kernel) (by decide) ?_
    refine lv_aload_n hx hb dX9_count_60 rfl (lv_at hl 0 rfl) ?_
    refine va_get (D := G.1) (ci := 8) (v := .ref ((ad_this 2))) (C := RX9) (T := TX9) (N := 13) hx hb hg hu_X9 hown hc.1 hW.1 0 rfl rfl 2 (by decide) (hg _ wd_2_97) (fun _ h9 => h9) rfl dX9_count_61 ?_
    refine va_get (D := G.1) (ci := 7) (v := .int v_town_houseCount) (C := RX8) (T := TX8) (N := 13) hx hb hg hu_X8 hown hc.1 hW.1 4 rfl rfl 8 (by decide) (hg _ wd_1_80) (fun _ h9 => h9) rfl dX9_count_64 ?_
    obtain rfl := Option.some.inj hF
    exact hret _ _ _ _ hW dX9_count_67
  have hF := ite_f hF w_1_1
  by_cases w_1_2 : x1 = 2
  · have hF := ite_t hF w_1_2
    refine lv_tableIn (off := 67) (tgt := 68) hx hb dX9_count_1 (by rw [w_1_2]; decide +kernel) (by rw [w_1_2]; decide +kernel) (by rw [w_1_2]; decide +kernel) (by decide) ?_
    refine lv_aload_n hx hb dX9_count_68 rfl (lv_at hl 0 rfl) ?_
    refine va_get (D := G.1) (ci := 8) (v := .ref ((ad_this 2))) (C := RX9) (T := TX9) (N := 13) hx hb hg hu_X9 hown hc.1 hW.1 0 rfl rfl 2 (by decide) (hg _ wd_2_97) (fun _ h9 => h9) rfl dX9_count_69 ?_
    refine va_get (D := G.1) (ci := 7) (v := .int v_town_boatCount) (C := RX8) (T := TX8) (N := 13) hx hb hg hu_X8 hown hc.1 hW.1 4 rfl rfl 9 (by decide) (hg _ wd_1_83) (fun _ h9 => h9) rfl dX9_count_72 ?_
    obtain rfl := Option.some.inj hF
    exact hret _ _ _ _ hW dX9_count_75
  have hF := ite_f hF w_1_2
  by_cases w_1_3 : x1 = 3
  · have hF := ite_t hF w_1_3
    refine lv_tableIn (off := 75) (tgt := 76) hx hb dX9_count_1 (by rw [w_1_3]; decide +kernel) (by rw [w_1_3]; decide +kernel) (by rw [w_1_3]; decide +kernel) (by decide) ?_
    refine lv_aload_n hx hb dX9_count_76 rfl (lv_at hl 0 rfl) ?_
    refine va_get (D := G.1) (ci := 8) (v := .ref ((ad_this 2))) (C := RX9) (T := TX9) (N := 13) hx hb hg hu_X9 hown hc.1 hW.1 0 rfl rfl 2 (by decide) (hg _ wd_2_97) (fun _ h9 => h9) rfl dX9_count_77 ?_
    refine va_get (D := G.1) (ci := 7) (v := .int v_town_workCount) (C := RX8) (T := TX8) (N := 13) hx hb hg hu_X8 hown hc.1 hW.1 4 rfl rfl 10 (by decide) (hg _ wd_1_85) (fun _ h9 => h9) rfl dX9_count_80 ?_
    obtain rfl := Option.some.inj hF
    exact hret _ _ _ _ hW dX9_count_83
  have hF := ite_f hF w_1_3
  by_cases w_1_4 : x1 = 4
  · have hF := ite_t hF w_1_4
    refine lv_tableIn (off := 83) (tgt := 84) hx hb dX9_count_1 (by rw [w_1_4]; decide +kernel) (by rw [w_1_4]; decide +kernel) (by rw [w_1_4]; decide +kernel) (by decide) ?_
    refine lv_aload_n hx hb dX9_count_84 rfl (lv_at hl 0 rfl) ?_
    refine va_get (D := G.1) (ci := 8) (v := .ref ((ad_this 4))) (C := RX9) (T := TX9) (N := 13) hx hb hg hu_X9 hown hc.1 hW.1 0 rfl rfl 4 (by decide) (hg _ wd_2_99) (fun _ h9 => h9) rfl dX9_count_85 ?_
    refine va_get (D := G.1) (ci := 1) (v := .int v_book_days) (C := RX1) (T := TX1) (N := 3) hx hb hg hu_X1 hown hc.1 hW.1 1 rfl rfl 2 (by decide) (hg _ wd_1_126) (fun _ h9 => h9) rfl dX9_count_88 ?_
    obtain rfl := Option.some.inj hF
    exact hret _ _ _ _ hW dX9_count_91
  have hF := ite_f hF w_1_4
  by_cases w_1_5 : x1 = 5
  · have hF := ite_t hF w_1_5
    refine lv_tableIn (off := 91) (tgt := 92) hx hb dX9_count_1 (by rw [w_1_5]; decide +kernel) (by rw [w_1_5]; decide +kernel) (by rw [w_1_5]; decide +kernel) (by decide) ?_
    refine lv_aload_n hx hb dX9_count_92 rfl (lv_at hl 0 rfl) ?_
    refine va_get (D := G.1) (ci := 8) (v := .ref ((ad_this 10))) (C := RX9) (T := TX9) (N := 13) hx hb hg hu_X9 hown hc.1 hW.1 0 rfl rfl 10 (by decide) (hg _ wd_2_105) (fun _ h9 => h9) rfl dX9_count_93 ?_
    refine va_get (D := G.1) (ci := 6) (v := .int v_told_pairs) (C := RX7) (T := TX7) (N := 4) hx hb hg hu_X7 hown hc.1 hW.1 3 rfl rfl 3 (by decide) (hg _ wd_1_163) (fun _ h9 => h9) rfl dX9_count_96 ?_
    obtain rfl := Option.some.inj hF
    exact hret _ _ _ _ hW dX9_count_99
  have hF := ite_f hF w_1_5
  by_cases w_1_6 : x1 = 6
  · have hF := ite_t hF w_1_6
    refine lv_tableIn (off := 99) (tgt := 100) hx hb dX9_count_1 (by rw [w_1_6]; decide +kernel) (by rw [w_1_6]; decide +kernel) (by rw [w_1_6]; decide +kernel) (by decide) ?_
    refine lv_aload_n hx hb dX9_count_100 rfl (lv_at hl 0 rfl) ?_
    refine va_get (D := G.1) (ci := 8) (v := .int v_keptCount) (C := RX9) (T := TX9) (N := 13) hx hb hg hu_X9 hown hc.1 hW.1 0 rfl rfl 7 (by decide) (hg _ wd_2_102) (fun _ h9 => h9) rfl dX9_count_101 ?_
    obtain rfl := Option.some.inj hF
    exact hret _ _ _ _ hW dX9_count_104
  have hF := ite_f hF w_1_6
  by_cases w_1_7 : x1 = 7
  · have hF := ite_t hF w_1_7
    refine lv_tableIn (off := 104) (tgt := 105) hx hb dX9_count_1 (by rw [w_1_7]; decide +kernel) (by rw [w_1_7]; decide +kernel) (by rw [w_1_7]; decide +kernel) (by decide) ?_
    refine lv_aload_n hx hb dX9_count_105 rfl (lv_at hl 0 rfl) ?_
    refine va_get (D := G.1) (ci := 8) (v := .ref ((ad_this 0))) (C := RX9) (T := TX9) (N := 13) hx hb hg hu_X9 hown hc.1 hW.1 0 rfl rfl 0 (by decide) (hg _ wd_2_95) (fun _ h9 => h9) rfl dX9_count_106 ?_
    refine va_get (D := G.1) (ci := 5) (v := .int v_text_length) (C := RX6) (T := TX6) (N := 2) hx hb hg hu_X6 hown hc.1 hW.1 2 rfl rfl 1 (by decide) (hg _ wd_1_34) (fun _ h9 => h9) rfl dX9_count_109 ?_
    obtain rfl := Option.some.inj hF
    exact hret _ _ _ _ hW dX9_count_112
  have hF := ite_f hF w_1_7
  by_cases w_1_8 : x1 = 8
  · have hF := ite_t hF w_1_8
    refine lv_tableIn (off := 112) (tgt := 113) hx hb dX9_count_1 (by rw [w_1_8]; decide +kernel) (by rw [w_1_8]; decide +kernel) (by rw [w_1_8]; decide +kernel) (by decide) ?_
    refine lv_aload_n hx hb dX9_count_113 rfl (lv_at hl 0 rfl) ?_
    refine va_get (D := G.1) (ci := 8) (v := .ref ((ad_this 2))) (C := RX9) (T := TX9) (N := 13) hx hb hg hu_X9 hown hc.1 hW.1 0 rfl rfl 2 (by decide) (hg _ wd_2_97) (fun _ h9 => h9) rfl dX9_count_114 ?_
    obtain ⟨q117, c_117, hF⟩ := bd_el hF
    refine wcI (ws' := [(h_this, oX9 ad_this v_keptCount), ((ad_this 4), oX1 ad_this_book v_book_days), ((ad_this 0), oX6 ad_this_text v_text_length), ((ad_this 10), oX7 ad_this_told v_told_pairs), ((ad_this 2), oX8 ad_this_town v_town_signCount v_town_houseCount v_town_boatCount v_town_workCount v_town_turnCost v_town_boatDayCost), ((ad_this_town 3), cI G 6 a_town_houseMinutes), ((ad_this_town 2), cI G 6 a_town_housePeople)]) (wc := [((ad_this 2), oX8 ad_this_town v_town_signCount v_town_houseCount v_town_boatCount v_town_workCount v_town_turnCost v_town_boatDayCost), ((ad_this_town 3), cI G 6 a_town_houseMinutes), ((ad_this_town 2), cI G 6 a_town_housePeople)]) (wr := [(h_this, oX9 ad_this v_keptCount), ((ad_this 4), oX1 ad_this_book v_book_days), ((ad_this 0), oX6 ad_this_text v_text_length), ((ad_this 10), oX7 ad_this_told v_told_pairs)]) (w1 := [((ad_this 2), oX8 ad_this_town v_town_signCount v_town_houseCount v_town_boatCount v_town_workCount v_town_turnCost v_town_boatDayCost), ((ad_this_town 3), cI G 6 a_town_houseMinutes), ((ad_this_town 2), cI G 6 a_town_housePeople)]) (va_runV (As := []) (rest := []) ⟨hx, hb, hml, hown, hg⟩ (c_X8_people l G ((ad_this 2)) ad_this_town v_town_signCount v_town_houseCount v_town_boatCount v_town_workCount v_town_turnCost v_town_boatDayCost a_town_houseMinutes a_town_housePeople q117 c_117 H.size) (cwV 0 hg (gV wd_4_11 wd_4_12 wd_4_13 wd_1_4 wd_4_14) rfl rfl rfl hdV_X8_people ⟨(Nat.le_of_ble_eq_true rfl), (Nat.le_of_ble_eq_true rfl)⟩) (preV hc hW [4, 5, 6] rfl (by decide) rfl rfl) rfl rfl hl.1 rfl (lv_room (Nat.le_of_ble_eq_true rfl)) dX9_count_117 ⟨Nat.zero_le _, Nat.zero_le _⟩) hA hW [4, 5, 6] [0, 1, 2, 3] [0, 1, 2, 3, 4, 5, 6] rfl rfl (by decide) (by decide) rfl (by decide) (fun H locs hW => ?_)
    obtain rfl := Option.some.inj hF
    exact hret _ _ _ _ hW dX9_count_120
  have hF := ite_f hF w_1_8
  refine lv_tableOut (tgt := 121) hx hb dX9_count_1 (by have g0 := i32_ne (k := 0) rfl w_1_0; have g1 := i32_ne (k := 1) rfl w_1_1; have g2 := i32_ne (k := 2) rfl w_1_2; have g3 := i32_ne (k := 3) rfl w_1_3; have g4 := i32_ne (k := 4) rfl w_1_4; have g5 := i32_ne (k := 5) rfl w_1_5; have g6 := i32_ne (k := 6) rfl w_1_6; have g7 := i32_ne (k := 7) rfl w_1_7; have g8 := i32_ne (k := 8) rfl w_1_8; omega) (by decide) ?_
  refine lv_iconst (v := (-1)) hx hb dX9_count_121 (by decide) ?_
  obtain rfl := Option.some.inj hF
  exact hret _ _ _ _ hW dX9_count_122
