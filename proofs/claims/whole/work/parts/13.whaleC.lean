theorem dX9_keep_0 : decode cX9_keep 0 = .ok (.aload_n 0, 1) := by decide +kernel
theorem dX9_keep_1 : decode cX9_keep 1 = .ok (.getfield 46, 3) := by decide +kernel
theorem dX9_keep_4 : decode cX9_keep 4 = .ok (.iconst 2, 1) := by decide +kernel
theorem dX9_keep_5 : decode cX9_keep 5 = .ok (.if_icmp .lt 6, 3) := by decide +kernel
theorem dX9_keep_8 : decode cX9_keep 8 = .ok (.bipush (-3), 2) := by decide +kernel
theorem dX9_keep_10 : decode cX9_keep 10 = .ok (.ireturn, 1) := by decide +kernel
theorem dX9_keep_11 : decode cX9_keep 11 = .ok (.aload_n 0, 1) := by decide +kernel
theorem dX9_keep_12 : decode cX9_keep 12 = .ok (.getfield 46, 3) := by decide +kernel
theorem dX9_keep_15 : decode cX9_keep 15 = .ok (.ifCond .ne 10, 3) := by decide +kernel
theorem dX9_keep_18 : decode cX9_keep 18 = .ok (.aload_n 0, 1) := by decide +kernel
theorem dX9_keep_19 : decode cX9_keep 19 = .ok (.getfield 40, 3) := by decide +kernel
theorem dX9_keep_22 : decode cX9_keep 22 = .ok (.goto 7, 3) := by decide +kernel
theorem dX9_keep_25 : decode cX9_keep 25 = .ok (.aload_n 0, 1) := by decide +kernel
theorem dX9_keep_26 : decode cX9_keep 26 = .ok (.getfield 43, 3) := by decide +kernel
theorem dX9_keep_29 : decode cX9_keep 29 = .ok (.astore_n 1, 1) := by decide +kernel
theorem dX9_keep_30 : decode cX9_keep 30 = .ok (.aload_n 1, 1) := by decide +kernel
theorem dX9_keep_31 : decode cX9_keep 31 = .ok (.aload_n 0, 1) := by decide +kernel
theorem dX9_keep_32 : decode cX9_keep 32 = .ok (.getfield 36, 3) := by decide +kernel
theorem dX9_keep_35 : decode cX9_keep 35 = .ok (.invokevirtual 249, 3) := by decide +kernel
theorem dX9_keep_38 : decode cX9_keep 38 = .ok (.aload_n 0, 1) := by decide +kernel
theorem dX9_keep_39 : decode cX9_keep 39 = .ok (.dup, 1) := by decide +kernel
theorem dX9_keep_40 : decode cX9_keep 40 = .ok (.getfield 46, 3) := by decide +kernel
theorem dX9_keep_43 : decode cX9_keep 43 = .ok (.iconst 1, 1) := by decide +kernel
theorem dX9_keep_44 : decode cX9_keep 44 = .ok (.iadd, 1) := by decide +kernel
theorem dX9_keep_45 : decode cX9_keep 45 = .ok (.putfield 46, 3) := by decide +kernel
theorem dX9_keep_48 : decode cX9_keep 48 = .ok (.aload_n 0, 1) := by decide +kernel
theorem dX9_keep_49 : decode cX9_keep 49 = .ok (.getfield 46, 3) := by decide +kernel
theorem dX9_keep_52 : decode cX9_keep 52 = .ok (.ireturn, 1) := by decide +kernel
def F_X9_keep (v_keptCount : Int32) (v_book_days : Int32) (a_book_signs : Nat → Int32) (a_book_works : Nat → Int32) (v_keptFirst_days : Int32) (a_keptFirst_signs : Nat → Int32) (a_keptFirst_works : Nat → Int32) (v_keptSecond_days : Int32) (a_keptSecond_signs : Nat → Int32) (a_keptSecond_works : Nat → Int32) : Option (Int32 × Int32 × Int32 × (Nat → Int32) × (Nat → Int32) × Int32 × (Nat → Int32) × (Nat → Int32)) := (if v_keptCount < 2 then (if v_keptCount = 0 then (F_X1_takeFrom v_keptFirst_days v_book_days a_book_signs a_book_works a_keptFirst_signs a_keptFirst_works).bind (fun q35 => some ((v_keptCount + 1), (v_keptCount + 1), q35.1, q35.2.1, q35.2.2, v_keptSecond_days, a_keptSecond_signs, a_keptSecond_works)) else (F_X1_takeFrom v_keptSecond_days v_book_days a_book_signs a_book_works a_keptSecond_signs a_keptSecond_works).bind (fun q35 => some ((v_keptCount + 1), (v_keptCount + 1), v_keptFirst_days, a_keptFirst_signs, a_keptFirst_works, q35.1, q35.2.1, q35.2.2))) else some ((-3), v_keptCount, v_keptFirst_days, a_keptFirst_signs, a_keptFirst_works, v_keptSecond_days, a_keptSecond_signs, a_keptSecond_works))
theorem hdV_X9_keep : yX9_keep.cls = RX9 ∧ yX9_keep.cls ≠ "java/lang/invoke/MethodHandle" ∧ yX9_keep.cls ≠ "java/lang/invoke/VarHandle" ∧ (parseMethodDescriptor yX9_keep.desc).map (fun d => d.parameters.length) = some 0 := by decide +kernel
set_option maxHeartbeats 4000000 in
set_option maxRecDepth 100000 in
theorem c_X9_keep (l : Launch) (G : GG) (h_this : Nat) (ad_this : Nat → Nat) (ad_this_book : Nat → Nat) (ad_this_keptFirst : Nat → Nat) (ad_this_keptSecond : Nat → Nat) (v_keptCount : Int32) (v_book_days : Int32) (a_book_signs : Nat → Int32) (a_book_works : Nat → Int32) (v_keptFirst_days : Int32) (a_keptFirst_signs : Nat → Int32) (a_keptFirst_works : Nat → Int32) (v_keptSecond_days : Int32) (a_keptSecond_signs : Nat → Int32) (a_keptSecond_works : Nat → Int32) (out : Int32 × Int32 × Int32 × (Nat → Int32) × (Nat → Int32) × Int32 × (Nat → Int32) × (Nat → Int32)) (hF : F_X9_keep v_keptCount v_book_days a_book_signs a_book_works v_keptFirst_days a_keptFirst_signs a_keptFirst_works v_keptSecond_days a_keptSecond_signs a_keptSecond_works = some out) : CtrI l yX9_keep (WS yX9_keep cX9_keep 2 (some .int)) { frames := 3, cells := 0, slots := 0, locals := 66 } G [.ref h_this] [(h_this, oX9 ad_this v_keptCount), ((ad_this 4), oX1 ad_this_book v_book_days), ((ad_this_book 0), cI G 5 a_book_signs), ((ad_this_book 1), cI G 5 a_book_works), ((ad_this 5), oX1 ad_this_keptFirst v_keptFirst_days), ((ad_this_keptFirst 0), cI G 5 a_keptFirst_signs), ((ad_this_keptFirst 1), cI G 5 a_keptFirst_works), ((ad_this 6), oX1 ad_this_keptSecond v_keptSecond_days), ((ad_this_keptSecond 0), cI G 5 a_keptSecond_signs), ((ad_this_keptSecond 1), cI G 5 a_keptSecond_works)] [(h_this, oX9 ad_this out.2.1), ((ad_this 4), oX1 ad_this_book v_book_days), ((ad_this_book 0), cI G 5 a_book_signs), ((ad_this_book 1), cI G 5 a_book_works), ((ad_this 5), oX1 ad_this_keptFirst out.2.2.1), ((ad_this_keptFirst 0), cI G 5 out.2.2.2.1), ((ad_this_keptFirst 1), cI G 5 out.2.2.2.2.1), ((ad_this 6), oX1 ad_this_keptSecond out.2.2.2.2.2.1), ((ad_this_keptSecond 0), cI G 5 out.2.2.2.2.2.2.1), ((ad_this_keptSecond 1), cI G 5 out.2.2.2.2.2.2.2)] out.1 := by
  refine startI (cc := cX9_keep) (maxL := 2) (by decide) rfl (Nat.le_of_ble_eq_true rfl) ?_
  intro p e s m args below meth c A Q hx hb hml hts hown hc hA hret ls H locs hl hW
  have hown : s.vm.findClass RX9 = some m.cls := hown
  have hg : ∀ w ∈ GOODS, w.before _ s = true := fun w h => hts w (List.mem_cons_of_mem _ h)
  have hl : lv_has ls 2 [(0, .ref h_this)] := hl
  rw [F_X9_keep] at hF
  refine lv_aload_n hx hb dX9_keep_0 rfl (lv_at hl 0 rfl) ?_
  refine va_get (D := G.1) (ci := 8) (v := .int v_keptCount) (C := RX9) (T := TX9) (N := 13) hx hb hg hu_X9 hown hc.1 hW.1 0 rfl rfl 7 (by decide) (hg _ wd_2_102) (fun _ h9 => h9) rfl dX9_keep_1 ?_
  refine lv_iconst (v := 2) hx hb dX9_keep_4 (by decide) ?_
  refine lv_icmp_lt (tgt := 11) hx hb dX9_keep_5 (by decide) (fun c_5 => ?_) (fun c_5 => ?_)
  · have hF := ite_t hF c_5
    refine lv_aload_n hx hb dX9_keep_11 rfl (lv_at hl 0 rfl) ?_
    refine va_get (D := G.1) (ci := 8) (v := .int v_keptCount) (C := RX9) (T := TX9) (N := 13) hx hb hg hu_X9 hown hc.1 hW.1 0 rfl rfl 7 (by decide) (hg _ wd_2_102) (fun _ h9 => h9) rfl dX9_keep_12 ?_
    refine lv_if_ne (tgt := 25) hx hb dX9_keep_15 (by decide) (fun c_15 => ?_) (fun c_15 => ?_)
    · have hF := ite_f hF c_15
      refine lv_aload_n hx hb dX9_keep_25 rfl (lv_at hl 0 rfl) ?_
      refine va_get (D := G.1) (ci := 8) (v := .ref ((ad_this 6))) (C := RX9) (T := TX9) (N := 13) hx hb hg hu_X9 hown hc.1 hW.1 0 rfl rfl 6 (by decide) (hg _ wd_2_101) (fun _ h9 => h9) rfl dX9_keep_26 ?_
      refine lv_astore_n (lv' := [(1, .ref ((ad_this 6))), (0, .ref h_this)]) hx hb dX9_keep_29 rfl hl (by decide) rfl (fun ls hl => ?_)
      refine lv_aload_n hx hb dX9_keep_30 rfl (lv_at hl 0 rfl) ?_
      refine lv_aload_n hx hb dX9_keep_31 rfl (lv_at hl 1 rfl) ?_
      refine va_get (D := G.1) (ci := 8) (v := .ref ((ad_this 4))) (C := RX9) (T := TX9) (N := 13) hx hb hg hu_X9 hown hc.1 hW.1 0 rfl rfl 4 (by decide) (hg _ wd_2_99) (fun _ h9 => h9) rfl dX9_keep_32 ?_
      obtain ⟨q35, c_35, hF⟩ := bd_el hF
      refine wcV (ws' := [(h_this, oX9 ad_this v_keptCount), ((ad_this 4), oX1 ad_this_book v_book_days), ((ad_this_book 0), cI G 5 a_book_signs), ((ad_this_book 1), cI G 5 a_book_works), ((ad_this 5), oX1 ad_this_keptFirst v_keptFirst_days), ((ad_this_keptFirst 0), cI G 5 a_keptFirst_signs), ((ad_this_keptFirst 1), cI G 5 a_keptFirst_works), ((ad_this 6), oX1 ad_this_keptSecond q35.1), ((ad_this_keptSecond 0), cI G 5 q35.2.1), ((ad_this_keptSecond 1), cI G 5 q35.2.2)]) (wc := [((ad_this 6), oX1 ad_this_keptSecond v_keptSecond_days), ((ad_this 4), oX1 ad_this_book v_book_days), ((ad_this_book 0), cI G 5 a_book_signs), ((ad_this_book 1), cI G 5 a_book_works), ((ad_this_keptSecond 0), cI G 5 a_keptSecond_signs), ((ad_this_keptSecond 1), cI G 5 a_keptSecond_works)]) (wr := [(h_this, oX9 ad_this v_keptCount), ((ad_this 5), oX1 ad_this_keptFirst v_keptFirst_days), ((ad_this_keptFirst 0), cI G 5 a_keptFirst_signs), ((ad_this_keptFirst 1), cI G 5 a_keptFirst_works)]) (w1 := [((ad_this 6), oX1 ad_this_keptSecond q35.1), ((ad_this 4), oX1 ad_this_book v_book_days), ((ad_this_book 0), cI G 5 a_book_signs), ((ad_this_book 1), cI G 5 a_book_works), ((ad_this_keptSecond 0), cI G 5 q35.2.1), ((ad_this_keptSecond 1), cI G 5 q35.2.2)]) (va_runV (As := [.ref ((ad_this 4))]) (rest := []) ⟨hx, hb, hml, hown, hg⟩ (c_X1_takeFrom l G ((ad_this 6)) ((ad_this 4)) ad_this_keptSecond ad_this_book v_keptSecond_days v_book_days a_book_signs a_book_works a_keptSecond_signs a_keptSecond_works q35 c_35 H.size) (cwV 1 hg (gV wd_3_236 wd_3_237 wd_3_238 wd_1_5 wd_3_239) rfl rfl rfl hdV_X1_takeFrom ⟨(Nat.le_of_ble_eq_true rfl), (Nat.le_of_ble_eq_true rfl)⟩) (preV hc hW [7, 1, 2, 3, 8, 9] rfl (by decide) rfl rfl) rfl rfl hl.1 rfl (lv_room (Nat.le_of_ble_eq_true rfl)) dX9_keep_35 ⟨Nat.zero_le _, Nat.zero_le _⟩) hA hW [7, 1, 2, 3, 8, 9] [0, 4, 5, 6] [0, 5, 6, 7, 1, 2, 3, 4, 8, 9] rfl rfl (by decide) (by decide) rfl (by decide) (fun H locs hW => ?_)
      refine lv_aload_n hx hb dX9_keep_38 rfl (lv_at hl 1 rfl) ?_
      refine lv_dup hx hb dX9_keep_39 rfl ?_
      refine va_get (D := G.1) (ci := 8) (v := .int v_keptCount) (C := RX9) (T := TX9) (N := 13) hx hb hg hu_X9 hown hc.1 hW.1 0 rfl rfl 7 (by decide) (hg _ wd_2_102) (fun _ h9 => h9) rfl dX9_keep_40 ?_
      refine lv_iconst (v := 1) hx hb dX9_keep_43 (by decide) ?_
      refine lv_iadd hx hb dX9_keep_44 ?_
      refine va_put (D := G.1) (ci := 8) (v := .int ((v_keptCount + 1))) (ty := .int) (C := RX9) (T := TX9) (N := 13) hx hb hg hu_X9 tyX9 tyX9_ok nmX9 hown hc.1 hW.1 hW.2.1 hW.2.2 0 rfl rfl 7 (by decide) (hg _ wd_2_102) (fun _ h9 => h9) rfl (by decide +kernel) rfl rfl (Nat.le_of_ble_eq_true rfl) dX9_keep_45 (fun H locs hP hD hS => ?_)
      have hW : Wd G A s.heap [(h_this, oX9 ad_this ((v_keptCount + 1))), ((ad_this 4), oX1 ad_this_book v_book_days), ((ad_this_book 0), cI G 5 a_book_signs), ((ad_this_book 1), cI G 5 a_book_works), ((ad_this 5), oX1 ad_this_keptFirst v_keptFirst_days), ((ad_this_keptFirst 0), cI G 5 a_keptFirst_signs), ((ad_this_keptFirst 1), cI G 5 a_keptFirst_works), ((ad_this 6), oX1 ad_this_keptSecond q35.1), ((ad_this_keptSecond 0), cI G 5 q35.2.1), ((ad_this_keptSecond 1), cI G 5 q35.2.2)] H locs := ⟨hP, hD, hS⟩
      refine lv_aload_n hx hb dX9_keep_48 rfl (lv_at hl 1 rfl) ?_
      refine va_get (D := G.1) (ci := 8) (v := .int ((v_keptCount + 1))) (C := RX9) (T := TX9) (N := 13) hx hb hg hu_X9 hown hc.1 hW.1 0 rfl rfl 7 (by decide) (hg _ wd_2_102) (fun _ h9 => h9) rfl dX9_keep_49 ?_
      obtain rfl := Option.some.inj hF
      exact hret _ _ _ _ hW dX9_keep_52
    · have hF := ite_t hF c_15
      refine lv_aload_n hx hb dX9_keep_18 rfl (lv_at hl 0 rfl) ?_
      refine va_get (D := G.1) (ci := 8) (v := .ref ((ad_this 5))) (C := RX9) (T := TX9) (N := 13) hx hb hg hu_X9 hown hc.1 hW.1 0 rfl rfl 5 (by decide) (hg _ wd_2_100) (fun _ h9 => h9) rfl dX9_keep_19 ?_
      refine lv_goto (tgt := 29) hx hb dX9_keep_22 (by decide) ?_
      refine lv_astore_n (lv' := [(1, .ref ((ad_this 5))), (0, .ref h_this)]) hx hb dX9_keep_29 rfl hl (by decide) rfl (fun ls hl => ?_)
      refine lv_aload_n hx hb dX9_keep_30 rfl (lv_at hl 0 rfl) ?_
      refine lv_aload_n hx hb dX9_keep_31 rfl (lv_at hl 1 rfl) ?_
      refine va_get (D := G.1) (ci := 8) (v := .ref ((ad_this 4))) (C := RX9) (T := TX9) (N := 13) hx hb hg hu_X9 hown hc.1 hW.1 0 rfl rfl 4 (by decide) (hg _ wd_2_99) (fun _ h9 => h9) rfl dX9_keep_32 ?_
      obtain ⟨q35, c_35, hF⟩ := bd_el hF
      refine wcV (ws' := [(h_this, oX9 ad_this v_keptCount), ((ad_this 4), oX1 ad_this_book v_book_days), ((ad_this_book 0), cI G 5 a_book_signs), ((ad_this_book 1), cI G 5 a_book_works), ((ad_this 5), oX1 ad_this_keptFirst q35.1), ((ad_this_keptFirst 0), cI G 5 q35.2.1), ((ad_this_keptFirst 1), cI G 5 q35.2.2), ((ad_this 6), oX1 ad_this_keptSecond v_keptSecond_days), ((ad_this_keptSecond 0), cI G 5 a_keptSecond_signs), ((ad_this_keptSecond 1), cI G 5 a_keptSecond_works)]) (wc := [((ad_this 5), oX1 ad_this_keptFirst v_keptFirst_days), ((ad_this 4), oX1 ad_this_book v_book_days), ((ad_this_book 0), cI G 5 a_book_signs), ((ad_this_book 1), cI G 5 a_book_works), ((ad_this_keptFirst 0), cI G 5 a_keptFirst_signs), ((ad_this_keptFirst 1), cI G 5 a_keptFirst_works)]) (wr := [(h_this, oX9 ad_this v_keptCount), ((ad_this 6), oX1 ad_this_keptSecond v_keptSecond_days), ((ad_this_keptSecond 0), cI G 5 a_keptSecond_signs), ((ad_this_keptSecond 1), cI G 5 a_keptSecond_works)]) (w1 := [((ad_this 5), oX1 ad_this_keptFirst q35.1), ((ad_this 4), oX1 ad_this_book v_book_days), ((ad_this_book 0), cI G 5 a_book_signs), ((ad_this_book 1), cI G 5 a_book_works), ((ad_this_keptFirst 0), cI G 5 q35.2.1), ((ad_this_keptFirst 1), cI G 5 q35.2.2)]) (va_runV (As := [.ref ((ad_this 4))]) (rest := []) ⟨hx, hb, hml, hown, hg⟩ (c_X1_takeFrom l G ((ad_this 5)) ((ad_this 4)) ad_this_keptFirst ad_this_book v_keptFirst_days v_book_days a_book_signs a_book_works a_keptFirst_signs a_keptFirst_works q35 c_35 H.size) (cwV 1 hg (gV wd_3_236 wd_3_237 wd_3_238 wd_1_5 wd_3_239) rfl rfl rfl hdV_X1_takeFrom ⟨(Nat.le_of_ble_eq_true rfl), (Nat.le_of_ble_eq_true rfl)⟩) (preV hc hW [4, 1, 2, 3, 5, 6] rfl (by decide) rfl rfl) rfl rfl hl.1 rfl (lv_room (Nat.le_of_ble_eq_true rfl)) dX9_keep_35 ⟨Nat.zero_le _, Nat.zero_le _⟩) hA hW [4, 1, 2, 3, 5, 6] [0, 7, 8, 9] [0, 5, 6, 7, 4, 8, 9, 1, 2, 3] rfl rfl (by decide) (by decide) rfl (by decide) (fun H locs hW => ?_)
      refine lv_aload_n hx hb dX9_keep_38 rfl (lv_at hl 1 rfl) ?_
      refine lv_dup hx hb dX9_keep_39 rfl ?_
      refine va_get (D := G.1) (ci := 8) (v := .int v_keptCount) (C := RX9) (T := TX9) (N := 13) hx hb hg hu_X9 hown hc.1 hW.1 0 rfl rfl 7 (by decide) (hg _ wd_2_102) (fun _ h9 => h9) rfl dX9_keep_40 ?_
      refine lv_iconst (v := 1) hx hb dX9_keep_43 (by decide) ?_
      refine lv_iadd hx hb dX9_keep_44 ?_
      refine va_put (D := G.1) (ci := 8) (v := .int ((v_keptCount + 1))) (ty := .int) (C := RX9) (T := TX9) (N := 13) hx hb hg hu_X9 tyX9 tyX9_ok nmX9 hown hc.1 hW.1 hW.2.1 hW.2.2 0 rfl rfl 7 (by decide) (hg _ wd_2_102) (fun _ h9 => h9) rfl (by decide +kernel) rfl rfl (Nat.le_of_ble_eq_true rfl) dX9_keep_45 (fun H locs hP hD hS => ?_)
      have hW : Wd G A s.heap [(h_this, oX9 ad_this ((v_keptCount + 1))), ((ad_this 4), oX1 ad_this_book v_book_days), ((ad_this_book 0), cI G 5 a_book_signs), ((ad_this_book 1), cI G 5 a_book_works), ((ad_this 5), oX1 ad_this_keptFirst q35.1), ((ad_this_keptFirst 0), cI G 5 q35.2.1), ((ad_this_keptFirst 1), cI G 5 q35.2.2), ((ad_this 6), oX1 ad_this_keptSecond v_keptSecond_days), ((ad_this_keptSecond 0), cI G 5 a_keptSecond_signs), ((ad_this_keptSecond 1), cI G 5 a_keptSecond_works)] H locs := ⟨hP, hD, hS⟩
      refine lv_aload_n hx hb dX9_keep_48 rfl (lv_at hl 1 rfl) ?_
      refine va_get (D := G.1) (ci := 8) (v := .int ((v_keptCount + 1))) (C := RX9) (T := TX9) (N := 13) hx hb hg hu_X9 hown hc.1 hW.1 0 rfl rfl 7 (by decide) (hg _ wd_2_102) (fun _ h9 => h9) rfl dX9_keep_49 ?_
      obtain rfl := Option.some.inj hF
      exact hret _ _ _ _ hW dX9_keep_52
  · have hF := ite_f hF c_5
    refine lv_bipush (v := (-3)) hx hb dX9_keep_8 (by decide) ?_
    obtain rfl := Option.some.inj hF
    exact hret _ _ _ _ hW dX9_keep_10
theorem dX9_back_0 : decode cX9_back 0 = .ok (.aload_n 0, 1) := by decide +kernel
theorem dX9_back_1 : decode cX9_back 1 = .ok (.getfield 46, 3) := by decide +kernel
theorem dX9_back_4 : decode cX9_back 4 = .ok (.iconst 1, 1) := by decide +kernel
theorem dX9_back_5 : decode cX9_back 5 = .ok (.if_icmp .ge 6, 3) := by decide +kernel
theorem dX9_back_8 : decode cX9_back 8 = .ok (.bipush (-2), 2) := by decide +kernel
theorem dX9_back_10 : decode cX9_back 10 = .ok (.ireturn, 1) := by decide +kernel
theorem dX9_back_11 : decode cX9_back 11 = .ok (.aload_n 0, 1) := by decide +kernel
theorem dX9_back_12 : decode cX9_back 12 = .ok (.getfield 46, 3) := by decide +kernel
theorem dX9_back_15 : decode cX9_back 15 = .ok (.iconst 1, 1) := by decide +kernel
theorem dX9_back_16 : decode cX9_back 16 = .ok (.if_icmp .ne 10, 3) := by decide +kernel
theorem dX9_back_19 : decode cX9_back 19 = .ok (.aload_n 0, 1) := by decide +kernel
theorem dX9_back_20 : decode cX9_back 20 = .ok (.getfield 40, 3) := by decide +kernel
theorem dX9_back_23 : decode cX9_back 23 = .ok (.goto 7, 3) := by decide +kernel
theorem dX9_back_26 : decode cX9_back 26 = .ok (.aload_n 0, 1) := by decide +kernel
theorem dX9_back_27 : decode cX9_back 27 = .ok (.getfield 43, 3) := by decide +kernel
theorem dX9_back_30 : decode cX9_back 30 = .ok (.astore_n 1, 1) := by decide +kernel
theorem dX9_back_31 : decode cX9_back 31 = .ok (.aload_n 0, 1) := by decide +kernel
theorem dX9_back_32 : decode cX9_back 32 = .ok (.getfield 36, 3) := by decide +kernel
theorem dX9_back_35 : decode cX9_back 35 = .ok (.aload_n 1, 1) := by decide +kernel
theorem dX9_back_36 : decode cX9_back 36 = .ok (.invokevirtual 249, 3) := by decide +kernel
theorem dX9_back_39 : decode cX9_back 39 = .ok (.aload_n 0, 1) := by decide +kernel
theorem dX9_back_40 : decode cX9_back 40 = .ok (.dup, 1) := by decide +kernel
theorem dX9_back_41 : decode cX9_back 41 = .ok (.getfield 46, 3) := by decide +kernel
theorem dX9_back_44 : decode cX9_back 44 = .ok (.iconst 1, 1) := by decide +kernel
theorem dX9_back_45 : decode cX9_back 45 = .ok (.isub, 1) := by decide +kernel
theorem dX9_back_46 : decode cX9_back 46 = .ok (.putfield 46, 3) := by decide +kernel
theorem dX9_back_49 : decode cX9_back 49 = .ok (.aload_n 0, 1) := by decide +kernel
theorem dX9_back_50 : decode cX9_back 50 = .ok (.getfield 46, 3) := by decide +kernel
theorem dX9_back_53 : decode cX9_back 53 = .ok (.ireturn, 1) := by decide +kernel
def F_X9_back (v_keptCount : Int32) (v_book_days : Int32) (a_book_signs : Nat → Int32) (a_book_works : Nat → Int32) (v_keptFirst_days : Int32) (a_keptFirst_signs : Nat → Int32) (a_keptFirst_works : Nat → Int32) (v_keptSecond_days : Int32) (a_keptSecond_signs : Nat → Int32) (a_keptSecond_works : Nat → Int32) : Option (Int32 × Int32 × Int32 × (Nat → Int32) × (Nat → Int32)) := (if 1 ≤ v_keptCount then (if v_keptCount = 1 then (F_X1_takeFrom v_book_days v_keptFirst_days a_keptFirst_signs a_keptFirst_works a_book_signs a_book_works).bind (fun q36 => some ((v_keptCount - 1), (v_keptCount - 1), q36.1, q36.2.1, q36.2.2)) else (F_X1_takeFrom v_book_days v_keptSecond_days a_keptSecond_signs a_keptSecond_works a_book_signs a_book_works).bind (fun q36 => some ((v_keptCount - 1), (v_keptCount - 1), q36.1, q36.2.1, q36.2.2))) else some ((-2), v_keptCount, v_book_days, a_book_signs, a_book_works))
theorem hdV_X9_back : yX9_back.cls = RX9 ∧ yX9_back.cls ≠ "java/lang/invoke/MethodHandle" ∧ yX9_back.cls ≠ "java/lang/invoke/VarHandle" ∧ (parseMethodDescriptor yX9_back.desc).map (fun d => d.parameters.length) = some 0 := by decide +kernel
set_option maxHeartbeats 4000000 in
set_option maxRecDepth 100000 in
theorem c_X9_back (l : Launch) (G : GG) (h_this : Nat) (ad_this : Nat → Nat) (ad_this_book : Nat → Nat) (ad_this_keptFirst : Nat → Nat) (ad_this_keptSecond : Nat → Nat) (v_keptCount : Int32) (v_book_days : Int32) (a_book_signs : Nat → Int32) (a_book_works : Nat → Int32) (v_keptFirst_days : Int32) (a_keptFirst_signs : Nat → Int32) (a_keptFirst_works : Nat → Int32) (v_keptSecond_days : Int32) (a_keptSecond_signs : Nat → Int32) (a_keptSecond_works : Nat → Int32) (out : Int32 × Int32 × Int32 × (Nat → Int32) × (Nat → Int32)) (hF : F_X9_back v_keptCount v_book_days a_book_signs a_book_works v_keptFirst_days a_keptFirst_signs a_keptFirst_works v_keptSecond_days a_keptSecond_signs a_keptSecond_works = some out) : CtrI l yX9_back (WS yX9_back cX9_back 2 (some .int)) { frames := 3, cells := 0, slots := 0, locals := 66 } G [.ref h_this] [(h_this, oX9 ad_this v_keptCount), ((ad_this 4), oX1 ad_this_book v_book_days), ((ad_this_book 0), cI G 5 a_book_signs), ((ad_this_book 1), cI G 5 a_book_works), ((ad_this 5), oX1 ad_this_keptFirst v_keptFirst_days), ((ad_this_keptFirst 0), cI G 5 a_keptFirst_signs), ((ad_this_keptFirst 1), cI G 5 a_keptFirst_works), ((ad_this 6), oX1 ad_this_keptSecond v_keptSecond_days), ((ad_this_keptSecond 0), cI G 5 a_keptSecond_signs), ((ad_this_keptSecond 1), cI G 5 a_keptSecond_works)] [(h_this, oX9 ad_this out.2.1), ((ad_this 4), oX1 ad_this_book out.2.2.1), ((ad_this_book 0), cI G 5 out.2.2.2.1), ((ad_this_book 1), cI G 5 out.2.2.2.2), ((ad_this 5), oX1 ad_this_keptFirst v_keptFirst_days), ((ad_this_keptFirst 0), cI G 5 a_keptFirst_signs), ((ad_this_keptFirst 1), cI G 5 a_keptFirst_works), ((ad_this 6), oX1 ad_this_keptSecond v_keptSecond_days), ((ad_this_keptSecond 0), cI G 5 a_keptSecond_signs), ((ad_this_keptSecond 1), cI G 5 a_keptSecond_works)] out.1 := by
  refine startI (cc := cX9_back) (maxL := 2) (by decide) rfl (Nat.le_of_ble_eq_true rfl) ?_
  intro p e s m args below meth c A Q hx hb hml hts hown hc hA hret ls H locs hl hW
  have hown : s.vm.findClass RX9 = some m.cls := hown
  have hg : ∀ w ∈ GOODS, w.before _ s = true := fun w h => hts w (List.mem_cons_of_mem _ h)
  have hl : lv_has ls 2 [(0, .ref h_this)] := hl
  rw [F_X9_back] at hF
  refine lv_aload_n hx hb dX9_back_0 rfl (lv_at hl 0 rfl) ?_
  refine va_get (D := G.1) (ci := 8) (v := .int v_keptCount) (C := RX9) (T := TX9) (N := 13) hx hb hg hu_X9 hown hc.1 hW.1 0 rfl rfl 7 (by decide) (hg _ wd_2_102) (fun _ h9 => h9) rfl dX9_back_1 ?_
  refine lv_iconst (v := 1) hx hb dX9_back_4 (by decide) ?_
  refine lv_icmp_ge (tgt := 11) hx hb dX9_back_5 (by decide) (fun c_5 => ?_) (fun c_5 => ?_)
  · have hF := ite_t hF c_5
    refine lv_aload_n hx hb dX9_back_11 rfl (lv_at hl 0 rfl) ?_
    refine va_get (D := G.1) (ci := 8) (v := .int v_keptCount) (C := RX9) (T := TX9) (N := 13) hx hb hg hu_X9 hown hc.1 hW.1 0 rfl rfl 7 (by decide) (hg _ wd_2_102) (fun _ h9 => h9) rfl dX9_back_12 ?_
    refine lv_iconst (v := 1) hx hb dX9_back_15 (by decide) ?_
    refine lv_icmp_ne (tgt := 26) hx hb dX9_back_16 (by decide) (fun c_16 => ?_) (fun c_16 => ?_)
    · have hF := ite_f hF c_16
      refine lv_aload_n hx hb dX9_back_26 rfl (lv_at hl 0 rfl) ?_
      refine va_get (D := G.1) (ci := 8) (v := .ref ((ad_this 6))) (C := RX9) (T := TX9) (N := 13) hx hb hg hu_X9 hown hc.1 hW.1 0 rfl rfl 6 (by decide) (hg _ wd_2_101) (fun _ h9 => h9) rfl dX9_back_27 ?_
      refine lv_astore_n (lv' := [(1, .ref ((ad_this 6))), (0, .ref h_this)]) hx hb dX9_back_30 rfl hl (by decide) rfl (fun ls hl => ?_)
      refine lv_aload_n hx hb dX9_back_31 rfl (lv_at hl 1 rfl) ?_
      refine va_get (D := G.1) (ci := 8) (v := .ref ((ad_this 4))) (C := RX9) (T := TX9) (N := 13) hx hb hg hu_X9 hown hc.1 hW.1 0 rfl rfl 4 (by decide) (hg _ wd_2_99) (fun _ h9 => h9) rfl dX9_back_32 ?_
      refine lv_aload_n hx hb dX9_back_35 rfl (lv_at hl 0 rfl) ?_
      obtain ⟨q36, c_36, hF⟩ := bd_el hF
      refine wcV (ws' := [(h_this, oX9 ad_this v_keptCount), ((ad_this 4), oX1 ad_this_book q36.1), ((ad_this_book 0), cI G 5 q36.2.1), ((ad_this_book 1), cI G 5 q36.2.2), ((ad_this 5), oX1 ad_this_keptFirst v_keptFirst_days), ((ad_this_keptFirst 0), cI G 5 a_keptFirst_signs), ((ad_this_keptFirst 1), cI G 5 a_keptFirst_works), ((ad_this 6), oX1 ad_this_keptSecond v_keptSecond_days), ((ad_this_keptSecond 0), cI G 5 a_keptSecond_signs), ((ad_this_keptSecond 1), cI G 5 a_keptSecond_works)]) (wc := [((ad_this 4), oX1 ad_this_book v_book_days), ((ad_this 6), oX1 ad_this_keptSecond v_keptSecond_days), ((ad_this_keptSecond 0), cI G 5 a_keptSecond_signs), ((ad_this_keptSecond 1), cI G 5 a_keptSecond_works), ((ad_this_book 0), cI G 5 a_book_signs), ((ad_this_book 1), cI G 5 a_book_works)]) (wr := [(h_this, oX9 ad_this v_keptCount), ((ad_this 5), oX1 ad_this_keptFirst v_keptFirst_days), ((ad_this_keptFirst 0), cI G 5 a_keptFirst_signs), ((ad_this_keptFirst 1), cI G 5 a_keptFirst_works)]) (w1 := [((ad_this 4), oX1 ad_this_book q36.1), ((ad_this 6), oX1 ad_this_keptSecond v_keptSecond_days), ((ad_this_keptSecond 0), cI G 5 a_keptSecond_signs), ((ad_this_keptSecond 1), cI G 5 a_keptSecond_works), ((ad_this_book 0), cI G 5 q36.2.1), ((ad_this_book 1), cI G 5 q36.2.2)]) (va_runV (As := [.ref ((ad_this 6))]) (rest := []) ⟨hx, hb, hml, hown, hg⟩ (c_X1_takeFrom l G ((ad_this 4)) ((ad_this 6)) ad_this_book ad_this_keptSecond v_book_days v_keptSecond_days a_keptSecond_signs a_keptSecond_works a_book_signs a_book_works q36 c_36 H.size) (cwV 1 hg (gV wd_3_236 wd_3_237 wd_3_238 wd_1_5 wd_3_239) rfl rfl rfl hdV_X1_takeFrom ⟨(Nat.le_of_ble_eq_true rfl), (Nat.le_of_ble_eq_true rfl)⟩) (preV hc hW [1, 7, 8, 9, 2, 3] rfl (by decide) rfl rfl) rfl rfl hl.1 rfl (lv_room (Nat.le_of_ble_eq_true rfl)) dX9_back_36 ⟨Nat.zero_le _, Nat.zero_le _⟩) hA hW [1, 7, 8, 9, 2, 3] [0, 4, 5, 6] [0, 4, 8, 9, 1, 2, 3, 5, 6, 7] rfl rfl (by decide) (by decide) rfl (by decide) (fun H locs hW => ?_)
      refine lv_aload_n hx hb dX9_back_39 rfl (lv_at hl 1 rfl) ?_
      refine lv_dup hx hb dX9_back_40 rfl ?_
      refine va_get (D := G.1) (ci := 8) (v := .int v_keptCount) (C := RX9) (T := TX9) (N := 13) hx hb hg hu_X9 hown hc.1 hW.1 0 rfl rfl 7 (by decide) (hg _ wd_2_102) (fun _ h9 => h9) rfl dX9_back_41 ?_
      refine lv_iconst (v := 1) hx hb dX9_back_44 (by decide) ?_
      refine lv_isub hx hb dX9_back_45 ?_
      refine va_put (D := G.1) (ci := 8) (v := .int ((v_keptCount - 1))) (ty := .int) (C := RX9) (T := TX9) (N := 13) hx hb hg hu_X9 tyX9 tyX9_ok nmX9 hown hc.1 hW.1 hW.2.1 hW.2.2 0 rfl rfl 7 (by decide) (hg _ wd_2_102) (fun _ h9 => h9) rfl (by decide +kernel) rfl rfl (Nat.le_of_ble_eq_true rfl) dX9_back_46 (fun H locs hP hD hS => ?_)
      have hW : Wd G A s.heap [(h_this, oX9 ad_this ((v_keptCount - 1))), ((ad_this 4), oX1 ad_this_book q36.1), ((ad_this_book 0), cI G 5 q36.2.1), ((ad_this_book 1), cI G 5 q36.2.2), ((ad_this 5), oX1 ad_this_keptFirst v_keptFirst_days), ((ad_this_keptFirst 0), cI G 5 a_keptFirst_signs), ((ad_this_keptFirst 1), cI G 5 a_keptFirst_works), ((ad_this 6), oX1 ad_this_keptSecond v_keptSecond_days), ((ad_this_keptSecond 0), cI G 5 a_keptSecond_signs), ((ad_this_keptSecond 1), cI G 5 a_keptSecond_works)] H locs := ⟨hP, hD, hS⟩
      refine lv_aload_n hx hb dX9_back_49 rfl (lv_at hl 1 rfl) ?_
      refine va_get (D := G.1) (ci := 8) (v := .int ((v_keptCount - 1))) (C := RX9) (T := TX9) (N := 13) hx hb hg hu_X9 hown hc.1 hW.1 0 rfl rfl 7 (by decide) (hg _ wd_2_102) (fun _ h9 => h9) rfl dX9_back_50 ?_
      obtain rfl := Option.some.inj hF
      exact hret _ _ _ _ hW dX9_back_53
    · have hF := ite_t hF c_16
      refine lv_aload_n hx hb dX9_back_19 rfl (lv_at hl 0 rfl) ?_
      refine va_get (D := G.1) (ci := 8) (v := .ref ((ad_this 5))) (C := RX9) (T := TX9) (N := 13) hx hb hg hu_X9 hown hc.1 hW.1 0 rfl rfl 5 (by decide) (hg _ wd_2_100) (fun _ h9 => h9) rfl dX9_back_20 ?_
      refine lv_goto (tgt := 30) hx hb dX9_back_23 (by decide) ?_
      refine lv_astore_n (lv' := [(1, .ref ((ad_this 5))), (0, .ref h_this)]) hx hb dX9_back_30 rfl hl (by decide) rfl (fun ls hl => ?_)
      refine lv_aload_n hx hb dX9_back_31 rfl (lv_at hl 1 rfl) ?_
      refine va_get (D := G.1) (ci := 8) (v := .ref ((ad_this 4))) (C := RX9) (T := TX9) (N := 13) hx hb hg hu_X9 hown hc.1 hW.1 0 rfl rfl 4 (by decide) (hg _ wd_2_99) (fun _ h9 => h9) rfl dX9_back_32 ?_
      refine lv_aload_n hx hb dX9_back_35 rfl (lv_at hl 0 rfl) ?_
      obtain ⟨q36, c_36, hF⟩ := bd_el hF
      refine wcV (ws' := [(h_this, oX9 ad_this v_keptCount), ((ad_this 4), oX1 ad_this_book q36.1), ((ad_this_book 0), cI G 5 q36.2.1), ((ad_this_book 1), cI G 5 q36.2.2), ((ad_this 5), oX1 ad_this_keptFirst v_keptFirst_days), ((ad_this_keptFirst 0), cI G 5 a_keptFirst_signs), ((ad_this_keptFirst 1), cI G 5 a_keptFirst_works), ((ad_this 6), oX1 ad_this_keptSecond v_keptSecond_days), ((ad_this_keptSecond 0), cI G 5 a_keptSecond_signs), ((ad_this_keptSecond 1), cI G 5 a_keptSecond_works)]) (wc := [((ad_this 4), oX1 ad_this_book v_book_days), ((ad_this 5), oX1 ad_this_keptFirst v_keptFirst_days), ((ad_this_keptFirst 0), cI G 5 a_keptFirst_signs), ((ad_this_keptFirst 1), cI G 5 a_keptFirst_works), ((ad_this_book 0), cI G 5 a_book_signs), ((ad_this_book 1), cI G 5 a_book_works)]) (wr := [(h_this, oX9 ad_this v_keptCount), ((ad_this 6), oX1 ad_this_keptSecond v_keptSecond_days), ((ad_this_keptSecond 0), cI G 5 a_keptSecond_signs), ((ad_this_keptSecond 1), cI G 5 a_keptSecond_works)]) (w1 := [((ad_this 4), oX1 ad_this_book q36.1), ((ad_this 5), oX1 ad_this_keptFirst v_keptFirst_days), ((ad_this_keptFirst 0), cI G 5 a_keptFirst_signs), ((ad_this_keptFirst 1), cI G 5 a_keptFirst_works), ((ad_this_book 0), cI G 5 q36.2.1), ((ad_this_book 1), cI G 5 q36.2.2)]) (va_runV (As := [.ref ((ad_this 5))]) (rest := []) ⟨hx, hb, hml, hown, hg⟩ (c_X1_takeFrom l G ((ad_this 4)) ((ad_this 5)) ad_this_book ad_this_keptFirst v_book_days v_keptFirst_days a_keptFirst_signs a_keptFirst_works a_book_signs a_book_works q36 c_36 H.size) (cwV 1 hg (gV wd_3_236 wd_3_237 wd_3_238 wd_1_5 wd_3_239) rfl rfl rfl hdV_X1_takeFrom ⟨(Nat.le_of_ble_eq_true rfl), (Nat.le_of_ble_eq_true rfl)⟩) (preV hc hW [1, 4, 5, 6, 2, 3] rfl (by decide) rfl rfl) rfl rfl hl.1 rfl (lv_room (Nat.le_of_ble_eq_true rfl)) dX9_back_36 ⟨Nat.zero_le _, Nat.zero_le _⟩) hA hW [1, 4, 5, 6, 2, 3] [0, 7, 8, 9] [0, 4, 8, 9, 5, 6, 7, 1, 2, 3] rfl rfl (by decide) (by decide) rfl (by decide) (fun H locs hW => ?_)
      refine lv_aload_n hx hb dX9_back_39 rfl (lv_at hl 1 rfl) ?_
      refine lv_dup hx hb dX9_back_40 rfl ?_
      refine va_get (D := G.1) (ci := 8) (v := .int v_keptCount) (C := RX9) (T := TX9) (N := 13) hx hb hg hu_X9 hown hc.1 hW.1 0 rfl rfl 7 (by decide) (hg _ wd_2_102) (fun _ h9 => h9) rfl dX9_back_41 ?_
      refine lv_iconst (v := 1) hx hb dX9_back_44 (by decide) ?_
      refine lv_isub hx hb dX9_back_45 ?_
      refine va_put (D := G.1) (ci := 8) (v := .int ((v_keptCount - 1))) (ty := .int) (C := RX9) (T := TX9) (N := 13) hx hb hg hu_X9 tyX9 tyX9_ok nmX9 hown hc.1 hW.1 hW.2.1 hW.2.2 0 rfl rfl 7 (by decide) (hg _ wd_2_102) (fun _ h9 => h9) rfl (by decide +kernel) rfl rfl (Nat.le_of_ble_eq_true rfl) dX9_back_46 (fun H locs hP hD hS => ?_)
      have hW : Wd G A s.heap [(h_this, oX9 ad_this ((v_keptCount - 1))), ((ad_this 4), oX1 ad_this_book q36.1), ((ad_this_book 0), cI G 5 q36.2.1), ((ad_this_book 1), cI G 5 q36.2.2), ((ad_this 5), oX1 ad_this_keptFirst v_keptFirst_days), ((ad_this_keptFirst 0), cI G 5 a_keptFirst_signs), ((ad_this_keptFirst 1), cI G 5 a_keptFirst_works), ((ad_this 6), oX1 ad_this_keptSecond v_keptSecond_days), ((ad_this_keptSecond 0), cI G 5 a_keptSecond_signs), ((ad_this_keptSecond 1), cI G 5 a_keptSecond_works)] H locs := ⟨hP, hD, hS⟩
      refine lv_aload_n hx hb dX9_back_49 rfl (lv_at hl 1 rfl) ?_
      refine va_get (D := G.1) (ci := 8) (v := .int ((v_keptCount - 1))) (C := RX9) (T := TX9) (N := 13) hx hb hg hu_X9 hown hc.1 hW.1 0 rfl rfl 7 (by decide) (hg _ wd_2_102) (fun _ h9 => h9) rfl dX9_back_50 ?_
      obtain rfl := Option.some.inj hF
      exact hret _ _ _ _ hW dX9_back_53
  · have hF := ite_f hF c_5
    refine lv_bipush (v := (-2)) hx hb dX9_back_8 (by decide) ?_
    obtain rfl := Option.some.inj hF
    exact hret _ _ _ _ hW dX9_back_10
theorem dX9_lay_0 : decode cX9_lay 0 = .ok (.aload_n 0, 1) := by decide +kernel
theorem dX9_lay_1 : decode cX9_lay 1 = .ok (.getfield 30, 3) := by decide +kernel
theorem dX9_lay_4 : decode cX9_lay 4 = .ok (.aload_n 0, 1) := by decide +kernel
theorem dX9_lay_5 : decode cX9_lay 5 = .ok (.getfield 10, 3) := by decide +kernel
theorem dX9_lay_8 : decode cX9_lay 8 = .ok (.aload_n 0, 1) := by decide +kernel
theorem dX9_lay_9 : decode cX9_lay 9 = .ok (.getfield 19, 3) := by decide +kernel
theorem dX9_lay_12 : decode cX9_lay 12 = .ok (.invokevirtual 97, 3) := by decide +kernel
theorem dX9_lay_15 : decode cX9_lay 15 = .ok (.bipush (-4), 2) := by decide +kernel
theorem dX9_lay_17 : decode cX9_lay 17 = .ok (.if_icmp .ne 14, 3) := by decide +kernel
theorem dX9_lay_20 : decode cX9_lay 20 = .ok (.aload_n 0, 1) := by decide +kernel
theorem dX9_lay_21 : decode cX9_lay 21 = .ok (.getfield 30, 3) := by decide +kernel
theorem dX9_lay_24 : decode cX9_lay 24 = .ok (.getfield 110, 3) := by decide +kernel
theorem dX9_lay_27 : decode cX9_lay 27 = .ok (.iconst 1, 1) := by decide +kernel
theorem dX9_lay_28 : decode cX9_lay 28 = .ok (.if_icmp .ge 6, 3) := by decide +kernel
theorem dX9_lay_31 : decode cX9_lay 31 = .ok (.bipush (-2), 2) := by decide +kernel
theorem dX9_lay_33 : decode cX9_lay 33 = .ok (.ireturn, 1) := by decide +kernel
theorem dX9_lay_34 : decode cX9_lay 34 = .ok (.aload_n 0, 1) := by decide +kernel
theorem dX9_lay_35 : decode cX9_lay 35 = .ok (.getfield 26, 3) := by decide +kernel
theorem dX9_lay_38 : decode cX9_lay 38 = .ok (.astore_n 1, 1) := by decide +kernel
theorem dX9_lay_39 : decode cX9_lay 39 = .ok (.aload_n 0, 1) := by decide +kernel
theorem dX9_lay_40 : decode cX9_lay 40 = .ok (.aload_n 0, 1) := by decide +kernel
theorem dX9_lay_41 : decode cX9_lay 41 = .ok (.getfield 30, 3) := by decide +kernel
theorem dX9_lay_44 : decode cX9_lay 44 = .ok (.putfield 26, 3) := by decide +kernel
theorem dX9_lay_47 : decode cX9_lay 47 = .ok (.aload_n 0, 1) := by decide +kernel
theorem dX9_lay_48 : decode cX9_lay 48 = .ok (.aload_n 1, 1) := by decide +kernel
theorem dX9_lay_49 : decode cX9_lay 49 = .ok (.putfield 30, 3) := by decide +kernel
theorem dX9_lay_52 : decode cX9_lay 52 = .ok (.aload_n 0, 1) := by decide +kernel
theorem dX9_lay_53 : decode cX9_lay 53 = .ok (.getfield 36, 3) := by decide +kernel
theorem dX9_lay_56 : decode cX9_lay 56 = .ok (.iconst 0, 1) := by decide +kernel
theorem dX9_lay_57 : decode cX9_lay 57 = .ok (.putfield 113, 3) := by decide +kernel
theorem dX9_lay_60 : decode cX9_lay 60 = .ok (.aload_n 0, 1) := by decide +kernel
theorem dX9_lay_61 : decode cX9_lay 61 = .ok (.iconst 0, 1) := by decide +kernel
theorem dX9_lay_62 : decode cX9_lay 62 = .ok (.putfield 46, 3) := by decide +kernel
theorem dX9_lay_65 : decode cX9_lay 65 = .ok (.aload_n 0, 1) := by decide +kernel
theorem dX9_lay_66 : decode cX9_lay 66 = .ok (.getfield 63, 3) := by decide +kernel
theorem dX9_lay_69 : decode cX9_lay 69 = .ok (.iconst 0, 1) := by decide +kernel
theorem dX9_lay_70 : decode cX9_lay 70 = .ok (.putfield 116, 3) := by decide +kernel
theorem dX9_lay_73 : decode cX9_lay 73 = .ok (.aload_n 0, 1) := by decide +kernel
theorem dX9_lay_74 : decode cX9_lay 74 = .ok (.getfield 26, 3) := by decide +kernel
theorem dX9_lay_77 : decode cX9_lay 77 = .ok (.getfield 110, 3) := by decide +kernel
theorem dX9_lay_80 : decode cX9_lay 80 = .ok (.ireturn, 1) := by decide +kernel
def F_X9_lay (v_keptCount : Int32) (v_book_days : Int32) (v_draft_boatCount : Int32) (v_draft_boatDayCost : Int32) (v_draft_houseCount : Int32) (v_draft_signCount : Int32) (v_draft_turnCost : Int32) (v_draft_workCount : Int32) (a_draft_boatRoom : Nat → Int32) (a_draft_houseMinutes : Nat → Int32) (a_draft_housePeople : Nat → Int32) (a_draft_lighter : Nat → Int32) (a_draft_signNumbers : Nat → Int32) (a_draft_workGain : Nat → Int32) (a_draft_workNoise : Nat → Int32) (v_reader_end : Int32) (v_reader_letter : Int32) (v_reader_numberCount : Int32) (a_reader_numbers : Nat → Int32) (v_text_length : Int32) (a_text_letters : Nat → Int32) (v_told_pairs : Int32) (v_town_signCount : Int32) : Option (Int32 × Int32 × Int32 × Int32 × Int32 × Int32 × Int32 × Int32 × Int32 × (Nat → Int32) × (Nat → Int32) × (Nat → Int32) × (Nat → Int32) × (Nat → Int32) × (Nat → Int32) × (Nat → Int32) × Int32 × Int32 × Int32 × (Nat → Int32) × Int32 × Bool) := (F_X8_readFrom v_draft_boatCount v_draft_boatDayCost v_draft_houseCount v_draft_signCount v_draft_turnCost v_draft_workCount v_text_length a_text_letters v_reader_end v_reader_letter v_reader_numberCount a_reader_numbers a_draft_boatRoom a_draft_houseMinutes a_draft_housePeople a_draft_lighter a_draft_signNumbers a_draft_workGain a_draft_workNoise).bind (fun q12 => (if q12.1 = (-4) then (if 1 ≤ q12.2.2.2.2.1 then some (q12.2.2.2.2.1, 0, 0, q12.2.1, q12.2.2.1, q12.2.2.2.1, q12.2.2.2.2.1, q12.2.2.2.2.2.1, q12.2.2.2.2.2.2.1, q12.2.2.2.2.2.2.2.2.2.2.2.1, q12.2.2.2.2.2.2.2.2.2.2.2.2.1, q12.2.2.2.2.2.2.2.2.2.2.2.2.2.1, q12.2.2.2.2.2.2.2.2.2.2.2.2.2.2.1, q12.2.2.2.2.2.2.2.2.2.2.2.2.2.2.2.1, q12.2.2.2.2.2.2.2.2.2.2.2.2.2.2.2.2.1, q12.2.2.2.2.2.2.2.2.2.2.2.2.2.2.2.2.2, q12.2.2.2.2.2.2.2.1, q12.2.2.2.2.2.2.2.2.1, q12.2.2.2.2.2.2.2.2.2.1, q12.2.2.2.2.2.2.2.2.2.2.1, 0, true) else some ((-2), v_keptCount, v_book_days, q12.2.1, q12.2.2.1, q12.2.2.2.1, q12.2.2.2.2.1, q12.2.2.2.2.2.1, q12.2.2.2.2.2.2.1, q12.2.2.2.2.2.2.2.2.2.2.2.1, q12.2.2.2.2.2.2.2.2.2.2.2.2.1, q12.2.2.2.2.2.2.2.2.2.2.2.2.2.1, q12.2.2.2.2.2.2.2.2.2.2.2.2.2.2.1, q12.2.2.2.2.2.2.2.2.2.2.2.2.2.2.2.1, q12.2.2.2.2.2.2.2.2.2.2.2.2.2.2.2.2.1, q12.2.2.2.2.2.2.2.2.2.2.2.2.2.2.2.2.2, q12.2.2.2.2.2.2.2.1, q12.2.2.2.2.2.2.2.2.1, q12.2.2.2.2.2.2.2.2.2.1, q12.2.2.2.2.2.2.2.2.2.2.1, v_told_pairs, false)) else some ((-2), v_keptCount, v_book_days, q12.2.1, q12.2.2.1, q12.2.2.2.1, q12.2.2.2.2.1, q12.2.2.2.2.2.1, q12.2.2.2.2.2.2.1, q12.2.2.2.2.2.2.2.2.2.2.2.1, q12.2.2.2.2.2.2.2.2.2.2.2.2.1, q12.2.2.2.2.2.2.2.2.2.2.2.2.2.1, q12.2.2.2.2.2.2.2.2.2.2.2.2.2.2.1, q12.2.2.2.2.2.2.2.2.2.2.2.2.2.2.2.1, q12.2.2.2.2.2.2.2.2.2.2.2.2.2.2.2.2.1, q12.2.2.2.2.2.2.2.2.2.2.2.2.2.2.2.2.2, q12.2.2.2.2.2.2.2.1, q12.2.2.2.2.2.2.2.2.1, q12.2.2.2.2.2.2.2.2.2.1, q12.2.2.2.2.2.2.2.2.2.2.1, v_told_pairs, false)))
theorem hdV_X9_lay : yX9_lay.cls = RX9 ∧ yX9_lay.cls ≠ "java/lang/invoke/MethodHandle" ∧ yX9_lay.cls ≠ "java/lang/invoke/VarHandle" ∧ (parseMethodDescriptor yX9_lay.desc).map (fun d => d.parameters.length) = some 0 := by decide +kernel
set_option maxHeartbeats 4000000 in
set_option maxRecDepth 100000 in
theorem c_X9_lay (l : Launch) (G : GG) (h_this : Nat) (ad_this : Nat → Nat) (ad_this_book : Nat → Nat) (ad_this_draft : Nat → Nat) (ad_this_reader : Nat → Nat) (ad_this_text : Nat → Nat) (ad_this_told : Nat → Nat) (ad_this_town : Nat → Nat) (v_keptCount : Int32) (v_book_days : Int32) (v_draft_signCount : Int32) (v_draft_houseCount : Int32) (v_draft_boatCount : Int32) (v_draft_workCount : Int32) (v_draft_turnCost : Int32) (v_draft_boatDayCost : Int32) (a_draft_boatRoom : Nat → Int32) (a_draft_houseMinutes : Nat → Int32) (a_draft_housePeople : Nat → Int32) (a_draft_lighter : Nat → Int32) (a_draft_signNumbers : Nat → Int32) (a_draft_workGain : Nat → Int32) (a_draft_workNoise : Nat → Int32) (v_reader_numberCount : Int32) (v_reader_letter : Int32) (v_reader_end : Int32) (a_reader_numbers : Nat → Int32) (v_text_length : Int32) (a_text_letters : Nat → Int32) (v_told_pairs : Int32) (v_town_signCount : Int32) (v_town_houseCount : Int32) (v_town_boatCount : Int32) (v_town_workCount : Int32) (v_town_turnCost : Int32) (v_town_boatDayCost : Int32) (out : Int32 × Int32 × Int32 × Int32 × Int32 × Int32 × Int32 × Int32 × Int32 × (Nat → Int32) × (Nat → Int32) × (Nat → Int32) × (Nat → Int32) × (Nat → Int32) × (Nat → Int32) × (Nat → Int32) × Int32 × Int32 × Int32 × (Nat → Int32) × Int32 × Bool) (hF : F_X9_lay v_keptCount v_book_days v_draft_boatCount v_draft_boatDayCost v_draft_houseCount v_draft_signCount v_draft_turnCost v_draft_workCount a_draft_boatRoom a_draft_houseMinutes a_draft_housePeople a_draft_lighter a_draft_signNumbers a_draft_workGain a_draft_workNoise v_reader_end v_reader_letter v_reader_numberCount a_reader_numbers v_text_length a_text_letters v_told_pairs v_town_signCount = some out) : CtrI l yX9_lay (WS yX9_lay cX9_lay 2 (some .int)) { frames := 5, cells := 0, slots := 0, locals := 115 } G [.ref h_this] [(h_this, oX9w ad_this false v_keptCount), ((ad_this 4), oX1 ad_this_book v_book_days), ((ad_this 3), oX8 ad_this_draft v_draft_signCount v_draft_houseCount v_draft_boatCount v_draft_workCount v_draft_turnCost v_draft_boatDayCost), ((ad_this_draft 4), cI G 4 a_draft_boatRoom), ((ad_this_draft 3), cI G 6 a_draft_houseMinutes), ((ad_this_draft 2), cI G 6 a_draft_housePeople), ((ad_this_draft 0), cI G 3 a_draft_lighter), ((ad_this_draft 1), cI G 16 a_draft_signNumbers), ((ad_this_draft 6), cI G 5 a_draft_workGain), ((ad_this_draft 5), cI G 5 a_draft_workNoise), ((ad_this 1), oX3 ad_this_reader v_reader_numberCount v_reader_letter v_reader_end), ((ad_this_reader 0), cI G 4 a_reader_numbers), ((ad_this 0), oX6 ad_this_text v_text_length), ((ad_this_text 0), cI G 200 a_text_letters), ((ad_this 10), oX7 ad_this_told v_told_pairs), ((ad_this 2), oX8 ad_this_town v_town_signCount v_town_houseCount v_town_boatCount v_town_workCount v_town_turnCost v_town_boatDayCost)] [(h_this, oX9w ad_this out.2.2.2.2.2.2.2.2.2.2.2.2.2.2.2.2.2.2.2.2.2 out.2.1), ((ad_this 4), oX1 ad_this_book out.2.2.1), ((ad_this 3), oX8 ad_this_draft out.2.2.2.2.2.2.1 out.2.2.2.2.2.1 out.2.2.2.1 out.2.2.2.2.2.2.2.2.1 out.2.2.2.2.2.2.2.1 out.2.2.2.2.1), ((ad_this_draft 4), cI G 4 out.2.2.2.2.2.2.2.2.2.1), ((ad_this_draft 3), cI G 6 out.2.2.2.2.2.2.2.2.2.2.1), ((ad_this_draft 2), cI G 6 out.2.2.2.2.2.2.2.2.2.2.2.1), ((ad_this_draft 0), cI G 3 out.2.2.2.2.2.2.2.2.2.2.2.2.1), ((ad_this_draft 1), cI G 16 out.2.2.2.2.2.2.2.2.2.2.2.2.2.1), ((ad_this_draft 6), cI G 5 out.2.2.2.2.2.2.2.2.2.2.2.2.2.2.1), ((ad_this_draft 5), cI G 5 out.2.2.2.2.2.2.2.2.2.2.2.2.2.2.2.1), ((ad_this 1), oX3 ad_this_reader out.2.2.2.2.2.2.2.2.2.2.2.2.2.2.2.2.2.2.1 out.2.2.2.2.2.2.2.2.2.2.2.2.2.2.2.2.2.1 out.2.2.2.2.2.2.2.2.2.2.2.2.2.2.2.2.1), ((ad_this_reader 0), cI G 4 out.2.2.2.2.2.2.2.2.2.2.2.2.2.2.2.2.2.2.2.1), ((ad_this 0), oX6 ad_this_text v_text_length), ((ad_this_text 0), cI G 200 a_text_letters), ((ad_this 10), oX7 ad_this_told out.2.2.2.2.2.2.2.2.2.2.2.2.2.2.2.2.2.2.2.2.1), ((ad_this 2), oX8 ad_this_town v_town_signCount v_town_houseCount v_town_boatCount v_town_workCount v_town_turnCost v_town_boatDayCost)] out.1 := by
  refine startI (cc := cX9_lay) (maxL := 2) (by decide) rfl (Nat.le_of_ble_eq_true rfl) ?_
  intro p e s m args below meth c A Q hx hb hml hts hown hc hA hret ls H locs hl hW
  have hown : s.vm.findClass RX9 = some m.cls := hown
  have hg : ∀ w ∈ GOODS, w.before _ s = true := fun w h => hts w (List.mem_cons_of_mem _ h)
  have hl : lv_has ls 2 [(0, .ref h_this)] := hl
  rw [F_X9_lay] at hF
  refine lv_aload_n hx hb dX9_lay_0 rfl (lv_at hl 0 rfl) ?_
  refine va_get (D := G.1) (ci := 8) (v := .ref ((ad_this 3))) (C := RX9) (T := TX9) (N := 13) hx hb hg hu_X9 hown hc.1 hW.1 0 rfl rfl 3 (by decide) (hg _ wd_2_98) (fun _ h9 => h9) rfl dX9_lay_1 ?_
  refine lv_aload_n hx hb dX9_lay_4 rfl (lv_at hl 0 rfl) ?_
  refine va_get (D := G.1) (ci := 8) (v := .ref ((ad_this 0))) (C := RX9) (T := TX9) (N := 13) hx hb hg hu_X9 hown hc.1 hW.1 0 rfl rfl 0 (by decide) (hg _ wd_2_95) (fun _ h9 => h9) rfl dX9_lay_5 ?_
  refine lv_aload_n hx hb dX9_lay_8 rfl (lv_at hl 0 rfl) ?_
  refine va_get (D := G.1) (ci := 8) (v := .ref ((ad_this 1))) (C := RX9) (T := TX9) (N := 13) hx hb hg hu_X9 hown hc.1 hW.1 0 rfl rfl 1 (by decide) (hg _ wd_2_96) (fun _ h9 => h9) rfl dX9_lay_9 ?_
  obtain ⟨q12, c_12, hF⟩ := bd_el hF
  refine wcI (ws' := [(h_this, oX9w ad_this false v_keptCount), ((ad_this 4), oX1 ad_this_book v_book_days), ((ad_this 3), oX8 ad_this_draft q12.2.2.2.2.1 q12.2.2.2.1 q12.2.1 q12.2.2.2.2.2.2.1 q12.2.2.2.2.2.1 q12.2.2.1), ((ad_this_draft 4), cI G 4 q12.2.2.2.2.2.2.2.2.2.2.2.1), ((ad_this_draft 3), cI G 6 q12.2.2.2.2.2.2.2.2.2.2.2.2.1), ((ad_this_draft 2), cI G 6 q12.2.2.2.2.2.2.2.2.2.2.2.2.2.1), ((ad_this_draft 0), cI G 3 q12.2.2.2.2.2.2.2.2.2.2.2.2.2.2.1), ((ad_this_draft 1), cI G 16 q12.2.2.2.2.2.2.2.2.2.2.2.2.2.2.2.1), ((ad_this_draft 6), cI G 5 q12.2.2.2.2.2.2.2.2.2.2.2.2.2.2.2.2.1), ((ad_this_draft 5), cI G 5 q12.2.2.2.2.2.2.2.2.2.2.2.2.2.2.2.2.2), ((ad_this 1), oX3 ad_this_reader q12.2.2.2.2.2.2.2.2.2.1 q12.2.2.2.2.2.2.2.2.1 q12.2.2.2.2.2.2.2.1), ((ad_this_reader 0), cI G 4 q12.2.2.2.2.2.2.2.2.2.2.1), ((ad_this 0), oX6 ad_this_text v_text_length), ((ad_this_text 0), cI G 200 a_text_letters), ((ad_this 10), oX7 ad_this_told v_told_pairs), ((ad_this 2), oX8 ad_this_town v_town_signCount v_town_houseCount v_town_boatCount v_town_workCount v_town_turnCost v_town_boatDayCost)]) (wc := [((ad_this 3), oX8 ad_this_draft v_draft_signCount v_draft_houseCount v_draft_boatCount v_draft_workCount v_draft_turnCost v_draft_boatDayCost), ((ad_this 0), oX6 ad_this_text v_text_length), ((ad_this_text 0), cI G 200 a_text_letters), ((ad_this 1), oX3 ad_this_reader v_reader_numberCount v_reader_letter v_reader_end), ((ad_this_reader 0), cI G 4 a_reader_numbers), ((ad_this_draft 4), cI G 4 a_draft_boatRoom), ((ad_this_draft 3), cI G 6 a_draft_houseMinutes), ((ad_this_draft 2), cI G 6 a_draft_housePeople), ((ad_this_draft 0), cI G 3 a_draft_lighter), ((ad_this_draft 1), cI G 16 a_draft_signNumbers), ((ad_this_draft 6), cI G 5 a_draft_workGain), ((ad_this_draft 5), cI G 5 a_draft_workNoise)]) (wr := [(h_this, oX9w ad_this false v_keptCount), ((ad_this 4), oX1 ad_this_book v_book_days), ((ad_this 10), oX7 ad_this_told v_told_pairs), ((ad_this 2), oX8 ad_this_town v_town_signCount v_town_houseCount v_town_boatCount v_town_workCount v_town_turnCost v_town_boatDayCost)]) (w1 := [((ad_this 3), oX8 ad_this_draft q12.2.2.2.2.1 q12.2.2.2.1 q12.2.1 q12.2.2.2.2.2.2.1 q12.2.2.2.2.2.1 q12.2.2.1), ((ad_this 0), oX6 ad_this_text v_text_length), ((ad_this_text 0), cI G 200 a_text_letters), ((ad_this 1), oX3 ad_this_reader q12.2.2.2.2.2.2.2.2.2.1 q12.2.2.2.2.2.2.2.2.1 q12.2.2.2.2.2.2.2.1), ((ad_this_reader 0), cI G 4 q12.2.2.2.2.2.2.2.2.2.2.1), ((ad_this_draft 4), cI G 4 q12.2.2.2.2.2.2.2.2.2.2.2.1), ((ad_this_draft 3), cI G 6 q12.2.2.2.2.2.2.2.2.2.2.2.2.1), ((ad_this_draft 2), cI G 6 q12.2.2.2.2.2.2.2.2.2.2.2.2.2.1), ((ad_this_draft 0), cI G 3 q12.2.2.2.2.2.2.2.2.2.2.2.2.2.2.1), ((ad_this_draft 1), cI G 16 q12.2.2.2.2.2.2.2.2.2.2.2.2.2.2.2.1), ((ad_this_draft 6), cI G 5 q12.2.2.2.2.2.2.2.2.2.2.2.2.2.2.2.2.1), ((ad_this_draft 5), cI G 5 q12.2.2.2.2.2.2.2.2.2.2.2.2.2.2.2.2.2)]) (va_runV (As := [.ref ((ad_this 0)), .ref ((ad_this 1))]) (rest := []) ⟨hx, hb, hml, hown, hg⟩ (c_X8_readFrom l G ((ad_this 3)) ((ad_this 0)) ((ad_this 1)) ad_this_draft ad_this_text ad_this_reader v_draft_signCount v_draft_houseCount v_draft_boatCount v_draft_workCount v_draft_turnCost v_draft_boatDayCost v_text_length a_text_letters v_reader_numberCount v_reader_letter v_reader_end a_reader_numbers a_draft_boatRoom a_draft_houseMinutes a_draft_housePeople a_draft_lighter a_draft_signNumbers a_draft_workGain a_draft_workNoise q12 c_12 H.size) (cwV 2 hg (gV wd_2_19 wd_2_20 wd_2_21 wd_1_4 wd_2_22) rfl rfl rfl hdV_X8_readFrom ⟨(Nat.le_of_ble_eq_true rfl), (Nat.le_of_ble_eq_true rfl)⟩) (preV hc hW [2, 12, 13, 10, 11, 3, 4, 5, 6, 7, 8, 9] rfl (by decide) rfl rfl) rfl rfl hl.1 rfl (lv_room (Nat.le_of_ble_eq_true rfl)) dX9_lay_12 ⟨Nat.zero_le _, Nat.zero_le _⟩) hA hW [2, 12, 13, 10, 11, 3, 4, 5, 6, 7, 8, 9] [0, 1, 14, 15] [0, 1, 4, 9, 10, 11, 12, 13, 14, 15, 7, 8, 5, 6, 2, 3] rfl rfl (by decide) (by decide) rfl (by decide) (fun H locs hW => ?_)
  refine lv_bipush (v := (-4)) hx hb dX9_lay_15 (by decide) ?_
  refine lv_icmp_ne (tgt := 31) hx hb dX9_lay_17 (by decide) (fun c_17 => ?_) (fun c_17 => ?_)
  · have hF := ite_f hF c_17
    refine lv_bipush (v := (-2)) hx hb dX9_lay_31 (by decide) ?_
    obtain rfl := Option.some.inj hF
    exact hret _ _ _ _ hW dX9_lay_33
  · have hF := ite_t hF c_17
    refine lv_aload_n hx hb dX9_lay_20 rfl (lv_at hl 0 rfl) ?_
    refine va_get (D := G.1) (ci := 8) (v := .ref ((ad_this 3))) (C := RX9) (T := TX9) (N := 13) hx hb hg hu_X9 hown hc.1 hW.1 0 rfl rfl 3 (by decide) (hg _ wd_2_98) (fun _ h9 => h9) rfl dX9_lay_21 ?_
    refine va_get (D := G.1) (ci := 7) (v := .int q12.2.2.2.2.1) (C := RX8) (T := TX8) (N := 13) hx hb hg hu_X8 hown hc.1 hW.1 2 rfl rfl 7 (by decide) (hg _ wd_1_77) (fun _ h9 => h9) rfl dX9_lay_24 ?_
    refine lv_iconst (v := 1) hx hb dX9_lay_27 (by decide) ?_
    refine lv_icmp_ge (tgt := 34) hx hb dX9_lay_28 (by decide) (fun c_28 => ?_) (fun c_28 => ?_)
    · have hF := ite_t hF c_28
      refine lv_aload_n hx hb dX9_lay_34 rfl (lv_at hl 0 rfl) ?_
      refine va_get (D := G.1) (ci := 8) (v := .ref ((ad_this 2))) (C := RX9) (T := TX9) (N := 13) hx hb hg hu_X9 hown hc.1 hW.1 0 rfl rfl 2 (by decide) (hg _ wd_2_97) (fun _ h9 => h9) rfl dX9_lay_35 ?_
      refine lv_astore_n (lv' := [(1, .ref ((ad_this 2))), (0, .ref h_this)]) hx hb dX9_lay_38 rfl hl (by decide) rfl (fun ls hl => ?_)
      refine lv_aload_n hx hb dX9_lay_39 rfl (lv_at hl 1 rfl) ?_
      refine lv_aload_n hx hb dX9_lay_40 rfl (lv_at hl 1 rfl) ?_
      refine va_get (D := G.1) (ci := 8) (v := .ref ((ad_this 3))) (C := RX9) (T := TX9) (N := 13) hx hb hg hu_X9 hown hc.1 hW.1 0 rfl rfl 3 (by decide) (hg _ wd_2_98) (fun _ h9 => h9) rfl dX9_lay_41 ?_
      refine va_put (D := G.1) (ci := 8) (v := .ref ((ad_this 3))) (ty := .object "WhaleTown$Town") (C := RX9) (T := TX9) (N := 13) hx hb hg hu_X9 tyX9 tyX9_ok nmX9 hown hc.1 hW.1 hW.2.1 hW.2.2 0 rfl rfl 2 (by decide) (hg _ wd_2_97) (fun _ h9 => h9) rfl (by decide +kernel) rfl rfl (Nat.le_of_ble_eq_true rfl) dX9_lay_44 (fun H locs hP hD hS => ?_)
      have hW : Wd G A s.heap [(h_this, oX9h ad_this v_keptCount), ((ad_this 4), oX1 ad_this_book v_book_days), ((ad_this 3), oX8 ad_this_draft q12.2.2.2.2.1 q12.2.2.2.1 q12.2.1 q12.2.2.2.2.2.2.1 q12.2.2.2.2.2.1 q12.2.2.1), ((ad_this_draft 4), cI G 4 q12.2.2.2.2.2.2.2.2.2.2.2.1), ((ad_this_draft 3), cI G 6 q12.2.2.2.2.2.2.2.2.2.2.2.2.1), ((ad_this_draft 2), cI G 6 q12.2.2.2.2.2.2.2.2.2.2.2.2.2.1), ((ad_this_draft 0), cI G 3 q12.2.2.2.2.2.2.2.2.2.2.2.2.2.2.1), ((ad_this_draft 1), cI G 16 q12.2.2.2.2.2.2.2.2.2.2.2.2.2.2.2.1), ((ad_this_draft 6), cI G 5 q12.2.2.2.2.2.2.2.2.2.2.2.2.2.2.2.2.1), ((ad_this_draft 5), cI G 5 q12.2.2.2.2.2.2.2.2.2.2.2.2.2.2.2.2.2), ((ad_this 1), oX3 ad_this_reader q12.2.2.2.2.2.2.2.2.2.1 q12.2.2.2.2.2.2.2.2.1 q12.2.2.2.2.2.2.2.1), ((ad_this_reader 0), cI G 4 q12.2.2.2.2.2.2.2.2.2.2.1), ((ad_this 0), oX6 ad_this_text v_text_length), ((ad_this_text 0), cI G 200 a_text_letters), ((ad_this 10), oX7 ad_this_told v_told_pairs), ((ad_this 2), oX8 ad_this_town v_town_signCount v_town_houseCount v_town_boatCount v_town_workCount v_town_turnCost v_town_boatDayCost)] H locs := ⟨hP, hD, hS⟩
      refine lv_aload_n hx hb dX9_lay_47 rfl (lv_at hl 1 rfl) ?_
      refine lv_aload_n hx hb dX9_lay_48 rfl (lv_at hl 0 rfl) ?_
      refine va_put (D := G.1) (ci := 8) (v := .ref ((ad_this 2))) (ty := .object "WhaleTown$Town") (C := RX9) (T := TX9) (N := 13) hx hb hg hu_X9 tyX9 tyX9_ok nmX9 hown hc.1 hW.1 hW.2.1 hW.2.2 0 rfl rfl 3 (by decide) (hg _ wd_2_98) (fun _ h9 => h9) rfl (by decide +kernel) rfl rfl (Nat.le_of_ble_eq_true rfl) dX9_lay_49 (fun H locs hP hD hS => ?_)
      have hW : Wd G A s.heap [(h_this, oX9w ad_this true v_keptCount), ((ad_this 4), oX1 ad_this_book v_book_days), ((ad_this 3), oX8 ad_this_draft q12.2.2.2.2.1 q12.2.2.2.1 q12.2.1 q12.2.2.2.2.2.2.1 q12.2.2.2.2.2.1 q12.2.2.1), ((ad_this_draft 4), cI G 4 q12.2.2.2.2.2.2.2.2.2.2.2.1), ((ad_this_draft 3), cI G 6 q12.2.2.2.2.2.2.2.2.2.2.2.2.1), ((ad_this_draft 2), cI G 6 q12.2.2.2.2.2.2.2.2.2.2.2.2.2.1), ((ad_this_draft 0), cI G 3 q12.2.2.2.2.2.2.2.2.2.2.2.2.2.2.1), ((ad_this_draft 1), cI G 16 q12.2.2.2.2.2.2.2.2.2.2.2.2.2.2.2.1), ((ad_this_draft 6), cI G 5 q12.2.2.2.2.2.2.2.2.2.2.2.2.2.2.2.2.1), ((ad_this_draft 5), cI G 5 q12.2.2.2.2.2.2.2.2.2.2.2.2.2.2.2.2.2), ((ad_this 1), oX3 ad_this_reader q12.2.2.2.2.2.2.2.2.2.1 q12.2.2.2.2.2.2.2.2.1 q12.2.2.2.2.2.2.2.1), ((ad_this_reader 0), cI G 4 q12.2.2.2.2.2.2.2.2.2.2.1), ((ad_this 0), oX6 ad_this_text v_text_length), ((ad_this_text 0), cI G 200 a_text_letters), ((ad_this 10), oX7 ad_this_told v_told_pairs), ((ad_this 2), oX8 ad_this_town v_town_signCount v_town_houseCount v_town_boatCount v_town_workCount v_town_turnCost v_town_boatDayCost)] H locs := ⟨hP, hD, hS⟩
      refine lv_aload_n hx hb dX9_lay_52 rfl (lv_at hl 1 rfl) ?_
      refine va_get (D := G.1) (ci := 8) (v := .ref ((ad_this 4))) (C := RX9) (T := TX9) (N := 13) hx hb hg hu_X9 hown hc.1 hW.1 0 rfl rfl 4 (by decide) (hg _ wd_2_99) (fun _ h9 => h9) rfl dX9_lay_53 ?_
      refine lv_iconst (v := 0) hx hb dX9_lay_56 (by decide) ?_
      refine va_put (D := G.1) (ci := 1) (v := .int 0) (ty := .int) (C := RX1) (T := TX1) (N := 3) hx hb hg hu_X1 tyX1 tyX1_ok nmX1 hown hc.1 hW.1 hW.2.1 hW.2.2 1 rfl rfl 2 (by decide) (hg _ wd_1_126) (fun _ h9 => h9) rfl (by decide +kernel) rfl rfl (Nat.le_of_ble_eq_true rfl) dX9_lay_57 (fun H locs hP hD hS => ?_)
      have hW : Wd G A s.heap [(h_this, oX9w ad_this true v_keptCount), ((ad_this 4), oX1 ad_this_book 0), ((ad_this 3), oX8 ad_this_draft q12.2.2.2.2.1 q12.2.2.2.1 q12.2.1 q12.2.2.2.2.2.2.1 q12.2.2.2.2.2.1 q12.2.2.1), ((ad_this_draft 4), cI G 4 q12.2.2.2.2.2.2.2.2.2.2.2.1), ((ad_this_draft 3), cI G 6 q12.2.2.2.2.2.2.2.2.2.2.2.2.1), ((ad_this_draft 2), cI G 6 q12.2.2.2.2.2.2.2.2.2.2.2.2.2.1), ((ad_this_draft 0), cI G 3 q12.2.2.2.2.2.2.2.2.2.2.2.2.2.2.1), ((ad_this_draft 1), cI G 16 q12.2.2.2.2.2.2.2.2.2.2.2.2.2.2.2.1), ((ad_this_draft 6), cI G 5 q12.2.2.2.2.2.2.2.2.2.2.2.2.2.2.2.2.1), ((ad_this_draft 5), cI G 5 q12.2.2.2.2.2.2.2.2.2.2.2.2.2.2.2.2.2), ((ad_this 1), oX3 ad_this_reader q12.2.2.2.2.2.2.2.2.2.1 q12.2.2.2.2.2.2.2.2.1 q12.2.2.2.2.2.2.2.1), ((ad_this_reader 0), cI G 4 q12.2.2.2.2.2.2.2.2.2.2.1), ((ad_this 0), oX6 ad_this_text v_text_length), ((ad_this_text 0), cI G 200 a_text_letters), ((ad_this 10), oX7 ad_this_told v_told_pairs), ((ad_this 2), oX8 ad_this_town v_town_signCount v_town_houseCount v_town_boatCount v_town_workCount v_town_turnCost v_town_boatDayCost)] H locs := ⟨hP, hD, hS⟩
      refine lv_aload_n hx hb dX9_lay_60 rfl (lv_at hl 1 rfl) ?_
      refine lv_iconst (v := 0) hx hb dX9_lay_61 (by decide) ?_
      refine va_put (D := G.1) (ci := 8) (v := .int 0) (ty := .int) (C := RX9) (T := TX9) (N := 13) hx hb hg hu_X9 tyX9 tyX9_ok nmX9 hown hc.1 hW.1 hW.2.1 hW.2.2 0 rfl rfl 7 (by decide) (hg _ wd_2_102) (fun _ h9 => h9) rfl (by decide +kernel) rfl rfl (Nat.le_of_ble_eq_true rfl) dX9_lay_62 (fun H locs hP hD hS => ?_)
      have hW : Wd G A s.heap [(h_this, oX9w ad_this true 0), ((ad_this 4), oX1 ad_this_book 0), ((ad_this 3), oX8 ad_this_draft q12.2.2.2.2.1 q12.2.2.2.1 q12.2.1 q12.2.2.2.2.2.2.1 q12.2.2.2.2.2.1 q12.2.2.1), ((ad_this_draft 4), cI G 4 q12.2.2.2.2.2.2.2.2.2.2.2.1), ((ad_this_draft 3), cI G 6 q12.2.2.2.2.2.2.2.2.2.2.2.2.1), ((ad_this_draft 2), cI G 6 q12.2.2.2.2.2.2.2.2.2.2.2.2.2.1), ((ad_this_draft 0), cI G 3 q12.2.2.2.2.2.2.2.2.2.2.2.2.2.2.1), ((ad_this_draft 1), cI G 16 q12.2.2.2.2.2.2.2.2.2.2.2.2.2.2.2.1), ((ad_this_draft 6), cI G 5 q12.2.2.2.2.2.2.2.2.2.2.2.2.2.2.2.2.1), ((ad_this_draft 5), cI G 5 q12.2.2.2.2.2.2.2.2.2.2.2.2.2.2.2.2.2), ((ad_this 1), oX3 ad_this_reader q12.2.2.2.2.2.2.2.2.2.1 q12.2.2.2.2.2.2.2.2.1 q12.2.2.2.2.2.2.2.1), ((ad_this_reader 0), cI G 4 q12.2.2.2.2.2.2.2.2.2.2.1), ((ad_this 0), oX6 ad_this_text v_text_length), ((ad_this_text 0), cI G 200 a_text_letters), ((ad_this 10), oX7 ad_this_told v_told_pairs), ((ad_this 2), oX8 ad_this_town v_town_signCount v_town_houseCount v_town_boatCount v_town_workCount v_town_turnCost v_town_boatDayCost)] H locs := ⟨hP, hD, hS⟩
      refine lv_aload_n hx hb dX9_lay_65 rfl (lv_at hl 1 rfl) ?_
      refine va_get (D := G.1) (ci := 8) (v := .ref ((ad_this 10))) (C := RX9) (T := TX9) (N := 13) hx hb hg hu_X9 hown hc.1 hW.1 0 rfl rfl 10 (by decide) (hg _ wd_2_105) (fun _ h9 => h9) rfl dX9_lay_66 ?_
      refine lv_iconst (v := 0) hx hb dX9_lay_69 (by decide) ?_
      refine va_put (D := G.1) (ci := 6) (v := .int 0) (ty := .int) (C := RX7) (T := TX7) (N := 4) hx hb hg hu_X7 tyX7 tyX7_ok nmX7 hown hc.1 hW.1 hW.2.1 hW.2.2 14 rfl rfl 3 (by decide) (hg _ wd_1_163) (fun _ h9 => h9) rfl (by decide +kernel) rfl rfl (Nat.le_of_ble_eq_true rfl) dX9_lay_70 (fun H locs hP hD hS => ?_)
      have hW : Wd G A s.heap [(h_this, oX9w ad_this true 0), ((ad_this 4), oX1 ad_this_book 0), ((ad_this 3), oX8 ad_this_draft q12.2.2.2.2.1 q12.2.2.2.1 q12.2.1 q12.2.2.2.2.2.2.1 q12.2.2.2.2.2.1 q12.2.2.1), ((ad_this_draft 4), cI G 4 q12.2.2.2.2.2.2.2.2.2.2.2.1), ((ad_this_draft 3), cI G 6 q12.2.2.2.2.2.2.2.2.2.2.2.2.1), ((ad_this_draft 2), cI G 6 q12.2.2.2.2.2.2.2.2.2.2.2.2.2.1), ((ad_this_draft 0), cI G 3 q12.2.2.2.2.2.2.2.2.2.2.2.2.2.2.1), ((ad_this_draft 1), cI G 16 q12.2.2.2.2.2.2.2.2.2.2.2.2.2.2.2.1), ((ad_this_draft 6), cI G 5 q12.2.2.2.2.2.2.2.2.2.2.2.2.2.2.2.2.1), ((ad_this_draft 5), cI G 5 q12.2.2.2.2.2.2.2.2.2.2.2.2.2.2.2.2.2), ((ad_this 1), oX3 ad_this_reader q12.2.2.2.2.2.2.2.2.2.1 q12.2.2.2.2.2.2.2.2.1 q12.2.2.2.2.2.2.2.1), ((ad_this_reader 0), cI G 4 q12.2.2.2.2.2.2.2.2.2.2.1), ((ad_this 0), oX6 ad_this_text v_text_length), ((ad_this_text 0), cI G 200 a_text_letters), ((ad_this 10), oX7 ad_this_told 0), ((ad_this 2), oX8 ad_this_town v_town_signCount v_town_houseCount v_town_boatCount v_town_workCount v_town_turnCost v_town_boatDayCost)] H locs := ⟨hP, hD, hS⟩
      refine lv_aload_n hx hb dX9_lay_73 rfl (lv_at hl 1 rfl) ?_
      refine va_get (D := G.1) (ci := 8) (v := .ref ((ad_this 3))) (C := RX9) (T := TX9) (N := 13) hx hb hg hu_X9 hown hc.1 hW.1 0 rfl rfl 2 (by decide) (hg _ wd_2_97) (fun _ h9 => h9) rfl dX9_lay_74 ?_
      refine va_get (D := G.1) (ci := 7) (v := .int q12.2.2.2.2.1) (C := RX8) (T := TX8) (N := 13) hx hb hg hu_X8 hown hc.1 hW.1 2 rfl rfl 7 (by decide) (hg _ wd_1_77) (fun _ h9 => h9) rfl dX9_lay_77 ?_
      obtain rfl := Option.some.inj hF
      exact hret _ _ _ _ hW dX9_lay_80
    · have hF := ite_f hF c_28
      refine lv_bipush (v := (-2)) hx hb dX9_lay_31 (by decide) ?_
      obtain rfl := Option.some.inj hF
      exact hret _ _ _ _ hW dX9_lay_33
