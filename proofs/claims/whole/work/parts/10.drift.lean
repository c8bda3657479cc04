theorem dX2_waysTo_0 : decode cX2_waysTo 0 = .ok (.aload_n 0, 1) := by decide +kernel
theorem dX2_waysTo_1 : decode cX2_waysTo 1 = .ok (.getfield 9, 3) := by decide +kernel
theorem dX2_waysTo_4 : decode cX2_waysTo 4 = .ok (.iload_n 1, 1) := by decide +kernel
theorem dX2_waysTo_5 : decode cX2_waysTo 5 = .ok (.invokestatic 16, 3) := by decide +kernel
theorem dX2_waysTo_8 : decode cX2_waysTo 8 = .ok (.ireturn, 1) := by decide +kernel
def F_X2_waysTo (x1 : Int32) (a_ways : Nat → Int32) : Option (Int32) := (F_X4_at x1 13 a_ways).bind (fun q5 => some (q5))
theorem hdV_X2_waysTo : yX2_waysTo.cls = RX2 ∧ yX2_waysTo.cls ≠ "java/lang/invoke/MethodHandle" ∧ yX2_waysTo.cls ≠ "java/lang/invoke/VarHandle" ∧ (parseMethodDescriptor yX2_waysTo.desc).map (fun d => d.parameters.length) = some 1 := by decide +kernel
set_option maxHeartbeats 4000000 in
set_option maxRecDepth 100000 in
theorem c_X2_waysTo (l : Launch) (G : GG) (x1 : Int32) (h_this : Nat) (ad_this : Nat → Nat) (a_ways : Nat → Int32) (out : Int32) (hF : F_X2_waysTo x1 a_ways = some out) : CtrI l yX2_waysTo (WS yX2_waysTo cX2_waysTo 2 (some .int)) { frames := 1, cells := 0, slots := 0, locals := 21 } G [.ref h_this, .int x1] [(h_this, oX2 ad_this ), ((ad_this 0), cI G 13 a_ways)] [(h_this, oX2 ad_this ), ((ad_this 0), cI G 13 a_ways)] out := by
  refine startI (cc := cX2_waysTo) (maxL := 2) (by decide) rfl (Nat.le_of_ble_eq_true rfl) ?_
  intro p e s m args below meth c A Q hx hb hml hts hown hc hA hret ls H locs hl hW
  have hown : s.vm.findClass RX2 = some m.cls := hown
  have hg : ∀ w ∈ GOODS, w.before _ s = true := fun w h => hts w (List.mem_cons_of_mem _ h)
  have hl : lv_has ls 2 [(0, .ref h_this), (1, .int x1)] := hl
  rw [F_X2_waysTo] at hF
  refine lv_aload_n hx hb dX2_waysTo_0 rfl (lv_at hl 0 rfl) ?_
  refine va_get (D := G.1) (ci := 2) (v := .ref ((ad_this 0))) (C := RX2) (T := TX2) (N := 2) hx hb hg hu_X2 hown hc.1 hW.1 0 rfl rfl 0 (by decide) (hg _ wd_1_196) (fun _ h9 => h9) rfl dX2_waysTo_1 ?_
  refine lv_iload_n hx hb dX2_waysTo_4 rfl (lv_at hl 1 rfl) ?_
  obtain ⟨q5, c_5, hF⟩ := bd_el hF
  refine wcI (ws' := [(h_this, oX2 ad_this ), ((ad_this 0), cI G 13 a_ways)]) (wc := [((ad_this 0), cI G 13 a_ways)]) (wr := [(h_this, oX2 ad_this )]) (w1 := [((ad_this 0), cI G 13 a_ways)]) (va_runS (As := [.ref ((ad_this 0)), .int x1]) (rest := []) ⟨hx, hb, hml, hown, hg⟩ (c_X4_at l G x1 13 ((ad_this 0)) a_ways q5 c_5 H.size) (va_cwS 2 hg (gS wd_3_178 wd_2_37 wd_1_14 wd_2_38) rfl rfl rfl hdS_X4_at ⟨(Nat.le_of_ble_eq_true rfl), (Nat.le_of_ble_eq_true rfl)⟩) (preS hc hW [1] rfl (by decide)) rfl rfl hl.1 rfl (lv_room (Nat.le_of_ble_eq_true rfl)) dX2_waysTo_5 ⟨Nat.zero_le _, Nat.zero_le _⟩) hA hW [1] [0] [0, 1] rfl rfl (by decide) (by decide) rfl (by decide) (fun H locs hW => ?_)
  obtain rfl := Option.some.inj hF
  exact hret _ _ _ _ hW dX2_waysTo_8
theorem dX2_passNight_0 : decode cX2_passNight 0 = .ok (.iconst 0, 1) := by decide +kernel
theorem dX2_passNight_1 : decode cX2_passNight 1 = .ok (.istore_n 3, 1) := by decide +kernel
theorem dX2_passNight_2 : decode cX2_passNight 2 = .ok (.iload_n 3, 1) := by decide +kernel
theorem dX2_passNight_3 : decode cX2_passNight 3 = .ok (.bipush 13, 2) := by decide +kernel
theorem dX2_passNight_5 : decode cX2_passNight 5 = .ok (.if_icmp .ge 52, 3) := by decide +kernel
theorem dX2_passNight_8 : decode cX2_passNight 8 = .ok (.aload_n 0, 1) := by decide +kernel
theorem dX2_passNight_9 : decode cX2_passNight 9 = .ok (.iload_n 3, 1) := by decide +kernel
theorem dX2_passNight_10 : decode cX2_passNight 10 = .ok (.invokevirtual 30, 3) := by decide +kernel
theorem dX2_passNight_13 : decode cX2_passNight 13 = .ok (.iconst 4, 1) := by decide +kernel
theorem dX2_passNight_14 : decode cX2_passNight 14 = .ok (.iload_n 1, 1) := by decide +kernel
theorem dX2_passNight_15 : decode cX2_passNight 15 = .ok (.isub, 1) := by decide +kernel
theorem dX2_passNight_16 : decode cX2_passNight 16 = .ok (.iload_n 2, 1) := by decide +kernel
theorem dX2_passNight_17 : decode cX2_passNight 17 = .ok (.isub, 1) := by decide +kernel
theorem dX2_passNight_18 : decode cX2_passNight 18 = .ok (.imul, 1) := by decide +kernel
theorem dX2_passNight_19 : decode cX2_passNight 19 = .ok (.istore 4, 2) := by decide +kernel
theorem dX2_passNight_21 : decode cX2_passNight 21 = .ok (.aload_n 0, 1) := by decide +kernel
theorem dX2_passNight_22 : decode cX2_passNight 22 = .ok (.getfield 13, 3) := by decide +kernel
theorem dX2_passNight_25 : decode cX2_passNight 25 = .ok (.iload_n 3, 1) := by decide +kernel
theorem dX2_passNight_26 : decode cX2_passNight 26 = .ok (.iload 4, 2) := by decide +kernel
theorem dX2_passNight_28 : decode cX2_passNight 28 = .ok (.aload_n 0, 1) := by decide +kernel
theorem dX2_passNight_29 : decode cX2_passNight 29 = .ok (.iload_n 3, 1) := by decide +kernel
theorem dX2_passNight_30 : decode cX2_passNight 30 = .ok (.iconst 1, 1) := by decide +kernel
theorem dX2_passNight_31 : decode cX2_passNight 31 = .ok (.isub, 1) := by decide +kernel
theorem dX2_passNight_32 : decode cX2_passNight 32 = .ok (.invokevirtual 30, 3) := by decide +kernel
theorem dX2_passNight_35 : decode cX2_passNight 35 = .ok (.iload_n 1, 1) := by decide +kernel
theorem dX2_passNight_36 : decode cX2_passNight 36 = .ok (.imul, 1) := by decide +kernel
theorem dX2_passNight_37 : decode cX2_passNight 37 = .ok (.iadd, 1) := by decide +kernel
theorem dX2_passNight_38 : decode cX2_passNight 38 = .ok (.aload_n 0, 1) := by decide +kernel
theorem dX2_passNight_39 : decode cX2_passNight 39 = .ok (.iload_n 3, 1) := by decide +kernel
theorem dX2_passNight_40 : decode cX2_passNight 40 = .ok (.iconst 1, 1) := by decide +kernel
theorem dX2_passNight_41 : decode cX2_passNight 41 = .ok (.iadd, 1) := by decide +kernel
theorem dX2_passNight_42 : decode cX2_passNight 42 = .ok (.invokevirtual 30, 3) := by decide +kernel
theorem dX2_passNight_45 : decode cX2_passNight 45 = .ok (.iload_n 2, 1) := by decide +kernel
theorem dX2_passNight_46 : decode cX2_passNight 46 = .ok (.imul, 1) := by decide +kernel
theorem dX2_passNight_47 : decode cX2_passNight 47 = .ok (.iadd, 1) := by decide +kernel
theorem dX2_passNight_48 : decode cX2_passNight 48 = .ok (.invokestatic 22, 3) := by decide +kernel
theorem dX2_passNight_51 : decode cX2_passNight 51 = .ok (.iinc 3 1, 3) := by decide +kernel
theorem dX2_passNight_54 : decode cX2_passNight 54 = .ok (.goto (-52), 3) := by decide +kernel
theorem dX2_passNight_57 : decode cX2_passNight 57 = .ok (.iconst 0, 1) := by decide +kernel
theorem dX2_passNight_58 : decode cX2_passNight 58 = .ok (.istore_n 3, 1) := by decide +kernel
theorem dX2_passNight_59 : decode cX2_passNight 59 = .ok (.iload_n 3, 1) := by decide +kernel
theorem dX2_passNight_60 : decode cX2_passNight 60 = .ok (.bipush 13, 2) := by decide +kernel
theorem dX2_passNight_62 : decode cX2_passNight 62 = .ok (.if_icmp .ge 25, 3) := by decide +kernel
theorem dX2_passNight_65 : decode cX2_passNight 65 = .ok (.aload_n 0, 1) := by decide +kernel
theorem dX2_passNight_66 : decode cX2_passNight 66 = .ok (.getfield 9, 3) := by decide +kernel
theorem dX2_passNight_69 : decode cX2_passNight 69 = .ok (.iload_n 3, 1) := by decide +kernel
theorem dX2_passNight_70 : decode cX2_passNight 70 = .ok (.aload_n 0, 1) := by decide +kernel
theorem dX2_passNight_71 : decode cX2_passNight 71 = .ok (.getfield 13, 3) := by decide +kernel
theorem dX2_passNight_74 : decode cX2_passNight 74 = .ok (.iload_n 3, 1) := by decide +kernel
theorem dX2_passNight_75 : decode cX2_passNight 75 = .ok (.invokestatic 16, 3) := by decide +kernel
theorem dX2_passNight_78 : decode cX2_passNight 78 = .ok (.invokestatic 22, 3) := by decide +kernel
theorem dX2_passNight_81 : decode cX2_passNight 81 = .ok (.iinc 3 1, 3) := by decide +kernel
theorem dX2_passNight_84 : decode cX2_passNight 84 = .ok (.goto (-25), 3) := by decide +kernel
theorem dX2_passNight_87 : decode cX2_passNight 87 = .ok (.return_, 1) := by decide +kernel
def L_X2_passNight_59 (a_waysLater_57 : Nat → Int32)  : Nat → Int32 → (Nat → Int32) → Option ((Nat → Int32) × (Nat → Int32))
  | 0, _, _ => none
  | n + 1, x3_59, a_ways_59 => (if 13 ≤ x3_59 then some (a_ways_59, a_waysLater_57) else (F_X4_at x3_59 13 a_waysLater_57).bind (fun q75 => (F_X4_put x3_59 q75 13 a_ways_59).bind (fun q78 => L_X2_passNight_59 a_waysLater_57 n ((x3_59 + 1)) q78)))
def L_X2_passNight_2 (x1 : Int32) (x2 : Int32) (a_ways : Nat → Int32) (k_57 : (Nat → Int32) → Option ((Nat → Int32) × (Nat → Int32))) : Nat → Int32 → (Nat → Int32) → Option ((Nat → Int32) × (Nat → Int32))
  | 0, _, _ => none
  | n + 1, x3_2, a_waysLater_2 => (if 13 ≤ x3_2 then k_57 a_waysLater_2 else (F_X2_waysTo x3_2 a_ways).bind (fun q10 => (F_X2_waysTo ((x3_2 - 1)) a_ways).bind (fun q32 => (F_X2_waysTo ((x3_2 + 1)) a_ways).bind (fun q42 => (F_X4_put x3_2 ((((q10 * ((4 - x1) - x2)) + (q32 * x1)) + (q42 * x2))) 13 a_waysLater_2).bind (fun q48 => L_X2_passNight_2 x1 x2 a_ways k_57 n ((x3_2 + 1)) q48)))))
def F_X2_passNight (x1 : Int32) (x2 : Int32) (a_ways : Nat → Int32) (a_waysLater : Nat → Int32) : Option ((Nat → Int32) × (Nat → Int32)) := jn (fun (a_waysLater_57 : Nat → Int32) => L_X2_passNight_59 a_waysLater_57 5000 0 a_ways) (fun k_57 => L_X2_passNight_2 x1 x2 a_ways k_57 5000 0 a_waysLater)
theorem hdV_X2_passNight : yX2_passNight.cls = RX2 ∧ yX2_passNight.cls ≠ "java/lang/invoke/MethodHandle" ∧ yX2_passNight.cls ≠ "java/lang/invoke/VarHandle" ∧ (parseMethodDescriptor yX2_passNight.desc).map (fun d => d.parameters.length) = some 2 := by decide +kernel
set_option maxHeartbeats 4000000 in
set_option maxRecDepth 100000 in
theorem c_X2_passNight (l : Launch) (G : GG) (x1 : Int32) (x2 : Int32) (h_this : Nat) (ad_this : Nat → Nat) (a_ways : Nat → Int32) (a_waysLater : Nat → Int32) (out : (Nat → Int32) × (Nat → Int32)) (hF : F_X2_passNight x1 x2 a_ways a_waysLater = some out) : CtrV l yX2_passNight (WS yX2_passNight cX2_passNight 5 none) { frames := 2, cells := 0, slots := 0, locals := 42 } G [.ref h_this, .int x1, .int x2] [(h_this, oX2 ad_this ), ((ad_this 0), cI G 13 a_ways), ((ad_this 1), cI G 13 a_waysLater)] [(h_this, oX2 ad_this ), ((ad_this 0), cI G 13 out.1), ((ad_this 1), cI G 13 out.2)] := by
  refine startV (cc := cX2_passNight) (maxL := 5) (by decide) rfl (Nat.le_of_ble_eq_true rfl) ?_
  intro p e s m args below meth c A Q hx hb hml hts hown hc hA hret ls H locs hl hW
  have hown : s.vm.findClass RX2 = some m.cls := hown
  have hg : ∀ w ∈ GOODS, w.before _ s = true := fun w h => hts w (List.mem_cons_of_mem _ h)
  have hl : lv_has ls 5 [(0, .ref h_this), (1, .int x1), (2, .int x2)] := hl
  rw [F_X2_passNight] at hF
  refine lv_iconst (v := 0) hx hb dX2_passNight_0 (by decide) ?_
  refine lv_istore_n (lv' := [(3, .int 0), (0, .ref h_this), (1, .int x1), (2, .int x2)]) hx hb dX2_passNight_1 rfl hl (by decide) rfl (fun ls hl => ?_)
  obtain ⟨k_57, e_57, hF⟩ := jn_el hF
  have J_57 : ∀ (a_waysLater_57 : Nat → Int32) (ls : Array Slot) (H : Heap) (locs : List Loc), k_57 a_waysLater_57 = some out → lv_has ls 5 [(0, .ref h_this)] → Wd G A s.heap [(h_this, oX2 ad_this ), ((ad_this 0), cI G 13 a_ways), ((ad_this 1), cI G 13 a_waysLater_57)] H locs → W p l e ({ frames := 2, cells := 0, slots := 0, locals := 42 } : Room) s m args below meth c H locs 0 0 Q (F0 m 57 ls []) := by
    intro a_waysLater_57 ls H locs hF hl hW
    rw [e_57] at hF
    dsimp only at hF
    refine lv_iconst (v := 0) hx hb dX2_passNight_57 (by decide) ?_
    refine lv_istore_n (lv' := [(3, .int 0), (0, .ref h_this)]) hx hb dX2_passNight_58 rfl hl (by decide) rfl (fun ls hl => ?_)
    have L_59 : ∀ (n : Nat) (x3_59 : Int32) (a_ways_59 : Nat → Int32) (ls : Array Slot) (H : Heap) (locs : List Loc), L_X2_passNight_59 a_waysLater_57 n x3_59 a_ways_59 = some out → lv_has ls 5 [(0, .ref h_this), (3, .int x3_59)] → Wd G A s.heap [(h_this, oX2 ad_this ), ((ad_this 0), cI G 13 a_ways_59), ((ad_this 1), cI G 13 a_waysLater_57)] H locs → W p l e ({ frames := 2, cells := 0, slots := 0, locals := 42 } : Room) s m args below meth c H locs 0 0 Q (F0 m 59 ls []) := by
      intro n
      induction n with
      | zero => intro x3_59 a_ways_59 ls H locs hF hl hW; have h0 : none = some out := hF; cases h0
      | succ n ih =>
        intro x3_59 a_ways_59 ls H locs hF hl hW
        rw [L_X2_passNight_59] at hF
        refine lv_iload_n hx hb dX2_passNight_59 rfl (lv_at hl 1 rfl) ?_
        refine lv_bipush (v := 13) hx hb dX2_passNight_60 (by decide) ?_
        refine lv_icmp_ge (tgt := 87) hx hb dX2_passNight_62 (by decide) (fun c_62 => ?_) (fun c_62 => ?_)
        · have hF := ite_t hF c_62
          obtain rfl := Option.some.inj hF
          exact hret _ _ _ _ hW dX2_passNight_87
        · have hF := ite_f hF c_62
          refine lv_aload_n hx hb dX2_passNight_65 rfl (lv_at hl 0 rfl) ?_
          refine va_get (D := G.1) (ci := 2) (v := .ref ((ad_this 0))) (C := RX2) (T := TX2) (N := 2) hx hb hg hu_X2 hown hc.1 hW.1 0 rfl rfl 0 (by decide) (hg _ wd_1_196) (fun _ h9 => h9) rfl dX2_passNight_66 ?_
          refine lv_iload_n hx hb dX2_passNight_69 rfl (lv_at hl 1 rfl) ?_
          refine lv_aload_n hx hb dX2_passNight_70 rfl (lv_at hl 0 rfl) ?_
          refine va_get (D := G.1) (ci := 2) (v := .ref ((ad_this 1))) (C := RX2) (T := TX2) (N := 2) hx hb hg hu_X2 hown hc.1 hW.1 0 rfl rfl 1 (by decide) (hg _ wd_1_197) (fun _ h9 => h9) rfl dX2_passNight_71 ?_
          refine lv_iload_n hx hb dX2_passNight_74 rfl (lv_at hl 1 rfl) ?_
          obtain ⟨q75, c_75, hF⟩ := bd_el hF
          refine wcI (ws' := [(h_this, oX2 ad_this ), ((ad_this 0), cI G 13 a_ways_59), ((ad_this 1), cI G 13 a_waysLater_57)]) (wc := [((ad_this 1), cI G 13 a_waysLater_57)]) (wr := [(h_this, oX2 ad_this ), ((ad_this 0), cI G 13 a_ways_59)]) (w1 := [((ad_this 1), cI G 13 a_waysLater_57)]) (va_runS (As := [.ref ((ad_this 1)), .int x3_59]) (rest := [.int x3_59, .ref ((ad_this 0))]) ⟨hx, hb, hml, hown, hg⟩ (c_X4_at l G x3_59 13 ((ad_this 1)) a_waysLater_57 q75 c_75 H.size) (va_cwS 2 hg (gS wd_3_178 wd_2_37 wd_1_14 wd_2_38) rfl rfl rfl hdS_X4_at ⟨(Nat.le_of_ble_eq_true rfl), (Nat.le_of_ble_eq_true rfl)⟩) (preS hc hW [2] rfl (by decide)) rfl rfl hl.1 rfl (lv_room (Nat.le_of_ble_eq_true rfl)) dX2_passNight_75 ⟨Nat.zero_le _, Nat.zero_le _⟩) hA hW [2] [0, 1] [0, 1, 2] rfl rfl (by decide) (by decide) rfl (by decide) (fun H locs hW => ?_)
          obtain ⟨q78, c_78, hF⟩ := bd_el hF
          refine wcV (ws' := [(h_this, oX2 ad_this ), ((ad_this 0), cI G 13 q78), ((ad_this 1), cI G 13 a_waysLater_57)]) (wc := [((ad_this 0), cI G 13 a_ways_59)]) (wr := [(h_this, oX2 ad_this ), ((ad_this 1), cI G 13 a_waysLater_57)]) (w1 := [((ad_this 0), cI G 13 q78)]) (va_runS (As := [.ref ((ad_this 0)), .int x3_59, .int q75]) (rest := []) ⟨hx, hb, hml, hown, hg⟩ (c_X4_put l G x3_59 q75 13 ((ad_this 0)) a_ways_59 q78 c_78 H.size) (va_cwS 3 hg (gS wd_3_169 wd_2_17 wd_1_14 wd_2_18) rfl rfl rfl hdS_X4_put ⟨(Nat.le_of_ble_eq_true rfl), (Nat.le_of_ble_eq_true rfl)⟩) (preS hc hW [1] rfl (by decide)) rfl rfl hl.1 rfl (lv_room (Nat.le_of_ble_eq_true rfl)) dX2_passNight_78 ⟨Nat.zero_le _, Nat.zero_le _⟩) hA hW [1] [0, 2] [0, 2, 1] rfl rfl (by decide) (by decide) rfl (by decide) (fun H locs hW => ?_)
          refine lv_iinc (v := (x3_59 + 1)) (lv' := [(3, .int ((x3_59 + 1))), (0, .ref h_this)]) hx hb dX2_passNight_81 hl (k := 1) rfl rfl (by decide) rfl (fun ls hl => ?_)
          refine lv_goto (tgt := 59) hx hb dX2_passNight_84 (by decide) ?_
          exact ih ((x3_59 + 1)) q78 _ _ _ hF (lv_sub hl [1, 0] rfl) hW
    exact L_59 5000 0 a_ways _ _ _ hF (lv_sub hl [1, 0] rfl) hW
  have L_2 : ∀ (n : Nat) (x3_2 : Int32) (a_waysLater_2 : Nat → Int32) (ls : Array Slot) (H : Heap) (locs : List Loc), L_X2_passNight_2 x1 x2 a_ways k_57 n x3_2 a_waysLater_2 = some out → lv_has ls 5 [(0, .ref h_this), (1, .int x1), (2, .int x2), (3, .int x3_2)] → Wd G A s.heap [(h_this, oX2 ad_this ), ((ad_this 0), cI G 13 a_ways), ((ad_this 1), cI G 13 a_waysLater_2)] H locs → W p l e ({ frames := 2, cells := 0, slots := 0, locals := 42 } : Room) s m args below meth c H locs 0 0 Q (F0 m 2 ls []) := by
    intro n
    induction n with
    | zero => intro x3_2 a_waysLater_2 ls H locs hF hl hW; have h0 : none = some out := hF; cases h0
    | succ n ih =>
      intro x3_2 a_waysLater_2 ls H locs hF hl hW
      rw [L_X2_passNight_2] at hF
      refine lv_iload_n hx hb dX2_passNight_2 rfl (lv_at hl 3 rfl) ?_
      refine lv_bipush (v := 13) hx hb dX2_passNight_3 (by decide) ?_
      refine lv_icmp_ge (tgt := 57) hx hb dX2_passNight_5 (by decide) (fun c_5 => ?_) (fun c_5 => ?_)
      · have hF := ite_t hF c_5
        exact J_57 a_waysLater_2 _ _ _ hF (lv_sub hl [0] rfl) hW
      · have hF := ite_f hF c_5
        refine lv_aload_n hx hb dX2_passNight_8 rfl (lv_at hl 0 rfl) ?_
        refine lv_iload_n hx hb dX2_passNight_9 rfl (lv_at hl 3 rfl) ?_
        obtain ⟨q10, c_10, hF⟩ := bd_el hF
        refine wcI (ws' := [(h_this, oX2 ad_this ), ((ad_this 0), cI G 13 a_ways), ((ad_this 1), cI G 13 a_waysLater_2)]) (wc := [(h_this, oX2 ad_this ), ((ad_this 0), cI G 13 a_ways)]) (wr := [((ad_this 1), cI G 13 a_waysLater_2)]) (w1 := [(h_this, oX2 ad_this ), ((ad_this 0), cI G 13 a_ways)]) (va_runV (As := [.int x3_2]) (rest := []) ⟨hx, hb, hml, hown, hg⟩ (c_X2_waysTo l G x3_2 h_this ad_this a_ways q10 c_10 H.size) (cwV 1 hg (gV wd_3_174 wd_3_175 wd_3_176 wd_1_9 wd_3_177) rfl rfl rfl hdV_X2_waysTo ⟨(Nat.le_of_ble_eq_true rfl), (Nat.le_of_ble_eq_true rfl)⟩) (preV hc hW [0, 1] rfl (by decide) rfl rfl) rfl rfl hl.1 rfl (lv_room (Nat.le_of_ble_eq_true rfl)) dX2_passNight_10 ⟨Nat.zero_le _, Nat.zero_le _⟩) hA hW [0, 1] [2] [1, 2, 0] rfl rfl (by decide) (by decide) rfl (by decide) (fun H locs hW => ?_)
        refine lv_iconst (v := 4) hx hb dX2_passNight_13 (by decide) ?_
        refine lv_iload_n hx hb dX2_passNight_14 rfl (lv_at hl 1 rfl) ?_
        refine lv_isub hx hb dX2_passNight_15 ?_
        refine lv_iload_n hx hb dX2_passNight_16 rfl (lv_at hl 2 rfl) ?_
        refine lv_isub hx hb dX2_passNight_17 ?_
        refine lv_imul hx hb dX2_passNight_18 ?_
        refine lv_istore (lv' := [(4, .int ((q10 * ((4 - x1) - x2)))), (0, .ref h_this), (1, .int x1), (2, .int x2), (3, .int x3_2)]) hx hb dX2_passNight_19 hl (by decide) rfl (fun ls hl => ?_)
        refine lv_aload_n hx hb dX2_passNight_21 rfl (lv_at hl 1 rfl) ?_
        refine va_get (D := G.1) (ci := 2) (v := .ref ((ad_this 1))) (C := RX2) (T := TX2) (N := 2) hx hb hg hu_X2 hown hc.1 hW.1 0 rfl rfl 1 (by decide) (hg _ wd_1_197) (fun _ h9 => h9) rfl dX2_passNight_22 ?_
        refine lv_iload_n hx hb dX2_passNight_25 rfl (lv_at hl 4 rfl) ?_
        refine lv_iload hx hb dX2_passNight_26 (lv_at hl 0 rfl) ?_
        refine lv_aload_n hx hb dX2_passNight_28 rfl (lv_at hl 1 rfl) ?_
        refine lv_iload_n hx hb dX2_passNight_29 rfl (lv_at hl 4 rfl) ?_
        refine lv_iconst (v := 1) hx hb dX2_passNight_30 (by decide) ?_
        refine lv_isub hx hb dX2_passNight_31 ?_
        obtain ⟨q32, c_32, hF⟩ := bd_el hF
        refine wcI (ws' := [(h_this, oX2 ad_this ), ((ad_this 0), cI G 13 a_ways), ((ad_this 1), cI G 13 a_waysLater_2)]) (wc := [(h_this, oX2 ad_this ), ((ad_this 0), cI G 13 a_ways)]) (wr := [((ad_this 1), cI G 13 a_waysLater_2)]) (w1 := [(h_this, oX2 ad_this ), ((ad_this 0), cI G 13 a_ways)]) (va_runV (As := [.int ((x3_2 - 1))]) (rest := [.int ((q10 * ((4 - x1) - x2))), .int x3_2, .ref ((ad_this 1))]) ⟨hx, hb, hml, hown, hg⟩ (c_X2_waysTo l G ((x3_2 - 1)) h_this ad_this a_ways q32 c_32 H.size) (cwV 1 hg (gV wd_3_174 wd_3_175 wd_3_176 wd_1_9 wd_3_177) rfl rfl rfl hdV_X2_waysTo ⟨(Nat.le_of_ble_eq_true rfl), (Nat.le_of_ble_eq_true rfl)⟩) (preV hc hW [0, 1] rfl (by decide) rfl rfl) rfl rfl hl.1 rfl (lv_room (Nat.le_of_ble_eq_true rfl)) dX2_passNight_32 ⟨Nat.zero_le _, Nat.zero_le _⟩) hA hW [0, 1] [2] [1, 2, 0] rfl rfl (by decide) (by decide) rfl (by decide) (fun H locs hW => ?_)
        refine lv_iload_n hx hb dX2_passNight_35 rfl (lv_at hl 2 rfl) ?_
        refine lv_imul hx hb dX2_passNight_36 ?_
        refine lv_iadd hx hb dX2_passNight_37 ?_
        refine lv_aload_n hx hb dX2_passNight_38 rfl (lv_at hl 1 rfl) ?_
        refine lv_iload_n hx hb dX2_passNight_39 rfl (lv_at hl 4 rfl) ?_
        refine lv_iconst (v := 1) hx hb dX2_passNight_40 (by decide) ?_
        refine lv_iadd hx hb dX2_passNight_41 ?_
        obtain ⟨q42, c_42, hF⟩ := bd_el hF
        refine wcI (ws' := [(h_this, oX2 ad_this ), ((ad_this 0), cI G 13 a_ways), ((ad_this 1), cI G 13 a_waysLater_2)]) (wc := [(h_this, oX2 ad_this ), ((ad_this 0), cI G 13 a_ways)]) (wr := [((ad_this 1), cI G 13 a_waysLater_2)]) (w1 := [(h_this, oX2 ad_this ), ((ad_this 0), cI G 13 a_ways)]) (va_runV (As := [.int ((x3_2 + 1))]) (rest := [.int (((q10 * ((4 - x1) - x2)) + (q32 * x1))), .int x3_2, .ref ((ad_this 1))]) ⟨hx, hb, hml, hown, hg⟩ (c_X2_waysTo l G ((x3_2 + 1)) h_this ad_this a_ways q42 c_42 H.size) (cwV 1 hg (gV wd_3_174 wd_3_175 wd_3_176 wd_1_9 wd_3_177) rfl rfl rfl hdV_X2_waysTo ⟨(Nat.le_of_ble_eq_true rfl), (Nat.le_of_ble_eq_true rfl)⟩) (preV hc hW [0, 1] rfl (by decide) rfl rfl) rfl rfl hl.1 rfl (lv_room (Nat.le_of_ble_eq_true rfl)) dX2_passNight_42 ⟨Nat.zero_le _, Nat.zero_le _⟩) hA hW [0, 1] [2] [1, 2, 0] rfl rfl (by decide) (by decide) rfl (by decide) (fun H locs hW => ?_)
        refine lv_iload_n hx hb dX2_passNight_45 rfl (lv_at hl 3 rfl) ?_
        refine lv_imul hx hb dX2_passNight_46 ?_
        refine lv_iadd hx hb dX2_passNight_47 ?_
        obtain ⟨q48, c_48, hF⟩ := bd_el hF
        refine wcV (ws' := [(h_this, oX2 ad_this ), ((ad_this 0), cI G 13 a_ways), ((ad_this 1), cI G 13 q48)]) (wc := [((ad_this 1), cI G 13 a_waysLater_2)]) (wr := [(h_this, oX2 ad_this ), ((ad_this 0), cI G 13 a_ways)]) (w1 := [((ad_this 1), cI G 13 q48)]) (va_runS (As := [.ref ((ad_this 1)), .int x3_2, .int ((((q10 * ((4 - x1) - x2)) + (q32 * x1)) + (q42 * x2)))]) (rest := []) ⟨hx, hb, hml, hown, hg⟩ (c_X4_put l G x3_2 ((((q10 * ((4 - x1) - x2)) + (q32 * x1)) + (q42 * x2))) 13 ((ad_this 1)) a_waysLater_2 q48 c_48 H.size) (va_cwS 3 hg (gS wd_3_169 wd_2_17 wd_1_14 wd_2_18) rfl rfl rfl hdS_X4_put ⟨(Nat.le_of_ble_eq_true rfl), (Nat.le_of_ble_eq_true rfl)⟩) (preS hc hW [2] rfl (by decide)) rfl rfl hl.1 rfl (lv_room (Nat.le_of_ble_eq_true rfl)) dX2_passNight_48 ⟨Nat.zero_le _, Nat.zero_le _⟩) hA hW [2] [0, 1] [0, 1, 2] rfl rfl (by decide) (by decide) rfl (by decide) (fun H locs hW => ?_)
        refine lv_iinc (v := (x3_2 + 1)) (lv' := [(3, .int ((x3_2 + 1))), (4, .int ((q10 * ((4 - x1) - x2)))), (0, .ref h_this), (1, .int x1), (2, .int x2)]) hx hb dX2_passNight_51 hl (k := 4) rfl rfl (by decide) rfl (fun ls hl => ?_)
        refine lv_goto (tgt := 2) hx hb dX2_passNight_54 (by decide) ?_
        exact ih ((x3_2 + 1)) q48 _ _ _ hF (lv_sub hl [2, 3, 4, 0] rfl) hW
  exact L_2 5000 0 a_waysLater _ _ _ hF (lv_sub hl [1, 2, 3, 0] rfl) hW
theorem dX2_pass_0 : decode cX2_pass 0 = .ok (.iconst 0, 1) := by decide +kernel
theorem dX2_pass_1 : decode cX2_pass 1 = .ok (.istore 4, 2) := by decide +kernel
theorem dX2_pass_3 : decode cX2_pass 3 = .ok (.iload 4, 2) := by decide +kernel
theorem dX2_pass_5 : decode cX2_pass 5 = .ok (.bipush 13, 2) := by decide +kernel
theorem dX2_pass_7 : decode cX2_pass 7 = .ok (.if_icmp .ge 30, 3) := by decide +kernel
theorem dX2_pass_10 : decode cX2_pass 10 = .ok (.aload_n 0, 1) := by decide +kernel
theorem dX2_pass_11 : decode cX2_pass 11 = .ok (.getfield 9, 3) := by decide +kernel
theorem dX2_pass_14 : decode cX2_pass 14 = .ok (.iload 4, 2) := by decide +kernel
theorem dX2_pass_16 : decode cX2_pass 16 = .ok (.iload 4, 2) := by decide +kernel
theorem dX2_pass_18 : decode cX2_pass 18 = .ok (.bipush 6, 2) := by decide +kernel
theorem dX2_pass_20 : decode cX2_pass 20 = .ok (.if_icmp .ne 7, 3) := by decide +kernel
theorem dX2_pass_23 : decode cX2_pass 23 = .ok (.iconst 1, 1) := by decide +kernel
theorem dX2_pass_24 : decode cX2_pass 24 = .ok (.goto 4, 3) := by decide +kernel
theorem dX2_pass_27 : decode cX2_pass 27 = .ok (.iconst 0, 1) := by decide +kernel
theorem dX2_pass_28 : decode cX2_pass 28 = .ok (.invokestatic 22, 3) := by decide +kernel
theorem dX2_pass_31 : decode cX2_pass 31 = .ok (.iinc 4 1, 3) := by decide +kernel
theorem dX2_pass_34 : decode cX2_pass 34 = .ok (.goto (-31), 3) := by decide +kernel
theorem dX2_pass_37 : decode cX2_pass 37 = .ok (.iconst 0, 1) := by decide +kernel
theorem dX2_pass_38 : decode cX2_pass 38 = .ok (.istore 4, 2) := by decide +kernel
theorem dX2_pass_40 : decode cX2_pass 40 = .ok (.iload 4, 2) := by decide +kernel
theorem dX2_pass_42 : decode cX2_pass 42 = .ok (.iload_n 1, 1) := by decide +kernel
theorem dX2_pass_43 : decode cX2_pass 43 = .ok (.if_icmp .ge 15, 3) := by decide +kernel
theorem dX2_pass_46 : decode cX2_pass 46 = .ok (.aload_n 0, 1) := by decide +kernel
theorem dX2_pass_47 : decode cX2_pass 47 = .ok (.iload_n 2, 1) := by decide +kernel
theorem dX2_pass_48 : decode cX2_pass 48 = .ok (.iload_n 3, 1) := by decide +kernel
theorem dX2_pass_49 : decode cX2_pass 49 = .ok (.invokevirtual 26, 3) := by decide +kernel
theorem dX2_pass_52 : decode cX2_pass 52 = .ok (.iinc 4 1, 3) := by decide +kernel
theorem dX2_pass_55 : decode cX2_pass 55 = .ok (.goto (-15), 3) := by decide +kernel
theorem dX2_pass_58 : decode cX2_pass 58 = .ok (.return_, 1) := by decide +kernel
def L_X2_pass_40 (x1 : Int32) (x2 : Int32) (x3 : Int32)  : Nat → Int32 → (Nat → Int32) → (Nat → Int32) → Option ((Nat → Int32) × (Nat → Int32))
  | 0, _, _, _ => none
  | n + 1, x4_40, a_ways_40, a_waysLater_40 => (if x1 ≤ x4_40 then some (a_ways_40, a_waysLater_40) else (F_X2_passNight x2 x3 a_ways_40 a_waysLater_40).bind (fun q49 => L_X2_pass_40 x1 x2 x3 n ((x4_40 + 1)) q49.1 q49.2))
def L_X2_pass_3 (k_37 : (Nat → Int32) → Option ((Nat → Int32) × (Nat → Int32))) : Nat → Int32 → (Nat → Int32) → Option ((Nat → Int32) × (Nat → Int32))
  | 0, _, _ => none
  | n + 1, x4_3, a_ways_3 => (if 13 ≤ x4_3 then k_37 a_ways_3 else jn (fun (j0_28 : Int32) => (F_X4_put x4_3 j0_28 13 a_ways_3).bind (fun q28 => L_X2_pass_3 k_37 n ((x4_3 + 1)) q28)) (fun k_28 => (if x4_3 = 6 then k_28 1 else k_28 0)))
def F_X2_pass (x1 : Int32) (x2 : Int32) (x3 : Int32) (a_ways : Nat → Int32) (a_waysLater : Nat → Int32) : Option ((Nat → Int32) × (Nat → Int32)) := jn (fun (a_ways_37 : Nat → Int32) => L_X2_pass_40 x1 x2 x3 5000 0 a_ways_37 a_waysLater) (fun k_37 => L_X2_pass_3 k_37 5000 0 a_ways)
theorem hdV_X2_pass : yX2_pass.cls = RX2 ∧ yX2_pass.cls ≠ "java/lang/invoke/MethodHandle" ∧ yX2_pass.cls ≠ "java/lang/invoke/VarHandle" ∧ (parseMethodDescriptor yX2_pass.desc).map (fun d => d.parameters.length) = some 3 := by decide +kernel
set_option maxHeartbeats 4000000 in
set_option maxRecDepth 100000 in
theorem c_X2_pass (l : Launch) (G : GG) (x1 : Int32) (x2 : Int32) (x3 : Int32) (h_this : Nat) (ad_this : Nat → Nat) (a_ways : Nat → Int32) (a_waysLater : Nat → Int32) (out : (Nat → Int32) × (Nat → Int32)) (hF : F_X2_pass x1 x2 x3 a_ways a_waysLater = some out) : CtrV l yX2_pass (WS yX2_pass cX2_pass 5 none) { frames := 3, cells := 0, slots := 0, locals := 66 } G [.ref h_this, .int x1, .int x2, .int x3] [(h_this, oX2 ad_this ), ((ad_this 0), cI G 13 a_ways), ((ad_this 1), cI G 13 a_waysLater)] [(h_this, oX2 ad_this ), ((ad_this 0), cI G 13 out.1), ((ad_this 1), cI G 13 out.2)] := by
  refine startV (cc := cX2_pass) (maxL := 5) (by decide) rfl (Nat.le_of_ble_eq_true rfl) ?_
  intro p e s m args below meth c A Q hx hb hml hts hown hc hA hret ls H locs hl hW
  have hown : s.vm.findClass RX2 = some m.cls := hown
  have hg : ∀ w ∈ GOODS, w.before _ s = true := fun w h => hts w (List.mem_cons_of_mem _ h)
  have hl : lv_has ls 5 [(0, .ref h_this), (1, .int x1), (2, .int x2), (3, .int x3)] := hl
  rw [F_X2_pass] at hF
  refine lv_iconst (v := 0) hx hb dX2_pass_0 (by decide) ?_
  refine lv_istore (lv' := [(4, .int 0), (0, .ref h_this), (1, .int x1), (2, .int x2), (3, .int x3)]) hx hb dX2_pass_1 hl (by decide) rfl (fun ls hl => ?_)
  obtain ⟨k_37, e_37, hF⟩ := jn_el hF
  have J_37 : ∀ (a_ways_37 : Nat → Int32) (ls : Array Slot) (H : Heap) (locs : List Loc), k_37 a_ways_37 = some out → lv_has ls 5 [(0, .ref h_this), (1, .int x1), (2, .int x2), (3, .int x3)] → Wd G A s.heap [(h_this, oX2 ad_this ), ((ad_this 0), cI G 13 a_ways_37), ((ad_this 1), cI G 13 a_waysLater)] H locs → W p l e ({ frames := 3, cells := 0, slots := 0, locals := 66 } : Room) s m args below meth c H locs 0 0 Q (F0 m 37 ls []) := by
    intro a_ways_37 ls H locs hF hl hW
    rw [e_37] at hF
    dsimp only at hF
    refine lv_iconst (v := 0) hx hb dX2_pass_37 (by decide) ?_
    refine lv_istore (lv' := [(4, .int 0), (0, .ref h_this), (1, .int x1), (2, .int x2), (3, .int x3)]) hx hb dX2_pass_38 hl (by decide) rfl (fun ls hl => ?_)
    have L_40 : ∀ (n : Nat) (x4_40 : Int32) (a_ways_40 : Nat → Int32) (a_waysLater_40 : Nat → Int32) (ls : Array Slot) (H : Heap) (locs : List Loc), L_X2_pass_40 x1 x2 x3 n x4_40 a_ways_40 a_waysLater_40 = some out → lv_has ls 5 [(0, .ref h_this), (1, .int x1), (2, .int x2), (3, .int x3), (4, .int x4_40)] → Wd G A s.heap [(h_this, oX2 ad_this ), ((ad_this 0), cI G 13 a_ways_40), ((ad_this 1), cI G 13 a_waysLater_40)] H locs → W p l e ({ frames := 3, cells := 0, slots := 0, locals := 66 } : Room) s m args below meth c H locs 0 0 Q (F0 m 40 ls []) := by
      intro n
      induction n with
      | zero => intro x4_40 a_ways_40 a_waysLater_40 ls H locs hF hl hW; have h0 : none = some out := hF; cases h0
      | succ n ih =>
        intro x4_40 a_ways_40 a_waysLater_40 ls H locs hF hl hW
        rw [L_X2_pass_40] at hF
        refine lv_iload hx hb dX2_pass_40 (lv_at hl 4 rfl) ?_
        refine lv_iload_n hx hb dX2_pass_42 rfl (lv_at hl 1 rfl) ?_
        refine lv_icmp_ge (tgt := 58) hx hb dX2_pass_43 (by decide) (fun c_43 => ?_) (fun c_43 => ?_)
        · have hF := ite_t hF c_43
          obtain rfl := Option.some.inj hF
          exact hret _ _ _ _ hW dX2_pass_58
        · have hF := ite_f hF c_43
          refine lv_aload_n hx hb dX2_pass_46 rfl (lv_at hl 0 rfl) ?_
          refine lv_iload_n hx hb dX2_pass_47 rfl (lv_at hl 2 rfl) ?_
          refine lv_iload_n hx hb dX2_pass_48 rfl (lv_at hl 3 rfl) ?_
          obtain ⟨q49, c_49, hF⟩ := bd_el hF
          refine wcV (ws' := [(h_this, oX2 ad_this ), ((ad_this 0), cI G 13 q49.1), ((ad_this 1), cI G 13 q49.2)]) (wc := [(h_this, oX2 ad_this ), ((ad_this 0), cI G 13 a_ways_40), ((ad_this 1), cI G 13 a_waysLater_40)]) (wr := []) (w1 := [(h_this, oX2 ad_this ), ((ad_this 0), cI G 13 q49.1), ((ad_this 1), cI G 13 q49.2)]) (va_runV (As := [.int x2, .int x3]) (rest := []) ⟨hx, hb, hml, hown, hg⟩ (c_X2_passNight l G x2 x3 h_this ad_this a_ways_40 a_waysLater_40 q49 c_49 H.size) (cwV 2 hg (gV wd_3_170 wd_3_172 wd_0_21 wd_1_9 wd_3_173) rfl rfl rfl hdV_X2_passNight ⟨(Nat.le_of_ble_eq_true rfl), (Nat.le_of_ble_eq_true rfl)⟩) (preV hc hW [0, 1, 2] rfl (by decide) rfl rfl) rfl rfl hl.1 rfl (lv_room (Nat.le_of_ble_eq_true rfl)) dX2_pass_49 ⟨Nat.zero_le _, Nat.zero_le _⟩) hA hW [0, 1, 2] [] [0, 1, 2] rfl rfl (by decide) (by decide) rfl (by decide) (fun H locs hW => ?_)
          refine lv_iinc (v := (x4_40 + 1)) (lv' := [(4, .int ((x4_40 + 1))), (0, .ref h_this), (1, .int x1), (2, .int x2), (3, .int x3)]) hx hb dX2_pass_52 hl (k := 4) rfl rfl (by decide) rfl (fun ls hl => ?_)
          refine lv_goto (tgt := 40) hx hb dX2_pass_55 (by decide) ?_
          exact ih ((x4_40 + 1)) q49.1 q49.2 _ _ _ hF (lv_sub hl [1, 2, 3, 4, 0] rfl) hW
    exact L_40 5000 0 a_ways_37 a_waysLater _ _ _ hF (lv_sub hl [1, 2, 3, 4, 0] rfl) hW
  have L_3 : ∀ (n : Nat) (x4_3 : Int32) (a_ways_3 : Nat → Int32) (ls : Array Slot) (H : Heap) (locs : List Loc), L_X2_pass_3 k_37 n x4_3 a_ways_3 = some out → lv_has ls 5 [(0, .ref h_this), (1, .int x1), (2, .int x2), (3, .int x3), (4, .int x4_3)] → Wd G A s.heap [(h_this, oX2 ad_this ), ((ad_this 0), cI G 13 a_ways_3), ((ad_this 1), cI G 13 a_waysLater)] H locs → W p l e ({ frames := 3, cells := 0, slots := 0, locals := 66 } : Room) s m args below meth c H locs 0 0 Q (F0 m 3 ls []) := by
    intro n
    induction n with
    | zero => intro x4_3 a_ways_3 ls H locs hF hl hW; have h0 : none = some out := hF; cases h0
    | succ n ih =>
      intro x4_3 a_ways_3 ls H locs hF hl hW
      rw [L_X2_pass_3] at hF
      refine lv_iload hx hb dX2_pass_3 (lv_at hl 4 rfl) ?_
      refine lv_bipush (v := 13) hx hb dX2_pass_5 (by decide) ?_
      refine lv_icmp_ge (tgt := 37) hx hb dX2_pass_7 (by decide) (fun c_7 => ?_) (fun c_7 => ?_)
      · have hF := ite_t hF c_7
        exact J_37 a_ways_3 _ _ _ hF (lv_sub hl [0, 1, 2, 3] rfl) hW
      · have hF := ite_f hF c_7
        refine lv_aload_n hx hb dX2_pass_10 rfl (lv_at hl 0 rfl) ?_
        refine va_get (D := G.1) (ci := 2) (v := .ref ((ad_this 0))) (C := RX2) (T := TX2) (N := 2) hx hb hg hu_X2 hown hc.1 hW.1 0 rfl rfl 0 (by decide) (hg _ wd_1_196) (fun _ h9 => h9) rfl dX2_pass_11 ?_
        refine lv_iload hx hb dX2_pass_14 (lv_at hl 4 rfl) ?_
        refine lv_iload hx hb dX2_pass_16 (lv_at hl 4 rfl) ?_
        refine lv_bipush (v := 6) hx hb dX2_pass_18 (by decide) ?_
        obtain ⟨k_28, e_28, hF⟩ := jn_el hF
        have J_28 : ∀ (j0_28 : Int32) (ls : Array Slot) (H : Heap) (locs : List Loc), k_28 j0_28 = some out → lv_has ls 5 [(0, .ref h_this), (1, .int x1), (2, .int x2), (3, .int x3), (4, .int x4_3)] → Wd G A s.heap [(h_this, oX2 ad_this ), ((ad_this 0), cI G 13 a_ways_3), ((ad_this 1), cI G 13 a_waysLater)] H locs → W p l e ({ frames := 3, cells := 0, slots := 0, locals := 66 } : Room) s m args below meth c H locs 0 0 Q (F0 m 28 ls [.int j0_28, .int x4_3, .ref ((ad_this 0))]) := by
          intro j0_28 ls H locs hF hl hW
          rw [e_28] at hF
          dsimp only at hF
          obtain ⟨q28, c_28, hF⟩ := bd_el hF
          refine wcV (ws' := [(h_this, oX2 ad_this ), ((ad_this 0), cI G 13 q28), ((ad_this 1), cI G 13 a_waysLater)]) (wc := [((ad_this 0), cI G 13 a_ways_3)]) (wr := [(h_this, oX2 ad_this ), ((ad_this 1), cI G 13 a_waysLater)]) (w1 := [((ad_this 0), cI G 13 q28)]) (va_runS (As := [.ref ((ad_this 0)), .int x4_3, .int j0_28]) (rest := []) ⟨hx, hb, hml, hown, hg⟩ (c_X4_put l G x4_3 j0_28 13 ((ad_this 0)) a_ways_3 q28 c_28 H.size) (va_cwS 3 hg (gS wd_3_169 wd_2_17 wd_1_14 wd_2_18) rfl rfl rfl hdS_X4_put ⟨(Nat.le_of_ble_eq_true rfl), (Nat.le_of_ble_eq_true rfl)⟩) (preS hc hW [1] rfl (by decide)) rfl rfl hl.1 rfl (lv_room (Nat.le_of_ble_eq_true rfl)) dX2_pass_28 ⟨Nat.zero_le _, Nat.zero_le _⟩) hA hW [1] [0, 2] [0, 2, 1] rfl rfl (by decide) (by decide) rfl (by decide) (fun H locs hW => ?_)
          refine lv_iinc (v := (x4_3 + 1)) (lv' := [(4, .int ((x4_3 + 1))), (0, .ref h_this), (1, .int x1), (2, .int x2), (3, .int x3)]) hx hb dX2_pass_31 hl (k := 4) rfl rfl (by decide) rfl (fun ls hl => ?_)
          refine lv_goto (tgt := 3) hx hb dX2_pass_34 (by decide) ?_
          exact ih ((x4_3 + 1)) q28 _ _ _ hF (lv_sub hl [1, 2, 3, 4, 0] rfl) hW
        refine lv_icmp_ne (tgt := 27) hx hb dX2_pass_20 (by decide) (fun c_20 => ?_) (fun c_20 => ?_)
        · have hF := ite_f hF c_20
          refine lv_iconst (v := 0) hx hb dX2_pass_27 (by decide) ?_
          exact J_28 0 _ _ _ hF (lv_sub hl [0, 1, 2, 3, 4] rfl) hW
        · have hF := ite_t hF c_20
          refine lv_iconst (v := 1) hx hb dX2_pass_23 (by decide) ?_
          refine lv_goto (tgt := 28) hx hb dX2_pass_24 (by decide) ?_
          exact J_28 1 _ _ _ hF (lv_sub hl [0, 1, 2, 3, 4] rfl) hW
  exact L_3 5000 0 a_ways _ _ _ hF (lv_sub hl [1, 2, 3, 4, 0] rfl) hW
