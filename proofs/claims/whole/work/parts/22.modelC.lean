theorem dX10_saved_0 : decode cX10_saved 0 = .ok (.iload_n 1, 1) := by decide +kernel
theorem dX10_saved_1 : decode cX10_saved 1 = .ok (.iconst 0, 1) := by decide +kernel
theorem dX10_saved_2 : decode cX10_saved 2 = .ok (.bipush 99, 2) := by decide +kernel
theorem dX10_saved_4 : decode cX10_saved 4 = .ok (.invokestatic 99, 3) := by decide +kernel
theorem dX10_saved_7 : decode cX10_saved 7 = .ok (.ifCond .ne 5, 3) := by decide +kernel
theorem dX10_saved_10 : decode cX10_saved 10 = .ok (.iconst (-1), 1) := by decide +kernel
theorem dX10_saved_11 : decode cX10_saved 11 = .ok (.ireturn, 1) := by decide +kernel
theorem dX10_saved_12 : decode cX10_saved 12 = .ok (.iconst 0, 1) := by decide +kernel
theorem dX10_saved_13 : decode cX10_saved 13 = .ok (.istore_n 2, 1) := by decide +kernel
theorem dX10_saved_14 : decode cX10_saved 14 = .ok (.iconst 0, 1) := by decide +kernel
theorem dX10_saved_15 : decode cX10_saved 15 = .ok (.istore_n 3, 1) := by decide +kernel
theorem dX10_saved_16 : decode cX10_saved 16 = .ok (.iconst 0, 1) := by decide +kernel
theorem dX10_saved_17 : decode cX10_saved 17 = .ok (.istore 4, 2) := by decide +kernel
theorem dX10_saved_19 : decode cX10_saved 19 = .ok (.iload 4, 2) := by decide +kernel
theorem dX10_saved_21 : decode cX10_saved 21 = .ok (.aload_n 0, 1) := by decide +kernel
theorem dX10_saved_22 : decode cX10_saved 22 = .ok (.getfield 23, 3) := by decide +kernel
theorem dX10_saved_25 : decode cX10_saved 25 = .ok (.iconst 0, 1) := by decide +kernel
theorem dX10_saved_26 : decode cX10_saved 26 = .ok (.iaload, 1) := by decide +kernel
theorem dX10_saved_27 : decode cX10_saved 27 = .ok (.if_icmp .ge 34, 3) := by decide +kernel
theorem dX10_saved_30 : decode cX10_saved 30 = .ok (.iload_n 2, 1) := by decide +kernel
theorem dX10_saved_31 : decode cX10_saved 31 = .ok (.aload_n 0, 1) := by decide +kernel
theorem dX10_saved_32 : decode cX10_saved 32 = .ok (.getfield 29, 3) := by decide +kernel
theorem dX10_saved_35 : decode cX10_saved 35 = .ok (.iload 4, 2) := by decide +kernel
theorem dX10_saved_37 : decode cX10_saved 37 = .ok (.iaload, 1) := by decide +kernel
theorem dX10_saved_38 : decode cX10_saved 38 = .ok (.iload_n 1, 1) := by decide +kernel
theorem dX10_saved_39 : decode cX10_saved 39 = .ok (.if_icmp .gt 13, 3) := by decide +kernel
theorem dX10_saved_42 : decode cX10_saved 42 = .ok (.aload_n 0, 1) := by decide +kernel
theorem dX10_saved_43 : decode cX10_saved 43 = .ok (.getfield 26, 3) := by decide +kernel
theorem dX10_saved_46 : decode cX10_saved 46 = .ok (.iload 4, 2) := by decide +kernel
theorem dX10_saved_48 : decode cX10_saved 48 = .ok (.iaload, 1) := by decide +kernel
theorem dX10_saved_49 : decode cX10_saved 49 = .ok (.goto 4, 3) := by decide +kernel
theorem dX10_saved_52 : decode cX10_saved 52 = .ok (.iconst 0, 1) := by decide +kernel
theorem dX10_saved_53 : decode cX10_saved 53 = .ok (.iadd, 1) := by decide +kernel
theorem dX10_saved_54 : decode cX10_saved 54 = .ok (.istore_n 2, 1) := by decide +kernel
theorem dX10_saved_55 : decode cX10_saved 55 = .ok (.iinc 4 1, 3) := by decide +kernel
theorem dX10_saved_58 : decode cX10_saved 58 = .ok (.goto (-39), 3) := by decide +kernel
theorem dX10_saved_61 : decode cX10_saved 61 = .ok (.iconst 0, 1) := by decide +kernel
theorem dX10_saved_62 : decode cX10_saved 62 = .ok (.istore 4, 2) := by decide +kernel
theorem dX10_saved_64 : decode cX10_saved 64 = .ok (.iload 4, 2) := by decide +kernel
theorem dX10_saved_66 : decode cX10_saved 66 = .ok (.aload_n 0, 1) := by decide +kernel
theorem dX10_saved_67 : decode cX10_saved 67 = .ok (.getfield 32, 3) := by decide +kernel
theorem dX10_saved_70 : decode cX10_saved 70 = .ok (.iconst 0, 1) := by decide +kernel
theorem dX10_saved_71 : decode cX10_saved 71 = .ok (.iaload, 1) := by decide +kernel
theorem dX10_saved_72 : decode cX10_saved 72 = .ok (.if_icmp .ge 19, 3) := by decide +kernel
theorem dX10_saved_75 : decode cX10_saved 75 = .ok (.iload_n 3, 1) := by decide +kernel
theorem dX10_saved_76 : decode cX10_saved 76 = .ok (.aload_n 0, 1) := by decide +kernel
theorem dX10_saved_77 : decode cX10_saved 77 = .ok (.getfield 35, 3) := by decide +kernel
theorem dX10_saved_80 : decode cX10_saved 80 = .ok (.iload 4, 2) := by decide +kernel
theorem dX10_saved_82 : decode cX10_saved 82 = .ok (.iaload, 1) := by decide +kernel
theorem dX10_saved_83 : decode cX10_saved 83 = .ok (.iadd, 1) := by decide +kernel
theorem dX10_saved_84 : decode cX10_saved 84 = .ok (.istore_n 3, 1) := by decide +kernel
theorem dX10_saved_85 : decode cX10_saved 85 = .ok (.iinc 4 1, 3) := by decide +kernel
theorem dX10_saved_88 : decode cX10_saved 88 = .ok (.goto (-24), 3) := by decide +kernel
theorem dX10_saved_91 : decode cX10_saved 91 = .ok (.iload_n 2, 1) := by decide +kernel
theorem dX10_saved_92 : decode cX10_saved 92 = .ok (.iload_n 3, 1) := by decide +kernel
theorem dX10_saved_93 : decode cX10_saved 93 = .ok (.if_icmp .ge 7, 3) := by decide +kernel
theorem dX10_saved_96 : decode cX10_saved 96 = .ok (.iload_n 2, 1) := by decide +kernel
theorem dX10_saved_97 : decode cX10_saved 97 = .ok (.goto 4, 3) := by decide +kernel
theorem dX10_saved_100 : decode cX10_saved 100 = .ok (.iload_n 3, 1) := by decide +kernel
theorem dX10_saved_101 : decode cX10_saved 101 = .ok (.ireturn, 1) := by decide +kernel
def L_X10_saved_64 (a_boat : Nat → Int32) (a_boats : Nat → Int32) (k_91 : Int32 → Option (Int32)) : Nat → Int32 → Int32 → Option (Int32)
  | 0, _, _ => none
  | n + 1, x3_64, x4_64 => (if (a_boats (Int32.toNatClampNeg 0)) ≤ x4_64 then k_91 x3_64 else (if inb x4_64 8 = true then L_X10_saved_64 a_boat a_boats k_91 n ((x3_64 + (a_boat (Int32.toNatClampNeg x4_64)))) ((x4_64 + 1)) else none))
def L_X10_saved_19 (x1 : Int32) (a_houses : Nat → Int32) (a_minutes : Nat → Int32) (a_people : Nat → Int32) (k_61 : Int32 → Int32 → Option (Int32)) : Nat → Int32 → Int32 → Int32 → Option (Int32)
  | 0, _, _, _ => none
  | n + 1, x2_19, x3_19, x4_19 => (if (a_houses (Int32.toNatClampNeg 0)) ≤ x4_19 then k_61 x2_19 x3_19 else (if inb x4_19 12 = true then jn (fun (j0_53 : Int32) => L_X10_saved_19 x1 a_houses a_minutes a_people k_61 n ((x2_19 + j0_53)) x3_19 ((x4_19 + 1))) (fun k_53 => (if x1 < (a_minutes (Int32.toNatClampNeg x4_19)) then k_53 0 else (if inb x4_19 12 = true then k_53 ((a_people (Int32.toNatClampNeg x4_19))) else none))) else none))
def F_X10_saved (x1 : Int32) (a_boat : Nat → Int32) (a_boats : Nat → Int32) (a_houses : Nat → Int32) (a_minutes : Nat → Int32) (a_people : Nat → Int32) : Option (Int32) := (F_X10_in x1 0 99).bind (fun q4 => (if q4 = 0 then some ((-1)) else jn (fun (x2_61 : Int32) (x3_61 : Int32) => jn (fun (x3_91 : Int32) => (if x3_91 ≤ x2_61 then some (x3_91) else some (x2_61))) (fun k_91 => L_X10_saved_64 a_boat a_boats k_91 5000 x3_61 0)) (fun k_61 => L_X10_saved_19 x1 a_houses a_minutes a_people k_61 5000 0 0 0)))
theorem hdV_X10_saved : yX10_saved.cls = RX10 ∧ yX10_saved.cls ≠ "java/lang/invoke/MethodHandle" ∧ yX10_saved.cls ≠ "java/lang/invoke/VarHandle" ∧ (parseMethodDescriptor yX10_saved.desc).map (fun d => d.parameters.length) = some 1 := by decide +kernel
set_option maxHeartbeats 4000000 in
set_option maxRecDepth 100000 in
theorem c_X10_saved (l : Launch) (G : GG) (x1 : Int32) (h_this : Nat) (ad_this : Nat → Nat) (v_typed : Int32) (v_at : Int32) (v_isSo : Int32) (v_kept : Int32) (v_all : Int64) (v_sightAll : Int64) (v_aheadMany : Int32) (a_boat : Nat → Int32) (a_boats : Nat → Int32) (a_houses : Nat → Int32) (a_minutes : Nat → Int32) (a_people : Nat → Int32) (out : Int32) (hF : F_X10_saved x1 a_boat a_boats a_houses a_minutes a_people = some out) : CtrI l yX10_saved (WS yX10_saved cX10_saved 5 (some .int)) { frames := 1, cells := 0, slots := 0, locals := 22 } G [.ref h_this, .int x1] [(h_this, oX10 ad_this v_typed v_at v_isSo v_kept v_all v_sightAll v_aheadMany), ((ad_this 9), cI G 8 a_boat), ((ad_this 8), cI G 2 a_boats), ((ad_this 5), cI G 2 a_houses), ((ad_this 7), cI G 12 a_minutes), ((ad_this 6), cI G 12 a_people)] [(h_this, oX10 ad_this v_typed v_at v_isSo v_kept v_all v_sightAll v_aheadMany), ((ad_this 9), cI G 8 a_boat), ((ad_this 8), cI G 2 a_boats), ((ad_this 5), cI G 2 a_houses), ((ad_this 7), cI G 12 a_minutes), ((ad_this 6), cI G 12 a_people)] out := by
  refine startI (cc := cX10_saved) (maxL := 5) (by decide) rfl (Nat.le_of_ble_eq_true rfl) ?_
  intro p e s m args below meth c A Q hx hb hml hts hown hc hA hret ls H locs hl hW
  have hown : s.vm.findClass RX10 = some m.cls := hown
  have hg : ∀ w ∈ GOODS, w.before _ s = true := fun w h => hts w (List.mem_cons_of_mem _ h)
  have hl : lv_has ls 5 [(0, .ref h_this), (1, .int x1)] := hl
  rw [F_X10_saved] at hF
  refine lv_iload_n hx hb dX10_saved_0 rfl (lv_at hl 1 rfl) ?_
  refine lv_iconst (v := 0) hx hb dX10_saved_1 (by decide) ?_
  refine lv_bipush (v := 99) hx hb dX10_saved_2 (by decide) ?_
  obtain ⟨q4, c_4, hF⟩ := bd_el hF
  refine wcZ (ws' := [(h_this, oX10 ad_this v_typed v_at v_isSo v_kept v_all v_sightAll v_aheadMany), ((ad_this 9), cI G 8 a_boat), ((ad_this 8), cI G 2 a_boats), ((ad_this 5), cI G 2 a_houses), ((ad_this 7), cI G 12 a_minutes), ((ad_this 6), cI G 12 a_people)]) (wc := []) (wr := [(h_this, oX10 ad_this v_typed v_at v_isSo v_kept v_all v_sightAll v_aheadMany), ((ad_this 9), cI G 8 a_boat), ((ad_this 8), cI G 2 a_boats), ((ad_this 5), cI G 2 a_houses), ((ad_this 7), cI G 12 a_minutes), ((ad_this 6), cI G 12 a_people)]) (w1 := []) (va_runS (As := [.int x1, .int 0, .int 99]) (rest := []) ⟨hx, hb, hml, hown, hg⟩ (c_X10_in l G x1 0 99 q4 c_4 H.size) (va_cwS 3 hg (gS wd_4_136 wd_4_137 wd_1_15 wd_4_138) rfl rfl rfl hdS_X10_in ⟨(Nat.le_of_ble_eq_true rfl), (Nat.le_of_ble_eq_true rfl)⟩) (preS hc hW [] rfl (by decide)) rfl rfl hl.1 rfl (lv_room (Nat.le_of_ble_eq_true rfl)) dX10_saved_4 ⟨Nat.zero_le _, Nat.zero_le _⟩) hA hW [] [0, 1, 2, 3, 4, 5] [0, 1, 2, 3, 4, 5] rfl rfl (by decide) (by decide) rfl (by decide) (fun z_4 H locs hW => ?_)
  refine lv_if_ne (tgt := 12) hx hb dX10_saved_7 (by decide) (fun c_7 => ?_) (fun c_7 => ?_)
  · have hF := ite_f hF c_7
    refine lv_iconst (v := 0) hx hb dX10_saved_12 (by decide) ?_
    refine lv_istore_n (lv' := [(2, .int 0), (0, .ref h_this), (1, .int x1)]) hx hb dX10_saved_13 rfl hl (by decide) rfl (fun ls hl => ?_)
    refine lv_iconst (v := 0) hx hb dX10_saved_14 (by decide) ?_
    refine lv_istore_n (lv' := [(3, .int 0), (2, .int 0), (0, .ref h_this), (1, .int x1)]) hx hb dX10_saved_15 rfl hl (by decide) rfl (fun ls hl => ?_)
    refine lv_iconst (v := 0) hx hb dX10_saved_16 (by decide) ?_
    refine lv_istore (lv' := [(4, .int 0), (3, .int 0), (2, .int 0), (0, .ref h_this), (1, .int x1)]) hx hb dX10_saved_17 hl (by decide) rfl (fun ls hl => ?_)
    obtain ⟨k_61, e_61, hF⟩ := jn_el hF
    have J_61 : ∀ (x2_61 : Int32) (x3_61 : Int32) (ls : Array Slot) (H : Heap) (locs : List Loc), k_61 x2_61 x3_61 = some out → lv_has ls 5 [(0, .ref h_this), (2, .int x2_61), (3, .int x3_61)] → Wd G A s.heap [(h_this, oX10 ad_this v_typed v_at v_isSo v_kept v_all v_sightAll v_aheadMany), ((ad_this 9), cI G 8 a_boat), ((ad_this 8), cI G 2 a_boats), ((ad_this 5), cI G 2 a_houses), ((ad_this 7), cI G 12 a_minutes), ((ad_this 6), cI G 12 a_people)] H locs → W p l e ({ frames := 1, cells := 0, slots := 0, locals := 22 } : Room) s m args below meth c H locs 0 0 Q (F0 m 61 ls []) := by
      intro x2_61 x3_61 ls H locs hF hl hW
      rw [e_61] at hF
      dsimp only at hF
      refine lv_iconst (v := 0) hx hb dX10_saved_61 (by decide) ?_
      refine lv_istore (lv' := [(4, .int 0), (0, .ref h_this), (2, .int x2_61), (3, .int x3_61)]) hx hb dX10_saved_62 hl (by decide) rfl (fun ls hl => ?_)
      obtain ⟨k_91, e_91, hF⟩ := jn_el hF
      have J_91 : ∀ (x3_91 : Int32) (ls : Array Slot) (H : Heap) (locs : List Loc), k_91 x3_91 = some out → lv_has ls 5 [(2, .int x2_61), (3, .int x3_91)] → Wd G A s.heap [(h_this, oX10 ad_this v_typed v_at v_isSo v_kept v_all v_sightAll v_aheadMany), ((ad_this 9), cI G 8 a_boat), ((ad_this 8), cI G 2 a_boats), ((ad_this 5), cI G 2 a_houses), ((ad_this 7), cI G 12 a_minutes), ((ad_this 6), cI G 12 a_people)] H locs → W p l e ({ frames := 1, cells := 0, slots := 0, locals := 22 } : Room) s m args below meth c H locs 0 0 Q (F0 m 91 ls []) := by
        intro x3_91 ls H locs hF hl hW
        rw [e_91] at hF
        dsimp only at hF
        refine lv_iload_n hx hb dX10_saved_91 rfl (lv_at hl 0 rfl) ?_
        refine lv_iload_n hx hb dX10_saved_92 rfl (lv_at hl 1 rfl) ?_
        refine lv_icmp_ge (tgt := 100) hx hb dX10_saved_93 (by decide) (fun c_93 => ?_) (fun c_93 => ?_)
        · have hF := ite_t hF c_93
          refine lv_iload_n hx hb dX10_saved_100 rfl (lv_at hl 1 rfl) ?_
          obtain rfl := Option.some.inj hF
          exact hret _ _ _ _ hW dX10_saved_101
        · have hF := ite_f hF c_93
          refine lv_iload_n hx hb dX10_saved_96 rfl (lv_at hl 0 rfl) ?_
          refine lv_goto (tgt := 101) hx hb dX10_saved_97 (by decide) ?_
          obtain rfl := Option.some.inj hF
          exact hret _ _ _ _ hW dX10_saved_101
      have L_64 : ∀ (n : Nat) (x3_64 : Int32) (x4_64 : Int32) (ls : Array Slot) (H : Heap) (locs : List Loc), L_X10_saved_64 a_boat a_boats k_91 n x3_64 x4_64 = some out → lv_has ls 5 [(0, .ref h_this), (2, .int x2_61), (3, .int x3_64), (4, .int x4_64)] → Wd G A s.heap [(h_this, oX10 ad_this v_typed v_at v_isSo v_kept v_all v_sightAll v_aheadMany), ((ad_this 9), cI G 8 a_boat), ((ad_this 8), cI G 2 a_boats), ((ad_this 5), cI G 2 a_houses), ((ad_this 7), cI G 12 a_minutes), ((ad_this 6), cI G 12 a_people)] H locs → W p l e ({ frames := 1, cells := 0, slots := 0, locals := 22 } : Room) s m args below meth c H locs 0 0 Q (F0 m 64 ls []) := by
        intro n
        induction n with
        | zero => intro x3_64 x4_64 ls H locs hF hl hW; have h0 : none = some out := hF; cases h0
        | succ n ih =>
          intro x3_64 x4_64 ls H locs hF hl hW
          rw [L_X10_saved_64] at hF
          refine lv_iload hx hb dX10_saved_64 (lv_at hl 3 rfl) ?_
          refine lv_aload_n hx hb dX10_saved_66 rfl (lv_at hl 0 rfl) ?_
          refine va_get (D := G.1) (ci := 9) (v := .ref ((ad_this 8))) (C := RX10) (T := TX10) (N := 31) hx hb hg hu_X10 hown hc.1 hW.1 0 rfl rfl 8 (by decide) (hg _ wd_4_46) (fun _ h9 => h9) rfl dX10_saved_67 ?_
          refine lv_iconst (v := 0) hx hb dX10_saved_70 (by decide) ?_
          have b_71 : vp_in 0 2 := inb_vp (by decide)
          refine va_iald hx hb hc.1 hW.1 2 0 rfl rfl b_71 dX10_saved_71 ?_
          refine lv_icmp_ge (tgt := 91) hx hb dX10_saved_72 (by decide) (fun c_72 => ?_) (fun c_72 => ?_)
          · have hF := ite_t hF c_72
            exact J_91 x3_64 _ _ _ hF (lv_sub hl [1, 2] rfl) hW
          · have hF := ite_f hF c_72
            refine lv_iload_n hx hb dX10_saved_75 rfl (lv_at hl 2 rfl) ?_
            refine lv_aload_n hx hb dX10_saved_76 rfl (lv_at hl 0 rfl) ?_
            refine va_get (D := G.1) (ci := 9) (v := .ref ((ad_this 9))) (C := RX10) (T := TX10) (N := 31) hx hb hg hu_X10 hown hc.1 hW.1 0 rfl rfl 9 (by decide) (hg _ wd_4_47) (fun _ h9 => h9) rfl dX10_saved_77 ?_
            refine lv_iload hx hb dX10_saved_80 (lv_at hl 3 rfl) ?_
            obtain ⟨b_82, hF⟩ := inb_el hF
            refine va_iald hx hb hc.1 hW.1 1 0 rfl rfl b_82 dX10_saved_82 ?_
            refine lv_iadd hx hb dX10_saved_83 ?_
            refine lv_istore_n (lv' := [(3, .int ((x3_64 + (a_boat (Int32.toNatClampNeg x4_64))))), (0, .ref h_this), (2, .int x2_61), (4, .int x4_64)]) hx hb dX10_saved_84 rfl hl (by decide) rfl (fun ls hl => ?_)
            refine lv_iinc (v := (x4_64 + 1)) (lv' := [(4, .int ((x4_64 + 1))), (3, .int ((x3_64 + (a_boat (Int32.toNatClampNeg x4_64))))), (0, .ref h_this), (2, .int x2_61)]) hx hb dX10_saved_85 hl (k := 3) rfl rfl (by decide) rfl (fun ls hl => ?_)
            refine lv_goto (tgt := 64) hx hb dX10_saved_88 (by decide) ?_
            exact ih ((x3_64 + (a_boat (Int32.toNatClampNeg x4_64)))) ((x4_64 + 1)) _ _ _ hF (lv_sub hl [2, 3, 1, 0] rfl) hW
      exact L_64 5000 x3_61 0 _ _ _ hF (lv_sub hl [1, 2, 3, 0] rfl) hW
    have L_19 : ∀ (n : Nat) (x2_19 : Int32) (x3_19 : Int32) (x4_19 : Int32) (ls : Array Slot) (H : Heap) (locs : List Loc), L_X10_saved_19 x1 a_houses a_minutes a_people k_61 n x2_19 x3_19 x4_19 = some out → lv_has ls 5 [(0, .ref h_this), (1, .int x1), (2, .int x2_19), (3, .int x3_19), (4, .int x4_19)] → Wd G A s.heap [(h_this, oX10 ad_this v_typed v_at v_isSo v_kept v_all v_sightAll v_aheadMany), ((ad_this 9), cI G 8 a_boat), ((ad_this 8), cI G 2 a_boats), ((ad_this 5), cI G 2 a_houses), ((ad_this 7), cI G 12 a_minutes), ((ad_this 6), cI G 12 a_people)] H locs → W p l e ({ frames := 1, cells := 0, slots := 0, locals := 22 } : Room) s m args below meth c H locs 0 0 Q (F0 m 19 ls []) := by
      intro n
      induction n with
      | zero => intro x2_19 x3_19 x4_19 ls H locs hF hl hW; have h0 : none = some out := hF; cases h0
      | succ n ih =>
        intro x2_19 x3_19 x4_19 ls H locs hF hl hW
        rw [L_X10_saved_19] at hF
        refine lv_iload hx hb dX10_saved_19 (lv_at hl 4 rfl) ?_
        refine lv_aload_n hx hb dX10_saved_21 rfl (lv_at hl 0 rfl) ?_
        refine va_get (D := G.1) (ci := 9) (v := .ref ((ad_this 5))) (C := RX10) (T := TX10) (N := 31) hx hb hg hu_X10 hown hc.1 hW.1 0 rfl rfl 5 (by decide) (hg _ wd_4_43) (fun _ h9 => h9) rfl dX10_saved_22 ?_
        refine lv_iconst (v := 0) hx hb dX10_saved_25 (by decide) ?_
        have b_26 : vp_in 0 2 := inb_vp (by decide)
        refine va_iald hx hb hc.1 hW.1 3 0 rfl rfl b_26 dX10_saved_26 ?_
        refine lv_icmp_ge (tgt := 61) hx hb dX10_saved_27 (by decide) (fun c_27 => ?_) (fun c_27 => ?_)
        · have hF := ite_t hF c_27
          exact J_61 x2_19 x3_19 _ _ _ hF (lv_sub hl [0, 2, 3] rfl) hW
        · have hF := ite_f hF c_27
          refine lv_iload_n hx hb dX10_saved_30 rfl (lv_at hl 2 rfl) ?_
          refine lv_aload_n hx hb dX10_saved_31 rfl (lv_at hl 0 rfl) ?_
          refine va_get (D := G.1) (ci := 9) (v := .ref ((ad_this 7))) (C := RX10) (T := TX10) (N := 31) hx hb hg hu_X10 hown hc.1 hW.1 0 rfl rfl 7 (by decide) (hg _ wd_4_45) (fun _ h9 => h9) rfl dX10_saved_32 ?_
          refine lv_iload hx hb dX10_saved_35 (lv_at hl 4 rfl) ?_
          obtain ⟨b_37, hF⟩ := inb_el hF
          refine va_iald hx hb hc.1 hW.1 4 0 rfl rfl b_37 dX10_saved_37 ?_
          refine lv_iload_n hx hb dX10_saved_38 rfl (lv_at hl 1 rfl) ?_
          obtain ⟨k_53, e_53, hF⟩ := jn_el hF
          have J_53 : ∀ (j0_53 : Int32) (ls : Array Slot) (H : Heap) (locs : List Loc), k_53 j0_53 = some out → lv_has ls 5 [(0, .ref h_this), (1, .int x1), (3, .int x3_19), (4, .int x4_19)] → Wd G A s.heap [(h_this, oX10 ad_this v_typed v_at v_isSo v_kept v_all v_sightAll v_aheadMany), ((ad_this 9), cI G 8 a_boat), ((ad_this 8), cI G 2 a_boats), ((ad_this 5), cI G 2 a_houses), ((ad_this 7), cI G 12 a_minutes), ((ad_this 6), cI G 12 a_people)] H locs → W p l e ({ frames := 1, cells := 0, slots := 0, locals := 22 } : Room) s m args below meth c H locs 0 0 Q (F0 m 53 ls [.int j0_53, .int x2_19]) := by
            intro j0_53 ls H locs hF hl hW
            rw [e_53] at hF
            dsimp only at hF
            refine lv_iadd hx hb dX10_saved_53 ?_
            refine lv_istore_n (lv' := [(2, .int ((x2_19 + j0_53))), (0, .ref h_this), (1, .int x1), (3, .int x3_19), (4, .int x4_19)]) hx hb dX10_saved_54 rfl hl (by decide) rfl (fun ls hl => ?_)
            refine lv_iinc (v := (x4_19 + 1)) (lv' := [(4, .int ((x4_19 + 1))), (2, .int ((x2_19 + j0_53))), (0, .ref h_this), (1, .int x1), (3, .int x3_19)]) hx hb dX10_saved_55 hl (k := 4) rfl rfl (by decide) rfl (fun ls hl => ?_)
            refine lv_goto (tgt := 19) hx hb dX10_saved_58 (by decide) ?_
            exact ih ((x2_19 + j0_53)) x3_19 ((x4_19 + 1)) _ _ _ hF (lv_sub hl [2, 3, 1, 4, 0] rfl) hW
          refine lv_icmp_gt (tgt := 52) hx hb dX10_saved_39 (by decide) (fun c_39 => ?_) (fun c_39 => ?_)
          · have hF := ite_t hF c_39
            refine lv_iconst (v := 0) hx hb dX10_saved_52 (by decide) ?_
            exact J_53 0 _ _ _ hF (lv_sub hl [0, 1, 3, 4] rfl) hW
          · have hF := ite_f hF c_39
            refine lv_aload_n hx hb dX10_saved_42 rfl (lv_at hl 0 rfl) ?_
            refine va_get (D := G.1) (ci := 9) (v := .ref ((ad_this 6))) (C := RX10) (T := TX10) (N := 31) hx hb hg hu_X10 hown hc.1 hW.1 0 rfl rfl 6 (by decide) (hg _ wd_4_44) (fun _ h9 => h9) rfl dX10_saved_43 ?_
            refine lv_iload hx hb dX10_saved_46 (lv_at hl 4 rfl) ?_
            obtain ⟨b_48, hF⟩ := inb_el hF
            refine va_iald hx hb hc.1 hW.1 5 0 rfl rfl b_48 dX10_saved_48 ?_
            refine lv_goto (tgt := 53) hx hb dX10_saved_49 (by decide) ?_
            exact J_53 ((a_people (Int32.toNatClampNeg x4_19))) _ _ _ hF (lv_sub hl [0, 1, 3, 4] rfl) hW
    exact L_19 5000 0 0 0 _ _ _ hF (lv_sub hl [3, 4, 2, 1, 0] rfl) hW
  · have hF := ite_t hF c_7
    refine lv_iconst (v := (-1)) hx hb dX10_saved_10 (by decide) ?_
    obtain rfl := Option.some.inj hF
    exact hret _ _ _ _ hW dX10_saved_11
theorem dX10_manyOf_0 : decode cX10_manyOf 0 = .ok (.iconst 0, 1) := by decide +kernel
theorem dX10_manyOf_1 : decode cX10_manyOf 1 = .ok (.istore_n 1, 1) := by decide +kernel
theorem dX10_manyOf_2 : decode cX10_manyOf 2 = .ok (.iconst 0, 1) := by decide +kernel
theorem dX10_manyOf_3 : decode cX10_manyOf 3 = .ok (.istore_n 2, 1) := by decide +kernel
theorem dX10_manyOf_4 : decode cX10_manyOf 4 = .ok (.iload_n 2, 1) := by decide +kernel
theorem dX10_manyOf_5 : decode cX10_manyOf 5 = .ok (.bipush 8, 2) := by decide +kernel
theorem dX10_manyOf_7 : decode cX10_manyOf 7 = .ok (.if_icmp .ge 17, 3) := by decide +kernel
theorem dX10_manyOf_10 : decode cX10_manyOf 10 = .ok (.iload_n 1, 1) := by decide +kernel
theorem dX10_manyOf_11 : decode cX10_manyOf 11 = .ok (.iload_n 0, 1) := by decide +kernel
theorem dX10_manyOf_12 : decode cX10_manyOf 12 = .ok (.iload_n 2, 1) := by decide +kernel
theorem dX10_manyOf_13 : decode cX10_manyOf 13 = .ok (.ishr, 1) := by decide +kernel
theorem dX10_manyOf_14 : decode cX10_manyOf 14 = .ok (.iconst 1, 1) := by decide +kernel
theorem dX10_manyOf_15 : decode cX10_manyOf 15 = .ok (.iand, 1) := by decide +kernel
theorem dX10_manyOf_16 : decode cX10_manyOf 16 = .ok (.iadd, 1) := by decide +kernel
theorem dX10_manyOf_17 : decode cX10_manyOf 17 = .ok (.istore_n 1, 1) := by decide +kernel
theorem dX10_manyOf_18 : decode cX10_manyOf 18 = .ok (.iinc 2 1, 3) := by decide +kernel
theorem dX10_manyOf_21 : decode cX10_manyOf 21 = .ok (.goto (-17), 3) := by decide +kernel
theorem dX10_manyOf_24 : decode cX10_manyOf 24 = .ok (.iload_n 1, 1) := by decide +kernel
theorem dX10_manyOf_25 : decode cX10_manyOf 25 = .ok (.ireturn, 1) := by decide +kernel
def L_X10_manyOf_4 (x0 : Int32)  : Nat → Int32 → Int32 → Option (Int32)
  | 0, _, _ => none
  | n + 1, x1_4, x2_4 => (if 8 ≤ x2_4 then some (x1_4) else L_X10_manyOf_4 x0 n ((x1_4 + ((x0 >>> (x2_4 &&& 31)) &&& 1))) ((x2_4 + 1)))
def F_X10_manyOf (x0 : Int32) : Option (Int32) := L_X10_manyOf_4 x0 5000 0 0
theorem hdS_X10_manyOf : yX10_manyOf.cls ≠ "java/lang/invoke/MethodHandle" ∧ yX10_manyOf.cls ≠ "java/lang/invoke/VarHandle" ∧ (parseMethodDescriptor yX10_manyOf.desc).map (fun d => d.parameters.length) = some 1 := by decide +kernel
set_option maxHeartbeats 4000000 in
set_option maxRecDepth 100000 in
theorem c_X10_manyOf (l : Launch) (G : GG) (x0 : Int32) (out : Int32) (hF : F_X10_manyOf x0 = some out) : CtrI l yX10_manyOf (WS yX10_manyOf cX10_manyOf 3 (some .int)) { frames := 0, cells := 0, slots := 0, locals := 0 } G [.int x0] [] [] out := by
  refine startI (cc := cX10_manyOf) (maxL := 3) (by decide) rfl (Nat.le_of_ble_eq_true rfl) ?_
  intro p e s m args below meth c A Q hx hb hml hts hown hc hA hret ls H locs hl hW
  have hown : s.vm.findClass RX10 = some m.cls := hown
  have hg : ∀ w ∈ GOODS, w.before _ s = true := fun w h => hts w (List.mem_cons_of_mem _ h)
  have hl : lv_has ls 3 [(0, .int x0)] := hl
  rw [F_X10_manyOf] at hF
  refine lv_iconst (v := 0) hx hb dX10_manyOf_0 (by decide) ?_
  refine lv_istore_n (lv' := [(1, .int 0), (0, .int x0)]) hx hb dX10_manyOf_1 rfl hl (by decide) rfl (fun ls hl => ?_)
  refine lv_iconst (v := 0) hx hb dX10_manyOf_2 (by decide) ?_
  refine lv_istore_n (lv' := [(2, .int 0), (1, .int 0), (0, .int x0)]) hx hb dX10_manyOf_3 rfl hl (by decide) rfl (fun ls hl => ?_)
  have L_4 : ∀ (n : Nat) (x1_4 : Int32) (x2_4 : Int32) (ls : Array Slot) (H : Heap) (locs : List Loc), L_X10_manyOf_4 x0 n x1_4 x2_4 = some out → lv_has ls 3 [(0, .int x0), (1, .int x1_4), (2, .int x2_4)] → Wd G A s.heap [] H locs → W p l e ({ frames := 0, cells := 0, slots := 0, locals := 0 } : Room) s m args below meth c H locs 0 0 Q (F0 m 4 ls []) := by
    intro n
    induction n with
    | zero => intro x1_4 x2_4 ls H locs hF hl hW; have h0 : none = some out := hF; cases h0
    | succ n ih =>
      intro x1_4 x2_4 ls H locs hF hl hW
      rw [L_X10_manyOf_4] at hF
      refine lv_iload_n hx hb dX10_manyOf_4 rfl (lv_at hl 2 rfl) ?_
      refine lv_bipush (v := 8) hx hb dX10_manyOf_5 (by decide) ?_
      refine lv_icmp_ge (tgt := 24) hx hb dX10_manyOf_7 (by decide) (fun c_7 => ?_) (fun c_7 => ?_)
      · have hF := ite_t hF c_7
        refine lv_iload_n hx hb dX10_manyOf_24 rfl (lv_at hl 1 rfl) ?_
        obtain rfl := Option.some.inj hF
        exact hret _ _ _ _ hW dX10_manyOf_25
      · have hF := ite_f hF c_7
        refine lv_iload_n hx hb dX10_manyOf_10 rfl (lv_at hl 1 rfl) ?_
        refine lv_iload_n hx hb dX10_manyOf_11 rfl (lv_at hl 0 rfl) ?_
        refine lv_iload_n hx hb dX10_manyOf_12 rfl (lv_at hl 2 rfl) ?_
        refine lv_ishr hx hb dX10_manyOf_13 ?_
        refine lv_iconst (v := 1) hx hb dX10_manyOf_14 (by decide) ?_
        refine lv_iand hx hb dX10_manyOf_15 ?_
        refine lv_iadd hx hb dX10_manyOf_16 ?_
        refine lv_istore_n (lv' := [(1, .int ((x1_4 + ((x0 >>> (x2_4 &&& 31)) &&& 1)))), (0, .int x0), (2, .int x2_4)]) hx hb dX10_manyOf_17 rfl hl (by decide) rfl (fun ls hl => ?_)
        refine lv_iinc (v := (x2_4 + 1)) (lv' := [(2, .int ((x2_4 + 1))), (1, .int ((x1_4 + ((x0 >>> (x2_4 &&& 31)) &&& 1)))), (0, .int x0)]) hx hb dX10_manyOf_18 hl (k := 2) rfl rfl (by decide) rfl (fun ls hl => ?_)
        refine lv_goto (tgt := 4) hx hb dX10_manyOf_21 (by decide) ?_
        exact ih ((x1_4 + ((x0 >>> (x2_4 &&& 31)) &&& 1))) ((x2_4 + 1)) _ _ _ hF (lv_sub hl [2, 1, 0] rfl) hW
  exact L_4 5000 0 0 _ _ _ hF (lv_sub hl [2, 1, 0] rfl) hW
theorem dX10_boatsOf_0 : decode cX10_boatsOf 0 = .ok (.iconst 0, 1) := by decide +kernel
theorem dX10_boatsOf_1 : decode cX10_boatsOf 1 = .ok (.istore_n 2, 1) := by decide +kernel
theorem dX10_boatsOf_2 : decode cX10_boatsOf 2 = .ok (.iconst 1, 1) := by decide +kernel
theorem dX10_boatsOf_3 : decode cX10_boatsOf 3 = .ok (.istore_n 3, 1) := by decide +kernel
theorem dX10_boatsOf_4 : decode cX10_boatsOf 4 = .ok (.iconst 0, 1) := by decide +kernel
theorem dX10_boatsOf_5 : decode cX10_boatsOf 5 = .ok (.istore 4, 2) := by decide +kernel
theorem dX10_boatsOf_7 : decode cX10_boatsOf 7 = .ok (.iload 4, 2) := by decide +kernel
theorem dX10_boatsOf_9 : decode cX10_boatsOf 9 = .ok (.iconst 4, 1) := by decide +kernel
theorem dX10_boatsOf_10 : decode cX10_boatsOf 10 = .ok (.if_icmp .ge 121, 3) := by decide +kernel
theorem dX10_boatsOf_13 : decode cX10_boatsOf 13 = .ok (.iconst 0, 1) := by decide +kernel
theorem dX10_boatsOf_14 : decode cX10_boatsOf 14 = .ok (.istore 5, 2) := by decide +kernel
theorem dX10_boatsOf_16 : decode cX10_boatsOf 16 = .ok (.iload_n 1, 1) := by decide +kernel
theorem dX10_boatsOf_17 : decode cX10_boatsOf 17 = .ok (.istore 6, 2) := by decide +kernel
theorem dX10_boatsOf_19 : decode cX10_boatsOf 19 = .ok (.aload_n 0, 1) := by decide +kernel
theorem dX10_boatsOf_20 : decode cX10_boatsOf 20 = .ok (.getfield 23, 3) := by decide +kernel
theorem dX10_boatsOf_23 : decode cX10_boatsOf 23 = .ok (.iconst 0, 1) := by decide +kernel
theorem dX10_boatsOf_24 : decode cX10_boatsOf 24 = .ok (.iaload, 1) := by decide +kernel
theorem dX10_boatsOf_25 : decode cX10_boatsOf 25 = .ok (.iconst 1, 1) := by decide +kernel
theorem dX10_boatsOf_26 : decode cX10_boatsOf 26 = .ok (.isub, 1) := by decide +kernel
theorem dX10_boatsOf_27 : decode cX10_boatsOf 27 = .ok (.istore 7, 2) := by decide +kernel
theorem dX10_boatsOf_29 : decode cX10_boatsOf 29 = .ok (.iload 7, 2) := by decide +kernel
theorem dX10_boatsOf_31 : decode cX10_boatsOf 31 = .ok (.ifCond .lt 40, 3) := by decide +kernel
theorem dX10_boatsOf_34 : decode cX10_boatsOf 34 = .ok (.iload 5, 2) := by decide +kernel
theorem dX10_boatsOf_36 : decode cX10_boatsOf 36 = .ok (.iload 6, 2) := by decide +kernel
theorem dX10_boatsOf_38 : decode cX10_boatsOf 38 = .ok (.iconst 4, 1) := by decide +kernel
theorem dX10_boatsOf_39 : decode cX10_boatsOf 39 = .ok (.irem, 1) := by decide +kernel
theorem dX10_boatsOf_40 : decode cX10_boatsOf 40 = .ok (.iload 4, 2) := by decide +kernel
theorem dX10_boatsOf_42 : decode cX10_boatsOf 42 = .ok (.if_icmp .ne 13, 3) := by decide +kernel
theorem dX10_boatsOf_45 : decode cX10_boatsOf 45 = .ok (.aload_n 0, 1) := by decide +kernel
theorem dX10_boatsOf_46 : decode cX10_boatsOf 46 = .ok (.getfield 26, 3) := by decide +kernel
theorem dX10_boatsOf_49 : decode cX10_boatsOf 49 = .ok (.iload 7, 2) := by decide +kernel
theorem dX10_boatsOf_51 : decode cX10_boatsOf 51 = .ok (.iaload, 1) := by decide +kernel
theorem dX10_boatsOf_52 : decode cX10_boatsOf 52 = .ok (.goto 4, 3) := by decide +kernel
theorem dX10_boatsOf_55 : decode cX10_boatsOf 55 = .ok (.iconst 0, 1) := by decide +kernel
theorem dX10_boatsOf_56 : decode cX10_boatsOf 56 = .ok (.iadd, 1) := by decide +kernel
theorem dX10_boatsOf_57 : decode cX10_boatsOf 57 = .ok (.istore 5, 2) := by decide +kernel
theorem dX10_boatsOf_59 : decode cX10_boatsOf 59 = .ok (.iload 6, 2) := by decide +kernel
theorem dX10_boatsOf_61 : decode cX10_boatsOf 61 = .ok (.iconst 4, 1) := by decide +kernel
theorem dX10_boatsOf_62 : decode cX10_boatsOf 62 = .ok (.idiv, 1) := by decide +kernel
theorem dX10_boatsOf_63 : decode cX10_boatsOf 63 = .ok (.istore 6, 2) := by decide +kernel
theorem dX10_boatsOf_65 : decode cX10_boatsOf 65 = .ok (.iinc 7 (-1), 3) := by decide +kernel
theorem dX10_boatsOf_68 : decode cX10_boatsOf 68 = .ok (.goto (-39), 3) := by decide +kernel
theorem dX10_boatsOf_71 : decode cX10_boatsOf 71 = .ok (.iload_n 3, 1) := by decide +kernel
theorem dX10_boatsOf_72 : decode cX10_boatsOf 72 = .ok (.ifCond .eq 35, 3) := by decide +kernel
theorem dX10_boatsOf_75 : decode cX10_boatsOf 75 = .ok (.iload 5, 2) := by decide +kernel
theorem dX10_boatsOf_77 : decode cX10_boatsOf 77 = .ok (.ifCond .eq 26, 3) := by decide +kernel
theorem dX10_boatsOf_80 : decode cX10_boatsOf 80 = .ok (.iload 4, 2) := by decide +kernel
theorem dX10_boatsOf_82 : decode cX10_boatsOf 82 = .ok (.aload_n 0, 1) := by decide +kernel
theorem dX10_boatsOf_83 : decode cX10_boatsOf 83 = .ok (.getfield 32, 3) := by decide +kernel
theorem dX10_boatsOf_86 : decode cX10_boatsOf 86 = .ok (.iconst 0, 1) := by decide +kernel
theorem dX10_boatsOf_87 : decode cX10_boatsOf 87 = .ok (.iaload, 1) := by decide +kernel
theorem dX10_boatsOf_88 : decode cX10_boatsOf 88 = .ok (.if_icmp .ge 19, 3) := by decide +kernel
theorem dX10_boatsOf_91 : decode cX10_boatsOf 91 = .ok (.iload 5, 2) := by decide +kernel
theorem dX10_boatsOf_93 : decode cX10_boatsOf 93 = .ok (.aload_n 0, 1) := by decide +kernel
theorem dX10_boatsOf_94 : decode cX10_boatsOf 94 = .ok (.getfield 35, 3) := by decide +kernel
theorem dX10_boatsOf_97 : decode cX10_boatsOf 97 = .ok (.iload 4, 2) := by decide +kernel
theorem dX10_boatsOf_99 : decode cX10_boatsOf 99 = .ok (.iaload, 1) := by decide +kernel
theorem dX10_boatsOf_100 : decode cX10_boatsOf 100 = .ok (.if_icmp .gt 7, 3) := by decide +kernel
theorem dX10_boatsOf_103 : decode cX10_boatsOf 103 = .ok (.iconst 1, 1) := by decide +kernel
theorem dX10_boatsOf_104 : decode cX10_boatsOf 104 = .ok (.goto 4, 3) := by decide +kernel
theorem dX10_boatsOf_107 : decode cX10_boatsOf 107 = .ok (.iconst 0, 1) := by decide +kernel
theorem dX10_boatsOf_108 : decode cX10_boatsOf 108 = .ok (.istore_n 3, 1) := by decide +kernel
theorem dX10_boatsOf_109 : decode cX10_boatsOf 109 = .ok (.iload_n 2, 1) := by decide +kernel
theorem dX10_boatsOf_110 : decode cX10_boatsOf 110 = .ok (.iload 5, 2) := by decide +kernel
theorem dX10_boatsOf_112 : decode cX10_boatsOf 112 = .ok (.ifCond .le 10, 3) := by decide +kernel
theorem dX10_boatsOf_115 : decode cX10_boatsOf 115 = .ok (.iconst 1, 1) := by decide +kernel
theorem dX10_boatsOf_116 : decode cX10_boatsOf 116 = .ok (.iload 4, 2) := by decide +kernel
theorem dX10_boatsOf_118 : decode cX10_boatsOf 118 = .ok (.ishl, 1) := by decide +kernel
theorem dX10_boatsOf_119 : decode cX10_boatsOf 119 = .ok (.goto 4, 3) := by decide +kernel
theorem dX10_boatsOf_122 : decode cX10_boatsOf 122 = .ok (.iconst 0, 1) := by decide +kernel
theorem dX10_boatsOf_123 : decode cX10_boatsOf 123 = .ok (.ior, 1) := by decide +kernel
theorem dX10_boatsOf_124 : decode cX10_boatsOf 124 = .ok (.istore_n 2, 1) := by decide +kernel
theorem dX10_boatsOf_125 : decode cX10_boatsOf 125 = .ok (.iinc 4 1, 3) := by decide +kernel
theorem dX10_boatsOf_128 : decode cX10_boatsOf 128 = .ok (.goto (-121), 3) := by decide +kernel
theorem dX10_boatsOf_131 : decode cX10_boatsOf 131 = .ok (.iload_n 3, 1) := by decide +kernel
theorem dX10_boatsOf_132 : decode cX10_boatsOf 132 = .ok (.ifCond .eq 7, 3) := by decide +kernel
theorem dX10_boatsOf_135 : decode cX10_boatsOf 135 = .ok (.iload_n 2, 1) := by decide +kernel
theorem dX10_boatsOf_136 : decode cX10_boatsOf 136 = .ok (.goto 4, 3) := by decide +kernel
theorem dX10_boatsOf_139 : decode cX10_boatsOf 139 = .ok (.iconst 0, 1) := by decide +kernel
theorem dX10_boatsOf_140 : decode cX10_boatsOf 140 = .ok (.ireturn, 1) := by decide +kernel
def L_X10_boatsOf_29 (a_people : Nat → Int32) (x4_7 : Int32) (k_71 : Int32 → Option (Int32)) : Nat → Int32 → Int32 → Int32 → Option (Int32)
  | 0, _, _, _ => none
  | n + 1, x5_29, x6_29, x7_29 => (if x7_29 < 0 then k_71 x5_29 else jn (fun (j0_56 : Int32) => L_X10_boatsOf_29 a_people x4_7 k_71 n ((x5_29 + j0_56)) ((x6_29 / 4)) ((x7_29 + (-1)))) (fun k_56 => (if (x6_29 - x6_29 / 4 * 4) = x4_7 then (if inb x7_29 12 = true then k_56 ((a_people (Int32.toNatClampNeg x7_29))) else none) else k_56 0)))
def L_X10_boatsOf_7 (x1 : Int32) (a_boat : Nat → Int32) (a_boats : Nat → Int32) (a_houses : Nat → Int32) (a_people : Nat → Int32) (k_131 : Int32 → Int32 → Option (Int32)) : Nat → Int32 → Int32 → Int32 → Option (Int32)
  | 0, _, _, _ => none
  | n + 1, x2_7, x3_7, x4_7 => (if 4 ≤ x4_7 then k_131 x2_7 x3_7 else jn (fun (x5_71 : Int32) => jn (fun (j0_108 : Int32) => jn (fun (j0_123 : Int32) => L_X10_boatsOf_7 x1 a_boat a_boats a_houses a_people k_131 n ((x2_7 ||| j0_123)) j0_108 ((x4_7 + 1))) (fun k_123 => (if x5_71 ≤ 0 then k_123 0 else k_123 (((1 : Int32) <<< (x4_7 &&& 31)))))) (fun k_108 => jn (k_108 0) (fun k_107 => (if x3_7 = 0 then k_107 else jn (k_108 1) (fun k_103 => (if x5_71 = 0 then k_103 else (if (a_boats (Int32.toNatClampNeg 0)) ≤ x4_7 then k_107 else (if inb x4_7 8 = true then (if (a_boat (Int32.toNatClampNeg x4_7)) < x5_71 then k_107 else k_103) else none)))))))) (fun k_71 => L_X10_boatsOf_29 a_people x4_7 k_71 5000 0 x1 (((a_houses (Int32.toNatClampNeg 0)) - 1))))
def F_X10_boatsOf (x1 : Int32) (a_boat : Nat → Int32) (a_boats : Nat → Int32) (a_houses : Nat → Int32) (a_people : Nat → Int32) : Option (Int32) := jn (fun (x2_131 : Int32) (x3_131 : Int32) => (if x3_131 = 0 then some (0) else some (x2_131))) (fun k_131 => L_X10_boatsOf_7 x1 a_boat a_boats a_houses a_people k_131 5000 0 1 0)
theorem hdV_X10_boatsOf : yX10_boatsOf.cls = RX10 ∧ yX10_boatsOf.cls ≠ "java/lang/invoke/MethodHandle" ∧ yX10_boatsOf.cls ≠ "java/lang/invoke/VarHandle" ∧ (parseMethodDescriptor yX10_boatsOf.desc).map (fun d => d.parameters.length) = some 1 := by decide +kernel
set_option maxHeartbeats 4000000 in
set_option maxRecDepth 100000 in
theorem c_X10_boatsOf (l : Launch) (G : GG) (x1 : Int32) (h_this : Nat) (ad_this : Nat → Nat) (v_typed : Int32) (v_at : Int32) (v_isSo : Int32) (v_kept : Int32) (v_all : Int64) (v_sightAll : Int64) (v_aheadMany : Int32) (a_boat : Nat → Int32) (a_boats : Nat → Int32) (a_houses : Nat → Int32) (a_people : Nat → Int32) (out : Int32) (hF : F_X10_boatsOf x1 a_boat a_boats a_houses a_people = some out) : CtrI l yX10_boatsOf (WS yX10_boatsOf cX10_boatsOf 8 (some .int)) { frames := 0, cells := 0, slots := 0, locals := 0 } G [.ref h_this, .int x1] [(h_this, oX10 ad_this v_typed v_at v_isSo v_kept v_all v_sightAll v_aheadMany), ((ad_this 9), cI G 8 a_boat), ((ad_this 8), cI G 2 a_boats), ((ad_this 5), cI G 2 a_houses), ((ad_this 6), cI G 12 a_people)] [(h_this, oX10 ad_this v_typed v_at v_isSo v_kept v_all v_sightAll v_aheadMany), ((ad_this 9), cI G 8 a_boat), ((ad_this 8), cI G 2 a_boats), ((ad_this 5), cI G 2 a_houses), ((ad_this 6), cI G 12 a_people)] out := by
  refine startI (cc := cX10_boatsOf) (maxL := 8) (by decide) rfl (Nat.le_of_ble_eq_true rfl) ?_
  intro p e s m args below meth c A Q hx hb hml hts hown hc hA hret ls H locs hl hW
  have hown : s.vm.findClass RX10 = some m.cls := hown
  have hg : ∀ w ∈ GOODS, w.before _ s = true := fun w h => hts w (List.mem_cons_of_mem _ h)
  have hl : lv_has ls 8 [(0, .ref h_this), (1, .int x1)] := hl
  rw [F_X10_boatsOf] at hF
  refine lv_iconst (v := 0) hx hb dX10_boatsOf_0 (by decide) ?_
  refine lv_istore_n (lv' := [(2, .int 0), (0, .ref h_this), (1, .int x1)]) hx hb dX10_boatsOf_1 rfl hl (by decide) rfl (fun ls hl => ?_)
  refine lv_iconst (v := 1) hx hb dX10_boatsOf_2 (by decide) ?_
  refine lv_istore_n (lv' := [(3, .int 1), (2, .int 0), (0, .ref h_this), (1, .int x1)]) hx hb dX10_boatsOf_3 rfl hl (by decide) rfl (fun ls hl => ?_)
  refine lv_iconst (v := 0) hx hb dX10_boatsOf_4 (by decide) ?_
  refine lv_istore (lv' := [(4, .int 0), (3, .int 1), (2, .int 0), (0, .ref h_this), (1, .int x1)]) hx hb dX10_boatsOf_5 hl (by decide) rfl (fun ls hl => ?_)
  obtain ⟨k_131, e_131, hF⟩ := jn_el hF
  have J_131 : ∀ (x2_131 : Int32) (x3_131 : Int32) (ls : Array Slot) (H : Heap) (locs : List Loc), k_131 x2_131 x3_131 = some out → lv_has ls 8 [(2, .int x2_131), (3, .int x3_131)] → Wd G A s.heap [(h_this, oX10 ad_this v_typed v_at v_isSo v_kept v_all v_sightAll v_aheadMany), ((ad_this 9), cI G 8 a_boat), ((ad_this 8), cI G 2 a_boats), ((ad_this 5), cI G 2 a_houses), ((ad_this 6), cI G 12 a_people)] H locs → W p l e ({ frames := 0, cells := 0, slots := 0, locals := 0 } : Room) s m args below meth c H locs 0 0 Q (F0 m 131 ls []) := by
    intro x2_131 x3_131 ls H locs hF hl hW
    rw [e_131] at hF
    dsimp only at hF
    refine lv_iload_n hx hb dX10_boatsOf_131 rfl (lv_at hl 1 rfl) ?_
    refine lv_if_eq (tgt := 139) hx hb dX10_boatsOf_132 (by decide) (fun c_132 => ?_) (fun c_132 => ?_)
    · have hF := ite_t hF c_132
      refine lv_iconst (v := 0) hx hb dX10_boatsOf_139 (by decide) ?_
      obtain rfl := Option.some.inj hF
      exact hret _ _ _ _ hW dX10_boatsOf_140
    · have hF := ite_f hF c_132
      refine lv_iload_n hx hb dX10_boatsOf_135 rfl (lv_at hl 0 rfl) ?_
      refine lv_goto (tgt := 140) hx hb dX10_boatsOf_136 (by decide) ?_
      obtain rfl := Option.some.inj hF
      exact hret _ _ _ _ hW dX10_boatsOf_140
  have L_7 : ∀ (n : Nat) (x2_7 : Int32) (x3_7 : Int32) (x4_7 : Int32) (ls : Array Slot) (H : Heap) (locs : List Loc), L_X10_boatsOf_7 x1 a_boat a_boats a_houses a_people k_131 n x2_7 x3_7 x4_7 = some out → lv_has ls 8 [(0, .ref h_this), (1, .int x1), (2, .int x2_7), (3, .int x3_7), (4, .int x4_7)] → Wd G A s.heap [(h_this, oX10 ad_this v_typed v_at v_isSo v_kept v_all v_sightAll v_aheadMany), ((ad_this 9), cI G 8 a_boat), ((ad_this 8), cI G 2 a_boats), ((ad_this 5), cI G 2 a_houses), ((ad_this 6), cI G 12 a_people)] H locs → W p l e ({ frames := 0, cells := 0, slots := 0, locals := 0 } : Room) s m args below meth c H locs 0 0 Q (F0 m 7 ls []) := by
    intro n
    induction n with
    | zero => intro x2_7 x3_7 x4_7 ls H locs hF hl hW; have h0 : none = some out := hF; cases h0
    | succ n ih =>
      intro x2_7 x3_7 x4_7 ls H locs hF hl hW
      rw [L_X10_boatsOf_7] at hF
      refine lv_iload hx hb dX10_boatsOf_7 (lv_at hl 4 rfl) ?_
      refine lv_iconst (v := 4) hx hb dX10_boatsOf_9 (by decide) ?_
      refine lv_icmp_ge (tgt := 131) hx hb dX10_boatsOf_10 (by decide) (fun c_10 => ?_) (fun c_10 => ?_)
      · have hF := ite_t hF c_10
        exact J_131 x2_7 x3_7 _ _ _ hF (lv_sub hl [2, 3] rfl) hW
      · have hF := ite_f hF c_10
        refine lv_iconst (v := 0) hx hb dX10_boatsOf_13 (by decide) ?_
        refine lv_istore (lv' := [(5, .int 0), (0, .ref h_this), (1, .int x1), (2, .int x2_7), (3, .int x3_7), (4, .int x4_7)]) hx hb dX10_boatsOf_14 hl (by decide) rfl (fun ls hl => ?_)
        refine lv_iload_n hx hb dX10_boatsOf_16 rfl (lv_at hl 2 rfl) ?_
        refine lv_istore (lv' := [(6, .int x1), (5, .int 0), (0, .ref h_this), (1, .int x1), (2, .int x2_7), (3, .int x3_7), (4, .int x4_7)]) hx hb dX10_boatsOf_17 hl (by decide) rfl (fun ls hl => ?_)
        refine lv_aload_n hx hb dX10_boatsOf_19 rfl (lv_at hl 2 rfl) ?_
        refine va_get (D := G.1) (ci := 9) (v := .ref ((ad_this 5))) (C := RX10) (T := TX10) (N := 31) hx hb hg hu_X10 hown hc.1 hW.1 0 rfl rfl 5 (by decide) (hg _ wd_4_43) (fun _ h9 => h9) rfl dX10_boatsOf_20 ?_
        refine lv_iconst (v := 0) hx hb dX10_boatsOf_23 (by decide) ?_
        have b_24 : vp_in 0 2 := inb_vp (by decide)
        refine va_iald hx hb hc.1 hW.1 3 0 rfl rfl b_24 dX10_boatsOf_24 ?_
        refine lv_iconst (v := 1) hx hb dX10_boatsOf_25 (by decide) ?_
        refine lv_isub hx hb dX10_boatsOf_26 ?_
        refine lv_istore (lv' := [(7, .int (((a_houses (Int32.toNatClampNeg 0)) - 1))), (6, .int x1), (5, .int 0), (0, .ref h_this), (1, .int x1), (2, .int x2_7), (3, .int x3_7), (4, .int x4_7)]) hx hb dX10_boatsOf_27 hl (by decide) rfl (fun ls hl => ?_)
        obtain ⟨k_71, e_71, hF⟩ := jn_el hF
        have J_71 : ∀ (x5_71 : Int32) (ls : Array Slot) (H : Heap) (locs : List Loc), k_71 x5_71 = some out → lv_has ls 8 [(0, .ref h_this), (1, .int x1), (2, .int x2_7), (3, .int x3_7), (4, .int x4_7), (5, .int x5_71)] → Wd G A s.heap [(h_this, oX10 ad_this v_typed v_at v_isSo v_kept v_all v_sightAll v_aheadMany), ((ad_this 9), cI G 8 a_boat), ((ad_this 8), cI G 2 a_boats), ((ad_this 5), cI G 2 a_houses), ((ad_this 6), cI G 12 a_people)] H locs → W p l e ({ frames := 0, cells := 0, slots := 0, locals := 0 } : Room) s m args below meth c H locs 0 0 Q (F0 m 71 ls []) := by
          intro x5_71 ls H locs hF hl hW
          rw [e_71] at hF
          dsimp only at hF
          refine lv_iload_n hx hb dX10_boatsOf_71 rfl (lv_at hl 3 rfl) ?_
          obtain ⟨k_108, e_108, hF⟩ := jn_el hF
          have J_108 : ∀ (j0_108 : Int32) (ls : Array Slot) (H : Heap) (locs : List Loc), k_108 j0_108 = some out → lv_has ls 8 [(0, .ref h_this), (1, .int x1), (2, .int x2_7), (4, .int x4_7), (5, .int x5_71)] → Wd G A s.heap [(h_this, oX10 ad_this v_typed v_at v_isSo v_kept v_all v_sightAll v_aheadMany), ((ad_this 9), cI G 8 a_boat), ((ad_this 8), cI G 2 a_boats), ((ad_this 5), cI G 2 a_houses), ((ad_this 6), cI G 12 a_people)] H locs → W p l e ({ frames := 0, cells := 0, slots := 0, locals := 0 } : Room) s m args below meth c H locs 0 0 Q (F0 m 108 ls [.int j0_108]) := by
            intro j0_108 ls H locs hF hl hW
            rw [e_108] at hF
            dsimp only at hF
            refine lv_istore_n (lv' := [(3, .int j0_108), (0, .ref h_this), (1, .int x1), (2, .int x2_7), (4, .int x4_7), (5, .int x5_71)]) hx hb dX10_boatsOf_108 rfl hl (by decide) rfl (fun ls hl => ?_)
            refine lv_iload_n hx hb dX10_boatsOf_109 rfl (lv_at hl 3 rfl) ?_
            refine lv_iload hx hb dX10_boatsOf_110 (lv_at hl 5 rfl) ?_
            obtain ⟨k_123, e_123, hF⟩ := jn_el hF
            have J_123 : ∀ (j0_123 : Int32) (ls : Array Slot) (H : Heap) (locs : List Loc), k_123 j0_123 = some out → lv_has ls 8 [(0, .ref h_this), (1, .int x1), (3, .int j0_108), (4, .int x4_7)] → Wd G A s.heap [(h_this, oX10 ad_this v_typed v_at v_isSo v_kept v_all v_sightAll v_aheadMany), ((ad_this 9), cI G 8 a_boat), ((ad_this 8), cI G 2 a_boats), ((ad_this 5), cI G 2 a_houses), ((ad_this 6), cI G 12 a_people)] H locs → W p l e ({ frames := 0, cells := 0, slots := 0, locals := 0 } : Room) s m args below meth c H locs 0 0 Q (F0 m 123 ls [.int j0_123, .int x2_7]) := by
              intro j0_123 ls H locs hF hl hW
              rw [e_123] at hF
              dsimp only at hF
              refine lv_ior hx hb dX10_boatsOf_123 ?_
              refine lv_istore_n (lv' := [(2, .int ((x2_7 ||| j0_123))), (0, .ref h_this), (1, .int x1), (3, .int j0_108), (4, .int x4_7)]) hx hb dX10_boatsOf_124 rfl hl (by decide) rfl (fun ls hl => ?_)
              refine lv_iinc (v := (x4_7 + 1)) (lv' := [(4, .int ((x4_7 + 1))), (2, .int ((x2_7 ||| j0_123))), (0, .ref h_this), (1, .int x1), (3, .int j0_108)]) hx hb dX10_boatsOf_125 hl (k := 4) rfl rfl (by decide) rfl (fun ls hl => ?_)
              refine lv_goto (tgt := 7) hx hb dX10_boatsOf_128 (by decide) ?_
              exact ih ((x2_7 ||| j0_123)) j0_108 ((x4_7 + 1)) _ _ _ hF (lv_sub hl [2, 3, 1, 4, 0] rfl) hW
            refine lv_if_le (tgt := 122) hx hb dX10_boatsOf_112 (by decide) (fun c_112 => ?_) (fun c_112 => ?_)
            · have hF := ite_t hF c_112
              refine lv_iconst (v := 0) hx hb dX10_boatsOf_122 (by decide) ?_
              exact J_123 0 _ _ _ hF (lv_sub hl [1, 2, 0, 4] rfl) hW
            · have hF := ite_f hF c_112
              refine lv_iconst (v := 1) hx hb dX10_boatsOf_115 (by decide) ?_
              refine lv_iload hx hb dX10_boatsOf_116 (lv_at hl 4 rfl) ?_
              refine lv_ishl hx hb dX10_boatsOf_118 ?_
              refine lv_goto (tgt := 123) hx hb dX10_boatsOf_119 (by decide) ?_
              exact J_123 (((1 : Int32) <<< (x4_7 &&& 31))) _ _ _ hF (lv_sub hl [1, 2, 0, 4] rfl) hW
          obtain ⟨k_107, e_107, hF⟩ := jn_el hF
          have J_107 : ∀ (ls : Array Slot) (H : Heap) (locs : List Loc), k_107 = some out → lv_has ls 8 [(0, .ref h_this), (1, .int x1), (2, .int x2_7), (4, .int x4_7), (5, .int x5_71)] → Wd G A s.heap [(h_this, oX10 ad_this v_typed v_at v_isSo v_kept v_all v_sightAll v_aheadMany), ((ad_this 9), cI G 8 a_boat), ((ad_this 8), cI G 2 a_boats), ((ad_this 5), cI G 2 a_houses), ((ad_this 6), cI G 12 a_people)] H locs → W p l e ({ frames := 0, cells := 0, slots := 0, locals := 0 } : Room) s m args below meth c H locs 0 0 Q (F0 m 107 ls []) := by
            intro ls H locs hF hl hW
            rw [e_107] at hF
            refine lv_iconst (v := 0) hx hb dX10_boatsOf_107 (by decide) ?_
            exact J_108 0 _ _ _ hF (lv_sub hl [0, 1, 2, 3, 4] rfl) hW
          refine lv_if_eq (tgt := 107) hx hb dX10_boatsOf_72 (by decide) (fun c_72 => ?_) (fun c_72 => ?_)
          · have hF := ite_t hF c_72
            exact J_107 _ _ _ hF (lv_sub hl [0, 1, 2, 4, 5] rfl) hW
          · have hF := ite_f hF c_72
            refine lv_iload hx hb dX10_boatsOf_75 (lv_at hl 5 rfl) ?_
            obtain ⟨k_103, e_103, hF⟩ := jn_el hF
            have J_103 : ∀ (ls : Array Slot) (H : Heap) (locs : List Loc), k_103 = some out → lv_has ls 8 [(0, .ref h_this), (1, .int x1), (2, .int x2_7), (4, .int x4_7), (5, .int x5_71)] → Wd G A s.heap [(h_this, oX10 ad_this v_typed v_at v_isSo v_kept v_all v_sightAll v_aheadMany), ((ad_this 9), cI G 8 a_boat), ((ad_this 8), cI G 2 a_boats), ((ad_this 5), cI G 2 a_houses), ((ad_this 6), cI G 12 a_people)] H locs → W p l e ({ frames := 0, cells := 0, slots := 0, locals := 0 } : Room) s m args below meth c H locs 0 0 Q (F0 m 103 ls []) := by
              intro ls H locs hF hl hW
              rw [e_103] at hF
              refine lv_iconst (v := 1) hx hb dX10_boatsOf_103 (by decide) ?_
              refine lv_goto (tgt := 108) hx hb dX10_boatsOf_104 (by decide) ?_
              exact J_108 1 _ _ _ hF (lv_sub hl [0, 1, 2, 3, 4] rfl) hW
            refine lv_if_eq (tgt := 103) hx hb dX10_boatsOf_77 (by decide) (fun c_77 => ?_) (fun c_77 => ?_)
            · have hF := ite_t hF c_77
              exact J_103 _ _ _ hF (lv_sub hl [0, 1, 2, 4, 5] rfl) hW
            · have hF := ite_f hF c_77
              refine lv_iload hx hb dX10_boatsOf_80 (lv_at hl 4 rfl) ?_
              refine lv_aload_n hx hb dX10_boatsOf_82 rfl (lv_at hl 0 rfl) ?_
              refine va_get (D := G.1) (ci := 9) (v := .ref ((ad_this 8))) (C := RX10) (T := TX10) (N := 31) hx hb hg hu_X10 hown hc.1 hW.1 0 rfl rfl 8 (by decide) (hg _ wd_4_46) (fun _ h9 => h9) rfl dX10_boatsOf_83 ?_
              refine lv_iconst (v := 0) hx hb dX10_boatsOf_86 (by decide) ?_
              have b_87 : vp_in 0 2 := inb_vp (by decide)
              refine va_iald hx hb hc.1 hW.1 2 0 rfl rfl b_87 dX10_boatsOf_87 ?_
              refine lv_icmp_ge (tgt := 107) hx hb dX10_boatsOf_88 (by decide) (fun c_88 => ?_) (fun c_88 => ?_)
              · have hF := ite_t hF c_88
                exact J_107 _ _ _ hF (lv_sub hl [0, 1, 2, 4, 5] rfl) hW
              · have hF := ite_f hF c_88
                refine lv_iload hx hb dX10_boatsOf_91 (lv_at hl 5 rfl) ?_
                refine lv_aload_n hx hb dX10_boatsOf_93 rfl (lv_at hl 0 rfl) ?_
                refine va_get (D := G.1) (ci := 9) (v := .ref ((ad_this 9))) (C := RX10) (T := TX10) (N := 31) hx hb hg hu_X10 hown hc.1 hW.1 0 rfl rfl 9 (by decide) (hg _ wd_4_47) (fun _ h9 => h9) rfl dX10_boatsOf_94 ?_
                refine lv_iload hx hb dX10_boatsOf_97 (lv_at hl 4 rfl) ?_
                obtain ⟨b_99, hF⟩ := inb_el hF
                refine va_iald hx hb hc.1 hW.1 1 0 rfl rfl b_99 dX10_boatsOf_99 ?_
                refine lv_icmp_gt (tgt := 107) hx hb dX10_boatsOf_100 (by decide) (fun c_100 => ?_) (fun c_100 => ?_)
                · have hF := ite_t hF c_100
                  exact J_107 _ _ _ hF (lv_sub hl [0, 1, 2, 4, 5] rfl) hW
                · have hF := ite_f hF c_100
                  exact J_103 _ _ _ hF (lv_sub hl [0, 1, 2, 4, 5] rfl) hW
        have L_29 : ∀ (n : Nat) (x5_29 : Int32) (x6_29 : Int32) (x7_29 : Int32) (ls : Array Slot) (H : Heap) (locs : List Loc), L_X10_boatsOf_29 a_people x4_7 k_71 n x5_29 x6_29 x7_29 = some out → lv_has ls 8 [(0, .ref h_this), (1, .int x1), (2, .int x2_7), (3, .int x3_7), (4, .int x4_7), (5, .int x5_29), (6, .int x6_29), (7, .int x7_29)] → Wd G A s.heap [(h_this, oX10 ad_this v_typed v_at v_isSo v_kept v_all v_sightAll v_aheadMany), ((ad_this 9), cI G 8 a_boat), ((ad_this 8), cI G 2 a_boats), ((ad_this 5), cI G 2 a_houses), ((ad_this 6), cI G 12 a_people)] H locs → W p l e ({ frames := 0, cells := 0, slots := 0, locals := 0 } : Room) s m args below meth c H locs 0 0 Q (F0 m 29 ls []) := by
          intro n
          induction n with
          | zero => intro x5_29 x6_29 x7_29 ls H locs hF hl hW; have h0 : none = some out := hF; cases h0
          | succ n ih =>
            intro x5_29 x6_29 x7_29 ls H locs hF hl hW
            rw [L_X10_boatsOf_29] at hF
            refine lv_iload hx hb dX10_boatsOf_29 (lv_at hl 7 rfl) ?_
            refine lv_if_lt (tgt := 71) hx hb dX10_boatsOf_31 (by decide) (fun c_31 => ?_) (fun c_31 => ?_)
            · have hF := ite_t hF c_31
              exact J_71 x5_29 _ _ _ hF (lv_sub hl [0, 1, 2, 3, 4, 5] rfl) hW
            · have hF := ite_f hF c_31
              refine lv_iload hx hb dX10_boatsOf_34 (lv_at hl 5 rfl) ?_
              refine lv_iload hx hb dX10_boatsOf_36 (lv_at hl 6 rfl) ?_
              refine lv_iconst (v := 4) hx hb dX10_boatsOf_38 (by decide) ?_
              refine lv_irem hx hb dX10_boatsOf_39 (by decide) ?_
              refine lv_iload hx hb dX10_boatsOf_40 (lv_at hl 4 rfl) ?_
              obtain ⟨k_56, e_56, hF⟩ := jn_el hF
              have J_56 : ∀ (j0_56 : Int32) (ls : Array Slot) (H : Heap) (locs : List Loc), k_56 j0_56 = some out → lv_has ls 8 [(0, .ref h_this), (1, .int x1), (2, .int x2_7), (3, .int x3_7), (4, .int x4_7), (6, .int x6_29), (7, .int x7_29)] → Wd G A s.heap [(h_this, oX10 ad_this v_typed v_at v_isSo v_kept v_all v_sightAll v_aheadMany), ((ad_this 9), cI G 8 a_boat), ((ad_this 8), cI G 2 a_boats), ((ad_this 5), cI G 2 a_houses), ((ad_this 6), cI G 12 a_people)] H locs → W p l e ({ frames := 0, cells := 0, slots := 0, locals := 0 } : Room) s m args below meth c H locs 0 0 Q (F0 m 56 ls [.int j0_56, .int x5_29]) := by
                intro j0_56 ls H locs hF hl hW
                rw [e_56] at hF
                dsimp only at hF
                refine lv_iadd hx hb dX10_boatsOf_56 ?_
                refine lv_istore (lv' := [(5, .int ((x5_29 + j0_56))), (0, .ref h_this), (1, .int x1), (2, .int x2_7), (3, .int x3_7), (4, .int x4_7), (6, .int x6_29), (7, .int x7_29)]) hx hb dX10_boatsOf_57 hl (by decide) rfl (fun ls hl => ?_)
                refine lv_iload hx hb dX10_boatsOf_59 (lv_at hl 6 rfl) ?_
                refine lv_iconst (v := 4) hx hb dX10_boatsOf_61 (by decide) ?_
                refine lv_idiv hx hb dX10_boatsOf_62 (by decide) ?_
                refine lv_istore (lv' := [(6, .int ((x6_29 / 4))), (5, .int ((x5_29 + j0_56))), (0, .ref h_this), (1, .int x1), (2, .int x2_7), (3, .int x3_7), (4, .int x4_7), (7, .int x7_29)]) hx hb dX10_boatsOf_63 hl (by decide) rfl (fun ls hl => ?_)
                refine lv_iinc (v := (x7_29 + (-1))) (lv' := [(7, .int ((x7_29 + (-1)))), (6, .int ((x6_29 / 4))), (5, .int ((x5_29 + j0_56))), (0, .ref h_this), (1, .int x1), (2, .int x2_7), (3, .int x3_7), (4, .int x4_7)]) hx hb dX10_boatsOf_65 hl (k := 7) rfl rfl (by decide) rfl (fun ls hl => ?_)
                refine lv_goto (tgt := 29) hx hb dX10_boatsOf_68 (by decide) ?_
                exact ih ((x5_29 + j0_56)) ((x6_29 / 4)) ((x7_29 + (-1))) _ _ _ hF (lv_sub hl [3, 4, 5, 6, 7, 2, 1, 0] rfl) hW
              refine lv_icmp_ne (tgt := 55) hx hb dX10_boatsOf_42 (by decide) (fun c_42 => ?_) (fun c_42 => ?_)
              · have hF := ite_f hF c_42
                refine lv_iconst (v := 0) hx hb dX10_boatsOf_55 (by decide) ?_
                exact J_56 0 _ _ _ hF (lv_sub hl [0, 1, 2, 3, 4, 6, 7] rfl) hW
              · have hF := ite_t hF c_42
                refine lv_aload_n hx hb dX10_boatsOf_45 rfl (lv_at hl 0 rfl) ?_
                refine va_get (D := G.1) (ci := 9) (v := .ref ((ad_this 6))) (C := RX10) (T := TX10) (N := 31) hx hb hg hu_X10 hown hc.1 hW.1 0 rfl rfl 6 (by decide) (hg _ wd_4_44) (fun _ h9 => h9) rfl dX10_boatsOf_46 ?_
                refine lv_iload hx hb dX10_boatsOf_49 (lv_at hl 7 rfl) ?_
                obtain ⟨b_51, hF⟩ := inb_el hF
                refine va_iald hx hb hc.1 hW.1 4 0 rfl rfl b_51 dX10_boatsOf_51 ?_
                refine lv_goto (tgt := 56) hx hb dX10_boatsOf_52 (by decide) ?_
                exact J_56 ((a_people (Int32.toNatClampNeg x7_29))) _ _ _ hF (lv_sub hl [0, 1, 2, 3, 4, 6, 7] rfl) hW
        exact L_29 5000 0 x1 (((a_houses (Int32.toNatClampNeg 0)) - 1)) _ _ _ hF (lv_sub hl [3, 4, 5, 6, 7, 2, 1, 0] rfl) hW
  exact L_7 5000 0 1 0 _ _ _ hF (lv_sub hl [3, 4, 2, 1, 0] rfl) hW
theorem dX10_crews_0 : decode cX10_crews 0 = .ok (.iload_n 1, 1) := by decide +kernel
theorem dX10_crews_1 : decode cX10_crews 1 = .ok (.iconst (-1), 1) := by decide +kernel
theorem dX10_crews_2 : decode cX10_crews 2 = .ok (.aload_n 0, 1) := by decide +kernel
theorem dX10_crews_3 : decode cX10_crews 3 = .ok (.getfield 23, 3) := by decide +kernel
theorem dX10_crews_6 : decode cX10_crews 6 = .ok (.iconst 0, 1) := by decide +kernel
theorem dX10_crews_7 : decode cX10_crews 7 = .ok (.iaload, 1) := by decide +kernel
theorem dX10_crews_8 : decode cX10_crews 8 = .ok (.iconst 1, 1) := by decide +kernel
theorem dX10_crews_9 : decode cX10_crews 9 = .ok (.isub, 1) := by decide +kernel
theorem dX10_crews_10 : decode cX10_crews 10 = .ok (.invokestatic 99, 3) := by decide +kernel
theorem dX10_crews_13 : decode cX10_crews 13 = .ok (.ifCond .ne 5, 3) := by decide +kernel
theorem dX10_crews_16 : decode cX10_crews 16 = .ok (.iconst (-1), 1) := by decide +kernel
theorem dX10_crews_17 : decode cX10_crews 17 = .ok (.ireturn, 1) := by decide +kernel
theorem dX10_crews_18 : decode cX10_crews 18 = .ok (.iconst 0, 1) := by decide +kernel
theorem dX10_crews_19 : decode cX10_crews 19 = .ok (.istore_n 2, 1) := by decide +kernel
theorem dX10_crews_20 : decode cX10_crews 20 = .ok (.iconst 0, 1) := by decide +kernel
theorem dX10_crews_21 : decode cX10_crews 21 = .ok (.istore_n 3, 1) := by decide +kernel
theorem dX10_crews_22 : decode cX10_crews 22 = .ok (.iconst 0, 1) := by decide +kernel
theorem dX10_crews_23 : decode cX10_crews 23 = .ok (.istore 4, 2) := by decide +kernel
theorem dX10_crews_25 : decode cX10_crews 25 = .ok (.iload 4, 2) := by decide +kernel
theorem dX10_crews_27 : decode cX10_crews 27 = .ok (.iconst 1, 1) := by decide +kernel
theorem dX10_crews_28 : decode cX10_crews 28 = .ok (.iconst 2, 1) := by decide +kernel
theorem dX10_crews_29 : decode cX10_crews 29 = .ok (.aload_n 0, 1) := by decide +kernel
theorem dX10_crews_30 : decode cX10_crews 30 = .ok (.getfield 23, 3) := by decide +kernel
theorem dX10_crews_33 : decode cX10_crews 33 = .ok (.iconst 0, 1) := by decide +kernel
theorem dX10_crews_34 : decode cX10_crews 34 = .ok (.iaload, 1) := by decide +kernel
theorem dX10_crews_35 : decode cX10_crews 35 = .ok (.imul, 1) := by decide +kernel
theorem dX10_crews_36 : decode cX10_crews 36 = .ok (.ishl, 1) := by decide +kernel
theorem dX10_crews_37 : decode cX10_crews 37 = .ok (.if_icmp .ge 74, 3) := by decide +kernel
theorem dX10_crews_40 : decode cX10_crews 40 = .ok (.aload_n 0, 1) := by decide +kernel
theorem dX10_crews_41 : decode cX10_crews 41 = .ok (.iload 4, 2) := by decide +kernel
theorem dX10_crews_43 : decode cX10_crews 43 = .ok (.invokevirtual 221, 3) := by decide +kernel
theorem dX10_crews_46 : decode cX10_crews 46 = .ok (.istore 5, 2) := by decide +kernel
theorem dX10_crews_48 : decode cX10_crews 48 = .ok (.iload_n 2, 1) := by decide +kernel
theorem dX10_crews_49 : decode cX10_crews 49 = .ok (.ifCond .eq 33, 3) := by decide +kernel
theorem dX10_crews_52 : decode cX10_crews 52 = .ok (.iload 5, 2) := by decide +kernel
theorem dX10_crews_54 : decode cX10_crews 54 = .ok (.invokestatic 224, 3) := by decide +kernel
theorem dX10_crews_57 : decode cX10_crews 57 = .ok (.iload_n 2, 1) := by decide +kernel
theorem dX10_crews_58 : decode cX10_crews 58 = .ok (.invokestatic 224, 3) := by decide +kernel
theorem dX10_crews_61 : decode cX10_crews 61 = .ok (.if_icmp .lt 21, 3) := by decide +kernel
theorem dX10_crews_64 : decode cX10_crews 64 = .ok (.iload 5, 2) := by decide +kernel
theorem dX10_crews_66 : decode cX10_crews 66 = .ok (.invokestatic 224, 3) := by decide +kernel
theorem dX10_crews_69 : decode cX10_crews 69 = .ok (.iload_n 2, 1) := by decide +kernel
theorem dX10_crews_70 : decode cX10_crews 70 = .ok (.invokestatic 224, 3) := by decide +kernel
theorem dX10_crews_73 : decode cX10_crews 73 = .ok (.if_icmp .ne 13, 3) := by decide +kernel
theorem dX10_crews_76 : decode cX10_crews 76 = .ok (.iload 5, 2) := by decide +kernel
theorem dX10_crews_78 : decode cX10_crews 78 = .ok (.iload_n 2, 1) := by decide +kernel
theorem dX10_crews_79 : decode cX10_crews 79 = .ok (.if_icmp .ge 7, 3) := by decide +kernel
theorem dX10_crews_82 : decode cX10_crews 82 = .ok (.iconst 1, 1) := by decide +kernel
theorem dX10_crews_83 : decode cX10_crews 83 = .ok (.goto 4, 3) := by decide +kernel
theorem dX10_crews_86 : decode cX10_crews 86 = .ok (.iconst 0, 1) := by decide +kernel
theorem dX10_crews_87 : decode cX10_crews 87 = .ok (.istore 6, 2) := by decide +kernel
theorem dX10_crews_89 : decode cX10_crews 89 = .ok (.iload 5, 2) := by decide +kernel
theorem dX10_crews_91 : decode cX10_crews 91 = .ok (.ifCond .le 14, 3) := by decide +kernel
theorem dX10_crews_94 : decode cX10_crews 94 = .ok (.iload 6, 2) := by decide +kernel
theorem dX10_crews_96 : decode cX10_crews 96 = .ok (.ifCond .eq 9, 3) := by decide +kernel
theorem dX10_crews_99 : decode cX10_crews 99 = .ok (.iload 5, 2) := by decide +kernel
theorem dX10_crews_101 : decode cX10_crews 101 = .ok (.istore_n 2, 1) := by decide +kernel
theorem dX10_crews_102 : decode cX10_crews 102 = .ok (.iload 4, 2) := by decide +kernel
theorem dX10_crews_104 : decode cX10_crews 104 = .ok (.istore_n 3, 1) := by decide +kernel
theorem dX10_crews_105 : decode cX10_crews 105 = .ok (.iinc 4 1, 3) := by decide +kernel
theorem dX10_crews_108 : decode cX10_crews 108 = .ok (.goto (-83), 3) := by decide +kernel
theorem dX10_crews_111 : decode cX10_crews 111 = .ok (.iload_n 2, 1) := by decide +kernel
theorem dX10_crews_112 : decode cX10_crews 112 = .ok (.ifCond .ne 6, 3) := by decide +kernel
theorem dX10_crews_115 : decode cX10_crews 115 = .ok (.bipush (-4), 2) := by decide +kernel
theorem dX10_crews_117 : decode cX10_crews 117 = .ok (.ireturn, 1) := by decide +kernel
theorem dX10_crews_118 : decode cX10_crews 118 = .ok (.iload_n 1, 1) := by decide +kernel
theorem dX10_crews_119 : decode cX10_crews 119 = .ok (.iconst (-1), 1) := by decide +kernel
theorem dX10_crews_120 : decode cX10_crews 120 = .ok (.if_icmp .ne 7, 3) := by decide +kernel
theorem dX10_crews_123 : decode cX10_crews 123 = .ok (.iload_n 2, 1) := by decide +kernel
theorem dX10_crews_124 : decode cX10_crews 124 = .ok (.goto 19, 3) := by decide +kernel
theorem dX10_crews_127 : decode cX10_crews 127 = .ok (.iload_n 3, 1) := by decide +kernel
theorem dX10_crews_128 : decode cX10_crews 128 = .ok (.iconst 2, 1) := by decide +kernel
theorem dX10_crews_129 : decode cX10_crews 129 = .ok (.aload_n 0, 1) := by decide +kernel
theorem dX10_crews_130 : decode cX10_crews 130 = .ok (.getfield 23, 3) := by decide +kernel
theorem dX10_crews_133 : decode cX10_crews 133 = .ok (.iconst 0, 1) := by decide +kernel
theorem dX10_crews_134 : decode cX10_crews 134 = .ok (.iaload, 1) := by decide +kernel
theorem dX10_crews_135 : decode cX10_crews 135 = .ok (.iconst 1, 1) := by decide +kernel
theorem dX10_crews_136 : decode cX10_crews 136 = .ok (.isub, 1) := by decide +kernel
theorem dX10_crews_137 : decode cX10_crews 137 = .ok (.iload_n 1, 1) := by decide +kernel
theorem dX10_crews_138 : decode cX10_crews 138 = .ok (.isub, 1) := by decide +kernel
theorem dX10_crews_139 : decode cX10_crews 139 = .ok (.imul, 1) := by decide +kernel
theorem dX10_crews_140 : decode cX10_crews 140 = .ok (.ishr, 1) := by decide +kernel
theorem dX10_crews_141 : decode cX10_crews 141 = .ok (.iconst 3, 1) := by decide +kernel
theorem dX10_crews_142 : decode cX10_crews 142 = .ok (.iand, 1) := by decide +kernel
theorem dX10_crews_143 : decode cX10_crews 143 = .ok (.ireturn, 1) := by decide +kernel
def L_X10_crews_25 (a_boat : Nat → Int32) (a_boats : Nat → Int32) (a_houses : Nat → Int32) (a_people : Nat → Int32) (k_111 : Int32 → Int32 → Option (Int32)) : Nat → Int32 → Int32 → Int32 → Option (Int32)
  | 0, _, _, _ => none
  | n + 1, x2_25, x3_25, x4_25 => (if ((1 : Int32) <<< ((2 * (a_houses (Int32.toNatClampNeg 0))) &&& 31)) ≤ x4_25 then k_111 x2_25 x3_25 else (F_X10_boatsOf x4_25 a_boat a_boats a_houses a_people).bind (fun q43 => jn (fun (j0_87 : Int32) => jn (fun (x2_105 : Int32) (x3_105 : Int32) => L_X10_crews_25 a_boat a_boats a_houses a_people k_111 n x2_105 x3_105 ((x4_25 + 1))) (fun k_105 => (if q43 ≤ 0 then k_105 x2_25 x3_25 else (if j0_87 = 0 then k_105 x2_25 x3_25 else k_105 q43 x4_25)))) (fun k_87 => jn (k_87 1) (fun k_82 => (if x2_25 = 0 then k_82 else (F_X10_manyOf q43).bind (fun q54 => (F_X10_manyOf x2_25).bind (fun q58 => (if q54 < q58 then k_82 else (F_X10_manyOf q43).bind (fun q66 => (F_X10_manyOf x2_25).bind (fun q70 => jn (k_87 0) (fun k_86 => (if q66 = q70 then (if x2_25 ≤ q43 then k_86 else k_82) else k_86))))))))))))
def F_X10_crews (x1 : Int32) (a_boat : Nat → Int32) (a_boats : Nat → Int32) (a_houses : Nat → Int32) (a_people : Nat → Int32) : Option (Int32) := (F_X10_in x1 ((-1)) (((a_houses (Int32.toNatClampNeg 0)) - 1))).bind (fun q10 => (if q10 = 0 then some ((-1)) else jn (fun (x2_111 : Int32) (x3_111 : Int32) => (if x2_111 = 0 then some ((-4)) else (if x1 = (-1) then some (x2_111) else some (((x3_111 >>> ((2 * (((a_houses (Int32.toNatClampNeg 0)) - 1) - x1)) &&& 31)) &&& 3))))) (fun k_111 => L_X10_crews_25 a_boat a_boats a_houses a_people k_111 5000 0 0 0)))
theorem hdV_X10_crews : yX10_crews.cls = RX10 ∧ yX10_crews.cls ≠ "java/lang/invoke/MethodHandle" ∧ yX10_crews.cls ≠ "java/lang/invoke/VarHandle" ∧ (parseMethodDescriptor yX10_crews.desc).map (fun d => d.parameters.length) = some 1 := by decide +kernel
set_option maxHeartbeats 4000000 in
set_option maxRecDepth 100000 in
theorem c_X10_crews (l : Launch) (G : GG) (x1 : Int32) (h_this : Nat) (ad_this : Nat → Nat) (v_typed : Int32) (v_at : Int32) (v_isSo : Int32) (v_kept : Int32) (v_all : Int64) (v_sightAll : Int64) (v_aheadMany : Int32) (a_boat : Nat → Int32) (a_boats : Nat → Int32) (a_houses : Nat → Int32) (a_people : Nat → Int32) (out : Int32) (hF : F_X10_crews x1 a_boat a_boats a_houses a_people = some out) : CtrI l yX10_crews (WS yX10_crews cX10_crews 7 (some .int)) { frames := 1, cells := 0, slots := 0, locals := 27 } G [.ref h_this, .int x1] [(h_this, oX10 ad_this v_typed v_at v_isSo v_kept v_all v_sightAll v_aheadMany), ((ad_this 9), cI G 8 a_boat), ((ad_this 8), cI G 2 a_boats), ((ad_this 5), cI G 2 a_houses), ((ad_this 6), cI G 12 a_people)] [(h_this, oX10 ad_this v_typed v_at v_isSo v_kept v_all v_sightAll v_aheadMany), ((ad_this 9), cI G 8 a_boat), ((ad_this 8), cI G 2 a_boats), ((ad_this 5), cI G 2 a_houses), ((ad_this 6), cI G 12 a_people)] out := by
  refine startI (cc := cX10_crews) (maxL := 7) (by decide) rfl (Nat.le_of_ble_eq_true rfl) ?_
  intro p e s m args below meth c A Q hx hb hml hts hown hc hA hret ls H locs hl hW
  have hown : s.vm.findClass RX10 = some m.cls := hown
  have hg : ∀ w ∈ GOODS, w.before _ s = true := fun w h => hts w (List.mem_cons_of_mem _ h)
  have hl : lv_has ls 7 [(0, .ref h_this), (1, .int x1)] := hl
  rw [F_X10_crews] at hF
  refine lv_iload_n hx hb dX10_crews_0 rfl (lv_at hl 1 rfl) ?_
  refine lv_iconst (v := (-1)) hx hb dX10_crews_1 (by decide) ?_
  refine lv_aload_n hx hb dX10_crews_2 rfl (lv_at hl 0 rfl) ?_
  refine va_get (D := G.1) (ci := 9) (v := .ref ((ad_this 5))) (C := RX10) (T := TX10) (N := 31) hx hb hg hu_X10 hown hc.1 hW.1 0 rfl rfl 5 (by decide) (hg _ wd_4_43) (fun _ h9 => h9) rfl dX10_crews_3 ?_
  refine lv_iconst (v := 0) hx hb dX10_crews_6 (by decide) ?_
  have b_7 : vp_in 0 2 := inb_vp (by decide)
  refine va_iald hx hb hc.1 hW.1 3 0 rfl rfl b_7 dX10_crews_7 ?_
  refine lv_iconst (v := 1) hx hb dX10_crews_8 (by decide) ?_
  refine lv_isub hx hb dX10_crews_9 ?_
  obtain ⟨q10, c_10, hF⟩ := bd_el hF
  refine wcZ (ws' := [(h_this, oX10 ad_this v_typed v_at v_isSo v_kept v_all v_sightAll v_aheadMany), ((ad_this 9), cI G 8 a_boat), ((ad_this 8), cI G 2 a_boats), ((ad_this 5), cI G 2 a_houses), ((ad_this 6), cI G 12 a_people)]) (wc := []) (wr := [(h_this, oX10 ad_this v_typed v_at v_isSo v_kept v_all v_sightAll v_aheadMany), ((ad_this 9), cI G 8 a_boat), ((ad_this 8), cI G 2 a_boats), ((ad_this 5), cI G 2 a_houses), ((ad_this 6), cI G 12 a_people)]) (w1 := []) (va_runS (As := [.int x1, .int ((-1)), .int (((a_houses (Int32.toNatClampNeg 0)) - 1))]) (rest := []) ⟨hx, hb, hml, hown, hg⟩ (c_X10_in l G x1 ((-1)) (((a_houses (Int32.toNatClampNeg 0)) - 1)) q10 c_10 H.size) (va_cwS 3 hg (gS wd_4_136 wd_4_137 wd_1_15 wd_4_138) rfl rfl rfl hdS_X10_in ⟨(Nat.le_of_ble_eq_true rfl), (Nat.le_of_ble_eq_true rfl)⟩) (preS hc hW [] rfl (by decide)) rfl rfl hl.1 rfl (lv_room (Nat.le_of_ble_eq_true rfl)) dX10_crews_10 ⟨Nat.zero_le _, Nat.zero_le _⟩) hA hW [] [0, 1, 2, 3, 4] [0, 1, 2, 3, 4] rfl rfl (by decide) (by decide) rfl (by decide) (fun z_10 H locs hW => ?_)
  refine lv_if_ne (tgt := 18) hx hb dX10_crews_13 (by decide) (fun c_13 => ?_) (fun c_13 => ?_)
  · have hF := ite_f hF c_13
    refine lv_iconst (v := 0) hx hb dX10_crews_18 (by decide) ?_
    refine lv_istore_n (lv' := [(2, .int 0), (0, .ref h_this), (1, .int x1)]) hx hb dX10_crews_19 rfl hl (by decide) rfl (fun ls hl => ?_)
    refine lv_iconst (v := 0) hx hb dX10_crews_20 (by decide) ?_
    refine lv_istore_n (lv' := [(3, .int 0), (2, .int 0), (0, .ref h_this), (1, .int x1)]) hx hb dX10_crews_21 rfl hl (by decide) rfl (fun ls hl => ?_)
    refine lv_iconst (v := 0) hx hb dX10_crews_22 (by decide) ?_
    refine lv_istore (lv' := [(4, .int 0), (3, .int 0), (2, .int 0), (0, .ref h_this), (1, .int x1)]) hx hb dX10_crews_23 hl (by decide) rfl (fun ls hl => ?_)
    obtain ⟨k_111, e_111, hF⟩ := jn_el hF
    have J_111 : ∀ (x2_111 : Int32) (x3_111 : Int32) (ls : Array Slot) (H : Heap) (locs : List Loc), k_111 x2_111 x3_111 = some out → lv_has ls 7 [(0, .ref h_this), (1, .int x1), (2, .int x2_111), (3, .int x3_111)] → Wd G A s.heap [(h_this, oX10 ad_this v_typed v_at v_isSo v_kept v_all v_sightAll v_aheadMany), ((ad_this 9), cI G 8 a_boat), ((ad_this 8), cI G 2 a_boats), ((ad_this 5), cI G 2 a_houses), ((ad_this 6), cI G 12 a_people)] H locs → W p l e ({ frames := 1, cells := 0, slots := 0, locals := 27 } : Room) s m args below meth c H locs 0 0 Q (F0 m 111 ls []) := by
      intro x2_111 x3_111 ls H locs hF hl hW
      rw [e_111] at hF
      dsimp only at hF
      refine lv_iload_n hx hb dX10_crews_111 rfl (lv_at hl 2 rfl) ?_
      refine lv_if_ne (tgt := 118) hx hb dX10_crews_112 (by decide) (fun c_112 => ?_) (fun c_112 => ?_)
      · have hF := ite_f hF c_112
        refine lv_iload_n hx hb dX10_crews_118 rfl (lv_at hl 1 rfl) ?_
        refine lv_iconst (v := (-1)) hx hb dX10_crews_119 (by decide) ?_
        refine lv_icmp_ne (tgt := 127) hx hb dX10_crews_120 (by decide) (fun c_120 => ?_) (fun c_120 => ?_)
        · have hF := ite_f hF c_120
          refine lv_iload_n hx hb dX10_crews_127 rfl (lv_at hl 3 rfl) ?_
          refine lv_iconst (v := 2) hx hb dX10_crews_128 (by decide) ?_
          refine lv_aload_n hx hb dX10_crews_129 rfl (lv_at hl 0 rfl) ?_
          refine va_get (D := G.1) (ci := 9) (v := .ref ((ad_this 5))) (C := RX10) (T := TX10) (N := 31) hx hb hg hu_X10 hown hc.1 hW.1 0 rfl rfl 5 (by decide) (hg _ wd_4_43) (fun _ h9 => h9) rfl dX10_crews_130 ?_
          refine lv_iconst (v := 0) hx hb dX10_crews_133 (by decide) ?_
          have b_134 : vp_in 0 2 := inb_vp (by decide)
          refine va_iald hx hb hc.1 hW.1 3 0 rfl rfl b_134 dX10_crews_134 ?_
          refine lv_iconst (v := 1) hx hb dX10_crews_135 (by decide) ?_
          refine lv_isub hx hb dX10_crews_136 ?_
          refine lv_iload_n hx hb dX10_crews_137 rfl (lv_at hl 1 rfl) ?_
          refine lv_isub hx hb dX10_crews_138 ?_
          refine lv_imul hx hb dX10_crews_139 ?_
          refine lv_ishr hx hb dX10_crews_140 ?_
          refine lv_iconst (v := 3) hx hb dX10_crews_141 (by decide) ?_
          refine lv_iand hx hb dX10_crews_142 ?_
          obtain rfl := Option.some.inj hF
          exact hret _ _ _ _ hW dX10_crews_143
        · have hF := ite_t hF c_120
          refine lv_iload_n hx hb dX10_crews_123 rfl (lv_at hl 2 rfl) ?_
          refine lv_goto (tgt := 143) hx hb dX10_crews_124 (by decide) ?_
          obtain rfl := Option.some.inj hF
          exact hret _ _ _ _ hW dX10_crews_143
      · have hF := ite_t hF c_112
        refine lv_bipush (v := (-4)) hx hb dX10_crews_115 (by decide) ?_
        obtain rfl := Option.some.inj hF
        exact hret _ _ _ _ hW dX10_crews_117
    have L_25 : ∀ (n : Nat) (x2_25 : Int32) (x3_25 : Int32) (x4_25 : Int32) (ls : Array Slot) (H : Heap) (locs : List Loc), L_X10_crews_25 a_boat a_boats a_houses a_people k_111 n x2_25 x3_25 x4_25 = some out → lv_has ls 7 [(0, .ref h_this), (1, .int x1), (2, .int x2_25), (3, .int x3_25), (4, .int x4_25)] → Wd G A s.heap [(h_this, oX10 ad_this v_typed v_at v_isSo v_kept v_all v_sightAll v_aheadMany), ((ad_this 9), cI G 8 a_boat), ((ad_this 8), cI G 2 a_boats), ((ad_this 5), cI G 2 a_houses), ((ad_this 6), cI G 12 a_people)] H locs → W p l e ({ frames := 1, cells := 0, slots := 0, locals := 27 } : Room) s m args below meth c H locs 0 0 Q (F0 m 25 ls []) := by
      intro n
      induction n with
      | zero => intro x2_25 x3_25 x4_25 ls H locs hF hl hW; have h0 : none = some out := hF; cases h0
      | succ n ih =>
        intro x2_25 x3_25 x4_25 ls H locs hF hl hW
        rw [L_X10_crews_25] at hF
        refine lv_iload hx hb dX10_crews_25 (lv_at hl 4 rfl) ?_
        refine lv_iconst (v := 1) hx hb dX10_crews_27 (by decide) ?_
        refine lv_iconst (v := 2) hx hb dX10_crews_28 (by decide) ?_
        refine lv_aload_n hx hb dX10_crews_29 rfl (lv_at hl 0 rfl) ?_
        refine va_get (D := G.1) (ci := 9) (v := .ref ((ad_this 5))) (C := RX10) (T := TX10) (N := 31) hx hb hg hu_X10 hown hc.1 hW.1 0 rfl rfl 5 (by decide) (hg _ wd_4_43) (fun _ h9 => h9) rfl dX10_crews_30 ?_
        refine lv_iconst (v := 0) hx hb dX10_crews_33 (by decide) ?_
        have b_34 : vp_in 0 2 := inb_vp (by decide)
        refine va_iald hx hb hc.1 hW.1 3 0 rfl rfl b_34 dX10_crews_34 ?_
        refine lv_imul hx hb dX10_crews_35 ?_
        refine lv_ishl hx hb dX10_crews_36 ?_
        refine lv_icmp_ge (tgt := 111) hx hb dX10_crews_37 (by decide) (fun c_37 => ?_) (fun c_37 => ?_)
        · have hF := ite_t hF c_37
          exact J_111 x2_25 x3_25 _ _ _ hF (lv_sub hl [0, 1, 2, 3] rfl) hW
        · have hF := ite_f hF c_37
          refine lv_aload_n hx hb dX10_crews_40 rfl (lv_at hl 0 rfl) ?_
          refine lv_iload hx hb dX10_crews_41 (lv_at hl 4 rfl) ?_
          obtain ⟨q43, c_43, hF⟩ := bd_el hF
          refine wcI (ws' := [(h_this, oX10 ad_this v_typed v_at v_isSo v_kept v_all v_sightAll v_aheadMany), ((ad_this 9), cI G 8 a_boat), ((ad_this 8), cI G 2 a_boats), ((ad_this 5), cI G 2 a_houses), ((ad_this 6), cI G 12 a_people)]) (wc := [(h_this, oX10 ad_this v_typed v_at v_isSo v_kept v_all v_sightAll v_aheadMany), ((ad_this 9), cI G 8 a_boat), ((ad_this 8), cI G 2 a_boats), ((ad_this 5), cI G 2 a_houses), ((ad_this 6), cI G 12 a_people)]) (wr := []) (w1 := [(h_this, oX10 ad_this v_typed v_at v_isSo v_kept v_all v_sightAll v_aheadMany), ((ad_this 9), cI G 8 a_boat), ((ad_this 8), cI G 2 a_boats), ((ad_this 5), cI G 2 a_houses), ((ad_this 6), cI G 12 a_people)]) (va_runV (As := [.int x4_25]) (rest := []) ⟨hx, hb, hml, hown, hg⟩ (c_X10_boatsOf l G x4_25 h_this ad_this v_typed v_at v_isSo v_kept v_all v_sightAll v_aheadMany a_boat a_boats a_houses a_people q43 c_43 H.size) (cwV 1 hg (gV wd_5_53 wd_5_55 wd_0_46 wd_1_15 wd_5_56) rfl rfl rfl hdV_X10_boatsOf ⟨(Nat.le_of_ble_eq_true rfl), (Nat.le_of_ble_eq_true rfl)⟩) (preV hc hW [0, 1, 2, 3, 4] rfl (by decide) rfl rfl) rfl rfl hl.1 rfl (lv_room (Nat.le_of_ble_eq_true rfl)) dX10_crews_43 ⟨Nat.zero_le _, Nat.zero_le _⟩) hA hW [0, 1, 2, 3, 4] [] [0, 1, 2, 3, 4] rfl rfl (by decide) (by decide) rfl (by decide) (fun H locs hW => ?_)
          refine lv_istore (lv' := [(5, .int q43), (0, .ref h_this), (1, .int x1), (2, .int x2_25), (3, .int x3_25), (4, .int x4_25)]) hx hb dX10_crews_46 hl (by decide) rfl (fun ls hl => ?_)
          refine lv_iload_n hx hb dX10_crews_48 rfl (lv_at hl 3 rfl) ?_
          obtain ⟨k_87, e_87, hF⟩ := jn_el hF
          have J_87 : ∀ (j0_87 : Int32) (ls : Array Slot) (H : Heap) (locs : List Loc), k_87 j0_87 = some out → lv_has ls 7 [(0, .ref h_this), (1, .int x1), (2, .int x2_25), (3, .int x3_25), (4, .int x4_25), (5, .int q43)] → Wd G A s.heap [(h_this, oX10 ad_this v_typed v_at v_isSo v_kept v_all v_sightAll v_aheadMany), ((ad_this 9), cI G 8 a_boat), ((ad_this 8), cI G 2 a_boats), ((ad_this 5), cI G 2 a_houses), ((ad_this 6), cI G 12 a_people)] H locs → W p l e ({ frames := 1, cells := 0, slots := 0, locals := 27 } : Room) s m args below meth c H locs 0 0 Q (F0 m 87 ls [.int j0_87]) := by
            intro j0_87 ls H locs hF hl hW
            rw [e_87] at hF
            dsimp only at hF
            refine lv_istore (lv' := [(6, .int j0_87), (0, .ref h_this), (1, .int x1), (2, .int x2_25), (3, .int x3_25), (4, .int x4_25), (5, .int q43)]) hx hb dX10_crews_87 hl (by decide) rfl (fun ls hl => ?_)
            refine lv_iload hx hb dX10_crews_89 (lv_at hl 6 rfl) ?_
            obtain ⟨k_105, e_105, hF⟩ := jn_el hF
            have J_105 : ∀ (x2_105 : Int32) (x3_105 : Int32) (ls : Array Slot) (H : Heap) (locs : List Loc), k_105 x2_105 x3_105 = some out → lv_has ls 7 [(0, .ref h_this), (1, .int x1), (2, .int x2_105), (3, .int x3_105), (4, .int x4_25)] → Wd G A s.heap [(h_this, oX10 ad_this v_typed v_at v_isSo v_kept v_all v_sightAll v_aheadMany), ((ad_this 9), cI G 8 a_boat), ((ad_this 8), cI G 2 a_boats), ((ad_this 5), cI G 2 a_houses), ((ad_this 6), cI G 12 a_people)] H locs → W p l e ({ frames := 1, cells := 0, slots := 0, locals := 27 } : Room) s m args below meth c H locs 0 0 Q (F0 m 105 ls []) := by
              intro x2_105 x3_105 ls H locs hF hl hW
              rw [e_105] at hF
              dsimp only at hF
              refine lv_iinc (v := (x4_25 + 1)) (lv' := [(4, .int ((x4_25 + 1))), (0, .ref h_this), (1, .int x1), (2, .int x2_105), (3, .int x3_105)]) hx hb dX10_crews_105 hl (k := 4) rfl rfl (by decide) rfl (fun ls hl => ?_)
              refine lv_goto (tgt := 25) hx hb dX10_crews_108 (by decide) ?_
              exact ih x2_105 x3_105 ((x4_25 + 1)) _ _ _ hF (lv_sub hl [1, 2, 3, 4, 0] rfl) hW
            refine lv_if_le (tgt := 105) hx hb dX10_crews_91 (by decide) (fun c_91 => ?_) (fun c_91 => ?_)
            · have hF := ite_t hF c_91
              exact J_105 x2_25 x3_25 _ _ _ hF (lv_sub hl [1, 2, 3, 4, 5] rfl) hW
            · have hF := ite_f hF c_91
              refine lv_iload hx hb dX10_crews_94 (lv_at hl 0 rfl) ?_
              refine lv_if_eq (tgt := 105) hx hb dX10_crews_96 (by decide) (fun c_96 => ?_) (fun c_96 => ?_)
              · have hF := ite_t hF c_96
                exact J_105 x2_25 x3_25 _ _ _ hF (lv_sub hl [1, 2, 3, 4, 5] rfl) hW
              · have hF := ite_f hF c_96
                refine lv_iload hx hb dX10_crews_99 (lv_at hl 6 rfl) ?_
                refine lv_istore_n (lv' := [(2, .int q43), (6, .int j0_87), (0, .ref h_this), (1, .int x1), (3, .int x3_25), (4, .int x4_25), (5, .int q43)]) hx hb dX10_crews_101 rfl hl (by decide) rfl (fun ls hl => ?_)
                refine lv_iload hx hb dX10_crews_102 (lv_at hl 5 rfl) ?_
                refine lv_istore_n (lv' := [(3, .int x4_25), (2, .int q43), (6, .int j0_87), (0, .ref h_this), (1, .int x1), (4, .int x4_25), (5, .int q43)]) hx hb dX10_crews_104 rfl hl (by decide) rfl (fun ls hl => ?_)
                exact J_105 q43 x4_25 _ _ _ hF (lv_sub hl [3, 4, 1, 0, 5] rfl) hW
          obtain ⟨k_82, e_82, hF⟩ := jn_el hF
          have J_82 : ∀ (ls : Array Slot) (H : Heap) (locs : List Loc), k_82 = some out → lv_has ls 7 [(0, .ref h_this), (1, .int x1), (2, .int x2_25), (3, .int x3_25), (4, .int x4_25), (5, .int q43)] → Wd G A s.heap [(h_this, oX10 ad_this v_typed v_at v_isSo v_kept v_all v_sightAll v_aheadMany), ((ad_this 9), cI G 8 a_boat), ((ad_this 8), cI G 2 a_boats), ((ad_this 5), cI G 2 a_houses), ((ad_this 6), cI G 12 a_people)] H locs → W p l e ({ frames := 1, cells := 0, slots := 0, locals := 27 } : Room) s m args below meth c H locs 0 0 Q (F0 m 82 ls []) := by
            intro ls H locs hF hl hW
            rw [e_82] at hF
            refine lv_iconst (v := 1) hx hb dX10_crews_82 (by decide) ?_
            refine lv_goto (tgt := 87) hx hb dX10_crews_83 (by decide) ?_
            exact J_87 1 _ _ _ hF (lv_sub hl [0, 1, 2, 3, 4, 5] rfl) hW
          refine lv_if_eq (tgt := 82) hx hb dX10_crews_49 (by decide) (fun c_49 => ?_) (fun c_49 => ?_)
          · have hF := ite_t hF c_49
            exact J_82 _ _ _ hF (lv_sub hl [1, 2, 3, 4, 5, 0] rfl) hW
          · have hF := ite_f hF c_49
            refine lv_iload hx hb dX10_crews_52 (lv_at hl 0 rfl) ?_
            obtain ⟨q54, c_54, hF⟩ := bd_el hF
            refine wcI (ws' := [(h_this, oX10 ad_this v_typed v_at v_isSo v_kept v_all v_sightAll v_aheadMany), ((ad_this 9), cI G 8 a_boat), ((ad_this 8), cI G 2 a_boats), ((ad_this 5), cI G 2 a_houses), ((ad_this 6), cI G 12 a_people)]) (wc := []) (wr := [(h_this, oX10 ad_this v_typed v_at v_isSo v_kept v_all v_sightAll v_aheadMany), ((ad_this 9), cI G 8 a_boat), ((ad_this 8), cI G 2 a_boats), ((ad_this 5), cI G 2 a_houses), ((ad_this 6), cI G 12 a_people)]) (w1 := []) (va_runS (As := [.int q43]) (rest := []) ⟨hx, hb, hml, hown, hg⟩ (c_X10_manyOf l G q43 q54 c_54 H.size) (va_cwS 1 hg (gS wd_5_57 wd_5_58 wd_1_15 wd_5_59) rfl rfl rfl hdS_X10_manyOf ⟨(Nat.le_of_ble_eq_true rfl), (Nat.le_of_ble_eq_true rfl)⟩) (preS hc hW [] rfl (by decide)) rfl rfl hl.1 rfl (lv_room (Nat.le_of_ble_eq_true rfl)) dX10_crews_54 ⟨Nat.zero_le _, Nat.zero_le _⟩) hA hW [] [0, 1, 2, 3, 4] [0, 1, 2, 3, 4] rfl rfl (by decide) (by decide) rfl (by decide) (fun H locs hW => ?_)
            refine lv_iload_n hx hb dX10_crews_57 rfl (lv_at hl 3 rfl) ?_
            obtain ⟨q58, c_58, hF⟩ := bd_el hF
            refine wcI (ws' := [(h_this, oX10 ad_this v_typed v_at v_isSo v_kept v_all v_sightAll v_aheadMany), ((ad_this 9), cI G 8 a_boat), ((ad_this 8), cI G 2 a_boats), ((ad_this 5), cI G 2 a_houses), ((ad_this 6), cI G 12 a_people)]) (wc := []) (wr := [(h_this, oX10 ad_this v_typed v_at v_isSo v_kept v_all v_sightAll v_aheadMany), ((ad_this 9), cI G 8 a_boat), ((ad_this 8), cI G 2 a_boats), ((ad_this 5), cI G 2 a_houses), ((ad_this 6), cI G 12 a_people)]) (w1 := []) (va_runS (As := [.int x2_25]) (rest := [.int q54]) ⟨hx, hb, hml, hown, hg⟩ (c_X10_manyOf l G x2_25 q58 c_58 H.size) (va_cwS 1 hg (gS wd_5_57 wd_5_58 wd_1_15 wd_5_59) rfl rfl rfl hdS_X10_manyOf ⟨(Nat.le_of_ble_eq_true rfl), (Nat.le_of_ble_eq_true rfl)⟩) (preS hc hW [] rfl (by decide)) rfl rfl hl.1 rfl (lv_room (Nat.le_of_ble_eq_true rfl)) dX10_crews_58 ⟨Nat.zero_le _, Nat.zero_le _⟩) hA hW [] [0, 1, 2, 3, 4] [0, 1, 2, 3, 4] rfl rfl (by decide) (by decide) rfl (by decide) (fun H locs hW => ?_)
            refine lv_icmp_lt (tgt := 82) hx hb dX10_crews_61 (by decide) (fun c_61 => ?_) (fun c_61 => ?_)
            · have hF := ite_t hF c_61
              exact J_82 _ _ _ hF (lv_sub hl [1, 2, 3, 4, 5, 0] rfl) hW
            · have hF := ite_f hF c_61
              refine lv_iload hx hb dX10_crews_64 (lv_at hl 0 rfl) ?_
              obtain ⟨q66, c_66, hF⟩ := bd_el hF
              refine wcI (ws' := [(h_this, oX10 ad_this v_typed v_at v_isSo v_kept v_all v_sightAll v_aheadMany), ((ad_this 9), cI G 8 a_boat), ((ad_this 8), cI G 2 a_boats), ((ad_this 5), cI G 2 a_houses), ((ad_this 6), cI G 12 a_people)]) (wc := []) (wr := [(h_this, oX10 ad_this v_typed v_at v_isSo v_kept v_all v_sightAll v_aheadMany), ((ad_this 9), cI G 8 a_boat), ((ad_this 8), cI G 2 a_boats), ((ad_this 5), cI G 2 a_houses), ((ad_this 6), cI G 12 a_people)]) (w1 := []) (va_runS (As := [.int q43]) (rest := []) ⟨hx, hb, hml, hown, hg⟩ (c_X10_manyOf l G q43 q66 c_66 H.size) (va_cwS 1 hg (gS wd_5_57 wd_5_58 wd_1_15 wd_5_59) rfl rfl rfl hdS_X10_manyOf ⟨(Nat.le_of_ble_eq_true rfl), (Nat.le_of_ble_eq_true rfl)⟩) (preS hc hW [] rfl (by decide)) rfl rfl hl.1 rfl (lv_room (Nat.le_of_ble_eq_true rfl)) dX10_crews_66 ⟨Nat.zero_le _, Nat.zero_le _⟩) hA hW [] [0, 1, 2, 3, 4] [0, 1, 2, 3, 4] rfl rfl (by decide) (by decide) rfl (by decide) (fun H locs hW => ?_)
              refine lv_iload_n hx hb dX10_crews_69 rfl (lv_at hl 3 rfl) ?_
              obtain ⟨q70, c_70, hF⟩ := bd_el hF
              refine wcI (ws' := [(h_this, oX10 ad_this v_typed v_at v_isSo v_kept v_all v_sightAll v_aheadMany), ((ad_this 9), cI G 8 a_boat), ((ad_this 8), cI G 2 a_boats), ((ad_this 5), cI G 2 a_houses), ((ad_this 6), cI G 12 a_people)]) (wc := []) (wr := [(h_this, oX10 ad_this v_typed v_at v_isSo v_kept v_all v_sightAll v_aheadMany), ((ad_this 9), cI G 8 a_boat), ((ad_this 8), cI G 2 a_boats), ((ad_this 5), cI G 2 a_houses), ((ad_this 6), cI G 12 a_people)]) (w1 := []) (va_runS (As := [.int x2_25]) (rest := [.int q66]) ⟨hx, hb, hml, hown, hg⟩ (c_X10_manyOf l G x2_25 q70 c_70 H.size) (va_cwS 1 hg (gS wd_5_57 wd_5_58 wd_1_15 wd_5_59) rfl rfl rfl hdS_X10_manyOf ⟨(Nat.le_of_ble_eq_true rfl), (Nat.le_of_ble_eq_true rfl)⟩) (preS hc hW [] rfl (by decide)) rfl rfl hl.1 rfl (lv_room (Nat.le_of_ble_eq_true rfl)) dX10_crews_70 ⟨Nat.zero_le _, Nat.zero_le _⟩) hA hW [] [0, 1, 2, 3, 4] [0, 1, 2, 3, 4] rfl rfl (by decide) (by decide) rfl (by decide) (fun H locs hW => ?_)
              obtain ⟨k_86, e_86, hF⟩ := jn_el hF
              have J_86 : ∀ (ls : Array Slot) (H : Heap) (locs : List Loc), k_86 = some out → lv_has ls 7 [(0, .ref h_this), (1, .int x1), (2, .int x2_25), (3, .int x3_25), (4, .int x4_25), (5, .int q43)] → Wd G A s.heap [(h_this, oX10 ad_this v_typed v_at v_isSo v_kept v_all v_sightAll v_aheadMany), ((ad_this 9), cI G 8 a_boat), ((ad_this 8), cI G 2 a_boats), ((ad_this 5), cI G 2 a_houses), ((ad_this 6), cI G 12 a_people)] H locs → W p l e ({ frames := 1, cells := 0, slots := 0, locals := 27 } : Room) s m args below meth c H locs 0 0 Q (F0 m 86 ls []) := by
                intro ls H locs hF hl hW
                rw [e_86] at hF
                refine lv_iconst (v := 0) hx hb dX10_crews_86 (by decide) ?_
                exact J_87 0 _ _ _ hF (lv_sub hl [0, 1, 2, 3, 4, 5] rfl) hW
              refine lv_icmp_ne (tgt := 86) hx hb dX10_crews_73 (by decide) (fun c_73 => ?_) (fun c_73 => ?_)
              · have hF := ite_f hF c_73
                exact J_86 _ _ _ hF (lv_sub hl [1, 2, 3, 4, 5, 0] rfl) hW
              · have hF := ite_t hF c_73
                refine lv_iload hx hb dX10_crews_76 (lv_at hl 0 rfl) ?_
                refine lv_iload_n hx hb dX10_crews_78 rfl (lv_at hl 3 rfl) ?_
                refine lv_icmp_ge (tgt := 86) hx hb dX10_crews_79 (by decide) (fun c_79 => ?_) (fun c_79 => ?_)
                · have hF := ite_t hF c_79
                  exact J_86 _ _ _ hF (lv_sub hl [1, 2, 3, 4, 5, 0] rfl) hW
                · have hF := ite_f hF c_79
                  exact J_82 _ _ _ hF (lv_sub hl [1, 2, 3, 4, 5, 0] rfl) hW
    exact L_25 5000 0 0 0 _ _ _ hF (lv_sub hl [3, 4, 2, 1, 0] rfl) hW
  · have hF := ite_t hF c_13
    refine lv_iconst (v := (-1)) hx hb dX10_crews_16 (by decide) ?_
    obtain rfl := Option.some.inj hF
    exact hret _ _ _ _ hW dX10_crews_17
theorem dX10_drift_0 : decode cX10_drift 0 = .ok (.iload_n 1, 1) := by decide +kernel
theorem dX10_drift_1 : decode cX10_drift 1 = .ok (.iconst 0, 1) := by decide +kernel
theorem dX10_drift_2 : decode cX10_drift 2 = .ok (.bipush 12, 2) := by decide +kernel
theorem dX10_drift_4 : decode cX10_drift 4 = .ok (.invokestatic 99, 3) := by decide +kernel
theorem dX10_drift_7 : decode cX10_drift 7 = .ok (.ifCond .eq 44, 3) := by decide +kernel
theorem dX10_drift_10 : decode cX10_drift 10 = .ok (.iload_n 2, 1) := by decide +kernel
theorem dX10_drift_11 : decode cX10_drift 11 = .ok (.iconst 0, 1) := by decide +kernel
theorem dX10_drift_12 : decode cX10_drift 12 = .ok (.bipush 6, 2) := by decide +kernel
theorem dX10_drift_14 : decode cX10_drift 14 = .ok (.invokestatic 99, 3) := by decide +kernel
theorem dX10_drift_17 : decode cX10_drift 17 = .ok (.ifCond .eq 34, 3) := by decide +kernel
theorem dX10_drift_20 : decode cX10_drift 20 = .ok (.iload_n 3, 1) := by decide +kernel
theorem dX10_drift_21 : decode cX10_drift 21 = .ok (.iconst 0, 1) := by decide +kernel
theorem dX10_drift_22 : decode cX10_drift 22 = .ok (.iconst 4, 1) := by decide +kernel
theorem dX10_drift_23 : decode cX10_drift 23 = .ok (.invokestatic 99, 3) := by decide +kernel
theorem dX10_drift_26 : decode cX10_drift 26 = .ok (.ifCond .eq 25, 3) := by decide +kernel
theorem dX10_drift_29 : decode cX10_drift 29 = .ok (.iload 4, 2) := by decide +kernel
theorem dX10_drift_31 : decode cX10_drift 31 = .ok (.iconst 0, 1) := by decide +kernel
theorem dX10_drift_32 : decode cX10_drift 32 = .ok (.iconst 4, 1) := by decide +kernel
theorem dX10_drift_33 : decode cX10_drift 33 = .ok (.iload_n 3, 1) := by decide +kernel
theorem dX10_drift_34 : decode cX10_drift 34 = .ok (.isub, 1) := by decide +kernel
theorem dX10_drift_35 : decode cX10_drift 35 = .ok (.invokestatic 99, 3) := by decide +kernel
theorem dX10_drift_38 : decode cX10_drift 38 = .ok (.ifCond .eq 13, 3) := by decide +kernel
theorem dX10_drift_41 : decode cX10_drift 41 = .ok (.iload 5, 2) := by decide +kernel
theorem dX10_drift_43 : decode cX10_drift 43 = .ok (.iconst 0, 1) := by decide +kernel
theorem dX10_drift_44 : decode cX10_drift 44 = .ok (.iconst 1, 1) := by decide +kernel
theorem dX10_drift_45 : decode cX10_drift 45 = .ok (.invokestatic 99, 3) := by decide +kernel
theorem dX10_drift_48 : decode cX10_drift 48 = .ok (.ifCond .ne 5, 3) := by decide +kernel
theorem dX10_drift_51 : decode cX10_drift 51 = .ok (.iconst (-1), 1) := by decide +kernel
theorem dX10_drift_52 : decode cX10_drift 52 = .ok (.ireturn, 1) := by decide +kernel
theorem dX10_drift_53 : decode cX10_drift 53 = .ok (.iconst 0, 1) := by decide +kernel
theorem dX10_drift_54 : decode cX10_drift 54 = .ok (.istore 6, 2) := by decide +kernel
theorem dX10_drift_56 : decode cX10_drift 56 = .ok (.iload 6, 2) := by decide +kernel
theorem dX10_drift_58 : decode cX10_drift 58 = .ok (.bipush 15, 2) := by decide +kernel
theorem dX10_drift_60 : decode cX10_drift 60 = .ok (.if_icmp .ge 28, 3) := by decide +kernel
theorem dX10_drift_63 : decode cX10_drift 63 = .ok (.aload_n 0, 1) := by decide +kernel
theorem dX10_drift_64 : decode cX10_drift 64 = .ok (.getfield 69, 3) := by decide +kernel
theorem dX10_drift_67 : decode cX10_drift 67 = .ok (.iload 6, 2) := by decide +kernel
theorem dX10_drift_69 : decode cX10_drift 69 = .ok (.iload 6, 2) := by decide +kernel
theorem dX10_drift_71 : decode cX10_drift 71 = .ok (.bipush 7, 2) := by decide +kernel
theorem dX10_drift_73 : decode cX10_drift 73 = .ok (.if_icmp .ne 7, 3) := by decide +kernel
theorem dX10_drift_76 : decode cX10_drift 76 = .ok (.iconst 1, 1) := by decide +kernel
theorem dX10_drift_77 : decode cX10_drift 77 = .ok (.goto 4, 3) := by decide +kernel
theorem dX10_drift_80 : decode cX10_drift 80 = .ok (.iconst 0, 1) := by decide +kernel
theorem dX10_drift_81 : decode cX10_drift 81 = .ok (.iastore, 1) := by decide +kernel
theorem dX10_drift_82 : decode cX10_drift 82 = .ok (.iinc 6 1, 3) := by decide +kernel
theorem dX10_drift_85 : decode cX10_drift 85 = .ok (.goto (-29), 3) := by decide +kernel
theorem dX10_drift_88 : decode cX10_drift 88 = .ok (.iconst 1, 1) := by decide +kernel
theorem dX10_drift_89 : decode cX10_drift 89 = .ok (.istore 6, 2) := by decide +kernel
theorem dX10_drift_91 : decode cX10_drift 91 = .ok (.iconst 0, 1) := by decide +kernel
theorem dX10_drift_92 : decode cX10_drift 92 = .ok (.istore 7, 2) := by decide +kernel
theorem dX10_drift_94 : decode cX10_drift 94 = .ok (.iload 7, 2) := by decide +kernel
theorem dX10_drift_96 : decode cX10_drift 96 = .ok (.iload_n 2, 1) := by decide +kernel
theorem dX10_drift_97 : decode cX10_drift 97 = .ok (.if_icmp .ge 107, 3) := by decide +kernel
theorem dX10_drift_100 : decode cX10_drift 100 = .ok (.iconst 1, 1) := by decide +kernel
theorem dX10_drift_101 : decode cX10_drift 101 = .ok (.istore 8, 2) := by decide +kernel
theorem dX10_drift_103 : decode cX10_drift 103 = .ok (.iload 8, 2) := by decide +kernel
theorem dX10_drift_105 : decode cX10_drift 105 = .ok (.bipush 14, 2) := by decide +kernel
theorem dX10_drift_107 : decode cX10_drift 107 = .ok (.if_icmp .ge 55, 3) := by decide +kernel
theorem dX10_drift_110 : decode cX10_drift 110 = .ok (.aload_n 0, 1) := by decide +kernel
theorem dX10_drift_111 : decode cX10_drift 111 = .ok (.getfield 72, 3) := by decide +kernel
theorem dX10_drift_114 : decode cX10_drift 114 = .ok (.iload 8, 2) := by decide +kernel
theorem dX10_drift_116 : decode cX10_drift 116 = .ok (.aload_n 0, 1) := by decide +kernel
theorem dX10_drift_117 : decode cX10_drift 117 = .ok (.getfield 69, 3) := by decide +kernel
theorem dX10_drift_120 : decode cX10_drift 120 = .ok (.iload 8, 2) := by decide +kernel
theorem dX10_drift_122 : decode cX10_drift 122 = .ok (.iaload, 1) := by decide +kernel
theorem dX10_drift_123 : decode cX10_drift 123 = .ok (.iconst 4, 1) := by decide +kernel
theorem dX10_drift_124 : decode cX10_drift 124 = .ok (.iload_n 3, 1) := by decide +kernel
theorem dX10_drift_125 : decode cX10_drift 125 = .ok (.isub, 1) := by decide +kernel
theorem dX10_drift_126 : decode cX10_drift 126 = .ok (.iload 4, 2) := by decide +kernel
theorem dX10_drift_128 : decode cX10_drift 128 = .ok (.isub, 1) := by decide +kernel
theorem dX10_drift_129 : decode cX10_drift 129 = .ok (.imul, 1) := by decide +kernel
theorem dX10_drift_130 : decode cX10_drift 130 = .ok (.aload_n 0, 1) := by decide +kernel
theorem dX10_drift_131 : decode cX10_drift 131 = .ok (.getfield 69, 3) := by decide +kernel
theorem dX10_drift_134 : decode cX10_drift 134 = .ok (.iload 8, 2) := by decide +kernel
theorem dX10_drift_136 : decode cX10_drift 136 = .ok (.iconst 1, 1) := by decide +kernel
theorem dX10_drift_137 : decode cX10_drift 137 = .ok (.isub, 1) := by decide +kernel
theorem dX10_drift_138 : decode cX10_drift 138 = .ok (.iaload, 1) := by decide +kernel
theorem dX10_drift_139 : decode cX10_drift 139 = .ok (.iload_n 3, 1) := by decide +kernel
theorem dX10_drift_140 : decode cX10_drift 140 = .ok (.imul, 1) := by decide +kernel
theorem dX10_drift_141 : decode cX10_drift 141 = .ok (.iadd, 1) := by decide +kernel
theorem dX10_drift_142 : decode cX10_drift 142 = .ok (.aload_n 0, 1) := by decide +kernel
theorem dX10_drift_143 : decode cX10_drift 143 = .ok (.getfield 69, 3) := by decide +kernel
theorem dX10_drift_146 : decode cX10_drift 146 = .ok (.iload 8, 2) := by decide +kernel
theorem dX10_drift_148 : decode cX10_drift 148 = .ok (.iconst 1, 1) := by decide +kernel
theorem dX10_drift_149 : decode cX10_drift 149 = .ok (.iadd, 1) := by decide +kernel
theorem dX10_drift_150 : decode cX10_drift 150 = .ok (.iaload, 1) := by decide +kernel
theorem dX10_drift_151 : decode cX10_drift 151 = .ok (.iload 4, 2) := by decide +kernel
theorem dX10_drift_153 : decode cX10_drift 153 = .ok (.imul, 1) := by decide +kernel
theorem dX10_drift_154 : decode cX10_drift 154 = .ok (.iadd, 1) := by decide +kernel
theorem dX10_drift_155 : decode cX10_drift 155 = .ok (.iastore, 1) := by decide +kernel
theorem dX10_drift_156 : decode cX10_drift 156 = .ok (.iinc 8 1, 3) := by decide +kernel
theorem dX10_drift_159 : decode cX10_drift 159 = .ok (.goto (-56), 3) := by decide +kernel
theorem dX10_drift_162 : decode cX10_drift 162 = .ok (.iconst 1, 1) := by decide +kernel
theorem dX10_drift_163 : decode cX10_drift 163 = .ok (.istore 8, 2) := by decide +kernel
theorem dX10_drift_165 : decode cX10_drift 165 = .ok (.iload 8, 2) := by decide +kernel
theorem dX10_drift_167 : decode cX10_drift 167 = .ok (.bipush 14, 2) := by decide +kernel
theorem dX10_drift_169 : decode cX10_drift 169 = .ok (.if_icmp .ge 23, 3) := by decide +kernel
theorem dX10_drift_172 : decode cX10_drift 172 = .ok (.aload_n 0, 1) := by decide +kernel
theorem dX10_drift_173 : decode cX10_drift 173 = .ok (.getfield 69, 3) := by decide +kernel
theorem dX10_drift_176 : decode cX10_drift 176 = .ok (.iload 8, 2) := by decide +kernel
theorem dX10_drift_178 : decode cX10_drift 178 = .ok (.aload_n 0, 1) := by decide +kernel
theorem dX10_drift_179 : decode cX10_drift 179 = .ok (.getfield 72, 3) := by decide +kernel
theorem dX10_drift_182 : decode cX10_drift 182 = .ok (.iload 8, 2) := by decide +kernel
theorem dX10_drift_184 : decode cX10_drift 184 = .ok (.iaload, 1) := by decide +kernel
theorem dX10_drift_185 : decode cX10_drift 185 = .ok (.iastore, 1) := by decide +kernel
theorem dX10_drift_186 : decode cX10_drift 186 = .ok (.iinc 8 1, 3) := by decide +kernel
theorem dX10_drift_189 : decode cX10_drift 189 = .ok (.goto (-24), 3) := by decide +kernel
theorem dX10_drift_192 : decode cX10_drift 192 = .ok (.iload 6, 2) := by decide +kernel
theorem dX10_drift_194 : decode cX10_drift 194 = .ok (.iconst 4, 1) := by decide +kernel
theorem dX10_drift_195 : decode cX10_drift 195 = .ok (.imul, 1) := by decide +kernel
theorem dX10_drift_196 : decode cX10_drift 196 = .ok (.istore 6, 2) := by decide +kernel
theorem dX10_drift_198 : decode cX10_drift 198 = .ok (.iinc 7 1, 3) := by decide +kernel
theorem dX10_drift_201 : decode cX10_drift 201 = .ok (.goto (-107), 3) := by decide +kernel
theorem dX10_drift_204 : decode cX10_drift 204 = .ok (.aload_n 0, 1) := by decide +kernel
theorem dX10_drift_205 : decode cX10_drift 205 = .ok (.getfield 69, 3) := by decide +kernel
theorem dX10_drift_208 : decode cX10_drift 208 = .ok (.iload_n 1, 1) := by decide +kernel
theorem dX10_drift_209 : decode cX10_drift 209 = .ok (.iconst 1, 1) := by decide +kernel
theorem dX10_drift_210 : decode cX10_drift 210 = .ok (.iadd, 1) := by decide +kernel
theorem dX10_drift_211 : decode cX10_drift 211 = .ok (.iaload, 1) := by decide +kernel
theorem dX10_drift_212 : decode cX10_drift 212 = .ok (.i2l, 1) := by decide +kernel
theorem dX10_drift_213 : decode cX10_drift 213 = .ok (.iload 6, 2) := by decide +kernel
theorem dX10_drift_215 : decode cX10_drift 215 = .ok (.i2l, 1) := by decide +kernel
theorem dX10_drift_216 : decode cX10_drift 216 = .ok (.iload 5, 2) := by decide +kernel
theorem dX10_drift_218 : decode cX10_drift 218 = .ok (.invokestatic 186, 3) := by decide +kernel
theorem dX10_drift_221 : decode cX10_drift 221 = .ok (.l2i, 1) := by decide +kernel
theorem dX10_drift_222 : decode cX10_drift 222 = .ok (.ireturn, 1) := by decide +kernel
def L_X10_drift_165 (a_next_162 : Nat → Int32) (k_192 : (Nat → Int32) → Option (Int32 × (Nat → Int32) × (Nat → Int32))) : Nat → Int32 → (Nat → Int32) → Option (Int32 × (Nat → Int32) × (Nat → Int32))
  | 0, _, _ => none
  | n + 1, x8_165, a_miles_165 => (if 14 ≤ x8_165 then k_192 a_miles_165 else (if inb x8_165 15 = true then (if inb x8_165 15 = true then L_X10_drift_165 a_next_162 k_192 n ((x8_165 + 1)) ((upd a_miles_165 (Int32.toNatClampNeg x8_165) ((a_next_162 (Int32.toNatClampNeg x8_165))))) else none) else none))
def L_X10_drift_103 (x3 : Int32) (x4 : Int32) (a_miles_94 : Nat → Int32) (k_162 : (Nat → Int32) → Option (Int32 × (Nat → Int32) × (Nat → Int32))) : Nat → Int32 → (Nat → Int32) → Option (Int32 × (Nat → Int32) × (Nat → Int32))
  | 0, _, _ => none
  | n + 1, x8_103, a_next_103 => (if 14 ≤ x8_103 then k_162 a_next_103 else (if inb x8_103 15 = true then (if inb ((x8_103 - 1)) 15 = true then (if inb ((x8_103 + 1)) 15 = true then (if inb x8_103 15 = true then L_X10_drift_103 x3 x4 a_miles_94 k_162 n ((x8_103 + 1)) ((upd a_next_103 (Int32.toNatClampNeg x8_103) (((((a_miles_94 (Int32.toNatClampNeg x8_103)) * ((4 - x3) - x4)) + ((a_miles_94 (Int32.toNatClampNeg ((x8_103 - 1)))) * x3)) + ((a_miles_94 (Int32.toNatClampNeg ((x8_103 + 1)))) * x4))))) else none) else none) else none) else none))
def L_X10_drift_94 (x2 : Int32) (x3 : Int32) (x4 : Int32) (k_204 : Int32 → (Nat → Int32) → (Nat → Int32) → Option (Int32 × (Nat → Int32) × (Nat → Int32))) : Nat → Int32 → Int32 → (Nat → Int32) → (Nat → Int32) → Option (Int32 × (Nat → Int32) × (Nat → Int32))
  | 0, _, _, _, _ => none
  | n + 1, x6_94, x7_94, a_miles_94, a_next_94 => (if x2 ≤ x7_94 then k_204 x6_94 a_miles_94 a_next_94 else jn (fun (a_next_162 : Nat → Int32) => jn (fun (a_miles_192 : Nat → Int32) => L_X10_drift_94 x2 x3 x4 k_204 n ((x6_94 * 4)) ((x7_94 + 1)) a_miles_192 a_next_162) (fun k_192 => L_X10_drift_165 a_next_162 k_192 5000 1 a_miles_94)) (fun k_162 => L_X10_drift_103 x3 x4 a_miles_94 k_162 5000 1 a_next_94))
def L_X10_drift_56 (k_88 : (Nat → Int32) → Option (Int32 × (Nat → Int32) × (Nat → Int32))) : Nat → Int32 → (Nat → Int32) → Option (Int32 × (Nat → Int32) × (Nat → Int32))
  | 0, _, _ => none
  | n + 1, x6_56, a_miles_56 => (if 15 ≤ x6_56 then k_88 a_miles_56 else jn (fun (j0_81 : Int32) => (if inb x6_56 15 = true then L_X10_drift_56 k_88 n ((x6_56 + 1)) ((upd a_miles_56 (Int32.toNatClampNeg x6_56) j0_81)) else none)) (fun k_81 => (if x6_56 = 7 then k_81 1 else k_81 0)))
def F_X10_drift (x1 : Int32) (x2 : Int32) (x3 : Int32) (x4 : Int32) (x5 : Int32) (a_miles : Nat → Int32) (a_next : Nat → Int32) : Option (Int32 × (Nat → Int32) × (Nat → Int32)) := (F_X10_in x1 0 12).bind (fun q4 => (if q4 = 0 then some ((-1), a_miles, a_next) else (F_X10_in x2 0 6).bind (fun q14 => (if q14 = 0 then some ((-1), a_miles, a_next) else (F_X10_in x3 0 4).bind (fun q23 => (if q23 = 0 then some ((-1), a_miles, a_next) else (F_X10_in x4 0 ((4 - x3))).bind (fun q35 => (if q35 = 0 then some ((-1), a_miles, a_next) else (F_X10_in x5 0 1).bind (fun q45 => (if q45 = 0 then some ((-1), a_miles, a_next) else jn (fun (a_miles_88 : Nat → Int32) => jn (fun (x6_204 : Int32) (a_miles_204 : Nat → Int32) (a_next_204 : Nat → Int32) => (if inb ((x1 + 1)) 15 = true then (F_X10_part ((Int32.toInt64 ((a_miles_204 (Int32.toNatClampNeg ((x1 + 1))))))) ((Int32.toInt64 x6_204)) x5).bind (fun q218 => some ((Int64.toInt32 q218), a_miles_204, a_next_204)) else none)) (fun k_204 => L_X10_drift_94 x2 x3 x4 k_204 5000 1 0 a_miles_88 a_next)) (fun k_88 => L_X10_drift_56 k_88 5000 0 a_miles)))))))))))
theorem hdV_X10_drift : yX10_drift.cls = RX10 ∧ yX10_drift.cls ≠ "java/lang/invoke/MethodHandle" ∧ yX10_drift.cls ≠ "java/lang/invoke/VarHandle" ∧ (parseMethodDescriptor yX10_drift.desc).map (fun d => d.parameters.length) = some 5 := by decide +kernel
set_option maxHeartbeats 4000000 in
set_option maxRecDepth 100000 in
theorem c_X10_drift (l : Launch) (G : GG) (x1 : Int32) (x2 : Int32) (x3 : Int32) (x4 : Int32) (x5 : Int32) (h_this : Nat) (ad_this : Nat → Nat) (v_typed : Int32) (v_at : Int32) (v_isSo : Int32) (v_kept : Int32) (v_all : Int64) (v_sightAll : Int64) (v_aheadMany : Int32) (a_miles : Nat → Int32) (a_next : Nat → Int32) (out : Int32 × (Nat → Int32) × (Nat → Int32)) (hF : F_X10_drift x1 x2 x3 x4 x5 a_miles a_next = some out) : CtrI l yX10_drift (WS yX10_drift cX10_drift 9 (some .int)) { frames := 2, cells := 0, slots := 0, locals := 55 } G [.ref h_this, .int x1, .int x2, .int x3, .int x4, .int x5] [(h_this, oX10 ad_this v_typed v_at v_isSo v_kept v_all v_sightAll v_aheadMany), ((ad_this 25), cI G 15 a_miles), ((ad_this 26), cI G 15 a_next)] [(h_this, oX10 ad_this v_typed v_at v_isSo v_kept v_all v_sightAll v_aheadMany), ((ad_this 25), cI G 15 out.2.1), ((ad_this 26), cI G 15 out.2.2)] out.1 := by
  refine startI (cc := cX10_drift) (maxL := 9) (by decide) rfl (Nat.le_of_ble_eq_true rfl) ?_
  intro p e s m args below meth c A Q hx hb hml hts hown hc hA hret ls H locs hl hW
  have hown : s.vm.findClass RX10 = some m.cls := hown
  have hg : ∀ w ∈ GOODS, w.before _ s = true := fun w h => hts w (List.mem_cons_of_mem _ h)
  have hl : lv_has ls 9 [(0, .ref h_this), (1, .int x1), (2, .int x2), (3, .int x3), (4, .int x4), (5, .int x5)] := hl
  rw [F_X10_drift] at hF
  refine lv_iload_n hx hb dX10_drift_0 rfl (lv_at hl 1 rfl) ?_
  refine lv_iconst (v := 0) hx hb dX10_drift_1 (by decide) ?_
  refine lv_bipush (v := 12) hx hb dX10_drift_2 (by decide) ?_
  obtain ⟨q4, c_4, hF⟩ := bd_el hF
  refine wcZ (ws' := [(h_this, oX10 ad_this v_typed v_at v_isSo v_kept v_all v_sightAll v_aheadMany), ((ad_this 25), cI G 15 a_miles), ((ad_this 26), cI G 15 a_next)]) (wc := []) (wr := [(h_this, oX10 ad_this v_typed v_at v_isSo v_kept v_all v_sightAll v_aheadMany), ((ad_this 25), cI G 15 a_miles), ((ad_this 26), cI G 15 a_next)]) (w1 := []) (va_runS (As := [.int x1, .int 0, .int 12]) (rest := []) ⟨hx, hb, hml, hown, hg⟩ (c_X10_in l G x1 0 12 q4 c_4 H.size) (va_cwS 3 hg (gS wd_4_136 wd_4_137 wd_1_15 wd_4_138) rfl rfl rfl hdS_X10_in ⟨(Nat.le_of_ble_eq_true rfl), (Nat.le_of_ble_eq_true rfl)⟩) (preS hc hW [] rfl (by decide)) rfl rfl hl.1 rfl (lv_room (Nat.le_of_ble_eq_true rfl)) dX10_drift_4 ⟨Nat.zero_le _, Nat.zero_le _⟩) hA hW [] [0, 1, 2] [0, 1, 2] rfl rfl (by decide) (by decide) rfl (by decide) (fun z_4 H locs hW => ?_)
  refine lv_if_eq (tgt := 51) hx hb dX10_drift_7 (by decide) (fun c_7 => ?_) (fun c_7 => ?_)
  · have hF := ite_t hF c_7
    refine lv_iconst (v := (-1)) hx hb dX10_drift_51 (by decide) ?_
    obtain rfl := Option.some.inj hF
    exact hret _ _ _ _ hW dX10_drift_52
  · have hF := ite_f hF c_7
    refine lv_iload_n hx hb dX10_drift_10 rfl (lv_at hl 2 rfl) ?_
    refine lv_iconst (v := 0) hx hb dX10_drift_11 (by decide) ?_
    refine lv_bipush (v := 6) hx hb dX10_drift_12 (by decide) ?_
    obtain ⟨q14, c_14, hF⟩ := bd_el hF
    refine wcZ (ws' := [(h_this, oX10 ad_this v_typed v_at v_isSo v_kept v_all v_sightAll v_aheadMany), ((ad_this 25), cI G 15 a_miles), ((ad_this 26), cI G 15 a_next)]) (wc := []) (wr := [(h_this, oX10 ad_this v_typed v_at v_isSo v_kept v_all v_sightAll v_aheadMany), ((ad_this 25), cI G 15 a_miles), ((ad_this 26), cI G 15 a_next)]) (w1 := []) (va_runS (As := [.int x2, .int 0, .int 6]) (rest := []) ⟨hx, hb, hml, hown, hg⟩ (c_X10_in l G x2 0 6 q14 c_14 H.size) (va_cwS 3 hg (gS wd_4_136 wd_4_137 wd_1_15 wd_4_138) rfl rfl rfl hdS_X10_in ⟨(Nat.le_of_ble_eq_true rfl), (Nat.le_of_ble_eq_true rfl)⟩) (preS hc hW [] rfl (by decide)) rfl rfl hl.1 rfl (lv_room (Nat.le_of_ble_eq_true rfl)) dX10_drift_14 ⟨Nat.zero_le _, Nat.zero_le _⟩) hA hW [] [0, 1, 2] [0, 1, 2] rfl rfl (by decide) (by decide) rfl (by decide) (fun z_14 H locs hW => ?_)
    refine lv_if_eq (tgt := 51) hx hb dX10_drift_17 (by decide) (fun c_17 => ?_) (fun c_17 => ?_)
    · have hF := ite_t hF c_17
      refine lv_iconst (v := (-1)) hx hb dX10_drift_51 (by decide) ?_
      obtain rfl := Option.some.inj hF
      exact hret _ _ _ _ hW dX10_drift_52
    · have hF := ite_f hF c_17
      refine lv_iload_n hx hb dX10_drift_20 rfl (lv_at hl 3 rfl) ?_
      refine lv_iconst (v := 0) hx hb dX10_drift_21 (by decide) ?_
      refine lv_iconst (v := 4) hx hb dX10_drift_22 (by decide) ?_
      obtain ⟨q23, c_23, hF⟩ := bd_el hF
      refine wcZ (ws' := [(h_this, oX10 ad_this v_typed v_at v_isSo v_kept v_all v_sightAll v_aheadMany), ((ad_this 25), cI G 15 a_miles), ((ad_this 26), cI G 15 a_next)]) (wc := []) (wr := [(h_this, oX10 ad_this v_typed v_at v_isSo v_kept v_all v_sightAll v_aheadMany), ((ad_this 25), cI G 15 a_miles), ((ad_this 26), cI G 15 a_next)]) (w1 := []) (va_runS (As := [.int x3, .int 0, .int 4]) (rest := []) ⟨hx, hb, hml, hown, hg⟩ (c_X10_in l G x3 0 4 q23 c_23 H.size) (va_cwS 3 hg (gS wd_4_136 wd_4_137 wd_1_15 wd_4_138) rfl rfl rfl hdS_X10_in ⟨(Nat.le_of_ble_eq_true rfl), (Nat.le_of_ble_eq_true rfl)⟩) (preS hc hW [] rfl (by decide)) rfl rfl hl.1 rfl (lv_room (Nat.le_of_ble_eq_true rfl)) dX10_drift_23 ⟨Nat.zero_le _, Nat.zero_le _⟩) hA hW [] [0, 1, 2] [0, 1, 2] rfl rfl (by decide) (by decide) rfl (by decide) (fun z_23 H locs hW => ?_)
      refine lv_if_eq (tgt := 51) hx hb dX10_drift_26 (by decide) (fun c_26 => ?_) (fun c_26 => ?_)
      · have hF := ite_t hF c_26
        refine lv_iconst (v := (-1)) hx hb dX10_drift_51 (by decide) ?_
        obtain rfl := Option.some.inj hF
        exact hret _ _ _ _ hW dX10_drift_52
      · have hF := ite_f hF c_26
        refine lv_iload hx hb dX10_drift_29 (lv_at hl 4 rfl) ?_
        refine lv_iconst (v := 0) hx hb dX10_drift_31 (by decide) ?_
        refine lv_iconst (v := 4) hx hb dX10_drift_32 (by decide) ?_
        refine lv_iload_n hx hb dX10_drift_33 rfl (lv_at hl 3 rfl) ?_
        refine lv_isub hx hb dX10_drift_34 ?_
        obtain ⟨q35, c_35, hF⟩ := bd_el hF
        refine wcZ (ws' := [(h_this, oX10 ad_this v_typed v_at v_isSo v_kept v_all v_sightAll v_aheadMany), ((ad_this 25), cI G 15 a_miles), ((ad_this 26), cI G 15 a_next)]) (wc := []) (wr := [(h_this, oX10 ad_this v_typed v_at v_isSo v_kept v_all v_sightAll v_aheadMany), ((ad_this 25), cI G 15 a_miles), ((ad_this 26), cI G 15 a_next)]) (w1 := []) (va_runS (As := [.int x4, .int 0, .int ((4 - x3))]) (rest := []) ⟨hx, hb, hml, hown, hg⟩ (c_X10_in l G x4 0 ((4 - x3)) q35 c_35 H.size) (va_cwS 3 hg (gS wd_4_136 wd_4_137 wd_1_15 wd_4_138) rfl rfl rfl hdS_X10_in ⟨(Nat.le_of_ble_eq_true rfl), (Nat.le_of_ble_eq_true rfl)⟩) (preS hc hW [] rfl (by decide)) rfl rfl hl.1 rfl (lv_room (Nat.le_of_ble_eq_true rfl)) dX10_drift_35 ⟨Nat.zero_le _, Nat.zero_le _⟩) hA hW [] [0, 1, 2] [0, 1, 2] rfl rfl (by decide) (by decide) rfl (by decide) (fun z_35 H locs hW => ?_)
        refine lv_if_eq (tgt := 51) hx hb dX10_drift_38 (by decide) (fun c_38 => ?_) (fun c_38 => ?_)
        · have hF := ite_t hF c_38
          refine lv_iconst (v := (-1)) hx hb dX10_drift_51 (by decide) ?_
          obtain rfl := Option.some.inj hF
          exact hret _ _ _ _ hW dX10_drift_52
        · have hF := ite_f hF c_38
          refine lv_iload hx hb dX10_drift_41 (lv_at hl 5 rfl) ?_
          refine lv_iconst (v := 0) hx hb dX10_drift_43 (by decide) ?_
          refine lv_iconst (v := 1) hx hb dX10_drift_44 (by decide) ?_
          obtain ⟨q45, c_45, hF⟩ := bd_el hF
          refine wcZ (ws' := [(h_this, oX10 ad_this v_typed v_at v_isSo v_kept v_all v_sightAll v_aheadMany), ((ad_this 25), cI G 15 a_miles), ((ad_this 26), cI G 15 a_next)]) (wc := []) (wr := [(h_this, oX10 ad_this v_typed v_at v_isSo v_kept v_all v_sightAll v_aheadMany), ((ad_this 25), cI G 15 a_miles), ((ad_this 26), cI G 15 a_next)]) (w1 := []) (va_runS (As := [.int x5, .int 0, .int 1]) (rest := []) ⟨hx, hb, hml, hown, hg⟩ (c_X10_in l G x5 0 1 q45 c_45 H.size) (va_cwS 3 hg (gS wd_4_136 wd_4_137 wd_1_15 wd_4_138) rfl rfl rfl hdS_X10_in ⟨(Nat.le_of_ble_eq_true rfl), (Nat.le_of_ble_eq_true rfl)⟩) (preS hc hW [] rfl (by decide)) rfl rfl hl.1 rfl (lv_room (Nat.le_of_ble_eq_true rfl)) dX10_drift_45 ⟨Nat.zero_le _, Nat.zero_le _⟩) hA hW [] [0, 1, 2] [0, 1, 2] rfl rfl (by decide) (by decide) rfl (by decide) (fun z_45 H locs hW => ?_)
          refine lv_if_ne (tgt := 53) hx hb dX10_drift_48 (by decide) (fun c_48 => ?_) (fun c_48 => ?_)
          · have hF := ite_f hF c_48
            refine lv_iconst (v := 0) hx hb dX10_drift_53 (by decide) ?_
            refine lv_istore (lv' := [(6, .int 0), (0, .ref h_this), (1, .int x1), (2, .int x2), (3, .int x3), (4, .int x4), (5, .int x5)]) hx hb dX10_drift_54 hl (by decide) rfl (fun ls hl => ?_)
            obtain ⟨k_88, e_88, hF⟩ := jn_el hF
            have J_88 : ∀ (a_miles_88 : Nat → Int32) (ls : Array Slot) (H : Heap) (locs : List Loc), k_88 a_miles_88 = some out → lv_has ls 9 [(0, .ref h_this), (1, .int x1), (2, .int x2), (3, .int x3), (4, .int x4), (5, .int x5)] → Wd G A s.heap [(h_this, oX10 ad_this v_typed v_at v_isSo v_kept v_all v_sightAll v_aheadMany), ((ad_this 25), cI G 15 a_miles_88), ((ad_this 26), cI G 15 a_next)] H locs → W p l e ({ frames := 2, cells := 0, slots := 0, locals := 55 } : Room) s m args below meth c H locs 0 0 Q (F0 m 88 ls []) := by
              intro a_miles_88 ls H locs hF hl hW
              rw [e_88] at hF
              dsimp only at hF
              refine lv_iconst (v := 1) hx hb dX10_drift_88 (by decide) ?_
              refine lv_istore (lv' := [(6, .int 1), (0, .ref h_this), (1, .int x1), (2, .int x2), (3, .int x3), (4, .int x4), (5, .int x5)]) hx hb dX10_drift_89 hl (by decide) rfl (fun ls hl => ?_)
              refine lv_iconst (v := 0) hx hb dX10_drift_91 (by decide) ?_
              refine lv_istore (lv' := [(7, .int 0), (6, .int 1), (0, .ref h_this), (1, .int x1), (2, .int x2), (3, .int x3), (4, .int x4), (5, .int x5)]) hx hb dX10_drift_92 hl (by decide) rfl (fun ls hl => ?_)
              obtain ⟨k_204, e_204, hF⟩ := jn_el hF
              have J_204 : ∀ (x6_204 : Int32) (a_miles_204 : Nat → Int32) (a_next_204 : Nat → Int32) (ls : Array Slot) (H : Heap) (locs : List Loc), k_204 x6_204 a_miles_204 a_next_204 = some out → lv_has ls 9 [(0, .ref h_this), (1, .int x1), (5, .int x5), (6, .int x6_204)] → Wd G A s.heap [(h_this, oX10 ad_this v_typed v_at v_isSo v_kept v_all v_sightAll v_aheadMany), ((ad_this 25), cI G 15 a_miles_204), ((ad_this 26), cI G 15 a_next_204)] H locs → W p l e ({ frames := 2, cells := 0, slots := 0, locals := 55 } : Room) s m args below meth c H locs 0 0 Q (F0 m 204 ls []) := by
                intro x6_204 a_miles_204 a_next_204 ls H locs hF hl hW
                rw [e_204] at hF
                dsimp only at hF
                refine lv_aload_n hx hb dX10_drift_204 rfl (lv_at hl 0 rfl) ?_
                refine va_get (D := G.1) (ci := 9) (v := .ref ((ad_this 25))) (C := RX10) (T := TX10) (N := 31) hx hb hg hu_X10 hown hc.1 hW.1 0 rfl rfl 25 (by decide) (hg _ wd_4_63) (fun _ h9 => h9) rfl dX10_drift_205 ?_
                refine lv_iload_n hx hb dX10_drift_208 rfl (lv_at hl 1 rfl) ?_
                refine lv_iconst (v := 1) hx hb dX10_drift_209 (by decide) ?_
                refine lv_iadd hx hb dX10_drift_210 ?_
                obtain ⟨b_211, hF⟩ := inb_el hF
                refine va_iald hx hb hc.1 hW.1 1 0 rfl rfl b_211 dX10_drift_211 ?_
                refine lv_i2l (v := (Int32.toInt64 ((a_miles_204 (Int32.toNatClampNeg ((x1 + 1))))))) hx hb dX10_drift_212 rfl ?_
                refine lv_iload hx hb dX10_drift_213 (lv_at hl 3 rfl) ?_
                refine lv_i2l (v := (Int32.toInt64 x6_204)) hx hb dX10_drift_215 rfl ?_
                refine lv_iload hx hb dX10_drift_216 (lv_at hl 2 rfl) ?_
                obtain ⟨q218, c_218, hF⟩ := bd_el hF
                refine wcJ (ws' := [(h_this, oX10 ad_this v_typed v_at v_isSo v_kept v_all v_sightAll v_aheadMany), ((ad_this 25), cI G 15 a_miles_204), ((ad_this 26), cI G 15 a_next_204)]) (wc := []) (wr := [(h_this, oX10 ad_this v_typed v_at v_isSo v_kept v_all v_sightAll v_aheadMany), ((ad_this 25), cI G 15 a_miles_204), ((ad_this 26), cI G 15 a_next_204)]) (w1 := []) (va_runS (As := [.long ((Int32.toInt64 ((a_miles_204 (Int32.toNatClampNeg ((x1 + 1))))))), .long ((Int32.toInt64 x6_204)), .int x5]) (rest := []) ⟨hx, hb, hml, hown, hg⟩ (c_X10_part l G ((Int32.toInt64 ((a_miles_204 (Int32.toNatClampNeg ((x1 + 1))))))) ((Int32.toInt64 x6_204)) x5 q218 c_218 H.size) (va_cwS 3 hg (gS wd_5_1 wd_5_2 wd_1_15 wd_5_3) rfl rfl rfl hdS_X10_part ⟨(Nat.le_of_ble_eq_true rfl), (Nat.le_of_ble_eq_true rfl)⟩) (preS hc hW [] rfl (by decide)) rfl rfl hl.1 rfl (lv_room (Nat.le_of_ble_eq_true rfl)) dX10_drift_218 ⟨Nat.zero_le _, Nat.zero_le _⟩) hA hW [] [0, 1, 2] [0, 1, 2] rfl rfl (by decide) (by decide) rfl (by decide) (fun H locs hW => ?_)
                refine lv_l2i (v := (Int64.toInt32 q218)) hx hb dX10_drift_221 rfl ?_
                obtain rfl := Option.some.inj hF
                exact hret _ _ _ _ hW dX10_drift_222
              have L_94 : ∀ (n : Nat) (x6_94 : Int32) (x7_94 : Int32) (a_miles_94 : Nat → Int32) (a_next_94 : Nat → Int32) (ls : Array Slot) (H : Heap) (locs : List Loc), L_X10_drift_94 x2 x3 x4 k_204 n x6_94 x7_94 a_miles_94 a_next_94 = some out → lv_has ls 9 [(0, .ref h_this), (1, .int x1), (2, .int x2), (3, .int x3), (4, .int x4), (5, .int x5), (6, .int x6_94), (7, .int x7_94)] → Wd G A s.heap [(h_this, oX10 ad_this v_typed v_at v_isSo v_kept v_all v_sightAll v_aheadMany), ((ad_this 25), cI G 15 a_miles_94), ((ad_this 26), cI G 15 a_next_94)] H locs → W p l e ({ frames := 2, cells := 0, slots := 0, locals := 55 } : Room) s m args below meth c H locs 0 0 Q (F0 m 94 ls []) := by
                intro n
                induction n with
                | zero => intro x6_94 x7_94 a_miles_94 a_next_94 ls H locs hF hl hW; have h0 : none = some out := hF; cases h0
                | succ n ih =>
                  intro x6_94 x7_94 a_miles_94 a_next_94 ls H locs hF hl hW
                  rw [L_X10_drift_94] at hF
                  refine lv_iload hx hb dX10_drift_94 (lv_at hl 7 rfl) ?_
                  refine lv_iload_n hx hb dX10_drift_96 rfl (lv_at hl 2 rfl) ?_
                  refine lv_icmp_ge (tgt := 204) hx hb dX10_drift_97 (by decide) (fun c_97 => ?_) (fun c_97 => ?_)
                  · have hF := ite_t hF c_97
                    exact J_204 x6_94 a_miles_94 a_next_94 _ _ _ hF (lv_sub hl [0, 1, 5, 6] rfl) hW
                  · have hF := ite_f hF c_97
                    refine lv_iconst (v := 1) hx hb dX10_drift_100 (by decide) ?_
                    refine lv_istore (lv' := [(8, .int 1), (0, .ref h_this), (1, .int x1), (2, .int x2), (3, .int x3), (4, .int x4), (5, .int x5), (6, .int x6_94), (7, .int x7_94)]) hx hb dX10_drift_101 hl (by decide) rfl (fun ls hl => ?_)
                    obtain ⟨k_162, e_162, hF⟩ := jn_el hF
                    have J_162 : ∀ (a_next_162 : Nat → Int32) (ls : Array Slot) (H : Heap) (locs : List Loc), k_162 a_next_162 = some out → lv_has ls 9 [(0, .ref h_this), (1, .int x1), (2, .int x2), (3, .int x3), (4, .int x4), (5, .int x5), (6, .int x6_94), (7, .int x7_94)] → Wd G A s.heap [(h_this, oX10 ad_this v_typed v_at v_isSo v_kept v_all v_sightAll v_aheadMany), ((ad_this 25), cI G 15 a_miles_94), ((ad_this 26), cI G 15 a_next_162)] H locs → W p l e ({ frames := 2, cells := 0, slots := 0, locals := 55 } : Room) s m args below meth c H locs 0 0 Q (F0 m 162 ls []) := by
                      intro a_next_162 ls H locs hF hl hW
                      rw [e_162] at hF
                      dsimp only at hF
                      refine lv_iconst (v := 1) hx hb dX10_drift_162 (by decide) ?_
                      refine lv_istore (lv' := [(8, .int 1), (0, .ref h_this), (1, .int x1), (2, .int x2), (3, .int x3), (4, .int x4), (5, .int x5), (6, .int x6_94), (7, .int x7_94)]) hx hb dX10_drift_163 hl (by decide) rfl (fun ls hl => ?_)
                      obtain ⟨k_192, e_192, hF⟩ := jn_el hF
                      have J_192 : ∀ (a_miles_192 : Nat → Int32) (ls : Array Slot) (H : Heap) (locs : List Loc), k_192 a_miles_192 = some out → lv_has ls 9 [(0, .ref h_this), (1, .int x1), (2, .int x2), (3, .int x3), (4, .int x4), (5, .int x5), (6, .int x6_94), (7, .int x7_94)] → Wd G A s.heap [(h_this, oX10 ad_this v_typed v_at v_isSo v_kept v_all v_sightAll v_aheadMany), ((ad_this 25), cI G 15 a_miles_192), ((ad_this 26), cI G 15 a_next_162)] H locs → W p l e ({ frames := 2, cells := 0, slots := 0, locals := 55 } : Room) s m args below meth c H locs 0 0 Q (F0 m 192 ls []) := by
                        intro a_miles_192 ls H locs hF hl hW
                        rw [e_192] at hF
                        dsimp only at hF
                        refine lv_iload hx hb dX10_drift_192 (lv_at hl 6 rfl) ?_
                        refine lv_iconst (v := 4) hx hb dX10_drift_194 (by decide) ?_
                        refine lv_imul hx hb dX10_drift_195 ?_
                        refine lv_istore (lv' := [(6, .int ((x6_94 * 4))), (0, .ref h_this), (1, .int x1), (2, .int x2), (3, .int x3), (4, .int x4), (5, .int x5), (7, .int x7_94)]) hx hb dX10_drift_196 hl (by decide) rfl (fun ls hl => ?_)
                        refine lv_iinc (v := (x7_94 + 1)) (lv' := [(7, .int ((x7_94 + 1))), (6, .int ((x6_94 * 4))), (0, .ref h_this), (1, .int x1), (2, .int x2), (3, .int x3), (4, .int x4), (5, .int x5)]) hx hb dX10_drift_198 hl (k := 7) rfl rfl (by decide) rfl (fun ls hl => ?_)
                        refine lv_goto (tgt := 94) hx hb dX10_drift_201 (by decide) ?_
                        exact ih ((x6_94 * 4)) ((x7_94 + 1)) a_miles_192 a_next_162 _ _ _ hF (lv_sub hl [2, 3, 4, 5, 6, 7, 1, 0] rfl) hW
                      have L_165 : ∀ (n : Nat) (x8_165 : Int32) (a_miles_165 : Nat → Int32) (ls : Array Slot) (H : Heap) (locs : List Loc), L_X10_drift_165 a_next_162 k_192 n x8_165 a_miles_165 = some out → lv_has ls 9 [(0, .ref h_this), (1, .int x1), (2, .int x2), (3, .int x3), (4, .int x4), (5, .int x5), (6, .int x6_94), (7, .int x7_94), (8, .int x8_165)] → Wd G A s.heap [(h_this, oX10 ad_this v_typed v_at v_isSo v_kept v_all v_sightAll v_aheadMany), ((ad_this 25), cI G 15 a_miles_165), ((ad_this 26), cI G 15 a_next_162)] H locs → W p l e ({ frames := 2, cells := 0, slots := 0, locals := 55 } : Room) s m args below meth c H locs 0 0 Q (F0 m 165 ls []) := by
                        intro n
                        induction n with
                        | zero => intro x8_165 a_miles_165 ls H locs hF hl hW; have h0 : none = some out := hF; cases h0
                        | succ n ih =>
                          intro x8_165 a_miles_165 ls H locs hF hl hW
                          rw [L_X10_drift_165] at hF
                          refine lv_iload hx hb dX10_drift_165 (lv_at hl 8 rfl) ?_
                          refine lv_bipush (v := 14) hx hb dX10_drift_167 (by decide) ?_
                          refine lv_icmp_ge (tgt := 192) hx hb dX10_drift_169 (by decide) (fun c_169 => ?_) (fun c_169 => ?_)
                          · have hF := ite_t hF c_169
                            exact J_192 a_miles_165 _ _ _ hF (lv_sub hl [0, 1, 2, 3, 4, 5, 6, 7] rfl) hW
                          · have hF := ite_f hF c_169
                            refine lv_aload_n hx hb dX10_drift_172 rfl (lv_at hl 0 rfl) ?_
                            refine va_get (D := G.1) (ci := 9) (v := .ref ((ad_this 25))) (C := RX10) (T := TX10) (N := 31) hx hb hg hu_X10 hown hc.1 hW.1 0 rfl rfl 25 (by decide) (hg _ wd_4_63) (fun _ h9 => h9) rfl dX10_drift_173 ?_
                            refine lv_iload hx hb dX10_drift_176 (lv_at hl 8 rfl) ?_
                            refine lv_aload_n hx hb dX10_drift_178 rfl (lv_at hl 0 rfl) ?_
                            refine va_get (D := G.1) (ci := 9) (v := .ref ((ad_this 26))) (C := RX10) (T := TX10) (N := 31) hx hb hg hu_X10 hown hc.1 hW.1 0 rfl rfl 26 (by decide) (hg _ wd_4_64) (fun _ h9 => h9) rfl dX10_drift_179 ?_
                            refine lv_iload hx hb dX10_drift_182 (lv_at hl 8 rfl) ?_
                            obtain ⟨b_184, hF⟩ := inb_el hF
                            refine va_iald hx hb hc.1 hW.1 2 0 rfl rfl b_184 dX10_drift_184 ?_
                            obtain ⟨b_185, hF⟩ := inb_el hF
                            refine va_iast hx hb hc.1 hW.1 hW.2.1 hW.2.2 1 0 rfl rfl b_185 dX10_drift_185 (fun H locs hP hD hS => ?_)
                            have hW : Wd G A s.heap [(h_this, oX10 ad_this v_typed v_at v_isSo v_kept v_all v_sightAll v_aheadMany), ((ad_this 25), cI G 15 ((upd a_miles_165 (Int32.toNatClampNeg x8_165) ((a_next_162 (Int32.toNatClampNeg x8_165)))))), ((ad_this 26), cI G 15 a_next_162)] H locs := ⟨hP, hD, hS⟩
                            refine lv_iinc (v := (x8_165 + 1)) (lv' := [(8, .int ((x8_165 + 1))), (0, .ref h_this), (1, .int x1), (2, .int x2), (3, .int x3), (4, .int x4), (5, .int x5), (6, .int x6_94), (7, .int x7_94)]) hx hb dX10_drift_186 hl (k := 8) rfl rfl (by decide) rfl (fun ls hl => ?_)
                            refine lv_goto (tgt := 165) hx hb dX10_drift_189 (by decide) ?_
                            exact ih ((x8_165 + 1)) ((upd a_miles_165 (Int32.toNatClampNeg x8_165) ((a_next_162 (Int32.toNatClampNeg x8_165))))) _ _ _ hF (lv_sub hl [1, 2, 3, 4, 5, 6, 7, 8, 0] rfl) hW
                      exact L_165 5000 1 a_miles_94 _ _ _ hF (lv_sub hl [1, 2, 3, 4, 5, 6, 7, 8, 0] rfl) hW
                    have L_103 : ∀ (n : Nat) (x8_103 : Int32) (a_next_103 : Nat → Int32) (ls : Array Slot) (H : Heap) (locs : List Loc), L_X10_drift_103 x3 x4 a_miles_94 k_162 n x8_103 a_next_103 = some out → lv_has ls 9 [(0, .ref h_this), (1, .int x1), (2, .int x2), (3, .int x3), (4, .int x4), (5, .int x5), (6, .int x6_94), (7, .int x7_94), (8, .int x8_103)] → Wd G A s.heap [(h_this, oX10 ad_this v_typed v_at v_isSo v_kept v_all v_sightAll v_aheadMany), ((ad_this 25), cI G 15 a_miles_94), ((ad_this 26), cI G 15 a_next_103)] H locs → W p l e ({ frames := 2, cells := 0, slots := 0, locals := 55 } : Room) s m args below meth c H locs 0 0 Q (F0 m 103 ls []) := by
                      intro n
                      induction n with
                      | zero => intro x8_103 a_next_103 ls H locs hF hl hW; have h0 : none = some out := hF; cases h0
                      | succ n ih =>
                        intro x8_103 a_next_103 ls H locs hF hl hW
                        rw [L_X10_drift_103] at hF
                        refine lv_iload hx hb dX10_drift_103 (lv_at hl 8 rfl) ?_
                        refine lv_bipush (v := 14) hx hb dX10_drift_105 (by decide) ?_
                        refine lv_icmp_ge (tgt := 162) hx hb dX10_drift_107 (by decide) (fun c_107 => ?_) (fun c_107 => ?_)
                        · have hF := ite_t hF c_107
                          exact J_162 a_next_103 _ _ _ hF (lv_sub hl [0, 1, 2, 3, 4, 5, 6, 7] rfl) hW
                        · have hF := ite_f hF c_107
                          refine lv_aload_n hx hb dX10_drift_110 rfl (lv_at hl 0 rfl) ?_
                          refine va_get (D := G.1) (ci := 9) (v := .ref ((ad_this 26))) (C := RX10) (T := TX10) (N := 31) hx hb hg hu_X10 hown hc.1 hW.1 0 rfl rfl 26 (by decide) (hg _ wd_4_64) (fun _ h9 => h9) rfl dX10_drift_111 ?_
                          refine lv_iload hx hb dX10_drift_114 (lv_at hl 8 rfl) ?_
                          refine lv_aload_n hx hb dX10_drift_116 rfl (lv_at hl 0 rfl) ?_
                          refine va_get (D := G.1) (ci := 9) (v := .ref ((ad_this 25))) (C := RX10) (T := TX10) (N := 31) hx hb hg hu_X10 hown hc.1 hW.1 0 rfl rfl 25 (by decide) (hg _ wd_4_63) (fun _ h9 => h9) rfl dX10_drift_117 ?_
                          refine lv_iload hx hb dX10_drift_120 (lv_at hl 8 rfl) ?_
                          obtain ⟨b_122, hF⟩ := inb_el hF
                          refine va_iald hx hb hc.1 hW.1 1 0 rfl rfl b_122 dX10_drift_122 ?_
                          refine lv_iconst (v := 4) hx hb dX10_drift_123 (by decide) ?_
                          refine lv_iload_n hx hb dX10_drift_124 rfl (lv_at hl 3 rfl) ?_
                          refine lv_isub hx hb dX10_drift_125 ?_
                          refine lv_iload hx hb dX10_drift_126 (lv_at hl 4 rfl) ?_
                          refine lv_isub hx hb dX10_drift_128 ?_
                          refine lv_imul hx hb dX10_drift_129 ?_
                          refine lv_aload_n hx hb dX10_drift_130 rfl (lv_at hl 0 rfl) ?_
                          refine va_get (D := G.1) (ci := 9) (v := .ref ((ad_this 25))) (C := RX10) (T := TX10) (N := 31) hx hb hg hu_X10 hown hc.1 hW.1 0 rfl rfl 25 (by decide) (hg _ wd_4_63) (fun _ h9 => h9) rfl dX10_drift_131 ?_
                          refine lv_iload hx hb dX10_drift_134 (lv_at hl 8 rfl) ?_
                          refine lv_iconst (v := 1) hx hb dX10_drift_136 (by decide) ?_
                          refine lv_isub hx hb dX10_drift_137 ?_
                          obtain ⟨b_138, hF⟩ := inb_el hF
                          refine va_iald hx hb hc.1 hW.1 1 0 rfl rfl b_138 dX10_drift_138 ?_
                          refine lv_iload_n hx hb dX10_drift_139 rfl (lv_at hl 3 rfl) ?_
                          refine lv_imul hx hb dX10_drift_140 ?_
                          refine lv_iadd hx hb dX10_drift_141 ?_
                          refine lv_aload_n hx hb dX10_drift_142 rfl (lv_at hl 0 rfl) ?_
                          refine va_get (D := G.1) (ci := 9) (v := .ref ((ad_this 25))) (C := RX10) (T := TX10) (N := 31) hx hb hg hu_X10 hown hc.1 hW.1 0 rfl rfl 25 (by decide) (hg _ wd_4_63) (fun _ h9 => h9) rfl dX10_drift_143 ?_
                          refine lv_iload hx hb dX10_drift_146 (lv_at hl 8 rfl) ?_
                          refine lv_iconst (v := 1) hx hb dX10_drift_148 (by decide) ?_
                          refine lv_iadd hx hb dX10_drift_149 ?_
                          obtain ⟨b_150, hF⟩ := inb_el hF
                          refine va_iald hx hb hc.1 hW.1 1 0 rfl rfl b_150 dX10_drift_150 ?_
                          refine lv_iload hx hb dX10_drift_151 (lv_at hl 4 rfl) ?_
                          refine lv_imul hx hb dX10_drift_153 ?_
                          refine lv_iadd hx hb dX10_drift_154 ?_
                          obtain ⟨b_155, hF⟩ := inb_el hF
                          refine va_iast hx hb hc.1 hW.1 hW.2.1 hW.2.2 2 0 rfl rfl b_155 dX10_drift_155 (fun H locs hP hD hS => ?_)
                          have hW : Wd G A s.heap [(h_this, oX10 ad_this v_typed v_at v_isSo v_kept v_all v_sightAll v_aheadMany), ((ad_this 25), cI G 15 a_miles_94), ((ad_this 26), cI G 15 ((upd a_next_103 (Int32.toNatClampNeg x8_103) (((((a_miles_94 (Int32.toNatClampNeg x8_103)) * ((4 - x3) - x4)) + ((a_miles_94 (Int32.toNatClampNeg ((x8_103 - 1)))) * x3)) + ((a_miles_94 (Int32.toNatClampNeg ((x8_103 + 1)))) * x4))))))] H locs := ⟨hP, hD, hS⟩
                          refine lv_iinc (v := (x8_103 + 1)) (lv' := [(8, .int ((x8_103 + 1))), (0, .ref h_this), (1, .int x1), (2, .int x2), (3, .int x3), (4, .int x4), (5, .int x5), (6, .int x6_94), (7, .int x7_94)]) hx hb dX10_drift_156 hl (k := 8) rfl rfl (by decide) rfl (fun ls hl => ?_)
                          refine lv_goto (tgt := 103) hx hb dX10_drift_159 (by decide) ?_
                          exact ih ((x8_103 + 1)) ((upd a_next_103 (Int32.toNatClampNeg x8_103) (((((a_miles_94 (Int32.toNatClampNeg x8_103)) * ((4 - x3) - x4)) + ((a_miles_94 (Int32.toNatClampNeg ((x8_103 - 1)))) * x3)) + ((a_miles_94 (Int32.toNatClampNeg ((x8_103 + 1)))) * x4))))) _ _ _ hF (lv_sub hl [1, 2, 3, 4, 5, 6, 7, 8, 0] rfl) hW
                    exact L_103 5000 1 a_next_94 _ _ _ hF (lv_sub hl [1, 2, 3, 4, 5, 6, 7, 8, 0] rfl) hW
              exact L_94 5000 1 0 a_miles_88 a_next _ _ _ hF (lv_sub hl [2, 3, 4, 5, 6, 7, 1, 0] rfl) hW
            have L_56 : ∀ (n : Nat) (x6_56 : Int32) (a_miles_56 : Nat → Int32) (ls : Array Slot) (H : Heap) (locs : List Loc), L_X10_drift_56 k_88 n x6_56 a_miles_56 = some out → lv_has ls 9 [(0, .ref h_this), (1, .int x1), (2, .int x2), (3, .int x3), (4, .int x4), (5, .int x5), (6, .int x6_56)] → Wd G A s.heap [(h_this, oX10 ad_this v_typed v_at v_isSo v_kept v_all v_sightAll v_aheadMany), ((ad_this 25), cI G 15 a_miles_56), ((ad_this 26), cI G 15 a_next)] H locs → W p l e ({ frames := 2, cells := 0, slots := 0, locals := 55 } : Room) s m args below meth c H locs 0 0 Q (F0 m 56 ls []) := by
              intro n
              induction n with
              | zero => intro x6_56 a_miles_56 ls H locs hF hl hW; have h0 : none = some out := hF; cases h0
              | succ n ih =>
                intro x6_56 a_miles_56 ls H locs hF hl hW
                rw [L_X10_drift_56] at hF
                refine lv_iload hx hb dX10_drift_56 (lv_at hl 6 rfl) ?_
                refine lv_bipush (v := 15) hx hb dX10_drift_58 (by decide) ?_
                refine lv_icmp_ge (tgt := 88) hx hb dX10_drift_60 (by decide) (fun c_60 => ?_) (fun c_60 => ?_)
                · have hF := ite_t hF c_60
                  exact J_88 a_miles_56 _ _ _ hF (lv_sub hl [0, 1, 2, 3, 4, 5] rfl) hW
                · have hF := ite_f hF c_60
                  refine lv_aload_n hx hb dX10_drift_63 rfl (lv_at hl 0 rfl) ?_
                  refine va_get (D := G.1) (ci := 9) (v := .ref ((ad_this 25))) (C := RX10) (T := TX10) (N := 31) hx hb hg hu_X10 hown hc.1 hW.1 0 rfl rfl 25 (by decide) (hg _ wd_4_63) (fun _ h9 => h9) rfl dX10_drift_64 ?_
                  refine lv_iload hx hb dX10_drift_67 (lv_at hl 6 rfl) ?_
                  refine lv_iload hx hb dX10_drift_69 (lv_at hl 6 rfl) ?_
                  refine lv_bipush (v := 7) hx hb dX10_drift_71 (by decide) ?_
                  obtain ⟨k_81, e_81, hF⟩ := jn_el hF
                  have J_81 : ∀ (j0_81 : Int32) (ls : Array Slot) (H : Heap) (locs : List Loc), k_81 j0_81 = some out → lv_has ls 9 [(0, .ref h_this), (1, .int x1), (2, .int x2), (3, .int x3), (4, .int x4), (5, .int x5), (6, .int x6_56)] → Wd G A s.heap [(h_this, oX10 ad_this v_typed v_at v_isSo v_kept v_all v_sightAll v_aheadMany), ((ad_this 25), cI G 15 a_miles_56), ((ad_this 26), cI G 15 a_next)] H locs → W p l e ({ frames := 2, cells := 0, slots := 0, locals := 55 } : Room) s m args below meth c H locs 0 0 Q (F0 m 81 ls [.int j0_81, .int x6_56, .ref ((ad_this 25))]) := by
                    intro j0_81 ls H locs hF hl hW
                    rw [e_81] at hF
                    dsimp only at hF
                    obtain ⟨b_81, hF⟩ := inb_el hF
                    refine va_iast hx hb hc.1 hW.1 hW.2.1 hW.2.2 1 0 rfl rfl b_81 dX10_drift_81 (fun H locs hP hD hS => ?_)
                    have hW : Wd G A s.heap [(h_this, oX10 ad_this v_typed v_at v_isSo v_kept v_all v_sightAll v_aheadMany), ((ad_this 25), cI G 15 ((upd a_miles_56 (Int32.toNatClampNeg x6_56) j0_81))), ((ad_this 26), cI G 15 a_next)] H locs := ⟨hP, hD, hS⟩
                    refine lv_iinc (v := (x6_56 + 1)) (lv' := [(6, .int ((x6_56 + 1))), (0, .ref h_this), (1, .int x1), (2, .int x2), (3, .int x3), (4, .int x4), (5, .int x5)]) hx hb dX10_drift_82 hl (k := 6) rfl rfl (by decide) rfl (fun ls hl => ?_)
                    refine lv_goto (tgt := 56) hx hb dX10_drift_85 (by decide) ?_
                    exact ih ((x6_56 + 1)) ((upd a_miles_56 (Int32.toNatClampNeg x6_56) j0_81)) _ _ _ hF (lv_sub hl [1, 2, 3, 4, 5, 6, 0] rfl) hW
                  refine lv_icmp_ne (tgt := 80) hx hb dX10_drift_73 (by decide) (fun c_73 => ?_) (fun c_73 => ?_)
                  · have hF := ite_f hF c_73
                    refine lv_iconst (v := 0) hx hb dX10_drift_80 (by decide) ?_
                    exact J_81 0 _ _ _ hF (lv_sub hl [0, 1, 2, 3, 4, 5, 6] rfl) hW
                  · have hF := ite_t hF c_73
                    refine lv_iconst (v := 1) hx hb dX10_drift_76 (by decide) ?_
                    refine lv_goto (tgt := 81) hx hb dX10_drift_77 (by decide) ?_
                    exact J_81 1 _ _ _ hF (lv_sub hl [0, 1, 2, 3, 4, 5, 6] rfl) hW
            exact L_56 5000 0 a_miles _ _ _ hF (lv_sub hl [1, 2, 3, 4, 5, 6, 0] rfl) hW
          · have hF := ite_t hF c_48
            refine lv_iconst (v := (-1)) hx hb dX10_drift_51 (by decide) ?_
            obtain rfl := Option.some.inj hF
            exact hret _ _ _ _ hW dX10_drift_52
theorem dX10_ahead_0 : decode cX10_ahead 0 = .ok (.aload_n 0, 1) := by decide +kernel
theorem dX10_ahead_1 : decode cX10_ahead 1 = .ok (.iload_n 1, 1) := by decide +kernel
theorem dX10_ahead_2 : decode cX10_ahead 2 = .ok (.invokevirtual 134, 3) := by decide +kernel
theorem dX10_ahead_5 : decode cX10_ahead 5 = .ok (.ifCond .eq 16, 3) := by decide +kernel
theorem dX10_ahead_8 : decode cX10_ahead 8 = .ok (.aload_n 0, 1) := by decide +kernel
theorem dX10_ahead_9 : decode cX10_ahead 9 = .ok (.iload_n 2, 1) := by decide +kernel
theorem dX10_ahead_10 : decode cX10_ahead 10 = .ok (.invokevirtual 134, 3) := by decide +kernel
theorem dX10_ahead_13 : decode cX10_ahead 13 = .ok (.ifCond .eq 8, 3) := by decide +kernel
theorem dX10_ahead_16 : decode cX10_ahead 16 = .ok (.iload_n 1, 1) := by decide +kernel
theorem dX10_ahead_17 : decode cX10_ahead 17 = .ok (.iload_n 2, 1) := by decide +kernel
theorem dX10_ahead_18 : decode cX10_ahead 18 = .ok (.if_icmp .ne 5, 3) := by decide +kernel
theorem dX10_ahead_21 : decode cX10_ahead 21 = .ok (.iconst (-1), 1) := by decide +kernel
theorem dX10_ahead_22 : decode cX10_ahead 22 = .ok (.ireturn, 1) := by decide +kernel
theorem dX10_ahead_23 : decode cX10_ahead 23 = .ok (.aload_n 0, 1) := by decide +kernel
theorem dX10_ahead_24 : decode cX10_ahead 24 = .ok (.getfield 128, 3) := by decide +kernel
theorem dX10_ahead_27 : decode cX10_ahead 27 = .ok (.bipush 8, 2) := by decide +kernel
theorem dX10_ahead_29 : decode cX10_ahead 29 = .ok (.if_icmp .ne 6, 3) := by decide +kernel
theorem dX10_ahead_32 : decode cX10_ahead 32 = .ok (.bipush (-3), 2) := by decide +kernel
theorem dX10_ahead_34 : decode cX10_ahead 34 = .ok (.ireturn, 1) := by decide +kernel
theorem dX10_ahead_35 : decode cX10_ahead 35 = .ok (.aload_n 0, 1) := by decide +kernel
theorem dX10_ahead_36 : decode cX10_ahead 36 = .ok (.getfield 75, 3) := by decide +kernel
theorem dX10_ahead_39 : decode cX10_ahead 39 = .ok (.aload_n 0, 1) := by decide +kernel
theorem dX10_ahead_40 : decode cX10_ahead 40 = .ok (.getfield 128, 3) := by decide +kernel
theorem dX10_ahead_43 : decode cX10_ahead 43 = .ok (.iload_n 1, 1) := by decide +kernel
theorem dX10_ahead_44 : decode cX10_ahead 44 = .ok (.iastore, 1) := by decide +kernel
theorem dX10_ahead_45 : decode cX10_ahead 45 = .ok (.aload_n 0, 1) := by decide +kernel
theorem dX10_ahead_46 : decode cX10_ahead 46 = .ok (.getfield 78, 3) := by decide +kernel
theorem dX10_ahead_49 : decode cX10_ahead 49 = .ok (.aload_n 0, 1) := by decide +kernel
theorem dX10_ahead_50 : decode cX10_ahead 50 = .ok (.getfield 128, 3) := by decide +kernel
theorem dX10_ahead_53 : decode cX10_ahead 53 = .ok (.iload_n 2, 1) := by decide +kernel
theorem dX10_ahead_54 : decode cX10_ahead 54 = .ok (.iastore, 1) := by decide +kernel
theorem dX10_ahead_55 : decode cX10_ahead 55 = .ok (.aload_n 0, 1) := by decide +kernel
theorem dX10_ahead_56 : decode cX10_ahead 56 = .ok (.dup, 1) := by decide +kernel
theorem dX10_ahead_57 : decode cX10_ahead 57 = .ok (.getfield 128, 3) := by decide +kernel
theorem dX10_ahead_60 : decode cX10_ahead 60 = .ok (.iconst 1, 1) := by decide +kernel
theorem dX10_ahead_61 : decode cX10_ahead 61 = .ok (.iadd, 1) := by decide +kernel
theorem dX10_ahead_62 : decode cX10_ahead 62 = .ok (.putfield 128, 3) := by decide +kernel
theorem dX10_ahead_65 : decode cX10_ahead 65 = .ok (.aload_n 0, 1) := by decide +kernel
theorem dX10_ahead_66 : decode cX10_ahead 66 = .ok (.getfield 128, 3) := by decide +kernel
theorem dX10_ahead_69 : decode cX10_ahead 69 = .ok (.ireturn, 1) := by decide +kernel
def F_X10_ahead (x1 : Int32) (x2 : Int32) (v_aheadMany : Int32) (a_aheadA : Nat → Int32) (a_aheadB : Nat → Int32) (a_signs : Nat → Int32) : Option (Int32 × Int32 × (Nat → Int32) × (Nat → Int32)) := (F_X10_isSign x1 a_signs).bind (fun q2 => (if q2 = 0 then some ((-1), v_aheadMany, a_aheadA, a_aheadB) else (F_X10_isSign x2 a_signs).bind (fun q10 => (if q10 = 0 then some ((-1), v_aheadMany, a_aheadA, a_aheadB) else (if x1 = x2 then some ((-1), v_aheadMany, a_aheadA, a_aheadB) else (if v_aheadMany = 8 then some ((-3), v_aheadMany, a_aheadA, a_aheadB) else (if inb v_aheadMany 8 = true then (if inb v_aheadMany 8 = true then some ((v_aheadMany + 1), (v_aheadMany + 1), (upd a_aheadA (Int32.toNatClampNeg v_aheadMany) x1), (upd a_aheadB (Int32.toNatClampNeg v_aheadMany) x2)) else none) else none)))))))
theorem hdV_X10_ahead : yX10_ahead.cls = RX10 ∧ yX10_ahead.cls ≠ "java/lang/invoke/MethodHandle" ∧ yX10_ahead.cls ≠ "java/lang/invoke/VarHandle" ∧ (parseMethodDescriptor yX10_ahead.desc).map (fun d => d.parameters.length) = some 2 := by decide +kernel
set_option maxHeartbeats 4000000 in
set_option maxRecDepth 100000 in
theorem c_X10_ahead (l : Launch) (G : GG) (x1 : Int32) (x2 : Int32) (h_this : Nat) (ad_this : Nat → Nat) (v_typed : Int32) (v_at : Int32) (v_isSo : Int32) (v_kept : Int32) (v_all : Int64) (v_sightAll : Int64) (v_aheadMany : Int32) (a_aheadA : Nat → Int32) (a_aheadB : Nat → Int32) (a_signs : Nat → Int32) (out : Int32 × Int32 × (Nat → Int32) × (Nat → Int32)) (hF : F_X10_ahead x1 x2 v_aheadMany a_aheadA a_aheadB a_signs = some out) : CtrI l yX10_ahead (WS yX10_ahead cX10_ahead 3 (some .int)) { frames := 2, cells := 0, slots := 0, locals := 43 } G [.ref h_this, .int x1, .int x2] [(h_this, oX10 ad_this v_typed v_at v_isSo v_kept v_all v_sightAll v_aheadMany), ((ad_this 27), cI G 8 a_aheadA), ((ad_this 28), cI G 8 a_aheadB), ((ad_this 3), cI G 2 a_signs)] [(h_this, oX10 ad_this v_typed v_at v_isSo v_kept v_all v_sightAll out.2.1), ((ad_this 27), cI G 8 out.2.2.1), ((ad_this 28), cI G 8 out.2.2.2), ((ad_this 3), cI G 2 a_signs)] out.1 := by
  refine startI (cc := cX10_ahead) (maxL := 3) (by decide) rfl (Nat.le_of_ble_eq_true rfl) ?_
  intro p e s m args below meth c A Q hx hb hml hts hown hc hA hret ls H locs hl hW
  have hown : s.vm.findClass RX10 = some m.cls := hown
  have hg : ∀ w ∈ GOODS, w.before _ s = true := fun w h => hts w (List.mem_cons_of_mem _ h)
  have hl : lv_has ls 3 [(0, .ref h_this), (1, .int x1), (2, .int x2)] := hl
  rw [F_X10_ahead] at hF
  refine lv_aload_n hx hb dX10_ahead_0 rfl (lv_at hl 0 rfl) ?_
  refine lv_iload_n hx hb dX10_ahead_1 rfl (lv_at hl 1 rfl) ?_
  obtain ⟨q2, c_2, hF⟩ := bd_el hF
  refine wcZ (ws' := [(h_this, oX10 ad_this v_typed v_at v_isSo v_kept v_all v_sightAll v_aheadMany), ((ad_this 27), cI G 8 a_aheadA), ((ad_this 28), cI G 8 a_aheadB), ((ad_this 3), cI G 2 a_signs)]) (wc := [(h_this, oX10 ad_this v_typed v_at v_isSo v_kept v_all v_sightAll v_aheadMany), ((ad_this 3), cI G 2 a_signs)]) (wr := [((ad_this 27), cI G 8 a_aheadA), ((ad_this 28), cI G 8 a_aheadB)]) (w1 := [(h_this, oX10 ad_this v_typed v_at v_isSo v_kept v_all v_sightAll v_aheadMany), ((ad_this 3), cI G 2 a_signs)]) (va_runV (As := [.int x1]) (rest := []) ⟨hx, hb, hml, hown, hg⟩ (c_X10_isSign l G x1 h_this ad_this v_typed v_at v_isSo v_kept v_all v_sightAll v_aheadMany a_signs q2 c_2 H.size) (cwV 1 hg (gV wd_4_168 wd_4_170 wd_0_30 wd_1_15 wd_4_171) rfl rfl rfl hdV_X10_isSign ⟨(Nat.le_of_ble_eq_true rfl), (Nat.le_of_ble_eq_true rfl)⟩) (preV hc hW [0, 3] rfl (by decide) rfl rfl) rfl rfl hl.1 rfl (lv_room (Nat.le_of_ble_eq_true rfl)) dX10_ahead_2 ⟨Nat.zero_le _, Nat.zero_le _⟩) hA hW [0, 3] [1, 2] [2, 0, 1, 3] rfl rfl (by decide) (by decide) rfl (by decide) (fun z_2 H locs hW => ?_)
  refine lv_if_eq (tgt := 21) hx hb dX10_ahead_5 (by decide) (fun c_5 => ?_) (fun c_5 => ?_)
  · have hF := ite_t hF c_5
    refine lv_iconst (v := (-1)) hx hb dX10_ahead_21 (by decide) ?_
    obtain rfl := Option.some.inj hF
    exact hret _ _ _ _ hW dX10_ahead_22
  · have hF := ite_f hF c_5
    refine lv_aload_n hx hb dX10_ahead_8 rfl (lv_at hl 0 rfl) ?_
    refine lv_iload_n hx hb dX10_ahead_9 rfl (lv_at hl 2 rfl) ?_
    obtain ⟨q10, c_10, hF⟩ := bd_el hF
    refine wcZ (ws' := [(h_this, oX10 ad_this v_typed v_at v_isSo v_kept v_all v_sightAll v_aheadMany), ((ad_this 27), cI G 8 a_aheadA), ((ad_this 28), cI G 8 a_aheadB), ((ad_this 3), cI G 2 a_signs)]) (wc := [(h_this, oX10 ad_this v_typed v_at v_isSo v_kept v_all v_sightAll v_aheadMany), ((ad_this 3), cI G 2 a_signs)]) (wr := [((ad_this 27), cI G 8 a_aheadA), ((ad_this 28), cI G 8 a_aheadB)]) (w1 := [(h_this, oX10 ad_this v_typed v_at v_isSo v_kept v_all v_sightAll v_aheadMany), ((ad_this 3), cI G 2 a_signs)]) (va_runV (As := [.int x2]) (rest := []) ⟨hx, hb, hml, hown, hg⟩ (c_X10_isSign l G x2 h_this ad_this v_typed v_at v_isSo v_kept v_all v_sightAll v_aheadMany a_signs q10 c_10 H.size) (cwV 1 hg (gV wd_4_168 wd_4_170 wd_0_30 wd_1_15 wd_4_171) rfl rfl rfl hdV_X10_isSign ⟨(Nat.le_of_ble_eq_true rfl), (Nat.le_of_ble_eq_true rfl)⟩) (preV hc hW [0, 3] rfl (by decide) rfl rfl) rfl rfl hl.1 rfl (lv_room (Nat.le_of_ble_eq_true rfl)) dX10_ahead_10 ⟨Nat.zero_le _, Nat.zero_le _⟩) hA hW [0, 3] [1, 2] [2, 0, 1, 3] rfl rfl (by decide) (by decide) rfl (by decide) (fun z_10 H locs hW => ?_)
    refine lv_if_eq (tgt := 21) hx hb dX10_ahead_13 (by decide) (fun c_13 => ?_) (fun c_13 => ?_)
    · have hF := ite_t hF c_13
      refine lv_iconst (v := (-1)) hx hb dX10_ahead_21 (by decide) ?_
      obtain rfl := Option.some.inj hF
      exact hret _ _ _ _ hW dX10_ahead_22
    · have hF := ite_f hF c_13
      refine lv_iload_n hx hb dX10_ahead_16 rfl (lv_at hl 1 rfl) ?_
      refine lv_iload_n hx hb dX10_ahead_17 rfl (lv_at hl 2 rfl) ?_
      refine lv_icmp_ne (tgt := 23) hx hb dX10_ahead_18 (by decide) (fun c_18 => ?_) (fun c_18 => ?_)
      · have hF := ite_f hF c_18
        refine lv_aload_n hx hb dX10_ahead_23 rfl (lv_at hl 0 rfl) ?_
        refine va_get (D := G.1) (ci := 9) (v := .int v_aheadMany) (C := RX10) (T := TX10) (N := 31) hx hb hg hu_X10 hown hc.1 hW.1 0 rfl rfl 29 (by decide) (hg _ wd_4_67) (fun _ h9 => h9) rfl dX10_ahead_24 ?_
        refine lv_bipush (v := 8) hx hb dX10_ahead_27 (by decide) ?_
        refine lv_icmp_ne (tgt := 35) hx hb dX10_ahead_29 (by decide) (fun c_29 => ?_) (fun c_29 => ?_)
        · have hF := ite_f hF c_29
          refine lv_aload_n hx hb dX10_ahead_35 rfl (lv_at hl 0 rfl) ?_
          refine va_get (D := G.1) (ci := 9) (v := .ref ((ad_this 27))) (C := RX10) (T := TX10) (N := 31) hx hb hg hu_X10 hown hc.1 hW.1 0 rfl rfl 27 (by decide) (hg _ wd_4_65) (fun _ h9 => h9) rfl dX10_ahead_36 ?_
          refine lv_aload_n hx hb dX10_ahead_39 rfl (lv_at hl 0 rfl) ?_
          refine va_get (D := G.1) (ci := 9) (v := .int v_aheadMany) (C := RX10) (T := TX10) (N := 31) hx hb hg hu_X10 hown hc.1 hW.1 0 rfl rfl 29 (by decide) (hg _ wd_4_67) (fun _ h9 => h9) rfl dX10_ahead_40 ?_
          refine lv_iload_n hx hb dX10_ahead_43 rfl (lv_at hl 1 rfl) ?_
          obtain ⟨b_44, hF⟩ := inb_el hF
          refine va_iast hx hb hc.1 hW.1 hW.2.1 hW.2.2 1 0 rfl rfl b_44 dX10_ahead_44 (fun H locs hP hD hS => ?_)
          have hW : Wd G A s.heap [(h_this, oX10 ad_this v_typed v_at v_isSo v_kept v_all v_sightAll v_aheadMany), ((ad_this 27), cI G 8 ((upd a_aheadA (Int32.toNatClampNeg v_aheadMany) x1))), ((ad_this 28), cI G 8 a_aheadB), ((ad_this 3), cI G 2 a_signs)] H locs := ⟨hP, hD, hS⟩
          refine lv_aload_n hx hb dX10_ahead_45 rfl (lv_at hl 0 rfl) ?_
          refine va_get (D := G.1) (ci := 9) (v := .ref ((ad_this 28))) (C := RX10) (T := TX10) (N := 31) hx hb hg hu_X10 hown hc.1 hW.1 0 rfl rfl 28 (by decide) (hg _ wd_4_66) (fun _ h9 => h9) rfl dX10_ahead_46 ?_
          refine lv_aload_n hx hb dX10_ahead_49 rfl (lv_at hl 0 rfl) ?_
          refine va_get (D := G.1) (ci := 9) (v := .int v_aheadMany) (C := RX10) (T := TX10) (N := 31) hx hb hg hu_X10 hown hc.1 hW.1 0 rfl rfl 29 (by decide) (hg _ wd_4_67) (fun _ h9 => h9) rfl dX10_ahead_50 ?_
          refine lv_iload_n hx hb dX10_ahead_53 rfl (lv_at hl 2 rfl) ?_
          obtain ⟨b_54, hF⟩ := inb_el hF
          refine va_iast hx hb hc.1 hW.1 hW.2.1 hW.2.2 2 0 rfl rfl b_54 dX10_ahead_54 (fun H locs hP hD hS => ?_)
          have hW : Wd G A s.heap [(h_this, oX10 ad_this v_typed v_at v_isSo v_kept v_all v_sightAll v_aheadMany), ((ad_this 27), cI G 8 ((upd a_aheadA (Int32.toNatClampNeg v_aheadMany) x1))), ((ad_this 28), cI G 8 ((upd a_aheadB (Int32.toNatClampNeg v_aheadMany) x2))), ((ad_this 3), cI G 2 a_signs)] H locs := ⟨hP, hD, hS⟩
          refine lv_aload_n hx hb dX10_ahead_55 rfl (lv_at hl 0 rfl) ?_
          refine lv_dup hx hb dX10_ahead_56 rfl ?_
          refine va_get (D := G.1) (ci := 9) (v := .int v_aheadMany) (C := RX10) (T := TX10) (N := 31) hx hb hg hu_X10 hown hc.1 hW.1 0 rfl rfl 29 (by decide) (hg _ wd_4_67) (fun _ h9 => h9) rfl dX10_ahead_57 ?_
          refine lv_iconst (v := 1) hx hb dX10_ahead_60 (by decide) ?_
          refine lv_iadd hx hb dX10_ahead_61 ?_
          refine va_put (D := G.1) (ci := 9) (v := .int ((v_aheadMany + 1))) (ty := .int) (C := RX10) (T := TX10) (N := 31) hx hb hg hu_X10 tyX10 tyX10_ok nmX10 hown hc.1 hW.1 hW.2.1 hW.2.2 0 rfl rfl 29 (by decide) (hg _ wd_4_67) (fun _ h9 => h9) rfl (by decide +kernel) rfl rfl (Nat.le_of_ble_eq_true rfl) dX10_ahead_62 (fun H locs hP hD hS => ?_)
          have hW : Wd G A s.heap [(h_this, oX10 ad_this v_typed v_at v_isSo v_kept v_all v_sightAll ((v_aheadMany + 1))), ((ad_this 27), cI G 8 ((upd a_aheadA (Int32.toNatClampNeg v_aheadMany) x1))), ((ad_this 28), cI G 8 ((upd a_aheadB (Int32.toNatClampNeg v_aheadMany) x2))), ((ad_this 3), cI G 2 a_signs)] H locs := ⟨hP, hD, hS⟩
          refine lv_aload_n hx hb dX10_ahead_65 rfl (lv_at hl 0 rfl) ?_
          refine va_get (D := G.1) (ci := 9) (v := .int ((v_aheadMany + 1))) (C := RX10) (T := TX10) (N := 31) hx hb hg hu_X10 hown hc.1 hW.1 0 rfl rfl 29 (by decide) (hg _ wd_4_67) (fun _ h9 => h9) rfl dX10_ahead_66 ?_
          obtain rfl := Option.some.inj hF
          exact hret _ _ _ _ hW dX10_ahead_69
        · have hF := ite_t hF c_29
          refine lv_bipush (v := (-3)) hx hb dX10_ahead_32 (by decide) ?_
          obtain rfl := Option.some.inj hF
          exact hret _ _ _ _ hW dX10_ahead_34
      · have hF := ite_t hF c_18
        refine lv_iconst (v := (-1)) hx hb dX10_ahead_21 (by decide) ?_
        obtain rfl := Option.some.inj hF
        exact hret _ _ _ _ hW dX10_ahead_22
theorem dX10_forget_0 : decode cX10_forget 0 = .ok (.aload_n 0, 1) := by decide +kernel
theorem dX10_forget_1 : decode cX10_forget 1 = .ok (.getfield 128, 3) := by decide +kernel
theorem dX10_forget_4 : decode cX10_forget 4 = .ok (.istore_n 1, 1) := by decide +kernel
theorem dX10_forget_5 : decode cX10_forget 5 = .ok (.aload_n 0, 1) := by decide +kernel
theorem dX10_forget_6 : decode cX10_forget 6 = .ok (.iconst 0, 1) := by decide +kernel
theorem dX10_forget_7 : decode cX10_forget 7 = .ok (.putfield 128, 3) := by decide +kernel
theorem dX10_forget_10 : decode cX10_forget 10 = .ok (.iload_n 1, 1) := by decide +kernel
theorem dX10_forget_11 : decode cX10_forget 11 = .ok (.ireturn, 1) := by decide +kernel
def F_X10_forget (v_aheadMany : Int32) : Option (Int32 × Int32) := some (v_aheadMany, 0)
theorem hdV_X10_forget : yX10_forget.cls = RX10 ∧ yX10_forget.cls ≠ "java/lang/invoke/MethodHandle" ∧ yX10_forget.cls ≠ "java/lang/invoke/VarHandle" ∧ (parseMethodDescriptor yX10_forget.desc).map (fun d => d.parameters.length) = some 0 := by decide +kernel
set_option maxHeartbeats 4000000 in
set_option maxRecDepth 100000 in
theorem c_X10_forget (l : Launch) (G : GG) (h_this : Nat) (ad_this : Nat → Nat) (v_typed : Int32) (v_at : Int32) (v_isSo : Int32) (v_kept : Int32) (v_all : Int64) (v_sightAll : Int64) (v_aheadMany : Int32) (out : Int32 × Int32) (hF : F_X10_forget v_aheadMany = some out) : CtrI l yX10_forget (WS yX10_forget cX10_forget 2 (some .int)) { frames := 0, cells := 0, slots := 0, locals := 0 } G [.ref h_this] [(h_this, oX10 ad_this v_typed v_at v_isSo v_kept v_all v_sightAll v_aheadMany)] [(h_this, oX10 ad_this v_typed v_at v_isSo v_kept v_all v_sightAll out.2)] out.1 := by
  refine startI (cc := cX10_forget) (maxL := 2) (by decide) rfl (Nat.le_of_ble_eq_true rfl) ?_
  intro p e s m args below meth c A Q hx hb hml hts hown hc hA hret ls H locs hl hW
  have hown : s.vm.findClass RX10 = some m.cls := hown
  have hg : ∀ w ∈ GOODS, w.before _ s = true := fun w h => hts w (List.mem_cons_of_mem _ h)
  have hl : lv_has ls 2 [(0, .ref h_this)] := hl
  rw [F_X10_forget] at hF
  refine lv_aload_n hx hb dX10_forget_0 rfl (lv_at hl 0 rfl) ?_
  refine va_get (D := G.1) (ci := 9) (v := .int v_aheadMany) (C := RX10) (T := TX10) (N := 31) hx hb hg hu_X10 hown hc.1 hW.1 0 rfl rfl 29 (by decide) (hg _ wd_4_67) (fun _ h9 => h9) rfl dX10_forget_1 ?_
  refine lv_istore_n (lv' := [(1, .int v_aheadMany), (0, .ref h_this)]) hx hb dX10_forget_4 rfl hl (by decide) rfl (fun ls hl => ?_)
  refine lv_aload_n hx hb dX10_forget_5 rfl (lv_at hl 1 rfl) ?_
  refine lv_iconst (v := 0) hx hb dX10_forget_6 (by decide) ?_
  refine va_put (D := G.1) (ci := 9) (v := .int 0) (ty := .int) (C := RX10) (T := TX10) (N := 31) hx hb hg hu_X10 tyX10 tyX10_ok nmX10 hown hc.1 hW.1 hW.2.1 hW.2.2 0 rfl rfl 29 (by decide) (hg _ wd_4_67) (fun _ h9 => h9) rfl (by decide +kernel) rfl rfl (Nat.le_of_ble_eq_true rfl) dX10_forget_7 (fun H locs hP hD hS => ?_)
  have hW : Wd G A s.heap [(h_this, oX10 ad_this v_typed v_at v_isSo v_kept v_all v_sightAll 0)] H locs := ⟨hP, hD, hS⟩
  refine lv_iload_n hx hb dX10_forget_10 rfl (lv_at hl 0 rfl) ?_
  obtain rfl := Option.some.inj hF
  exact hret _ _ _ _ hW dX10_forget_11
theorem dX10_orders_0 : decode cX10_orders 0 = .ok (.iconst 0, 1) := by decide +kernel
theorem dX10_orders_1 : decode cX10_orders 1 = .ok (.istore_n 1, 1) := by decide +kernel
theorem dX10_orders_2 : decode cX10_orders 2 = .ok (.iload_n 1, 1) := by decide +kernel
theorem dX10_orders_3 : decode cX10_orders 3 = .ok (.iconst 1, 1) := by decide +kernel
theorem dX10_orders_4 : decode cX10_orders 4 = .ok (.aload_n 0, 1) := by decide +kernel
theorem dX10_orders_5 : decode cX10_orders 5 = .ok (.getfield 17, 3) := by decide +kernel
theorem dX10_orders_8 : decode cX10_orders 8 = .ok (.iconst 0, 1) := by decide +kernel
theorem dX10_orders_9 : decode cX10_orders 9 = .ok (.iaload, 1) := by decide +kernel
theorem dX10_orders_10 : decode cX10_orders 10 = .ok (.ishl, 1) := by decide +kernel
theorem dX10_orders_11 : decode cX10_orders 11 = .ok (.if_icmp .ge 139, 3) := by decide +kernel
theorem dX10_orders_14 : decode cX10_orders 14 = .ok (.aload_n 0, 1) := by decide +kernel
theorem dX10_orders_15 : decode cX10_orders 15 = .ok (.getfield 81, 3) := by decide +kernel
theorem dX10_orders_18 : decode cX10_orders 18 = .ok (.iload_n 1, 1) := by decide +kernel
theorem dX10_orders_19 : decode cX10_orders 19 = .ok (.iload_n 1, 1) := by decide +kernel
theorem dX10_orders_20 : decode cX10_orders 20 = .ok (.ifCond .ne 7, 3) := by decide +kernel
theorem dX10_orders_23 : decode cX10_orders 23 = .ok (.iconst 1, 1) := by decide +kernel
theorem dX10_orders_24 : decode cX10_orders 24 = .ok (.goto 4, 3) := by decide +kernel
theorem dX10_orders_27 : decode cX10_orders 27 = .ok (.iconst 0, 1) := by decide +kernel
theorem dX10_orders_28 : decode cX10_orders 28 = .ok (.iastore, 1) := by decide +kernel
theorem dX10_orders_29 : decode cX10_orders 29 = .ok (.iconst 0, 1) := by decide +kernel
theorem dX10_orders_30 : decode cX10_orders 30 = .ok (.istore_n 2, 1) := by decide +kernel
theorem dX10_orders_31 : decode cX10_orders 31 = .ok (.iload_n 2, 1) := by decide +kernel
theorem dX10_orders_32 : decode cX10_orders 32 = .ok (.aload_n 0, 1) := by decide +kernel
theorem dX10_orders_33 : decode cX10_orders 33 = .ok (.getfield 17, 3) := by decide +kernel
theorem dX10_orders_36 : decode cX10_orders 36 = .ok (.iconst 0, 1) := by decide +kernel
theorem dX10_orders_37 : decode cX10_orders 37 = .ok (.iaload, 1) := by decide +kernel
theorem dX10_orders_38 : decode cX10_orders 38 = .ok (.if_icmp .ge 106, 3) := by decide +kernel
theorem dX10_orders_41 : decode cX10_orders 41 = .ok (.iload_n 1, 1) := by decide +kernel
theorem dX10_orders_42 : decode cX10_orders 42 = .ok (.iload_n 2, 1) := by decide +kernel
theorem dX10_orders_43 : decode cX10_orders 43 = .ok (.ishr, 1) := by decide +kernel
theorem dX10_orders_44 : decode cX10_orders 44 = .ok (.iconst 1, 1) := by decide +kernel
theorem dX10_orders_45 : decode cX10_orders 45 = .ok (.iand, 1) := by decide +kernel
theorem dX10_orders_46 : decode cX10_orders 46 = .ok (.iconst 1, 1) := by decide +kernel
theorem dX10_orders_47 : decode cX10_orders 47 = .ok (.if_icmp .ne 7, 3) := by decide +kernel
theorem dX10_orders_50 : decode cX10_orders 50 = .ok (.iconst 1, 1) := by decide +kernel
theorem dX10_orders_51 : decode cX10_orders 51 = .ok (.goto 4, 3) := by decide +kernel
theorem dX10_orders_54 : decode cX10_orders 54 = .ok (.iconst 0, 1) := by decide +kernel
theorem dX10_orders_55 : decode cX10_orders 55 = .ok (.istore_n 3, 1) := by decide +kernel
theorem dX10_orders_56 : decode cX10_orders 56 = .ok (.iconst 0, 1) := by decide +kernel
theorem dX10_orders_57 : decode cX10_orders 57 = .ok (.istore 4, 2) := by decide +kernel
theorem dX10_orders_59 : decode cX10_orders 59 = .ok (.iload 4, 2) := by decide +kernel
theorem dX10_orders_61 : decode cX10_orders 61 = .ok (.aload_n 0, 1) := by decide +kernel
theorem dX10_orders_62 : decode cX10_orders 62 = .ok (.getfield 128, 3) := by decide +kernel
theorem dX10_orders_65 : decode cX10_orders 65 = .ok (.if_icmp .ge 44, 3) := by decide +kernel
theorem dX10_orders_68 : decode cX10_orders 68 = .ok (.iload_n 3, 1) := by decide +kernel
theorem dX10_orders_69 : decode cX10_orders 69 = .ok (.ifCond .eq 32, 3) := by decide +kernel
theorem dX10_orders_72 : decode cX10_orders 72 = .ok (.aload_n 0, 1) := by decide +kernel
theorem dX10_orders_73 : decode cX10_orders 73 = .ok (.getfield 75, 3) := by decide +kernel
theorem dX10_orders_76 : decode cX10_orders 76 = .ok (.iload 4, 2) := by decide +kernel
theorem dX10_orders_78 : decode cX10_orders 78 = .ok (.iaload, 1) := by decide +kernel
theorem dX10_orders_79 : decode cX10_orders 79 = .ok (.iload_n 2, 1) := by decide +kernel
theorem dX10_orders_80 : decode cX10_orders 80 = .ok (.if_icmp .ne 17, 3) := by decide +kernel
theorem dX10_orders_83 : decode cX10_orders 83 = .ok (.iload_n 1, 1) := by decide +kernel
theorem dX10_orders_84 : decode cX10_orders 84 = .ok (.aload_n 0, 1) := by decide +kernel
theorem dX10_orders_85 : decode cX10_orders 85 = .ok (.getfield 78, 3) := by decide +kernel
theorem dX10_orders_88 : decode cX10_orders 88 = .ok (.iload 4, 2) := by decide +kernel
theorem dX10_orders_90 : decode cX10_orders 90 = .ok (.iaload, 1) := by decide +kernel
theorem dX10_orders_91 : decode cX10_orders 91 = .ok (.ishr, 1) := by decide +kernel
theorem dX10_orders_92 : decode cX10_orders 92 = .ok (.iconst 1, 1) := by decide +kernel
theorem dX10_orders_93 : decode cX10_orders 93 = .ok (.iand, 1) := by decide +kernel
theorem dX10_orders_94 : decode cX10_orders 94 = .ok (.ifCond .ne 7, 3) := by decide +kernel
theorem dX10_orders_97 : decode cX10_orders 97 = .ok (.iconst 1, 1) := by decide +kernel
theorem dX10_orders_98 : decode cX10_orders 98 = .ok (.goto 4, 3) := by decide +kernel
theorem dX10_orders_101 : decode cX10_orders 101 = .ok (.iconst 0, 1) := by decide +kernel
theorem dX10_orders_102 : decode cX10_orders 102 = .ok (.istore_n 3, 1) := by decide +kernel
theorem dX10_orders_103 : decode cX10_orders 103 = .ok (.iinc 4 1, 3) := by decide +kernel
theorem dX10_orders_106 : decode cX10_orders 106 = .ok (.goto (-47), 3) := by decide +kernel
theorem dX10_orders_109 : decode cX10_orders 109 = .ok (.aload_n 0, 1) := by decide +kernel
theorem dX10_orders_110 : decode cX10_orders 110 = .ok (.getfield 81, 3) := by decide +kernel
theorem dX10_orders_113 : decode cX10_orders 113 = .ok (.iload_n 1, 1) := by decide +kernel
theorem dX10_orders_114 : decode cX10_orders 114 = .ok (.dup2, 1) := by decide +kernel
theorem dX10_orders_115 : decode cX10_orders 115 = .ok (.iaload, 1) := by decide +kernel
theorem dX10_orders_116 : decode cX10_orders 116 = .ok (.iload_n 3, 1) := by decide +kernel
theorem dX10_orders_117 : decode cX10_orders 117 = .ok (.ifCond .eq 18, 3) := by decide +kernel
theorem dX10_orders_120 : decode cX10_orders 120 = .ok (.aload_n 0, 1) := by decide +kernel
theorem dX10_orders_121 : decode cX10_orders 121 = .ok (.getfield 81, 3) := by decide +kernel
theorem dX10_orders_124 : decode cX10_orders 124 = .ok (.iload_n 1, 1) := by decide +kernel
theorem dX10_orders_125 : decode cX10_orders 125 = .ok (.iconst 1, 1) := by decide +kernel
theorem dX10_orders_126 : decode cX10_orders 126 = .ok (.iload_n 2, 1) := by decide +kernel
theorem dX10_orders_127 : decode cX10_orders 127 = .ok (.ishl, 1) := by decide +kernel
theorem dX10_orders_128 : decode cX10_orders 128 = .ok (.iconst (-1), 1) := by decide +kernel
theorem dX10_orders_129 : decode cX10_orders 129 = .ok (.ixor, 1) := by decide +kernel
theorem dX10_orders_130 : decode cX10_orders 130 = .ok (.iand, 1) := by decide +kernel
theorem dX10_orders_131 : decode cX10_orders 131 = .ok (.iaload, 1) := by decide +kernel
theorem dX10_orders_132 : decode cX10_orders 132 = .ok (.goto 4, 3) := by decide +kernel
theorem dX10_orders_135 : decode cX10_orders 135 = .ok (.iconst 0, 1) := by decide +kernel
theorem dX10_orders_136 : decode cX10_orders 136 = .ok (.iadd, 1) := by decide +kernel
theorem dX10_orders_137 : decode cX10_orders 137 = .ok (.iastore, 1) := by decide +kernel
theorem dX10_orders_138 : decode cX10_orders 138 = .ok (.iinc 2 1, 3) := by decide +kernel
theorem dX10_orders_141 : decode cX10_orders 141 = .ok (.goto (-110), 3) := by decide +kernel
theorem dX10_orders_144 : decode cX10_orders 144 = .ok (.iinc 1 1, 3) := by decide +kernel
theorem dX10_orders_147 : decode cX10_orders 147 = .ok (.goto (-145), 3) := by decide +kernel
theorem dX10_orders_150 : decode cX10_orders 150 = .ok (.aload_n 0, 1) := by decide +kernel
theorem dX10_orders_151 : decode cX10_orders 151 = .ok (.getfield 81, 3) := by decide +kernel
theorem dX10_orders_154 : decode cX10_orders 154 = .ok (.iconst 1, 1) := by decide +kernel
theorem dX10_orders_155 : decode cX10_orders 155 = .ok (.aload_n 0, 1) := by decide +kernel
theorem dX10_orders_156 : decode cX10_orders 156 = .ok (.getfield 17, 3) := by decide +kernel
theorem dX10_orders_159 : decode cX10_orders 159 = .ok (.iconst 0, 1) := by decide +kernel
theorem dX10_orders_160 : decode cX10_orders 160 = .ok (.iaload, 1) := by decide +kernel
theorem dX10_orders_161 : decode cX10_orders 161 = .ok (.ishl, 1) := by decide +kernel
theorem dX10_orders_162 : decode cX10_orders 162 = .ok (.iconst 1, 1) := by decide +kernel
theorem dX10_orders_163 : decode cX10_orders 163 = .ok (.isub, 1) := by decide +kernel
theorem dX10_orders_164 : decode cX10_orders 164 = .ok (.iaload, 1) := by decide +kernel
theorem dX10_orders_165 : decode cX10_orders 165 = .ok (.ireturn, 1) := by decide +kernel
def L_X10_orders_59 (v_aheadMany : Int32) (a_aheadA : Nat → Int32) (a_aheadB : Nat → Int32) (x1_2 : Int32) (x2_31 : Int32) (k_109 : Int32 → Option (Int32 × (Nat → Int32))) : Nat → Int32 → Int32 → Option (Int32 × (Nat → Int32))
  | 0, _, _ => none
  | n + 1, x3_59, x4_59 => (if v_aheadMany ≤ x4_59 then k_109 x3_59 else jn (fun (j0_102 : Int32) => L_X10_orders_59 v_aheadMany a_aheadA a_aheadB x1_2 x2_31 k_109 n j0_102 ((x4_59 + 1))) (fun k_102 => jn (k_102 0) (fun k_101 => (if x3_59 = 0 then k_101 else (if inb x4_59 8 = true then jn (k_102 1) (fun k_97 => (if (a_aheadA (Int32.toNatClampNeg x4_59)) = x2_31 then (if inb x4_59 8 = true then (if ((x1_2 >>> ((a_aheadB (Int32.toNatClampNeg x4_59)) &&& 31)) &&& 1) = 0 then k_97 else k_101) else none) else k_97)) else none)))))
def L_X10_orders_31 (v_aheadMany : Int32) (a_aheadA : Nat → Int32) (a_aheadB : Nat → Int32) (a_signs : Nat → Int32) (x1_2 : Int32) (k_144 : (Nat → Int32) → Option (Int32 × (Nat → Int32))) : Nat → Int32 → (Nat → Int32) → Option (Int32 × (Nat → Int32))
  | 0, _, _ => none
  | n + 1, x2_31, a_ways_31 => (if (a_signs (Int32.toNatClampNeg 0)) ≤ x2_31 then k_144 a_ways_31 else jn (fun (j0_55 : Int32) => jn (fun (x3_109 : Int32) => (if inb x1_2 16 = true then jn (fun (j0_136 : Int32) => (if inb x1_2 16 = true then L_X10_orders_31 v_aheadMany a_aheadA a_aheadB a_signs x1_2 k_144 n ((x2_31 + 1)) ((upd a_ways_31 (Int32.toNatClampNeg x1_2) (((a_ways_31 (Int32.toNatClampNeg x1_2)) + j0_136)))) else none)) (fun k_136 => (if x3_109 = 0 then k_136 0 else (if inb ((x1_2 &&& (((1 : Int32) <<< (x2_31 &&& 31)) ^^^ (-1)))) 16 = true then k_136 ((a_ways_31 (Int32.toNatClampNeg ((x1_2 &&& (((1 : Int32) <<< (x2_31 &&& 31)) ^^^ (-1))))))) else none))) else none)) (fun k_109 => L_X10_orders_59 v_aheadMany a_aheadA a_aheadB x1_2 x2_31 k_109 5000 j0_55 0)) (fun k_55 => (if ((x1_2 >>> (x2_31 &&& 31)) &&& 1) = 1 then k_55 1 else k_55 0)))
def L_X10_orders_2 (v_aheadMany : Int32) (a_aheadA : Nat → Int32) (a_aheadB : Nat → Int32) (a_signs : Nat → Int32) (k_150 : (Nat → Int32) → Option (Int32 × (Nat → Int32))) : Nat → Int32 → (Nat → Int32) → Option (Int32 × (Nat → Int32))
  | 0, _, _ => none
  | n + 1, x1_2, a_ways_2 => (if ((1 : Int32) <<< ((a_signs (Int32.toNatClampNeg 0)) &&& 31)) ≤ x1_2 then k_150 a_ways_2 else jn (fun (j0_28 : Int32) => (if inb x1_2 16 = true then jn (fun (a_ways_144 : Nat → Int32) => L_X10_orders_2 v_aheadMany a_aheadA a_aheadB a_signs k_150 n ((x1_2 + 1)) a_ways_144) (fun k_144 => L_X10_orders_31 v_aheadMany a_aheadA a_aheadB a_signs x1_2 k_144 5000 0 ((upd a_ways_2 (Int32.toNatClampNeg x1_2) j0_28))) else none)) (fun k_28 => (if x1_2 = 0 then k_28 1 else k_28 0)))
def F_X10_orders (v_aheadMany : Int32) (a_aheadA : Nat → Int32) (a_aheadB : Nat → Int32) (a_signs : Nat → Int32) (a_ways : Nat → Int32) : Option (Int32 × (Nat → Int32)) := jn (fun (a_ways_150 : Nat → Int32) => (if inb ((((1 : Int32) <<< ((a_signs (Int32.toNatClampNeg 0)) &&& 31)) - 1)) 16 = true then some ((a_ways_150 (Int32.toNatClampNeg ((((1 : Int32) <<< ((a_signs (Int32.toNatClampNeg 0)) &&& 31)) - 1)))), a_ways_150) else none)) (fun k_150 => L_X10_orders_2 v_aheadMany a_aheadA a_aheadB a_signs k_150 5000 0 a_ways)
theorem hdV_X10_orders : yX10_orders.cls = RX10 ∧ yX10_orders.cls ≠ "java/lang/invoke/MethodHandle" ∧ yX10_orders.cls ≠ "java/lang/invoke/VarHandle" ∧ (parseMethodDescriptor yX10_orders.desc).map (fun d => d.parameters.length) = some 0 := by decide +kernel
set_option maxHeartbeats 4000000 in
set_option maxRecDepth 100000 in
theorem c_X10_orders (l : Launch) (G : GG) (h_this : Nat) (ad_this : Nat → Nat) (v_typed : Int32) (v_at : Int32) (v_isSo : Int32) (v_kept : Int32) (v_all : Int64) (v_sightAll : Int64) (v_aheadMany : Int32) (a_aheadA : Nat → Int32) (a_aheadB : Nat → Int32) (a_signs : Nat → Int32) (a_ways : Nat → Int32) (out : Int32 × (Nat → Int32)) (hF : F_X10_orders v_aheadMany a_aheadA a_aheadB a_signs a_ways = some out) : CtrI l yX10_orders (WS yX10_orders cX10_orders 5 (some .int)) { frames := 0, cells := 0, slots := 0, locals := 0 } G [.ref h_this] [(h_this, oX10 ad_this v_typed v_at v_isSo v_kept v_all v_sightAll v_aheadMany), ((ad_this 27), cI G 8 a_aheadA), ((ad_this 28), cI G 8 a_aheadB), ((ad_this 3), cI G 2 a_signs), ((ad_this 30), cI G 16 a_ways)] [(h_this, oX10 ad_this v_typed v_at v_isSo v_kept v_all v_sightAll v_aheadMany), ((ad_this 27), cI G 8 a_aheadA), ((ad_this 28), cI G 8 a_aheadB), ((ad_this 3), cI G 2 a_signs), ((ad_this 30), cI G 16 out.2)] out.1 := by
  refine startI (cc := cX10_orders) (maxL := 5) (by decide) rfl (Nat.le_of_ble_eq_true rfl) ?_
  intro p e s m args below meth c A Q hx hb hml hts hown hc hA hret ls H locs hl hW
  have hown : s.vm.findClass RX10 = some m.cls := hown
  have hg : ∀ w ∈ GOODS, w.before _ s = true := fun w h => hts w (List.mem_cons_of_mem _ h)
  have hl : lv_has ls 5 [(0, .ref h_this)] := hl
  rw [F_X10_orders] at hF
  refine lv_iconst (v := 0) hx hb dX10_orders_0 (by decide) ?_
  refine lv_istore_n (lv' := [(1, .int 0), (0, .ref h_this)]) hx hb dX10_orders_1 rfl hl (by decide) rfl (fun ls hl => ?_)
  obtain ⟨k_150, e_150, hF⟩ := jn_el hF
  have J_150 : ∀ (a_ways_150 : Nat → Int32) (ls : Array Slot) (H : Heap) (locs : List Loc), k_150 a_ways_150 = some out → lv_has ls 5 [(0, .ref h_this)] → Wd G A s.heap [(h_this, oX10 ad_this v_typed v_at v_isSo v_kept v_all v_sightAll v_aheadMany), ((ad_this 27), cI G 8 a_aheadA), ((ad_this 28), cI G 8 a_aheadB), ((ad_this 3), cI G 2 a_signs), ((ad_this 30), cI G 16 a_ways_150)] H locs → W p l e ({ frames := 0, cells := 0, slots := 0, locals := 0 } : Room) s m args below meth c H locs 0 0 Q (F0 m 150 ls []) := by
    intro a_ways_150 ls H locs hF hl hW
    rw [e_150] at hF
    dsimp only at hF
    refine lv_aload_n hx hb dX10_orders_150 rfl (lv_at hl 0 rfl) ?_
    refine va_get (D := G.1) (ci := 9) (v := .ref ((ad_this 30))) (C := RX10) (T := TX10) (N := 31) hx hb hg hu_X10 hown hc.1 hW.1 0 rfl rfl 30 (by decide) (hg _ wd_4_68) (fun _ h9 => h9) rfl dX10_orders_151 ?_
    refine lv_iconst (v := 1) hx hb dX10_orders_154 (by decide) ?_
    refine lv_aload_n hx hb dX10_orders_155 rfl (lv_at hl 0 rfl) ?_
    refine va_get (D := G.1) (ci := 9) (v := .ref ((ad_this 3))) (C := RX10) (T := TX10) (N := 31) hx hb hg hu_X10 hown hc.1 hW.1 0 rfl rfl 3 (by decide) (hg _ wd_4_41) (fun _ h9 => h9) rfl dX10_orders_156 ?_
    refine lv_iconst (v := 0) hx hb dX10_orders_159 (by decide) ?_
    have b_160 : vp_in 0 2 := inb_vp (by decide)
    refine va_iald hx hb hc.1 hW.1 3 0 rfl rfl b_160 dX10_orders_160 ?_
    refine lv_ishl hx hb dX10_orders_161 ?_
    refine lv_iconst (v := 1) hx hb dX10_orders_162 (by decide) ?_
    refine lv_isub hx hb dX10_orders_163 ?_
    obtain ⟨b_164, hF⟩ := inb_el hF
    refine va_iald hx hb hc.1 hW.1 4 0 rfl rfl b_164 dX10_orders_164 ?_
    obtain rfl := Option.some.inj hF
    exact hret _ _ _ _ hW dX10_orders_165
  have L_2 : ∀ (n : Nat) (x1_2 : Int32) (a_ways_2 : Nat → Int32) (ls : Array Slot) (H : Heap) (locs : List Loc), L_X10_orders_2 v_aheadMany a_aheadA a_aheadB a_signs k_150 n x1_2 a_ways_2 = some out → lv_has ls 5 [(0, .ref h_this), (1, .int x1_2)] → Wd G A s.heap [(h_this, oX10 ad_this v_typed v_at v_isSo v_kept v_all v_sightAll v_aheadMany), ((ad_this 27), cI G 8 a_aheadA), ((ad_this 28), cI G 8 a_aheadB), ((ad_this 3), cI G 2 a_signs), ((ad_this 30), cI G 16 a_ways_2)] H locs → W p l e ({ frames := 0, cells := 0, slots := 0, locals := 0 } : Room) s m args below meth c H locs 0 0 Q (F0 m 2 ls []) := by
    intro n
    induction n with
    | zero => intro x1_2 a_ways_2 ls H locs hF hl hW; have h0 : none = some out := hF; cases h0
    | succ n ih =>
      intro x1_2 a_ways_2 ls H locs hF hl hW
      rw [L_X10_orders_2] at hF
      refine lv_iload_n hx hb dX10_orders_2 rfl (lv_at hl 1 rfl) ?_
      refine lv_iconst (v := 1) hx hb dX10_orders_3 (by decide) ?_
      refine lv_aload_n hx hb dX10_orders_4 rfl (lv_at hl 0 rfl) ?_
      refine va_get (D := G.1) (ci := 9) (v := .ref ((ad_this 3))) (C := RX10) (T := TX10) (N := 31) hx hb hg hu_X10 hown hc.1 hW.1 0 rfl rfl 3 (by decide) (hg _ wd_4_41) (fun _ h9 => h9) rfl dX10_orders_5 ?_
      refine lv_iconst (v := 0) hx hb dX10_orders_8 (by decide) ?_
      have b_9 : vp_in 0 2 := inb_vp (by decide)
      refine va_iald hx hb hc.1 hW.1 3 0 rfl rfl b_9 dX10_orders_9 ?_
      refine lv_ishl hx hb dX10_orders_10 ?_
      refine lv_icmp_ge (tgt := 150) hx hb dX10_orders_11 (by decide) (fun c_11 => ?_) (fun c_11 => ?_)
      · have hF := ite_t hF c_11
        exact J_150 a_ways_2 _ _ _ hF (lv_sub hl [0] rfl) hW
      · have hF := ite_f hF c_11
        refine lv_aload_n hx hb dX10_orders_14 rfl (lv_at hl 0 rfl) ?_
        refine va_get (D := G.1) (ci := 9) (v := .ref ((ad_this 30))) (C := RX10) (T := TX10) (N := 31) hx hb hg hu_X10 hown hc.1 hW.1 0 rfl rfl 30 (by decide) (hg _ wd_4_68) (fun _ h9 => h9) rfl dX10_orders_15 ?_
        refine lv_iload_n hx hb dX10_orders_18 rfl (lv_at hl 1 rfl) ?_
        refine lv_iload_n hx hb dX10_orders_19 rfl (lv_at hl 1 rfl) ?_
        obtain ⟨k_28, e_28, hF⟩ := jn_el hF
        have J_28 : ∀ (j0_28 : Int32) (ls : Array Slot) (H : Heap) (locs : List Loc), k_28 j0_28 = some out → lv_has ls 5 [(0, .ref h_this), (1, .int x1_2)] → Wd G A s.heap [(h_this, oX10 ad_this v_typed v_at v_isSo v_kept v_all v_sightAll v_aheadMany), ((ad_this 27), cI G 8 a_aheadA), ((ad_this 28), cI G 8 a_aheadB), ((ad_this 3), cI G 2 a_signs), ((ad_this 30), cI G 16 a_ways_2)] H locs → W p l e ({ frames := 0, cells := 0, slots := 0, locals := 0 } : Room) s m args below meth c H locs 0 0 Q (F0 m 28 ls [.int j0_28, .int x1_2, .ref ((ad_this 30))]) := by
          intro j0_28 ls H locs hF hl hW
          rw [e_28] at hF
          dsimp only at hF
          obtain ⟨b_28, hF⟩ := inb_el hF
          refine va_iast hx hb hc.1 hW.1 hW.2.1 hW.2.2 4 0 rfl rfl b_28 dX10_orders_28 (fun H locs hP hD hS => ?_)
          have hW : Wd G A s.heap [(h_this, oX10 ad_this v_typed v_at v_isSo v_kept v_all v_sightAll v_aheadMany), ((ad_this 27), cI G 8 a_aheadA), ((ad_this 28), cI G 8 a_aheadB), ((ad_this 3), cI G 2 a_signs), ((ad_this 30), cI G 16 ((upd a_ways_2 (Int32.toNatClampNeg x1_2) j0_28)))] H locs := ⟨hP, hD, hS⟩
          refine lv_iconst (v := 0) hx hb dX10_orders_29 (by decide) ?_
          refine lv_istore_n (lv' := [(2, .int 0), (0, .ref h_this), (1, .int x1_2)]) hx hb dX10_orders_30 rfl hl (by decide) rfl (fun ls hl => ?_)
          obtain ⟨k_144, e_144, hF⟩ := jn_el hF
          have J_144 : ∀ (a_ways_144 : Nat → Int32) (ls : Array Slot) (H : Heap) (locs : List Loc), k_144 a_ways_144 = some out → lv_has ls 5 [(0, .ref h_this), (1, .int x1_2)] → Wd G A s.heap [(h_this, oX10 ad_this v_typed v_at v_isSo v_kept v_all v_sightAll v_aheadMany), ((ad_this 27), cI G 8 a_aheadA), ((ad_this 28), cI G 8 a_aheadB), ((ad_this 3), cI G 2 a_signs), ((ad_this 30), cI G 16 a_ways_144)] H locs → W p l e ({ frames := 0, cells := 0, slots := 0, locals := 0 } : Room) s m args below meth c H locs 0 0 Q (F0 m 144 ls []) := by
            intro a_ways_144 ls H locs hF hl hW
            rw [e_144] at hF
            dsimp only at hF
            refine lv_iinc (v := (x1_2 + 1)) (lv' := [(1, .int ((x1_2 + 1))), (0, .ref h_this)]) hx hb dX10_orders_144 hl (k := 1) rfl rfl (by decide) rfl (fun ls hl => ?_)
            refine lv_goto (tgt := 2) hx hb dX10_orders_147 (by decide) ?_
            exact ih ((x1_2 + 1)) a_ways_144 _ _ _ hF (lv_sub hl [1, 0] rfl) hW
          have L_31 : ∀ (n : Nat) (x2_31 : Int32) (a_ways_31 : Nat → Int32) (ls : Array Slot) (H : Heap) (locs : List Loc), L_X10_orders_31 v_aheadMany a_aheadA a_aheadB a_signs x1_2 k_144 n x2_31 a_ways_31 = some out → lv_has ls 5 [(0, .ref h_this), (1, .int x1_2), (2, .int x2_31)] → Wd G A s.heap [(h_this, oX10 ad_this v_typed v_at v_isSo v_kept v_all v_sightAll v_aheadMany), ((ad_this 27), cI G 8 a_aheadA), ((ad_this 28), cI G 8 a_aheadB), ((ad_this 3), cI G 2 a_signs), ((ad_this 30), cI G 16 a_ways_31)] H locs → W p l e ({ frames := 0, cells := 0, slots := 0, locals := 0 } : Room) s m args below meth c H locs 0 0 Q (F0 m 31 ls []) := by
            intro n
            induction n with
            | zero => intro x2_31 a_ways_31 ls H locs hF hl hW; have h0 : none = some out := hF; cases h0
            | succ n ih =>
              intro x2_31 a_ways_31 ls H locs hF hl hW
              rw [L_X10_orders_31] at hF
              refine lv_iload_n hx hb dX10_orders_31 rfl (lv_at hl 2 rfl) ?_
              refine lv_aload_n hx hb dX10_orders_32 rfl (lv_at hl 0 rfl) ?_
              refine va_get (D := G.1) (ci := 9) (v := .ref ((ad_this 3))) (C := RX10) (T := TX10) (N := 31) hx hb hg hu_X10 hown hc.1 hW.1 0 rfl rfl 3 (by decide) (hg _ wd_4_41) (fun _ h9 => h9) rfl dX10_orders_33 ?_
              refine lv_iconst (v := 0) hx hb dX10_orders_36 (by decide) ?_
              have b_37 : vp_in 0 2 := inb_vp (by decide)
              refine va_iald hx hb hc.1 hW.1 3 0 rfl rfl b_37 dX10_orders_37 ?_
              refine lv_icmp_ge (tgt := 144) hx hb dX10_orders_38 (by decide) (fun c_38 => ?_) (fun c_38 => ?_)
              · have hF := ite_t hF c_38
                exact J_144 a_ways_31 _ _ _ hF (lv_sub hl [0, 1] rfl) hW
              · have hF := ite_f hF c_38
                refine lv_iload_n hx hb dX10_orders_41 rfl (lv_at hl 1 rfl) ?_
                refine lv_iload_n hx hb dX10_orders_42 rfl (lv_at hl 2 rfl) ?_
                refine lv_ishr hx hb dX10_orders_43 ?_
                refine lv_iconst (v := 1) hx hb dX10_orders_44 (by decide) ?_
                refine lv_iand hx hb dX10_orders_45 ?_
                refine lv_iconst (v := 1) hx hb dX10_orders_46 (by decide) ?_
                obtain ⟨k_55, e_55, hF⟩ := jn_el hF
                have J_55 : ∀ (j0_55 : Int32) (ls : Array Slot) (H : Heap) (locs : List Loc), k_55 j0_55 = some out → lv_has ls 5 [(0, .ref h_this), (1, .int x1_2), (2, .int x2_31)] → Wd G A s.heap [(h_this, oX10 ad_this v_typed v_at v_isSo v_kept v_all v_sightAll v_aheadMany), ((ad_this 27), cI G 8 a_aheadA), ((ad_this 28), cI G 8 a_aheadB), ((ad_this 3), cI G 2 a_signs), ((ad_this 30), cI G 16 a_ways_31)] H locs → W p l e ({ frames := 0, cells := 0, slots := 0, locals := 0 } : Room) s m args below meth c H locs 0 0 Q (F0 m 55 ls [.int j0_55]) := by
                  intro j0_55 ls H locs hF hl hW
                  rw [e_55] at hF
                  dsimp only at hF
                  refine lv_istore_n (lv' := [(3, .int j0_55), (0, .ref h_this), (1, .int x1_2), (2, .int x2_31)]) hx hb dX10_orders_55 rfl hl (by decide) rfl (fun ls hl => ?_)
                  refine lv_iconst (v := 0) hx hb dX10_orders_56 (by decide) ?_
                  refine lv_istore (lv' := [(4, .int 0), (3, .int j0_55), (0, .ref h_this), (1, .int x1_2), (2, .int x2_31)]) hx hb dX10_orders_57 hl (by decide) rfl (fun ls hl => ?_)
                  obtain ⟨k_109, e_109, hF⟩ := jn_el hF
                  have J_109 : ∀ (x3_109 : Int32) (ls : Array Slot) (H : Heap) (locs : List Loc), k_109 x3_109 = some out → lv_has ls 5 [(0, .ref h_this), (1, .int x1_2), (2, .int x2_31), (3, .int x3_109)] → Wd G A s.heap [(h_this, oX10 ad_this v_typed v_at v_isSo v_kept v_all v_sightAll v_aheadMany), ((ad_this 27), cI G 8 a_aheadA), ((ad_this 28), cI G 8 a_aheadB), ((ad_this 3), cI G 2 a_signs), ((ad_this 30), cI G 16 a_ways_31)] H locs → W p l e ({ frames := 0, cells := 0, slots := 0, locals := 0 } : Room) s m args below meth c H locs 0 0 Q (F0 m 109 ls []) := by
                    intro x3_109 ls H locs hF hl hW
                    rw [e_109] at hF
                    dsimp only at hF
                    refine lv_aload_n hx hb dX10_orders_109 rfl (lv_at hl 0 rfl) ?_
                    refine va_get (D := G.1) (ci := 9) (v := .ref ((ad_this 30))) (C := RX10) (T := TX10) (N := 31) hx hb hg hu_X10 hown hc.1 hW.1 0 rfl rfl 30 (by decide) (hg _ wd_4_68) (fun _ h9 => h9) rfl dX10_orders_110 ?_
                    refine lv_iload_n hx hb dX10_orders_113 rfl (lv_at hl 1 rfl) ?_
                    refine lv_dup2_11 hx hb dX10_orders_114 rfl rfl ?_
                    obtain ⟨b_115, hF⟩ := inb_el hF
                    refine va_iald hx hb hc.1 hW.1 4 0 rfl rfl b_115 dX10_orders_115 ?_
                    refine lv_iload_n hx hb dX10_orders_116 rfl (lv_at hl 3 rfl) ?_
                    obtain ⟨k_136, e_136, hF⟩ := jn_el hF
                    have J_136 : ∀ (j0_136 : Int32) (ls : Array Slot) (H : Heap) (locs : List Loc), k_136 j0_136 = some out → lv_has ls 5 [(0, .ref h_this), (1, .int x1_2), (2, .int x2_31)] → Wd G A s.heap [(h_this, oX10 ad_this v_typed v_at v_isSo v_kept v_all v_sightAll v_aheadMany), ((ad_this 27), cI G 8 a_aheadA), ((ad_this 28), cI G 8 a_aheadB), ((ad_this 3), cI G 2 a_signs), ((ad_this 30), cI G 16 a_ways_31)] H locs → W p l e ({ frames := 0, cells := 0, slots := 0, locals := 0 } : Room) s m args below meth c H locs 0 0 Q (F0 m 136 ls [.int j0_136, .int ((a_ways_31 (Int32.toNatClampNeg x1_2))), .int x1_2, .ref ((ad_this 30))]) := by
                      intro j0_136 ls H locs hF hl hW
                      rw [e_136] at hF
                      dsimp only at hF
                      refine lv_iadd hx hb dX10_orders_136 ?_
                      obtain ⟨b_137, hF⟩ := inb_el hF
                      refine va_iast hx hb hc.1 hW.1 hW.2.1 hW.2.2 4 0 rfl rfl b_137 dX10_orders_137 (fun H locs hP hD hS => ?_)
                      have hW : Wd G A s.heap [(h_this, oX10 ad_this v_typed v_at v_isSo v_kept v_all v_sightAll v_aheadMany), ((ad_this 27), cI G 8 a_aheadA), ((ad_this 28), cI G 8 a_aheadB), ((ad_this 3), cI G 2 a_signs), ((ad_this 30), cI G 16 ((upd a_ways_31 (Int32.toNatClampNeg x1_2) (((a_ways_31 (Int32.toNatClampNeg x1_2)) + j0_136)))))] H locs := ⟨hP, hD, hS⟩
                      refine lv_iinc (v := (x2_31 + 1)) (lv' := [(2, .int ((x2_31 + 1))), (0, .ref h_this), (1, .int x1_2)]) hx hb dX10_orders_138 hl (k := 2) rfl rfl (by decide) rfl (fun ls hl => ?_)
                      refine lv_goto (tgt := 31) hx hb dX10_orders_141 (by decide) ?_
                      exact ih ((x2_31 + 1)) ((upd a_ways_31 (Int32.toNatClampNeg x1_2) (((a_ways_31 (Int32.toNatClampNeg x1_2)) + j0_136)))) _ _ _ hF (lv_sub hl [1, 2, 0] rfl) hW
                    refine lv_if_eq (tgt := 135) hx hb dX10_orders_117 (by decide) (fun c_117 => ?_) (fun c_117 => ?_)
                    · have hF := ite_t hF c_117
                      refine lv_iconst (v := 0) hx hb dX10_orders_135 (by decide) ?_
                      exact J_136 0 _ _ _ hF (lv_sub hl [0, 1, 2] rfl) hW
                    · have hF := ite_f hF c_117
                      refine lv_aload_n hx hb dX10_orders_120 rfl (lv_at hl 0 rfl) ?_
                      refine va_get (D := G.1) (ci := 9) (v := .ref ((ad_this 30))) (C := RX10) (T := TX10) (N := 31) hx hb hg hu_X10 hown hc.1 hW.1 0 rfl rfl 30 (by decide) (hg _ wd_4_68) (fun _ h9 => h9) rfl dX10_orders_121 ?_
                      refine lv_iload_n hx hb dX10_orders_124 rfl (lv_at hl 1 rfl) ?_
                      refine lv_iconst (v := 1) hx hb dX10_orders_125 (by decide) ?_
                      refine lv_iload_n hx hb dX10_orders_126 rfl (lv_at hl 2 rfl) ?_
                      refine lv_ishl hx hb dX10_orders_127 ?_
                      refine lv_iconst (v := (-1)) hx hb dX10_orders_128 (by decide) ?_
                      refine lv_ixor hx hb dX10_orders_129 ?_
                      refine lv_iand hx hb dX10_orders_130 ?_
                      obtain ⟨b_131, hF⟩ := inb_el hF
                      refine va_iald hx hb hc.1 hW.1 4 0 rfl rfl b_131 dX10_orders_131 ?_
                      refine lv_goto (tgt := 136) hx hb dX10_orders_132 (by decide) ?_
                      exact J_136 ((a_ways_31 (Int32.toNatClampNeg ((x1_2 &&& (((1 : Int32) <<< (x2_31 &&& 31)) ^^^ (-1))))))) _ _ _ hF (lv_sub hl [0, 1, 2] rfl) hW
                  have L_59 : ∀ (n : Nat) (x3_59 : Int32) (x4_59 : Int32) (ls : Array Slot) (H : Heap) (locs : List Loc), L_X10_orders_59 v_aheadMany a_aheadA a_aheadB x1_2 x2_31 k_109 n x3_59 x4_59 = some out → lv_has ls 5 [(0, .ref h_this), (1, .int x1_2), (2, .int x2_31), (3, .int x3_59), (4, .int x4_59)] → Wd G A s.heap [(h_this, oX10 ad_this v_typed v_at v_isSo v_kept v_all v_sightAll v_aheadMany), ((ad_this 27), cI G 8 a_aheadA), ((ad_this 28), cI G 8 a_aheadB), ((ad_this 3), cI G 2 a_signs), ((ad_this 30), cI G 16 a_ways_31)] H locs → W p l e ({ frames := 0, cells := 0, slots := 0, locals := 0 } : Room) s m args below meth c H locs 0 0 Q (F0 m 59 ls []) := by
                    intro n
                    induction n with
                    | zero => intro x3_59 x4_59 ls H locs hF hl hW; have h0 : none = some out := hF; cases h0
                    | succ n ih =>
                      intro x3_59 x4_59 ls H locs hF hl hW
                      rw [L_X10_orders_59] at hF
                      refine lv_iload hx hb dX10_orders_59 (lv_at hl 4 rfl) ?_
                      refine lv_aload_n hx hb dX10_orders_61 rfl (lv_at hl 0 rfl) ?_
                      refine va_get (D := G.1) (ci := 9) (v := .int v_aheadMany) (C := RX10) (T := TX10) (N := 31) hx hb hg hu_X10 hown hc.1 hW.1 0 rfl rfl 29 (by decide) (hg _ wd_4_67) (fun _ h9 => h9) rfl dX10_orders_62 ?_
                      refine lv_icmp_ge (tgt := 109) hx hb dX10_orders_65 (by decide) (fun c_65 => ?_) (fun c_65 => ?_)
                      · have hF := ite_t hF c_65
                        exact J_109 x3_59 _ _ _ hF (lv_sub hl [0, 1, 2, 3] rfl) hW
                      · have hF := ite_f hF c_65
                        refine lv_iload_n hx hb dX10_orders_68 rfl (lv_at hl 3 rfl) ?_
                        obtain ⟨k_102, e_102, hF⟩ := jn_el hF
                        have J_102 : ∀ (j0_102 : Int32) (ls : Array Slot) (H : Heap) (locs : List Loc), k_102 j0_102 = some out → lv_has ls 5 [(0, .ref h_this), (1, .int x1_2), (2, .int x2_31), (4, .int x4_59)] → Wd G A s.heap [(h_this, oX10 ad_this v_typed v_at v_isSo v_kept v_all v_sightAll v_aheadMany), ((ad_this 27), cI G 8 a_aheadA), ((ad_this 28), cI G 8 a_aheadB), ((ad_this 3), cI G 2 a_signs), ((ad_this 30), cI G 16 a_ways_31)] H locs → W p l e ({ frames := 0, cells := 0, slots := 0, locals := 0 } : Room) s m args below meth c H locs 0 0 Q (F0 m 102 ls [.int j0_102]) := by
                          intro j0_102 ls H locs hF hl hW
                          rw [e_102] at hF
                          dsimp only at hF
                          refine lv_istore_n (lv' := [(3, .int j0_102), (0, .ref h_this), (1, .int x1_2), (2, .int x2_31), (4, .int x4_59)]) hx hb dX10_orders_102 rfl hl (by decide) rfl (fun ls hl => ?_)
                          refine lv_iinc (v := (x4_59 + 1)) (lv' := [(4, .int ((x4_59 + 1))), (3, .int j0_102), (0, .ref h_this), (1, .int x1_2), (2, .int x2_31)]) hx hb dX10_orders_103 hl (k := 4) rfl rfl (by decide) rfl (fun ls hl => ?_)
                          refine lv_goto (tgt := 59) hx hb dX10_orders_106 (by decide) ?_
                          exact ih j0_102 ((x4_59 + 1)) _ _ _ hF (lv_sub hl [2, 3, 4, 1, 0] rfl) hW
                        obtain ⟨k_101, e_101, hF⟩ := jn_el hF
                        have J_101 : ∀ (ls : Array Slot) (H : Heap) (locs : List Loc), k_101 = some out → lv_has ls 5 [(0, .ref h_this), (1, .int x1_2), (2, .int x2_31), (4, .int x4_59)] → Wd G A s.heap [(h_this, oX10 ad_this v_typed v_at v_isSo v_kept v_all v_sightAll v_aheadMany), ((ad_this 27), cI G 8 a_aheadA), ((ad_this 28), cI G 8 a_aheadB), ((ad_this 3), cI G 2 a_signs), ((ad_this 30), cI G 16 a_ways_31)] H locs → W p l e ({ frames := 0, cells := 0, slots := 0, locals := 0 } : Room) s m args below meth c H locs 0 0 Q (F0 m 101 ls []) := by
                          intro ls H locs hF hl hW
                          rw [e_101] at hF
                          refine lv_iconst (v := 0) hx hb dX10_orders_101 (by decide) ?_
                          exact J_102 0 _ _ _ hF (lv_sub hl [0, 1, 2, 3] rfl) hW
                        refine lv_if_eq (tgt := 101) hx hb dX10_orders_69 (by decide) (fun c_69 => ?_) (fun c_69 => ?_)
                        · have hF := ite_t hF c_69
                          exact J_101 _ _ _ hF (lv_sub hl [0, 1, 2, 4] rfl) hW
                        · have hF := ite_f hF c_69
                          refine lv_aload_n hx hb dX10_orders_72 rfl (lv_at hl 0 rfl) ?_
                          refine va_get (D := G.1) (ci := 9) (v := .ref ((ad_this 27))) (C := RX10) (T := TX10) (N := 31) hx hb hg hu_X10 hown hc.1 hW.1 0 rfl rfl 27 (by decide) (hg _ wd_4_65) (fun _ h9 => h9) rfl dX10_orders_73 ?_
                          refine lv_iload hx hb dX10_orders_76 (lv_at hl 4 rfl) ?_
                          obtain ⟨b_78, hF⟩ := inb_el hF
                          refine va_iald hx hb hc.1 hW.1 1 0 rfl rfl b_78 dX10_orders_78 ?_
                          refine lv_iload_n hx hb dX10_orders_79 rfl (lv_at hl 2 rfl) ?_
                          obtain ⟨k_97, e_97, hF⟩ := jn_el hF
                          have J_97 : ∀ (ls : Array Slot) (H : Heap) (locs : List Loc), k_97 = some out → lv_has ls 5 [(0, .ref h_this), (1, .int x1_2), (2, .int x2_31), (4, .int x4_59)] → Wd G A s.heap [(h_this, oX10 ad_this v_typed v_at v_isSo v_kept v_all v_sightAll v_aheadMany), ((ad_this 27), cI G 8 a_aheadA), ((ad_this 28), cI G 8 a_aheadB), ((ad_this 3), cI G 2 a_signs), ((ad_this 30), cI G 16 a_ways_31)] H locs → W p l e ({ frames := 0, cells := 0, slots := 0, locals := 0 } : Room) s m args below meth c H locs 0 0 Q (F0 m 97 ls []) := by
                            intro ls H locs hF hl hW
                            rw [e_97] at hF
                            refine lv_iconst (v := 1) hx hb dX10_orders_97 (by decide) ?_
                            refine lv_goto (tgt := 102) hx hb dX10_orders_98 (by decide) ?_
                            exact J_102 1 _ _ _ hF (lv_sub hl [0, 1, 2, 3] rfl) hW
                          refine lv_icmp_ne (tgt := 97) hx hb dX10_orders_80 (by decide) (fun c_80 => ?_) (fun c_80 => ?_)
                          · have hF := ite_f hF c_80
                            exact J_97 _ _ _ hF (lv_sub hl [0, 1, 2, 4] rfl) hW
                          · have hF := ite_t hF c_80
                            refine lv_iload_n hx hb dX10_orders_83 rfl (lv_at hl 1 rfl) ?_
                            refine lv_aload_n hx hb dX10_orders_84 rfl (lv_at hl 0 rfl) ?_
                            refine va_get (D := G.1) (ci := 9) (v := .ref ((ad_this 28))) (C := RX10) (T := TX10) (N := 31) hx hb hg hu_X10 hown hc.1 hW.1 0 rfl rfl 28 (by decide) (hg _ wd_4_66) (fun _ h9 => h9) rfl dX10_orders_85 ?_
                            refine lv_iload hx hb dX10_orders_88 (lv_at hl 4 rfl) ?_
                            obtain ⟨b_90, hF⟩ := inb_el hF
                            refine va_iald hx hb hc.1 hW.1 2 0 rfl rfl b_90 dX10_orders_90 ?_
                            refine lv_ishr hx hb dX10_orders_91 ?_
                            refine lv_iconst (v := 1) hx hb dX10_orders_92 (by decide) ?_
                            refine lv_iand hx hb dX10_orders_93 ?_
                            refine lv_if_ne (tgt := 101) hx hb dX10_orders_94 (by decide) (fun c_94 => ?_) (fun c_94 => ?_)
                            · have hF := ite_f hF c_94
                              exact J_101 _ _ _ hF (lv_sub hl [0, 1, 2, 4] rfl) hW
                            · have hF := ite_t hF c_94
                              exact J_97 _ _ _ hF (lv_sub hl [0, 1, 2, 4] rfl) hW
                  exact L_59 5000 j0_55 0 _ _ _ hF (lv_sub hl [2, 3, 4, 1, 0] rfl) hW
                refine lv_icmp_ne (tgt := 54) hx hb dX10_orders_47 (by decide) (fun c_47 => ?_) (fun c_47 => ?_)
                · have hF := ite_f hF c_47
                  refine lv_iconst (v := 0) hx hb dX10_orders_54 (by decide) ?_
                  exact J_55 0 _ _ _ hF (lv_sub hl [0, 1, 2] rfl) hW
                · have hF := ite_t hF c_47
                  refine lv_iconst (v := 1) hx hb dX10_orders_50 (by decide) ?_
                  refine lv_goto (tgt := 55) hx hb dX10_orders_51 (by decide) ?_
                  exact J_55 1 _ _ _ hF (lv_sub hl [0, 1, 2] rfl) hW
          exact L_31 5000 0 ((upd a_ways_2 (Int32.toNatClampNeg x1_2) j0_28)) _ _ _ hF (lv_sub hl [1, 2, 0] rfl) hW
        refine lv_if_ne (tgt := 27) hx hb dX10_orders_20 (by decide) (fun c_20 => ?_) (fun c_20 => ?_)
        · have hF := ite_f hF c_20
          refine lv_iconst (v := 0) hx hb dX10_orders_27 (by decide) ?_
          exact J_28 0 _ _ _ hF (lv_sub hl [0, 1] rfl) hW
        · have hF := ite_t hF c_20
          refine lv_iconst (v := 1) hx hb dX10_orders_23 (by decide) ?_
          refine lv_goto (tgt := 28) hx hb dX10_orders_24 (by decide) ?_
          exact J_28 1 _ _ _ hF (lv_sub hl [0, 1] rfl) hW
  exact L_2 5000 0 a_ways _ _ _ hF (lv_sub hl [1, 0] rfl) hW
theorem dX10_first_0 : decode cX10_first 0 = .ok (.aload_n 0, 1) := by decide +kernel
theorem dX10_first_1 : decode cX10_first 1 = .ok (.invokevirtual 227, 3) := by decide +kernel
theorem dX10_first_4 : decode cX10_first 4 = .ok (.ifCond .ne 5, 3) := by decide +kernel
theorem dX10_first_7 : decode cX10_first 7 = .ok (.iconst 0, 1) := by decide +kernel
theorem dX10_first_8 : decode cX10_first 8 = .ok (.ireturn, 1) := by decide +kernel
theorem dX10_first_9 : decode cX10_first 9 = .ok (.iconst 1, 1) := by decide +kernel
theorem dX10_first_10 : decode cX10_first 10 = .ok (.aload_n 0, 1) := by decide +kernel
theorem dX10_first_11 : decode cX10_first 11 = .ok (.getfield 17, 3) := by decide +kernel
theorem dX10_first_14 : decode cX10_first 14 = .ok (.iconst 0, 1) := by decide +kernel
theorem dX10_first_15 : decode cX10_first 15 = .ok (.iaload, 1) := by decide +kernel
theorem dX10_first_16 : decode cX10_first 16 = .ok (.ishl, 1) := by decide +kernel
theorem dX10_first_17 : decode cX10_first 17 = .ok (.iconst 1, 1) := by decide +kernel
theorem dX10_first_18 : decode cX10_first 18 = .ok (.isub, 1) := by decide +kernel
theorem dX10_first_19 : decode cX10_first 19 = .ok (.istore_n 1, 1) := by decide +kernel
theorem dX10_first_20 : decode cX10_first 20 = .ok (.iconst 0, 1) := by decide +kernel
theorem dX10_first_21 : decode cX10_first 21 = .ok (.istore_n 2, 1) := by decide +kernel
theorem dX10_first_22 : decode cX10_first 22 = .ok (.iload_n 2, 1) := by decide +kernel
theorem dX10_first_23 : decode cX10_first 23 = .ok (.aload_n 0, 1) := by decide +kernel
theorem dX10_first_24 : decode cX10_first 24 = .ok (.getfield 128, 3) := by decide +kernel
theorem dX10_first_27 : decode cX10_first 27 = .ok (.if_icmp .ge 22, 3) := by decide +kernel
theorem dX10_first_30 : decode cX10_first 30 = .ok (.iload_n 1, 1) := by decide +kernel
theorem dX10_first_31 : decode cX10_first 31 = .ok (.iconst 1, 1) := by decide +kernel
theorem dX10_first_32 : decode cX10_first 32 = .ok (.aload_n 0, 1) := by decide +kernel
theorem dX10_first_33 : decode cX10_first 33 = .ok (.getfield 78, 3) := by decide +kernel
theorem dX10_first_36 : decode cX10_first 36 = .ok (.iload_n 2, 1) := by decide +kernel
theorem dX10_first_37 : decode cX10_first 37 = .ok (.iaload, 1) := by decide +kernel
theorem dX10_first_38 : decode cX10_first 38 = .ok (.ishl, 1) := by decide +kernel
theorem dX10_first_39 : decode cX10_first 39 = .ok (.iconst (-1), 1) := by decide +kernel
theorem dX10_first_40 : decode cX10_first 40 = .ok (.ixor, 1) := by decide +kernel
theorem dX10_first_41 : decode cX10_first 41 = .ok (.iand, 1) := by decide +kernel
theorem dX10_first_42 : decode cX10_first 42 = .ok (.istore_n 1, 1) := by decide +kernel
theorem dX10_first_43 : decode cX10_first 43 = .ok (.iinc 2 1, 3) := by decide +kernel
theorem dX10_first_46 : decode cX10_first 46 = .ok (.goto (-24), 3) := by decide +kernel
theorem dX10_first_49 : decode cX10_first 49 = .ok (.iload_n 1, 1) := by decide +kernel
theorem dX10_first_50 : decode cX10_first 50 = .ok (.ireturn, 1) := by decide +kernel
def L_X10_first_22 (v_aheadMany : Int32) (a_aheadB : Nat → Int32) (q1 : Int32 × (Nat → Int32))  : Nat → Int32 → Int32 → Option (Int32 × (Nat → Int32))
  | 0, _, _ => none
  | n + 1, x1_22, x2_22 => (if v_aheadMany ≤ x2_22 then some (x1_22, q1.2) else (if inb x2_22 8 = true then L_X10_first_22 v_aheadMany a_aheadB q1 n ((x1_22 &&& (((1 : Int32) <<< ((a_aheadB (Int32.toNatClampNeg x2_22)) &&& 31)) ^^^ (-1)))) ((x2_22 + 1)) else none))
def F_X10_first (v_aheadMany : Int32) (a_aheadA : Nat → Int32) (a_aheadB : Nat → Int32) (a_signs : Nat → Int32) (a_ways : Nat → Int32) : Option (Int32 × (Nat → Int32)) := (F_X10_orders v_aheadMany a_aheadA a_aheadB a_signs a_ways).bind (fun q1 => (if q1.1 = 0 then some (0, q1.2) else L_X10_first_22 v_aheadMany a_aheadB q1 5000 ((((1 : Int32) <<< ((a_signs (Int32.toNatClampNeg 0)) &&& 31)) - 1)) 0))
theorem hdV_X10_first : yX10_first.cls = RX10 ∧ yX10_first.cls ≠ "java/lang/invoke/MethodHandle" ∧ yX10_first.cls ≠ "java/lang/invoke/VarHandle" ∧ (parseMethodDescriptor yX10_first.desc).map (fun d => d.parameters.length) = some 0 := by decide +kernel
set_option maxHeartbeats 4000000 in
set_option maxRecDepth 100000 in
theorem c_X10_first (l : Launch) (G : GG) (h_this : Nat) (ad_this : Nat → Nat) (v_typed : Int32) (v_at : Int32) (v_isSo : Int32) (v_kept : Int32) (v_all : Int64) (v_sightAll : Int64) (v_aheadMany : Int32) (a_aheadA : Nat → Int32) (a_aheadB : Nat → Int32) (a_signs : Nat → Int32) (a_ways : Nat → Int32) (out : Int32 × (Nat → Int32)) (hF : F_X10_first v_aheadMany a_aheadA a_aheadB a_signs a_ways = some out) : CtrI l yX10_first (WS yX10_first cX10_first 3 (some .int)) { frames := 1, cells := 0, slots := 0, locals := 24 } G [.ref h_this] [(h_this, oX10 ad_this v_typed v_at v_isSo v_kept v_all v_sightAll v_aheadMany), ((ad_this 27), cI G 8 a_aheadA), ((ad_this 28), cI G 8 a_aheadB), ((ad_this 3), cI G 2 a_signs), ((ad_this 30), cI G 16 a_ways)] [(h_this, oX10 ad_this v_typed v_at v_isSo v_kept v_all v_sightAll v_aheadMany), ((ad_this 27), cI G 8 a_aheadA), ((ad_this 28), cI G 8 a_aheadB), ((ad_this 3), cI G 2 a_signs), ((ad_this 30), cI G 16 out.2)] out.1 := by
  refine startI (cc := cX10_first) (maxL := 3) (by decide) rfl (Nat.le_of_ble_eq_true rfl) ?_
  intro p e s m args below meth c A Q hx hb hml hts hown hc hA hret ls H locs hl hW
  have hown : s.vm.findClass RX10 = some m.cls := hown
  have hg : ∀ w ∈ GOODS, w.before _ s = true := fun w h => hts w (List.mem_cons_of_mem _ h)
  have hl : lv_has ls 3 [(0, .ref h_this)] := hl
  rw [F_X10_first] at hF
  refine lv_aload_n hx hb dX10_first_0 rfl (lv_at hl 0 rfl) ?_
  obtain ⟨q1, c_1, hF⟩ := bd_el hF
  refine wcI (ws' := [(h_this, oX10 ad_this v_typed v_at v_isSo v_kept v_all v_sightAll v_aheadMany), ((ad_this 27), cI G 8 a_aheadA), ((ad_this 28), cI G 8 a_aheadB), ((ad_this 3), cI G 2 a_signs), ((ad_this 30), cI G 16 q1.2)]) (wc := [(h_this, oX10 ad_this v_typed v_at v_isSo v_kept v_all v_sightAll v_aheadMany), ((ad_this 27), cI G 8 a_aheadA), ((ad_this 28), cI G 8 a_aheadB), ((ad_this 3), cI G 2 a_signs), ((ad_this 30), cI G 16 a_ways)]) (wr := []) (w1 := [(h_this, oX10 ad_this v_typed v_at v_isSo v_kept v_all v_sightAll v_aheadMany), ((ad_this 27), cI G 8 a_aheadA), ((ad_this 28), cI G 8 a_aheadB), ((ad_this 3), cI G 2 a_signs), ((ad_this 30), cI G 16 q1.2)]) (va_runV (As := []) (rest := []) ⟨hx, hb, hml, hown, hg⟩ (c_X10_orders l G h_this ad_this v_typed v_at v_isSo v_kept v_all v_sightAll v_aheadMany a_aheadA a_aheadB a_signs a_ways q1 c_1 H.size) (cwV 0 hg (gV wd_5_80 wd_5_73 wd_5_74 wd_1_15 wd_5_75) rfl rfl rfl hdV_X10_orders ⟨(Nat.le_of_ble_eq_true rfl), (Nat.le_of_ble_eq_true rfl)⟩) (preV hc hW [0, 1, 2, 3, 4] rfl (by decide) rfl rfl) rfl rfl hl.1 rfl (lv_room (Nat.le_of_ble_eq_true rfl)) dX10_first_1 ⟨Nat.zero_le _, Nat.zero_le _⟩) hA hW [0, 1, 2, 3, 4] [] [0, 1, 2, 3, 4] rfl rfl (by decide) (by decide) rfl (by decide) (fun H locs hW => ?_)
  refine lv_if_ne (tgt := 9) hx hb dX10_first_4 (by decide) (fun c_4 => ?_) (fun c_4 => ?_)
  · have hF := ite_f hF c_4
    refine lv_iconst (v := 1) hx hb dX10_first_9 (by decide) ?_
    refine lv_aload_n hx hb dX10_first_10 rfl (lv_at hl 0 rfl) ?_
    refine va_get (D := G.1) (ci := 9) (v := .ref ((ad_this 3))) (C := RX10) (T := TX10) (N := 31) hx hb hg hu_X10 hown hc.1 hW.1 0 rfl rfl 3 (by decide) (hg _ wd_4_41) (fun _ h9 => h9) rfl dX10_first_11 ?_
    refine lv_iconst (v := 0) hx hb dX10_first_14 (by decide) ?_
    have b_15 : vp_in 0 2 := inb_vp (by decide)
    refine va_iald hx hb hc.1 hW.1 3 0 rfl rfl b_15 dX10_first_15 ?_
    refine lv_ishl hx hb dX10_first_16 ?_
    refine lv_iconst (v := 1) hx hb dX10_first_17 (by decide) ?_
    refine lv_isub hx hb dX10_first_18 ?_
    refine lv_istore_n (lv' := [(1, .int ((((1 : Int32) <<< ((a_signs (Int32.toNatClampNeg 0)) &&& 31)) - 1))), (0, .ref h_this)]) hx hb dX10_first_19 rfl hl (by decide) rfl (fun ls hl => ?_)
    refine lv_iconst (v := 0) hx hb dX10_first_20 (by decide) ?_
    refine lv_istore_n (lv' := [(2, .int 0), (1, .int ((((1 : Int32) <<< ((a_signs (Int32.toNatClampNeg 0)) &&& 31)) - 1))), (0, .ref h_this)]) hx hb dX10_first_21 rfl hl (by decide) rfl (fun ls hl => ?_)
    have L_22 : ∀ (n : Nat) (x1_22 : Int32) (x2_22 : Int32) (ls : Array Slot) (H : Heap) (locs : List Loc), L_X10_first_22 v_aheadMany a_aheadB q1 n x1_22 x2_22 = some out → lv_has ls 3 [(0, .ref h_this), (1, .int x1_22), (2, .int x2_22)] → Wd G A s.heap [(h_this, oX10 ad_this v_typed v_at v_isSo v_kept v_all v_sightAll v_aheadMany), ((ad_this 27), cI G 8 a_aheadA), ((ad_this 28), cI G 8 a_aheadB), ((ad_this 3), cI G 2 a_signs), ((ad_this 30), cI G 16 q1.2)] H locs → W p l e ({ frames := 1, cells := 0, slots := 0, locals := 24 } : Room) s m args below meth c H locs 0 0 Q (F0 m 22 ls []) := by
      intro n
      induction n with
      | zero => intro x1_22 x2_22 ls H locs hF hl hW; have h0 : none = some out := hF; cases h0
      | succ n ih =>
        intro x1_22 x2_22 ls H locs hF hl hW
        rw [L_X10_first_22] at hF
        refine lv_iload_n hx hb dX10_first_22 rfl (lv_at hl 2 rfl) ?_
        refine lv_aload_n hx hb dX10_first_23 rfl (lv_at hl 0 rfl) ?_
        refine va_get (D := G.1) (ci := 9) (v := .int v_aheadMany) (C := RX10) (T := TX10) (N := 31) hx hb hg hu_X10 hown hc.1 hW.1 0 rfl rfl 29 (by decide) (hg _ wd_4_67) (fun _ h9 => h9) rfl dX10_first_24 ?_
        refine lv_icmp_ge (tgt := 49) hx hb dX10_first_27 (by decide) (fun c_27 => ?_) (fun c_27 => ?_)
        · have hF := ite_t hF c_27
          refine lv_iload_n hx hb dX10_first_49 rfl (lv_at hl 1 rfl) ?_
          obtain rfl := Option.some.inj hF
          exact hret _ _ _ _ hW dX10_first_50
        · have hF := ite_f hF c_27
          refine lv_iload_n hx hb dX10_first_30 rfl (lv_at hl 1 rfl) ?_
          refine lv_iconst (v := 1) hx hb dX10_first_31 (by decide) ?_
          refine lv_aload_n hx hb dX10_first_32 rfl (lv_at hl 0 rfl) ?_
          refine va_get (D := G.1) (ci := 9) (v := .ref ((ad_this 28))) (C := RX10) (T := TX10) (N := 31) hx hb hg hu_X10 hown hc.1 hW.1 0 rfl rfl 28 (by decide) (hg _ wd_4_66) (fun _ h9 => h9) rfl dX10_first_33 ?_
          refine lv_iload_n hx hb dX10_first_36 rfl (lv_at hl 2 rfl) ?_
          obtain ⟨b_37, hF⟩ := inb_el hF
          refine va_iald hx hb hc.1 hW.1 2 0 rfl rfl b_37 dX10_first_37 ?_
          refine lv_ishl hx hb dX10_first_38 ?_
          refine lv_iconst (v := (-1)) hx hb dX10_first_39 (by decide) ?_
          refine lv_ixor hx hb dX10_first_40 ?_
          refine lv_iand hx hb dX10_first_41 ?_
          refine lv_istore_n (lv' := [(1, .int ((x1_22 &&& (((1 : Int32) <<< ((a_aheadB (Int32.toNatClampNeg x2_22)) &&& 31)) ^^^ (-1))))), (0, .ref h_this), (2, .int x2_22)]) hx hb dX10_first_42 rfl hl (by decide) rfl (fun ls hl => ?_)
          refine lv_iinc (v := (x2_22 + 1)) (lv' := [(2, .int ((x2_22 + 1))), (1, .int ((x1_22 &&& (((1 : Int32) <<< ((a_aheadB (Int32.toNatClampNeg x2_22)) &&& 31)) ^^^ (-1))))), (0, .ref h_this)]) hx hb dX10_first_43 hl (k := 2) rfl rfl (by decide) rfl (fun ls hl => ?_)
          refine lv_goto (tgt := 22) hx hb dX10_first_46 (by decide) ?_
          exact ih ((x1_22 &&& (((1 : Int32) <<< ((a_aheadB (Int32.toNatClampNeg x2_22)) &&& 31)) ^^^ (-1)))) ((x2_22 + 1)) _ _ _ hF (lv_sub hl [2, 1, 0] rfl) hW
    exact L_22 5000 ((((1 : Int32) <<< ((a_signs (Int32.toNatClampNeg 0)) &&& 31)) - 1)) 0 _ _ _ hF (lv_sub hl [2, 1, 0] rfl) hW
  · have hF := ite_t hF c_4
    refine lv_iconst (v := 0) hx hb dX10_first_7 (by decide) ?_
    obtain rfl := Option.some.inj hF
    exact hret _ _ _ _ hW dX10_first_8
theorem dX10_feigned_0 : decode cX10_feigned 0 = .ok (.iconst 0, 1) := by decide +kernel
theorem dX10_feigned_1 : decode cX10_feigned 1 = .ok (.istore_n 1, 1) := by decide +kernel
theorem dX10_feigned_2 : decode cX10_feigned 2 = .ok (.lconst 0, 1) := by decide +kernel
theorem dX10_feigned_3 : decode cX10_feigned 3 = .ok (.lstore_n 2, 1) := by decide +kernel
theorem dX10_feigned_4 : decode cX10_feigned 4 = .ok (.iconst 0, 1) := by decide +kernel
theorem dX10_feigned_5 : decode cX10_feigned 5 = .ok (.istore 4, 2) := by decide +kernel
theorem dX10_feigned_7 : decode cX10_feigned 7 = .ok (.iload 4, 2) := by decide +kernel
theorem dX10_feigned_9 : decode cX10_feigned 9 = .ok (.aload_n 0, 1) := by decide +kernel
theorem dX10_feigned_10 : decode cX10_feigned 10 = .ok (.getfield 50, 3) := by decide +kernel
theorem dX10_feigned_13 : decode cX10_feigned 13 = .ok (.iconst 0, 1) := by decide +kernel
theorem dX10_feigned_14 : decode cX10_feigned 14 = .ok (.iaload, 1) := by decide +kernel
theorem dX10_feigned_15 : decode cX10_feigned 15 = .ok (.if_icmp .ge 74, 3) := by decide +kernel
theorem dX10_feigned_18 : decode cX10_feigned 18 = .ok (.aload_n 0, 1) := by decide +kernel
theorem dX10_feigned_19 : decode cX10_feigned 19 = .ok (.iload 4, 2) := by decide +kernel
theorem dX10_feigned_21 : decode cX10_feigned 21 = .ok (.invokevirtual 166, 3) := by decide +kernel
theorem dX10_feigned_24 : decode cX10_feigned 24 = .ok (.aload_n 0, 1) := by decide +kernel
theorem dX10_feigned_25 : decode cX10_feigned 25 = .ok (.invokevirtual 182, 3) := by decide +kernel
theorem dX10_feigned_28 : decode cX10_feigned 28 = .ok (.lstore 5, 2) := by decide +kernel
theorem dX10_feigned_30 : decode cX10_feigned 30 = .ok (.lload 5, 2) := by decide +kernel
theorem dX10_feigned_32 : decode cX10_feigned 32 = .ok (.lload_n 2, 1) := by decide +kernel
theorem dX10_feigned_33 : decode cX10_feigned 33 = .ok (.lcmp, 1) := by decide +kernel
theorem dX10_feigned_34 : decode cX10_feigned 34 = .ok (.ifCond .le 10, 3) := by decide +kernel
theorem dX10_feigned_37 : decode cX10_feigned 37 = .ok (.iconst 1, 1) := by decide +kernel
theorem dX10_feigned_38 : decode cX10_feigned 38 = .ok (.iload 4, 2) := by decide +kernel
theorem dX10_feigned_40 : decode cX10_feigned 40 = .ok (.ishl, 1) := by decide +kernel
theorem dX10_feigned_41 : decode cX10_feigned 41 = .ok (.goto 27, 3) := by decide +kernel
theorem dX10_feigned_44 : decode cX10_feigned 44 = .ok (.lload 5, 2) := by decide +kernel
theorem dX10_feigned_46 : decode cX10_feigned 46 = .ok (.lload_n 2, 1) := by decide +kernel
theorem dX10_feigned_47 : decode cX10_feigned 47 = .ok (.lcmp, 1) := by decide +kernel
theorem dX10_feigned_48 : decode cX10_feigned 48 = .ok (.ifCond .ne 19, 3) := by decide +kernel
theorem dX10_feigned_51 : decode cX10_feigned 51 = .ok (.lload 5, 2) := by decide +kernel
theorem dX10_feigned_53 : decode cX10_feigned 53 = .ok (.lconst 0, 1) := by decide +kernel
theorem dX10_feigned_54 : decode cX10_feigned 54 = .ok (.lcmp, 1) := by decide +kernel
theorem dX10_feigned_55 : decode cX10_feigned 55 = .ok (.ifCond .le 12, 3) := by decide +kernel
theorem dX10_feigned_58 : decode cX10_feigned 58 = .ok (.iload_n 1, 1) := by decide +kernel
theorem dX10_feigned_59 : decode cX10_feigned 59 = .ok (.iconst 1, 1) := by decide +kernel
theorem dX10_feigned_60 : decode cX10_feigned 60 = .ok (.iload 4, 2) := by decide +kernel
theorem dX10_feigned_62 : decode cX10_feigned 62 = .ok (.ishl, 1) := by decide +kernel
theorem dX10_feigned_63 : decode cX10_feigned 63 = .ok (.ior, 1) := by decide +kernel
theorem dX10_feigned_64 : decode cX10_feigned 64 = .ok (.goto 4, 3) := by decide +kernel
theorem dX10_feigned_67 : decode cX10_feigned 67 = .ok (.iload_n 1, 1) := by decide +kernel
theorem dX10_feigned_68 : decode cX10_feigned 68 = .ok (.istore_n 1, 1) := by decide +kernel
theorem dX10_feigned_69 : decode cX10_feigned 69 = .ok (.lload 5, 2) := by decide +kernel
theorem dX10_feigned_71 : decode cX10_feigned 71 = .ok (.lload_n 2, 1) := by decide +kernel
theorem dX10_feigned_72 : decode cX10_feigned 72 = .ok (.lcmp, 1) := by decide +kernel
theorem dX10_feigned_73 : decode cX10_feigned 73 = .ok (.ifCond .le 8, 3) := by decide +kernel
theorem dX10_feigned_76 : decode cX10_feigned 76 = .ok (.lload 5, 2) := by decide +kernel
theorem dX10_feigned_78 : decode cX10_feigned 78 = .ok (.goto 4, 3) := by decide +kernel
theorem dX10_feigned_81 : decode cX10_feigned 81 = .ok (.lload_n 2, 1) := by decide +kernel
theorem dX10_feigned_82 : decode cX10_feigned 82 = .ok (.lstore_n 2, 1) := by decide +kernel
theorem dX10_feigned_83 : decode cX10_feigned 83 = .ok (.iinc 4 1, 3) := by decide +kernel
theorem dX10_feigned_86 : decode cX10_feigned 86 = .ok (.goto (-79), 3) := by decide +kernel
theorem dX10_feigned_89 : decode cX10_feigned 89 = .ok (.iload_n 1, 1) := by decide +kernel
theorem dX10_feigned_90 : decode cX10_feigned 90 = .ok (.ifCond .ne 8, 3) := by decide +kernel
theorem dX10_feigned_93 : decode cX10_feigned 93 = .ok (.bipush (-4), 2) := by decide +kernel
theorem dX10_feigned_95 : decode cX10_feigned 95 = .ok (.goto 4, 3) := by decide +kernel
theorem dX10_feigned_98 : decode cX10_feigned 98 = .ok (.iload_n 1, 1) := by decide +kernel
theorem dX10_feigned_99 : decode cX10_feigned 99 = .ok (.ireturn, 1) := by decide +kernel
def L_X10_feigned_7 (a_days : Nat → Int32) (a_goes : Nat → Int32) (a_noise : Nat → Int32) (a_seenSigns : Nat → Int32) (a_signs : Nat → Int32) (a_told : Nat → Int32) (a_wentOn : Nat → Int32) (a_works : Nat → Int32) (k_89 : Int32 → (Nat → Int64) → (Nat → Int64) → Option (Int32 × (Nat → Int64) × (Nat → Int64))) : Nat → Int32 → Int64 → Int32 → (Nat → Int64) → (Nat → Int64) → Option (Int32 × (Nat → Int64) × (Nat → Int64))
  | 0, _, _, _, _, _ => none
  | n + 1, x1_7, x2_7, x4_7, a_then_7, a_weight_7 => (if (a_days (Int32.toNatClampNeg 0)) ≤ x4_7 then k_89 x1_7 a_then_7 a_weight_7 else (F_X10_readDiary x4_7 a_days a_goes a_noise a_seenSigns a_signs a_then_7 a_told a_weight_7 a_wentOn a_works).bind (fun q21 => (F_X10_total q21.2).bind (fun q25 => jn (fun (j0_68 : Int32) => jn (fun (j0_82 : Int64) => L_X10_feigned_7 a_days a_goes a_noise a_seenSigns a_signs a_told a_wentOn a_works k_89 n j0_68 j0_82 ((x4_7 + 1)) q21.1 q21.2) (fun k_82 => (if (lg_cmp q25 x2_7) ≤ 0 then k_82 x2_7 else k_82 q25))) (fun k_68 => (if (lg_cmp q25 x2_7) ≤ 0 then jn (k_68 x1_7) (fun k_67 => (if (lg_cmp q25 x2_7) = 0 then (if (lg_cmp q25 0) ≤ 0 then k_67 else k_68 ((x1_7 ||| ((1 : Int32) <<< (x4_7 &&& 31))))) else k_67)) else k_68 (((1 : Int32) <<< (x4_7 &&& 31))))))))
def F_X10_feigned (a_days : Nat → Int32) (a_goes : Nat → Int32) (a_noise : Nat → Int32) (a_seenSigns : Nat → Int32) (a_signs : Nat → Int32) (a_then : Nat → Int64) (a_told : Nat → Int32) (a_weight : Nat → Int64) (a_wentOn : Nat → Int32) (a_works : Nat → Int32) : Option (Int32 × (Nat → Int64) × (Nat → Int64)) := jn (fun (x1_89 : Int32) (a_then_89 : Nat → Int64) (a_weight_89 : Nat → Int64) => (if x1_89 = 0 then some ((-4), a_then_89, a_weight_89) else some (x1_89, a_then_89, a_weight_89))) (fun k_89 => L_X10_feigned_7 a_days a_goes a_noise a_seenSigns a_signs a_told a_wentOn a_works k_89 5000 0 0 0 a_then a_weight)
theorem hdV_X10_feigned : yX10_feigned.cls = RX10 ∧ yX10_feigned.cls ≠ "java/lang/invoke/MethodHandle" ∧ yX10_feigned.cls ≠ "java/lang/invoke/VarHandle" ∧ (parseMethodDescriptor yX10_feigned.desc).map (fun d => d.parameters.length) = some 0 := by decide +kernel
set_option maxHeartbeats 4000000 in
set_option maxRecDepth 100000 in
theorem c_X10_feigned (l : Launch) (G : GG) (h_this : Nat) (ad_this : Nat → Nat) (v_typed : Int32) (v_at : Int32) (v_isSo : Int32) (v_kept : Int32) (v_all : Int64) (v_sightAll : Int64) (v_aheadMany : Int32) (a_days : Nat → Int32) (a_goes : Nat → Int32) (a_noise : Nat → Int32) (a_seenSigns : Nat → Int32) (a_signs : Nat → Int32) (a_then : Nat → Int64) (a_told : Nat → Int32) (a_weight : Nat → Int64) (a_wentOn : Nat → Int32) (a_works : Nat → Int32) (out : Int32 × (Nat → Int64) × (Nat → Int64)) (hF : F_X10_feigned a_days a_goes a_noise a_seenSigns a_signs a_then a_told a_weight a_wentOn a_works = some out) : CtrI l yX10_feigned (WS yX10_feigned cX10_feigned 7 (some .int)) { frames := 4, cells := 0, slots := 0, locals := 97 } G [.ref h_this] [(h_this, oX10 ad_this v_typed v_at v_isSo v_kept v_all v_sightAll v_aheadMany), ((ad_this 16), cI G 3 a_days), ((ad_this 2), cI G 6 a_goes), ((ad_this 11), cI G 10 a_noise), ((ad_this 17), cI G 15 a_seenSigns), ((ad_this 3), cI G 2 a_signs), ((ad_this 21), cJ G 3 a_then), ((ad_this 4), cI G 32 a_told), ((ad_this 20), cJ G 3 a_weight), ((ad_this 18), cI G 15 a_wentOn), ((ad_this 10), cI G 2 a_works)] [(h_this, oX10 ad_this v_typed v_at v_isSo v_kept v_all v_sightAll v_aheadMany), ((ad_this 16), cI G 3 a_days), ((ad_this 2), cI G 6 a_goes), ((ad_this 11), cI G 10 a_noise), ((ad_this 17), cI G 15 a_seenSigns), ((ad_this 3), cI G 2 a_signs), ((ad_this 21), cJ G 3 out.2.1), ((ad_this 4), cI G 32 a_told), ((ad_this 20), cJ G 3 out.2.2), ((ad_this 18), cI G 15 a_wentOn), ((ad_this 10), cI G 2 a_works)] out.1 := by
  refine startI (cc := cX10_feigned) (maxL := 7) (by decide) rfl (Nat.le_of_ble_eq_true rfl) ?_
  intro p e s m args below meth c A Q hx hb hml hts hown hc hA hret ls H locs hl hW
  have hown : s.vm.findClass RX10 = some m.cls := hown
  have hg : ∀ w ∈ GOODS, w.before _ s = true := fun w h => hts w (List.mem_cons_of_mem _ h)
  have hl : lv_has ls 7 [(0, .ref h_this)] := hl
  rw [F_X10_feigned] at hF
  refine lv_iconst (v := 0) hx hb dX10_feigned_0 (by decide) ?_
  refine lv_istore_n (lv' := [(1, .int 0), (0, .ref h_this)]) hx hb dX10_feigned_1 rfl hl (by decide) rfl (fun ls hl => ?_)
  refine lv_lconst (v := 0) hx hb dX10_feigned_2 (by decide) ?_
  refine lv_lstore_n (lv' := [(2, .long 0), (1, .int 0), (0, .ref h_this)]) hx hb dX10_feigned_3 rfl hl (by decide) rfl (fun ls hl => ?_)
  refine lv_iconst (v := 0) hx hb dX10_feigned_4 (by decide) ?_
  refine lv_istore (lv' := [(4, .int 0), (2, .long 0), (1, .int 0), (0, .ref h_this)]) hx hb dX10_feigned_5 hl (by decide) rfl (fun ls hl => ?_)
  obtain ⟨k_89, e_89, hF⟩ := jn_el hF
  have J_89 : ∀ (x1_89 : Int32) (a_then_89 : Nat → Int64) (a_weight_89 : Nat → Int64) (ls : Array Slot) (H : Heap) (locs : List Loc), k_89 x1_89 a_then_89 a_weight_89 = some out → lv_has ls 7 [(1, .int x1_89)] → Wd G A s.heap [(h_this, oX10 ad_this v_typed v_at v_isSo v_kept v_all v_sightAll v_aheadMany), ((ad_this 16), cI G 3 a_days), ((ad_this 2), cI G 6 a_goes), ((ad_this 11), cI G 10 a_noise), ((ad_this 17), cI G 15 a_seenSigns), ((ad_this 3), cI G 2 a_signs), ((ad_this 21), cJ G 3 a_then_89), ((ad_this 4), cI G 32 a_told), ((ad_this 20), cJ G 3 a_weight_89), ((ad_this 18), cI G 15 a_wentOn), ((ad_this 10), cI G 2 a_works)] H locs → W p l e ({ frames := 4, cells := 0, slots := 0, locals := 97 } : Room) s m args below meth c H locs 0 0 Q (F0 m 89 ls []) := by
    intro x1_89 a_then_89 a_weight_89 ls H locs hF hl hW
    rw [e_89] at hF
    dsimp only at hF
    refine lv_iload_n hx hb dX10_feigned_89 rfl (lv_at hl 0 rfl) ?_
    refine lv_if_ne (tgt := 98) hx hb dX10_feigned_90 (by decide) (fun c_90 => ?_) (fun c_90 => ?_)
    · have hF := ite_f hF c_90
      refine lv_iload_n hx hb dX10_feigned_98 rfl (lv_at hl 0 rfl) ?_
      obtain rfl := Option.some.inj hF
      exact hret _ _ _ _ hW dX10_feigned_99
    · have hF := ite_t hF c_90
      refine lv_bipush (v := (-4)) hx hb dX10_feigned_93 (by decide) ?_
      refine lv_goto (tgt := 99) hx hb dX10_feigned_95 (by decide) ?_
      obtain rfl := Option.some.inj hF
      exact hret _ _ _ _ hW dX10_feigned_99
  have L_7 : ∀ (n : Nat) (x1_7 : Int32) (x2_7 : Int64) (x4_7 : Int32) (a_then_7 : Nat → Int64) (a_weight_7 : Nat → Int64) (ls : Array Slot) (H : Heap) (locs : List Loc), L_X10_feigned_7 a_days a_goes a_noise a_seenSigns a_signs a_told a_wentOn a_works k_89 n x1_7 x2_7 x4_7 a_then_7 a_weight_7 = some out → lv_has ls 7 [(0, .ref h_this), (1, .int x1_7), (2, .long x2_7), (4, .int x4_7)] → Wd G A s.heap [(h_this, oX10 ad_this v_typed v_at v_isSo v_kept v_all v_sightAll v_aheadMany), ((ad_this 16), cI G 3 a_days), ((ad_this 2), cI G 6 a_goes), ((ad_this 11), cI G 10 a_noise), ((ad_this 17), cI G 15 a_seenSigns), ((ad_this 3), cI G 2 a_signs), ((ad_this 21), cJ G 3 a_then_7), ((ad_this 4), cI G 32 a_told), ((ad_this 20), cJ G 3 a_weight_7), ((ad_this 18), cI G 15 a_wentOn), ((ad_this 10), cI G 2 a_works)] H locs → W p l e ({ frames := 4, cells := 0, slots := 0, locals := 97 } : Room) s m args below meth c H locs 0 0 Q (F0 m 7 ls []) := by
    intro n
    induction n with
    | zero => intro x1_7 x2_7 x4_7 a_then_7 a_weight_7 ls H locs hF hl hW; have h0 : none = some out := hF; cases h0
    | succ n ih =>
      intro x1_7 x2_7 x4_7 a_then_7 a_weight_7 ls H locs hF hl hW
      rw [L_X10_feigned_7] at hF
      refine lv_iload hx hb dX10_feigned_7 (lv_at hl 3 rfl) ?_
      refine lv_aload_n hx hb dX10_feigned_9 rfl (lv_at hl 0 rfl) ?_
      refine va_get (D := G.1) (ci := 9) (v := .ref ((ad_this 16))) (C := RX10) (T := TX10) (N := 31) hx hb hg hu_X10 hown hc.1 hW.1 0 rfl rfl 16 (by decide) (hg _ wd_4_54) (fun _ h9 => h9) rfl dX10_feigned_10 ?_
      refine lv_iconst (v := 0) hx hb dX10_feigned_13 (by decide) ?_
      have b_14 : vp_in 0 3 := inb_vp (by decide)
      refine va_iald hx hb hc.1 hW.1 1 0 rfl rfl b_14 dX10_feigned_14 ?_
      refine lv_icmp_ge (tgt := 89) hx hb dX10_feigned_15 (by decide) (fun c_15 => ?_) (fun c_15 => ?_)
      · have hF := ite_t hF c_15
        exact J_89 x1_7 a_then_7 a_weight_7 _ _ _ hF (lv_sub hl [1] rfl) hW
      · have hF := ite_f hF c_15
        refine lv_aload_n hx hb dX10_feigned_18 rfl (lv_at hl 0 rfl) ?_
        refine lv_iload hx hb dX10_feigned_19 (lv_at hl 3 rfl) ?_
        obtain ⟨q21, c_21, hF⟩ := bd_el hF
        refine wcV (ws' := [(h_this, oX10 ad_this v_typed v_at v_isSo v_kept v_all v_sightAll v_aheadMany), ((ad_this 16), cI G 3 a_days), ((ad_this 2), cI G 6 a_goes), ((ad_this 11), cI G 10 a_noise), ((ad_this 17), cI G 15 a_seenSigns), ((ad_this 3), cI G 2 a_signs), ((ad_this 21), cJ G 3 q21.1), ((ad_this 4), cI G 32 a_told), ((ad_this 20), cJ G 3 q21.2), ((ad_this 18), cI G 15 a_wentOn), ((ad_this 10), cI G 2 a_works)]) (wc := [(h_this, oX10 ad_this v_typed v_at v_isSo v_kept v_all v_sightAll v_aheadMany), ((ad_this 16), cI G 3 a_days), ((ad_this 2), cI G 6 a_goes), ((ad_this 11), cI G 10 a_noise), ((ad_this 17), cI G 15 a_seenSigns), ((ad_this 3), cI G 2 a_signs), ((ad_this 21), cJ G 3 a_then_7), ((ad_this 4), cI G 32 a_told), ((ad_this 20), cJ G 3 a_weight_7), ((ad_this 18), cI G 15 a_wentOn), ((ad_this 10), cI G 2 a_works)]) (wr := []) (w1 := [(h_this, oX10 ad_this v_typed v_at v_isSo v_kept v_all v_sightAll v_aheadMany), ((ad_this 16), cI G 3 a_days), ((ad_this 2), cI G 6 a_goes), ((ad_this 11), cI G 10 a_noise), ((ad_this 17), cI G 15 a_seenSigns), ((ad_this 3), cI G 2 a_signs), ((ad_this 21), cJ G 3 q21.1), ((ad_this 4), cI G 32 a_told), ((ad_this 20), cJ G 3 q21.2), ((ad_this 18), cI G 15 a_wentOn), ((ad_this 10), cI G 2 a_works)]) (va_runV (As := [.int x4_7]) (rest := []) ⟨hx, hb, hml, hown, hg⟩ (c_X10_readDiary l G x4_7 h_this ad_this v_typed v_at v_isSo v_kept v_all v_sightAll v_aheadMany a_days a_goes a_noise a_seenSigns a_signs a_then_7 a_told a_weight_7 a_wentOn a_works q21 c_21 H.size) (cwV 1 hg (gV wd_4_209 wd_4_211 wd_0_35 wd_1_15 wd_4_212) rfl rfl rfl hdV_X10_readDiary ⟨(Nat.le_of_ble_eq_true rfl), (Nat.le_of_ble_eq_true rfl)⟩) (preV hc hW [0, 1, 2, 3, 4, 5, 6, 7, 8, 9, 10] rfl (by decide) rfl rfl) rfl rfl hl.1 rfl (lv_room (Nat.le_of_ble_eq_true rfl)) dX10_feigned_21 ⟨Nat.zero_le _, Nat.zero_le _⟩) hA hW [0, 1, 2, 3, 4, 5, 6, 7, 8, 9, 10] [] [0, 1, 2, 3, 4, 5, 6, 7, 8, 9, 10] rfl rfl (by decide) (by decide) rfl (by decide) (fun H locs hW => ?_)
        refine lv_aload_n hx hb dX10_feigned_24 rfl (lv_at hl 0 rfl) ?_
        obtain ⟨q25, c_25, hF⟩ := bd_el hF
        refine wcJ (ws' := [(h_this, oX10 ad_this v_typed v_at v_isSo v_kept v_all v_sightAll v_aheadMany), ((ad_this 16), cI G 3 a_days), ((ad_this 2), cI G 6 a_goes), ((ad_this 11), cI G 10 a_noise), ((ad_this 17), cI G 15 a_seenSigns), ((ad_this 3), cI G 2 a_signs), ((ad_this 21), cJ G 3 q21.1), ((ad_this 4), cI G 32 a_told), ((ad_this 20), cJ G 3 q21.2), ((ad_this 18), cI G 15 a_wentOn), ((ad_this 10), cI G 2 a_works)]) (wc := [(h_this, oX10 ad_this v_typed v_at v_isSo v_kept v_all v_sightAll v_aheadMany), ((ad_this 20), cJ G 3 q21.2)]) (wr := [((ad_this 16), cI G 3 a_days), ((ad_this 2), cI G 6 a_goes), ((ad_this 11), cI G 10 a_noise), ((ad_this 17), cI G 15 a_seenSigns), ((ad_this 3), cI G 2 a_signs), ((ad_this 21), cJ G 3 q21.1), ((ad_this 4), cI G 32 a_told), ((ad_this 18), cI G 15 a_wentOn), ((ad_this 10), cI G 2 a_works)]) (w1 := [(h_this, oX10 ad_this v_typed v_at v_isSo v_kept v_all v_sightAll v_aheadMany), ((ad_this 20), cJ G 3 q21.2)]) (va_runV (As := []) (rest := []) ⟨hx, hb, hml, hown, hg⟩ (c_X10_total l G h_this ad_this v_typed v_at v_isSo v_kept v_all v_sightAll v_aheadMany q21.2 q25 c_25 H.size) (cwV 0 hg (gV wd_4_237 wd_4_239 wd_0_41 wd_1_15 wd_5_0) rfl rfl rfl hdV_X10_total ⟨(Nat.le_of_ble_eq_true rfl), (Nat.le_of_ble_eq_true rfl)⟩) (preV hc hW [0, 8] rfl (by decide) rfl rfl) rfl rfl hl.1 rfl (lv_room (Nat.le_of_ble_eq_true rfl)) dX10_feigned_25 ⟨Nat.zero_le _, Nat.zero_le _⟩) hA hW [0, 8] [1, 2, 3, 4, 5, 6, 7, 9, 10] [9, 0, 1, 2, 3, 4, 5, 6, 10, 7, 8] rfl rfl (by decide) (by decide) rfl (by decide) (fun H locs hW => ?_)
        refine lv_lstore (lv' := [(5, .long q25), (0, .ref h_this), (1, .int x1_7), (2, .long x2_7), (4, .int x4_7)]) hx hb dX10_feigned_28 hl (by decide) rfl (fun ls hl => ?_)
        refine lv_lload hx hb dX10_feigned_30 (lv_at hl 0 rfl) ?_
        refine lv_lload_n hx hb dX10_feigned_32 rfl (lv_at hl 3 rfl) ?_
        refine W.lcmp hx hb dX10_feigned_33 ?_
        obtain ⟨k_68, e_68, hF⟩ := jn_el hF
        have J_68 : ∀ (j0_68 : Int32) (ls : Array Slot) (H : Heap) (locs : List Loc), k_68 j0_68 = some out → lv_has ls 7 [(0, .ref h_this), (2, .long x2_7), (4, .int x4_7), (5, .long q25)] → Wd G A s.heap [(h_this, oX10 ad_this v_typed v_at v_isSo v_kept v_all v_sightAll v_aheadMany), ((ad_this 16), cI G 3 a_days), ((ad_this 2), cI G 6 a_goes), ((ad_this 11), cI G 10 a_noise), ((ad_this 17), cI G 15 a_seenSigns), ((ad_this 3), cI G 2 a_signs), ((ad_this 21), cJ G 3 q21.1), ((ad_this 4), cI G 32 a_told), ((ad_this 20), cJ G 3 q21.2), ((ad_this 18), cI G 15 a_wentOn), ((ad_this 10), cI G 2 a_works)] H locs → W p l e ({ frames := 4, cells := 0, slots := 0, locals := 97 } : Room) s m args below meth c H locs 0 0 Q (F0 m 68 ls [.int j0_68]) := by
          intro j0_68 ls H locs hF hl hW
          rw [e_68] at hF
          dsimp only at hF
          refine lv_istore_n (lv' := [(1, .int j0_68), (0, .ref h_this), (2, .long x2_7), (4, .int x4_7), (5, .long q25)]) hx hb dX10_feigned_68 rfl hl (by decide) rfl (fun ls hl => ?_)
          refine lv_lload hx hb dX10_feigned_69 (lv_at hl 4 rfl) ?_
          refine lv_lload_n hx hb dX10_feigned_71 rfl (lv_at hl 2 rfl) ?_
          refine W.lcmp hx hb dX10_feigned_72 ?_
          obtain ⟨k_82, e_82, hF⟩ := jn_el hF
          have J_82 : ∀ (j0_82 : Int64) (ls : Array Slot) (H : Heap) (locs : List Loc), k_82 j0_82 = some out → lv_has ls 7 [(0, .ref h_this), (1, .int j0_68), (4, .int x4_7)] → Wd G A s.heap [(h_this, oX10 ad_this v_typed v_at v_isSo v_kept v_all v_sightAll v_aheadMany), ((ad_this 16), cI G 3 a_days), ((ad_this 2), cI G 6 a_goes), ((ad_this 11), cI G 10 a_noise), ((ad_this 17), cI G 15 a_seenSigns), ((ad_this 3), cI G 2 a_signs), ((ad_this 21), cJ G 3 q21.1), ((ad_this 4), cI G 32 a_told), ((ad_this 20), cJ G 3 q21.2), ((ad_this 18), cI G 15 a_wentOn), ((ad_this 10), cI G 2 a_works)] H locs → W p l e ({ frames := 4, cells := 0, slots := 0, locals := 97 } : Room) s m args below meth c H locs 0 0 Q (F0 m 82 ls [.long j0_82]) := by
            intro j0_82 ls H locs hF hl hW
            rw [e_82] at hF
            dsimp only at hF
            refine lv_lstore_n (lv' := [(2, .long j0_82), (0, .ref h_this), (1, .int j0_68), (4, .int x4_7)]) hx hb dX10_feigned_82 rfl hl (by decide) rfl (fun ls hl => ?_)
            refine lv_iinc (v := (x4_7 + 1)) (lv' := [(4, .int ((x4_7 + 1))), (2, .long j0_82), (0, .ref h_this), (1, .int j0_68)]) hx hb dX10_feigned_83 hl (k := 3) rfl rfl (by decide) rfl (fun ls hl => ?_)
            refine lv_goto (tgt := 7) hx hb dX10_feigned_86 (by decide) ?_
            exact ih j0_68 j0_82 ((x4_7 + 1)) q21.1 q21.2 _ _ _ hF (lv_sub hl [2, 3, 1, 0] rfl) hW
          refine lv_if_le (tgt := 81) hx hb dX10_feigned_73 (by decide) (fun c_73 => ?_) (fun c_73 => ?_)
          · have hF := ite_t hF c_73
            refine lv_lload_n hx hb dX10_feigned_81 rfl (lv_at hl 2 rfl) ?_
            exact J_82 x2_7 _ _ _ hF (lv_sub hl [1, 0, 3] rfl) hW
          · have hF := ite_f hF c_73
            refine lv_lload hx hb dX10_feigned_76 (lv_at hl 4 rfl) ?_
            refine lv_goto (tgt := 82) hx hb dX10_feigned_78 (by decide) ?_
            exact J_82 q25 _ _ _ hF (lv_sub hl [1, 0, 3] rfl) hW
        refine lv_if_le (tgt := 44) hx hb dX10_feigned_34 (by decide) (fun c_34 => ?_) (fun c_34 => ?_)
        · have hF := ite_t hF c_34
          refine lv_lload hx hb dX10_feigned_44 (lv_at hl 0 rfl) ?_
          refine lv_lload_n hx hb dX10_feigned_46 rfl (lv_at hl 3 rfl) ?_
          refine W.lcmp hx hb dX10_feigned_47 ?_
          obtain ⟨k_67, e_67, hF⟩ := jn_el hF
          have J_67 : ∀ (ls : Array Slot) (H : Heap) (locs : List Loc), k_67 = some out → lv_has ls 7 [(0, .ref h_this), (1, .int x1_7), (2, .long x2_7), (4, .int x4_7), (5, .long q25)] → Wd G A s.heap [(h_this, oX10 ad_this v_typed v_at v_isSo v_kept v_all v_sightAll v_aheadMany), ((ad_this 16), cI G 3 a_days), ((ad_this 2), cI G 6 a_goes), ((ad_this 11), cI G 10 a_noise), ((ad_this 17), cI G 15 a_seenSigns), ((ad_this 3), cI G 2 a_signs), ((ad_this 21), cJ G 3 q21.1), ((ad_this 4), cI G 32 a_told), ((ad_this 20), cJ G 3 q21.2), ((ad_this 18), cI G 15 a_wentOn), ((ad_this 10), cI G 2 a_works)] H locs → W p l e ({ frames := 4, cells := 0, slots := 0, locals := 97 } : Room) s m args below meth c H locs 0 0 Q (F0 m 67 ls []) := by
            intro ls H locs hF hl hW
            rw [e_67] at hF
            refine lv_iload_n hx hb dX10_feigned_67 rfl (lv_at hl 1 rfl) ?_
            exact J_68 x1_7 _ _ _ hF (lv_sub hl [0, 2, 3, 4] rfl) hW
          refine lv_if_ne (tgt := 67) hx hb dX10_feigned_48 (by decide) (fun c_48 => ?_) (fun c_48 => ?_)
          · have hF := ite_f hF c_48
            exact J_67 _ _ _ hF (lv_sub hl [1, 2, 3, 4, 0] rfl) hW
          · have hF := ite_t hF c_48
            refine lv_lload hx hb dX10_feigned_51 (lv_at hl 0 rfl) ?_
            refine lv_lconst (v := 0) hx hb dX10_feigned_53 (by decide) ?_
            refine W.lcmp hx hb dX10_feigned_54 ?_
            refine lv_if_le (tgt := 67) hx hb dX10_feigned_55 (by decide) (fun c_55 => ?_) (fun c_55 => ?_)
            · have hF := ite_t hF c_55
              exact J_67 _ _ _ hF (lv_sub hl [1, 2, 3, 4, 0] rfl) hW
            · have hF := ite_f hF c_55
              refine lv_iload_n hx hb dX10_feigned_58 rfl (lv_at hl 2 rfl) ?_
              refine lv_iconst (v := 1) hx hb dX10_feigned_59 (by decide) ?_
              refine lv_iload hx hb dX10_feigned_60 (lv_at hl 4 rfl) ?_
              refine lv_ishl hx hb dX10_feigned_62 ?_
              refine lv_ior hx hb dX10_feigned_63 ?_
              refine lv_goto (tgt := 68) hx hb dX10_feigned_64 (by decide) ?_
              exact J_68 ((x1_7 ||| ((1 : Int32) <<< (x4_7 &&& 31)))) _ _ _ hF (lv_sub hl [1, 3, 4, 0] rfl) hW
        · have hF := ite_f hF c_34
          refine lv_iconst (v := 1) hx hb dX10_feigned_37 (by decide) ?_
          refine lv_iload hx hb dX10_feigned_38 (lv_at hl 4 rfl) ?_
          refine lv_ishl hx hb dX10_feigned_40 ?_
          refine lv_goto (tgt := 68) hx hb dX10_feigned_41 (by decide) ?_
          exact J_68 (((1 : Int32) <<< (x4_7 &&& 31))) _ _ _ hF (lv_sub hl [1, 3, 4, 0] rfl) hW
  exact L_7 5000 0 0 0 a_then a_weight _ _ _ hF (lv_sub hl [3, 2, 1, 0] rfl) hW
theorem dX10_spring_0 : decode cX10_spring 0 = .ok (.iload_n 1, 1) := by decide +kernel
theorem dX10_spring_1 : decode cX10_spring 1 = .ok (.iconst 0, 1) := by decide +kernel
theorem dX10_spring_2 : decode cX10_spring 2 = .ok (.sipush 9999, 3) := by decide +kernel
theorem dX10_spring_5 : decode cX10_spring 5 = .ok (.invokestatic 99, 3) := by decide +kernel
theorem dX10_spring_8 : decode cX10_spring 8 = .ok (.ifCond .eq 20, 3) := by decide +kernel
theorem dX10_spring_11 : decode cX10_spring 11 = .ok (.aload_n 0, 1) := by decide +kernel
theorem dX10_spring_12 : decode cX10_spring 12 = .ok (.iload_n 2, 1) := by decide +kernel
theorem dX10_spring_13 : decode cX10_spring 13 = .ok (.invokevirtual 138, 3) := by decide +kernel
theorem dX10_spring_16 : decode cX10_spring 16 = .ok (.ifCond .eq 12, 3) := by decide +kernel
theorem dX10_spring_19 : decode cX10_spring 19 = .ok (.iload_n 3, 1) := by decide +kernel
theorem dX10_spring_20 : decode cX10_spring 20 = .ok (.iconst 0, 1) := by decide +kernel
theorem dX10_spring_21 : decode cX10_spring 21 = .ok (.iconst 1, 1) := by decide +kernel
theorem dX10_spring_22 : decode cX10_spring 22 = .ok (.invokestatic 99, 3) := by decide +kernel
theorem dX10_spring_25 : decode cX10_spring 25 = .ok (.ifCond .ne 5, 3) := by decide +kernel
theorem dX10_spring_28 : decode cX10_spring 28 = .ok (.iconst (-1), 1) := by decide +kernel
theorem dX10_spring_29 : decode cX10_spring 29 = .ok (.ireturn, 1) := by decide +kernel
theorem dX10_spring_30 : decode cX10_spring 30 = .ok (.iconst 0, 1) := by decide +kernel
theorem dX10_spring_31 : decode cX10_spring 31 = .ok (.istore 4, 2) := by decide +kernel
theorem dX10_spring_33 : decode cX10_spring 33 = .ok (.iconst 0, 1) := by decide +kernel
theorem dX10_spring_34 : decode cX10_spring 34 = .ok (.istore 5, 2) := by decide +kernel
theorem dX10_spring_36 : decode cX10_spring 36 = .ok (.bipush (-4), 2) := by decide +kernel
theorem dX10_spring_38 : decode cX10_spring 38 = .ok (.istore 6, 2) := by decide +kernel
theorem dX10_spring_40 : decode cX10_spring 40 = .ok (.iconst 1, 1) := by decide +kernel
theorem dX10_spring_41 : decode cX10_spring 41 = .ok (.istore 7, 2) := by decide +kernel
theorem dX10_spring_43 : decode cX10_spring 43 = .ok (.iload 7, 2) := by decide +kernel
theorem dX10_spring_45 : decode cX10_spring 45 = .ok (.bipush 60, 2) := by decide +kernel
theorem dX10_spring_47 : decode cX10_spring 47 = .ok (.if_icmp .gt 97, 3) := by decide +kernel
theorem dX10_spring_50 : decode cX10_spring 50 = .ok (.iload 6, 2) := by decide +kernel
theorem dX10_spring_52 : decode cX10_spring 52 = .ok (.bipush (-4), 2) := by decide +kernel
theorem dX10_spring_54 : decode cX10_spring 54 = .ok (.if_icmp .ne 90, 3) := by decide +kernel
theorem dX10_spring_57 : decode cX10_spring 57 = .ok (.ldc2_w 230, 3) := by decide +kernel
theorem dX10_spring_60 : decode cX10_spring 60 = .ok (.iload_n 1, 1) := by decide +kernel
theorem dX10_spring_61 : decode cX10_spring 61 = .ok (.i2l, 1) := by decide +kernel
theorem dX10_spring_62 : decode cX10_spring 62 = .ok (.lmul, 1) := by decide +kernel
theorem dX10_spring_63 : decode cX10_spring 63 = .ok (.ldc2_w 232, 3) := by decide +kernel
theorem dX10_spring_66 : decode cX10_spring 66 = .ok (.iload 7, 2) := by decide +kernel
theorem dX10_spring_68 : decode cX10_spring 68 = .ok (.i2l, 1) := by decide +kernel
theorem dX10_spring_69 : decode cX10_spring 69 = .ok (.lmul, 1) := by decide +kernel
theorem dX10_spring_70 : decode cX10_spring 70 = .ok (.ladd, 1) := by decide +kernel
theorem dX10_spring_71 : decode cX10_spring 71 = .ok (.lconst 1, 1) := by decide +kernel
theorem dX10_spring_72 : decode cX10_spring 72 = .ok (.ladd, 1) := by decide +kernel
theorem dX10_spring_73 : decode cX10_spring 73 = .ok (.lstore 8, 2) := by decide +kernel
theorem dX10_spring_75 : decode cX10_spring 75 = .ok (.lload 8, 2) := by decide +kernel
theorem dX10_spring_77 : decode cX10_spring 77 = .ok (.lload 8, 2) := by decide +kernel
theorem dX10_spring_79 : decode cX10_spring 79 = .ok (.lmul, 1) := by decide +kernel
theorem dX10_spring_80 : decode cX10_spring 80 = .ok (.ldc2_w 234, 3) := by decide +kernel
theorem dX10_spring_83 : decode cX10_spring 83 = .ok (.lrem, 1) := by decide +kernel
theorem dX10_spring_84 : decode cX10_spring 84 = .ok (.l2i, 1) := by decide +kernel
theorem dX10_spring_85 : decode cX10_spring 85 = .ok (.bipush 8, 2) := by decide +kernel
theorem dX10_spring_87 : decode cX10_spring 87 = .ok (.idiv, 1) := by decide +kernel
theorem dX10_spring_88 : decode cX10_spring 88 = .ok (.istore 10, 2) := by decide +kernel
theorem dX10_spring_90 : decode cX10_spring 90 = .ok (.iload 10, 2) := by decide +kernel
theorem dX10_spring_92 : decode cX10_spring 92 = .ok (.iconst 4, 1) := by decide +kernel
theorem dX10_spring_93 : decode cX10_spring 93 = .ok (.irem, 1) := by decide +kernel
theorem dX10_spring_94 : decode cX10_spring 94 = .ok (.aload_n 0, 1) := by decide +kernel
theorem dX10_spring_95 : decode cX10_spring 95 = .ok (.iload 4, 2) := by decide +kernel
theorem dX10_spring_97 : decode cX10_spring 97 = .ok (.iload_n 2, 1) := by decide +kernel
theorem dX10_spring_98 : decode cX10_spring 98 = .ok (.invokevirtual 154, 3) := by decide +kernel
theorem dX10_spring_101 : decode cX10_spring 101 = .ok (.if_icmp .ge 21, 3) := by decide +kernel
theorem dX10_spring_104 : decode cX10_spring 104 = .ok (.iload 4, 2) := by decide +kernel
theorem dX10_spring_106 : decode cX10_spring 106 = .ok (.iconst 2, 1) := by decide +kernel
theorem dX10_spring_107 : decode cX10_spring 107 = .ok (.if_icmp .ne 8, 3) := by decide +kernel
theorem dX10_spring_110 : decode cX10_spring 110 = .ok (.iload 7, 2) := by decide +kernel
theorem dX10_spring_112 : decode cX10_spring 112 = .ok (.goto 5, 3) := by decide +kernel
theorem dX10_spring_115 : decode cX10_spring 115 = .ok (.bipush (-4), 2) := by decide +kernel
theorem dX10_spring_117 : decode cX10_spring 117 = .ok (.istore 6, 2) := by decide +kernel
theorem dX10_spring_119 : decode cX10_spring 119 = .ok (.iinc 4 1, 3) := by decide +kernel
theorem dX10_spring_122 : decode cX10_spring 122 = .ok (.iload 5, 2) := by decide +kernel
theorem dX10_spring_124 : decode cX10_spring 124 = .ok (.iload 4, 2) := by decide +kernel
theorem dX10_spring_126 : decode cX10_spring 126 = .ok (.iconst 2, 1) := by decide +kernel
theorem dX10_spring_127 : decode cX10_spring 127 = .ok (.if_icmp .ne 7, 3) := by decide +kernel
theorem dX10_spring_130 : decode cX10_spring 130 = .ok (.iconst 1, 1) := by decide +kernel
theorem dX10_spring_131 : decode cX10_spring 131 = .ok (.goto 4, 3) := by decide +kernel
theorem dX10_spring_134 : decode cX10_spring 134 = .ok (.iconst 0, 1) := by decide +kernel
theorem dX10_spring_135 : decode cX10_spring 135 = .ok (.iadd, 1) := by decide +kernel
theorem dX10_spring_136 : decode cX10_spring 136 = .ok (.istore 5, 2) := by decide +kernel
theorem dX10_spring_138 : decode cX10_spring 138 = .ok (.iinc 7 1, 3) := by decide +kernel
theorem dX10_spring_141 : decode cX10_spring 141 = .ok (.goto (-98), 3) := by decide +kernel
theorem dX10_spring_144 : decode cX10_spring 144 = .ok (.iload_n 3, 1) := by decide +kernel
theorem dX10_spring_145 : decode cX10_spring 145 = .ok (.ifCond .ne 8, 3) := by decide +kernel
theorem dX10_spring_148 : decode cX10_spring 148 = .ok (.iload 6, 2) := by decide +kernel
theorem dX10_spring_150 : decode cX10_spring 150 = .ok (.goto 5, 3) := by decide +kernel
theorem dX10_spring_153 : decode cX10_spring 153 = .ok (.iload 5, 2) := by decide +kernel
theorem dX10_spring_155 : decode cX10_spring 155 = .ok (.ireturn, 1) := by decide +kernel
def L_X10_spring_43 (x1 : Int32) (x2 : Int32) (a_goes : Nat → Int32) (a_noise : Nat → Int32) (a_works : Nat → Int32) (k_144 : Int32 → Int32 → Option (Int32)) : Nat → Int32 → Int32 → Int32 → Int32 → Option (Int32)
  | 0, _, _, _, _ => none
  | n + 1, x4_43, x5_43, x6_43, x7_43 => (if 60 < x7_43 then k_144 x5_43 x6_43 else (if x6_43 = (-4) then (F_X10_chance x4_43 x2 a_goes a_noise a_works).bind (fun q98 => jn (fun (x4_122 : Int32) (x6_122 : Int32) => jn (fun (j0_135 : Int32) => L_X10_spring_43 x1 x2 a_goes a_noise a_works k_144 n x4_122 ((x5_43 + j0_135)) x6_122 ((x7_43 + 1))) (fun k_135 => (if x4_122 = 2 then k_135 1 else k_135 0))) (fun k_122 => (if q98 ≤ (((Int64.toInt32 ((((((7919 * (Int32.toInt64 x1)) + (6151 * (Int32.toInt64 x7_43))) + 1) * (((7919 * (Int32.toInt64 x1)) + (6151 * (Int32.toInt64 x7_43))) + 1)) - ((((7919 * (Int32.toInt64 x1)) + (6151 * (Int32.toInt64 x7_43))) + 1) * (((7919 * (Int32.toInt64 x1)) + (6151 * (Int32.toInt64 x7_43))) + 1)) / 65521 * 65521))) / 8) - ((Int64.toInt32 ((((((7919 * (Int32.toInt64 x1)) + (6151 * (Int32.toInt64 x7_43))) + 1) * (((7919 * (Int32.toInt64 x1)) + (6151 * (Int32.toInt64 x7_43))) + 1)) - ((((7919 * (Int32.toInt64 x1)) + (6151 * (Int32.toInt64 x7_43))) + 1) * (((7919 * (Int32.toInt64 x1)) + (6151 * (Int32.toInt64 x7_43))) + 1)) / 65521 * 65521))) / 8) / 4 * 4) then k_122 x4_43 x6_43 else jn (fun (j0_117 : Int32) => k_122 ((x4_43 + 1)) j0_117) (fun k_117 => (if x4_43 = 2 then k_117 x7_43 else k_117 ((-4))))))) else k_144 x5_43 x6_43))
def F_X10_spring (x1 : Int32) (x2 : Int32) (x3 : Int32) (a_goes : Nat → Int32) (a_noise : Nat → Int32) (a_works : Nat → Int32) : Option (Int32) := (F_X10_in x1 0 9999).bind (fun q5 => (if q5 = 0 then some ((-1)) else (F_X10_areWorks x2 a_works).bind (fun q13 => (if q13 = 0 then some ((-1)) else (F_X10_in x3 0 1).bind (fun q22 => (if q22 = 0 then some ((-1)) else jn (fun (x5_144 : Int32) (x6_144 : Int32) => (if x3 = 0 then some (x6_144) else some (x5_144))) (fun k_144 => L_X10_spring_43 x1 x2 a_goes a_noise a_works k_144 5000 0 0 ((-4)) 1)))))))
theorem hdV_X10_spring : yX10_spring.cls = RX10 ∧ yX10_spring.cls ≠ "java/lang/invoke/MethodHandle" ∧ yX10_spring.cls ≠ "java/lang/invoke/VarHandle" ∧ (parseMethodDescriptor yX10_spring.desc).map (fun d => d.parameters.length) = some 3 := by decide +kernel
set_option maxHeartbeats 4000000 in
set_option maxRecDepth 100000 in
theorem c_X10_spring (l : Launch) (G : GG) (x1 : Int32) (x2 : Int32) (x3 : Int32) (h_this : Nat) (ad_this : Nat → Nat) (v_typed : Int32) (v_at : Int32) (v_isSo : Int32) (v_kept : Int32) (v_all : Int64) (v_sightAll : Int64) (v_aheadMany : Int32) (a_goes : Nat → Int32) (a_noise : Nat → Int32) (a_works : Nat → Int32) (out : Int32) (hF : F_X10_spring x1 x2 x3 a_goes a_noise a_works = some out) : CtrI l yX10_spring (WS yX10_spring cX10_spring 11 (some .int)) { frames := 2, cells := 0, slots := 0, locals := 46 } G [.ref h_this, .int x1, .int x2, .int x3] [(h_this, oX10 ad_this v_typed v_at v_isSo v_kept v_all v_sightAll v_aheadMany), ((ad_this 2), cI G 6 a_goes), ((ad_this 11), cI G 10 a_noise), ((ad_this 10), cI G 2 a_works)] [(h_this, oX10 ad_this v_typed v_at v_isSo v_kept v_all v_sightAll v_aheadMany), ((ad_this 2), cI G 6 a_goes), ((ad_this 11), cI G 10 a_noise), ((ad_this 10), cI G 2 a_works)] out := by
  refine startI (cc := cX10_spring) (maxL := 11) (by decide) rfl (Nat.le_of_ble_eq_true rfl) ?_
  intro p e s m args below meth c A Q hx hb hml hts hown hc hA hret ls H locs hl hW
  have hown : s.vm.findClass RX10 = some m.cls := hown
  have hg : ∀ w ∈ GOODS, w.before _ s = true := fun w h => hts w (List.mem_cons_of_mem _ h)
  have hl : lv_has ls 11 [(0, .ref h_this), (1, .int x1), (2, .int x2), (3, .int x3)] := hl
  rw [F_X10_spring] at hF
  refine lv_iload_n hx hb dX10_spring_0 rfl (lv_at hl 1 rfl) ?_
  refine lv_iconst (v := 0) hx hb dX10_spring_1 (by decide) ?_
  refine lv_sipush (v := 9999) hx hb dX10_spring_2 (by decide) ?_
  obtain ⟨q5, c_5, hF⟩ := bd_el hF
  refine wcZ (ws' := [(h_this, oX10 ad_this v_typed v_at v_isSo v_kept v_all v_sightAll v_aheadMany), ((ad_this 2), cI G 6 a_goes), ((ad_this 11), cI G 10 a_noise), ((ad_this 10), cI G 2 a_works)]) (wc := []) (wr := [(h_this, oX10 ad_this v_typed v_at v_isSo v_kept v_all v_sightAll v_aheadMany), ((ad_this 2), cI G 6 a_goes), ((ad_this 11), cI G 10 a_noise), ((ad_this 10), cI G 2 a_works)]) (w1 := []) (va_runS (As := [.int x1, .int 0, .int 9999]) (rest := []) ⟨hx, hb, hml, hown, hg⟩ (c_X10_in l G x1 0 9999 q5 c_5 H.size) (va_cwS 3 hg (gS wd_4_136 wd_4_137 wd_1_15 wd_4_138) rfl rfl rfl hdS_X10_in ⟨(Nat.le_of_ble_eq_true rfl), (Nat.le_of_ble_eq_true rfl)⟩) (preS hc hW [] rfl (by decide)) rfl rfl hl.1 rfl (lv_room (Nat.le_of_ble_eq_true rfl)) dX10_spring_5 ⟨Nat.zero_le _, Nat.zero_le _⟩) hA hW [] [0, 1, 2, 3] [0, 1, 2, 3] rfl rfl (by decide) (by decide) rfl (by decide) (fun z_5 H locs hW => ?_)
  refine lv_if_eq (tgt := 28) hx hb dX10_spring_8 (by decide) (fun c_8 => ?_) (fun c_8 => ?_)
  · have hF := ite_t hF c_8
    refine lv_iconst (v := (-1)) hx hb dX10_spring_28 (by decide) ?_
    obtain rfl := Option.some.inj hF
    exact hret _ _ _ _ hW dX10_spring_29
  · have hF := ite_f hF c_8
    refine lv_aload_n hx hb dX10_spring_11 rfl (lv_at hl 0 rfl) ?_
    refine lv_iload_n hx hb dX10_spring_12 rfl (lv_at hl 2 rfl) ?_
    obtain ⟨q13, c_13, hF⟩ := bd_el hF
    refine wcZ (ws' := [(h_this, oX10 ad_this v_typed v_at v_isSo v_kept v_all v_sightAll v_aheadMany), ((ad_this 2), cI G 6 a_goes), ((ad_this 11), cI G 10 a_noise), ((ad_this 10), cI G 2 a_works)]) (wc := [(h_this, oX10 ad_this v_typed v_at v_isSo v_kept v_all v_sightAll v_aheadMany), ((ad_this 10), cI G 2 a_works)]) (wr := [((ad_this 2), cI G 6 a_goes), ((ad_this 11), cI G 10 a_noise)]) (w1 := [(h_this, oX10 ad_this v_typed v_at v_isSo v_kept v_all v_sightAll v_aheadMany), ((ad_this 10), cI G 2 a_works)]) (va_runV (As := [.int x2]) (rest := []) ⟨hx, hb, hml, hown, hg⟩ (c_X10_areWorks l G x2 h_this ad_this v_typed v_at v_isSo v_kept v_all v_sightAll v_aheadMany a_works q13 c_13 H.size) (cwV 1 hg (gV wd_4_176 wd_4_178 wd_0_31 wd_1_15 wd_4_179) rfl rfl rfl hdV_X10_areWorks ⟨(Nat.le_of_ble_eq_true rfl), (Nat.le_of_ble_eq_true rfl)⟩) (preV hc hW [0, 3] rfl (by decide) rfl rfl) rfl rfl hl.1 rfl (lv_room (Nat.le_of_ble_eq_true rfl)) dX10_spring_13 ⟨Nat.zero_le _, Nat.zero_le _⟩) hA hW [0, 3] [1, 2] [2, 0, 1, 3] rfl rfl (by decide) (by decide) rfl (by decide) (fun z_13 H locs hW => ?_)
    refine lv_if_eq (tgt := 28) hx hb dX10_spring_16 (by decide) (fun c_16 => ?_) (fun c_16 => ?_)
    · have hF := ite_t hF c_16
      refine lv_iconst (v := (-1)) hx hb dX10_spring_28 (by decide) ?_
      obtain rfl := Option.some.inj hF
      exact hret _ _ _ _ hW dX10_spring_29
    · have hF := ite_f hF c_16
      refine lv_iload_n hx hb dX10_spring_19 rfl (lv_at hl 3 rfl) ?_
      refine lv_iconst (v := 0) hx hb dX10_spring_20 (by decide) ?_
      refine lv_iconst (v := 1) hx hb dX10_spring_21 (by decide) ?_
      obtain ⟨q22, c_22, hF⟩ := bd_el hF
      refine wcZ (ws' := [(h_this, oX10 ad_this v_typed v_at v_isSo v_kept v_all v_sightAll v_aheadMany), ((ad_this 2), cI G 6 a_goes), ((ad_this 11), cI G 10 a_noise), ((ad_this 10), cI G 2 a_works)]) (wc := []) (wr := [(h_this, oX10 ad_this v_typed v_at v_isSo v_kept v_all v_sightAll v_aheadMany), ((ad_this 2), cI G 6 a_goes), ((ad_this 11), cI G 10 a_noise), ((ad_this 10), cI G 2 a_works)]) (w1 := []) (va_runS (As := [.int x3, .int 0, .int 1]) (rest := []) ⟨hx, hb, hml, hown, hg⟩ (c_X10_in l G x3 0 1 q22 c_22 H.size) (va_cwS 3 hg (gS wd_4_136 wd_4_137 wd_1_15 wd_4_138) rfl rfl rfl hdS_X10_in ⟨(Nat.le_of_ble_eq_true rfl), (Nat.le_of_ble_eq_true rfl)⟩) (preS hc hW [] rfl (by decide)) rfl rfl hl.1 rfl (lv_room (Nat.le_of_ble_eq_true rfl)) dX10_spring_22 ⟨Nat.zero_le _, Nat.zero_le _⟩) hA hW [] [0, 1, 2, 3] [0, 1, 2, 3] rfl rfl (by decide) (by decide) rfl (by decide) (fun z_22 H locs hW => ?_)
      refine lv_if_ne (tgt := 30) hx hb dX10_spring_25 (by decide) (fun c_25 => ?_) (fun c_25 => ?_)
      · have hF := ite_f hF c_25
        refine lv_iconst (v := 0) hx hb dX10_spring_30 (by decide) ?_
        refine lv_istore (lv' := [(4, .int 0), (0, .ref h_this), (1, .int x1), (2, .int x2), (3, .int x3)]) hx hb dX10_spring_31 hl (by decide) rfl (fun ls hl => ?_)
        refine lv_iconst (v := 0) hx hb dX10_spring_33 (by decide) ?_
        refine lv_istore (lv' := [(5, .int 0), (4, .int 0), (0, .ref h_this), (1, .int x1), (2, .int x2), (3, .int x3)]) hx hb dX10_spring_34 hl (by decide) rfl (fun ls hl => ?_)
        refine lv_bipush (v := (-4)) hx hb dX10_spring_36 (by decide) ?_
        refine lv_istore (lv' := [(6, .int ((-4))), (5, .int 0), (4, .int 0), (0, .ref h_this), (1, .int x1), (2, .int x2), (3, .int x3)]) hx hb dX10_spring_38 hl (by decide) rfl (fun ls hl => ?_)
        refine lv_iconst (v := 1) hx hb dX10_spring_40 (by decide) ?_
        refine lv_istore (lv' := [(7, .int 1), (6, .int ((-4))), (5, .int 0), (4, .int 0), (0, .ref h_this), (1, .int x1), (2, .int x2), (3, .int x3)]) hx hb dX10_spring_41 hl (by decide) rfl (fun ls hl => ?_)
        obtain ⟨k_144, e_144, hF⟩ := jn_el hF
        have J_144 : ∀ (x5_144 : Int32) (x6_144 : Int32) (ls : Array Slot) (H : Heap) (locs : List Loc), k_144 x5_144 x6_144 = some out → lv_has ls 11 [(3, .int x3), (5, .int x5_144), (6, .int x6_144)] → Wd G A s.heap [(h_this, oX10 ad_this v_typed v_at v_isSo v_kept v_all v_sightAll v_aheadMany), ((ad_this 2), cI G 6 a_goes), ((ad_this 11), cI G 10 a_noise), ((ad_this 10), cI G 2 a_works)] H locs → W p l e ({ frames := 2, cells := 0, slots := 0, locals := 46 } : Room) s m args below meth c H locs 0 0 Q (F0 m 144 ls []) := by
          intro x5_144 x6_144 ls H locs hF hl hW
          rw [e_144] at hF
          dsimp only at hF
          refine lv_iload_n hx hb dX10_spring_144 rfl (lv_at hl 0 rfl) ?_
          refine lv_if_ne (tgt := 153) hx hb dX10_spring_145 (by decide) (fun c_145 => ?_) (fun c_145 => ?_)
          · have hF := ite_f hF c_145
            refine lv_iload hx hb dX10_spring_153 (lv_at hl 1 rfl) ?_
            obtain rfl := Option.some.inj hF
            exact hret _ _ _ _ hW dX10_spring_155
          · have hF := ite_t hF c_145
            refine lv_iload hx hb dX10_spring_148 (lv_at hl 2 rfl) ?_
            refine lv_goto (tgt := 155) hx hb dX10_spring_150 (by decide) ?_
            obtain rfl := Option.some.inj hF
            exact hret _ _ _ _ hW dX10_spring_155
        have L_43 : ∀ (n : Nat) (x4_43 : Int32) (x5_43 : Int32) (x6_43 : Int32) (x7_43 : Int32) (ls : Array Slot) (H : Heap) (locs : List Loc), L_X10_spring_43 x1 x2 a_goes a_noise a_works k_144 n x4_43 x5_43 x6_43 x7_43 = some out → lv_has ls 11 [(0, .ref h_this), (1, .int x1), (2, .int x2), (3, .int x3), (4, .int x4_43), (5, .int x5_43), (6, .int x6_43), (7, .int x7_43)] → Wd G A s.heap [(h_this, oX10 ad_this v_typed v_at v_isSo v_kept v_all v_sightAll v_aheadMany), ((ad_this 2), cI G 6 a_goes), ((ad_this 11), cI G 10 a_noise), ((ad_this 10), cI G 2 a_works)] H locs → W p l e ({ frames := 2, cells := 0, slots := 0, locals := 46 } : Room) s m args below meth c H locs 0 0 Q (F0 m 43 ls []) := by
          intro n
          induction n with
          | zero => intro x4_43 x5_43 x6_43 x7_43 ls H locs hF hl hW; have h0 : none = some out := hF; cases h0
          | succ n ih =>
            intro x4_43 x5_43 x6_43 x7_43 ls H locs hF hl hW
            rw [L_X10_spring_43] at hF
            refine lv_iload hx hb dX10_spring_43 (lv_at hl 7 rfl) ?_
            refine lv_bipush (v := 60) hx hb dX10_spring_45 (by decide) ?_
            refine lv_icmp_gt (tgt := 144) hx hb dX10_spring_47 (by decide) (fun c_47 => ?_) (fun c_47 => ?_)
            · have hF := ite_t hF c_47
              exact J_144 x5_43 x6_43 _ _ _ hF (lv_sub hl [3, 5, 6] rfl) hW
            · have hF := ite_f hF c_47
              refine lv_iload hx hb dX10_spring_50 (lv_at hl 6 rfl) ?_
              refine lv_bipush (v := (-4)) hx hb dX10_spring_52 (by decide) ?_
              refine lv_icmp_ne (tgt := 144) hx hb dX10_spring_54 (by decide) (fun c_54 => ?_) (fun c_54 => ?_)
              · have hF := ite_f hF c_54
                exact J_144 x5_43 x6_43 _ _ _ hF (lv_sub hl [3, 5, 6] rfl) hW
              · have hF := ite_t hF c_54
                refine lv_ldc2 (v := 7919) hx hb hown (hg _ wd_5_89) dX10_spring_57 ?_
                refine lv_iload_n hx hb dX10_spring_60 rfl (lv_at hl 1 rfl) ?_
                refine lv_i2l (v := (Int32.toInt64 x1)) hx hb dX10_spring_61 rfl ?_
                refine lv_lmul hx hb dX10_spring_62 ?_
                refine lv_ldc2 (v := 6151) hx hb hown (hg _ wd_5_90) dX10_spring_63 ?_
                refine lv_iload hx hb dX10_spring_66 (lv_at hl 7 rfl) ?_
                refine lv_i2l (v := (Int32.toInt64 x7_43)) hx hb dX10_spring_68 rfl ?_
                refine lv_lmul hx hb dX10_spring_69 ?_
                refine lv_ladd hx hb dX10_spring_70 ?_
                refine lv_lconst (v := 1) hx hb dX10_spring_71 (by decide) ?_
                refine lv_ladd hx hb dX10_spring_72 ?_
                refine lv_lstore (lv' := [(8, .long ((((7919 * (Int32.toInt64 x1)) + (6151 * (Int32.toInt64 x7_43))) + 1))), (0, .ref h_this), (1, .int x1), (2, .int x2), (3, .int x3), (4, .int x4_43), (5, .int x5_43), (6, .int x6_43), (7, .int x7_43)]) hx hb dX10_spring_73 hl (by decide) rfl (fun ls hl => ?_)
                refine lv_lload hx hb dX10_spring_75 (lv_at hl 0 rfl) ?_
                refine lv_lload hx hb dX10_spring_77 (lv_at hl 0 rfl) ?_
                refine lv_lmul hx hb dX10_spring_79 ?_
                refine lv_ldc2 (v := 65521) hx hb hown (hg _ wd_5_91) dX10_spring_80 ?_
                refine lv_lrem hx hb dX10_spring_83 (by decide) ?_
                refine lv_l2i (v := (Int64.toInt32 ((((((7919 * (Int32.toInt64 x1)) + (6151 * (Int32.toInt64 x7_43))) + 1) * (((7919 * (Int32.toInt64 x1)) + (6151 * (Int32.toInt64 x7_43))) + 1)) - ((((7919 * (Int32.toInt64 x1)) + (6151 * (Int32.toInt64 x7_43))) + 1) * (((7919 * (Int32.toInt64 x1)) + (6151 * (Int32.toInt64 x7_43))) + 1)) / 65521 * 65521)))) hx hb dX10_spring_84 rfl ?_
                refine lv_bipush (v := 8) hx hb dX10_spring_85 (by decide) ?_
                refine lv_idiv hx hb dX10_spring_87 (by decide) ?_
                refine lv_istore (lv' := [(10, .int (((Int64.toInt32 ((((((7919 * (Int32.toInt64 x1)) + (6151 * (Int32.toInt64 x7_43))) + 1) * (((7919 * (Int32.toInt64 x1)) + (6151 * (Int32.toInt64 x7_43))) + 1)) - ((((7919 * (Int32.toInt64 x1)) + (6151 * (Int32.toInt64 x7_43))) + 1) * (((7919 * (Int32.toInt64 x1)) + (6151 * (Int32.toInt64 x7_43))) + 1)) / 65521 * 65521))) / 8))), (8, .long ((((7919 * (Int32.toInt64 x1)) + (6151 * (Int32.toInt64 x7_43))) + 1))), (0, .ref h_this), (1, .int x1), (2, .int x2), (3, .int x3), (4, .int x4_43), (5, .int x5_43), (6, .int x6_43), (7, .int x7_43)]) hx hb dX10_spring_88 hl (by decide) rfl (fun ls hl => ?_)
                refine lv_iload hx hb dX10_spring_90 (lv_at hl 0 rfl) ?_
                refine lv_iconst (v := 4) hx hb dX10_spring_92 (by decide) ?_
                refine lv_irem hx hb dX10_spring_93 (by decide) ?_
                refine lv_aload_n hx hb dX10_spring_94 rfl (lv_at hl 2 rfl) ?_
                refine lv_iload hx hb dX10_spring_95 (lv_at hl 6 rfl) ?_
                refine lv_iload_n hx hb dX10_spring_97 rfl (lv_at hl 4 rfl) ?_
                obtain ⟨q98, c_98, hF⟩ := bd_el hF
                refine wcI (ws' := [(h_this, oX10 ad_this v_typed v_at v_isSo v_kept v_all v_sightAll v_aheadMany), ((ad_this 2), cI G 6 a_goes), ((ad_this 11), cI G 10 a_noise), ((ad_this 10), cI G 2 a_works)]) (wc := [(h_this, oX10 ad_this v_typed v_at v_isSo v_kept v_all v_sightAll v_aheadMany), ((ad_this 2), cI G 6 a_goes), ((ad_this 11), cI G 10 a_noise), ((ad_this 10), cI G 2 a_works)]) (wr := []) (w1 := [(h_this, oX10 ad_this v_typed v_at v_isSo v_kept v_all v_sightAll v_aheadMany), ((ad_this 2), cI G 6 a_goes), ((ad_this 11), cI G 10 a_noise), ((ad_this 10), cI G 2 a_works)]) (va_runV (As := [.int x4_43, .int x2]) (rest := [.int ((((Int64.toInt32 ((((((7919 * (Int32.toInt64 x1)) + (6151 * (Int32.toInt64 x7_43))) + 1) * (((7919 * (Int32.toInt64 x1)) + (6151 * (Int32.toInt64 x7_43))) + 1)) - ((((7919 * (Int32.toInt64 x1)) + (6151 * (Int32.toInt64 x7_43))) + 1) * (((7919 * (Int32.toInt64 x1)) + (6151 * (Int32.toInt64 x7_43))) + 1)) / 65521 * 65521))) / 8) - ((Int64.toInt32 ((((((7919 * (Int32.toInt64 x1)) + (6151 * (Int32.toInt64 x7_43))) + 1) * (((7919 * (Int32.toInt64 x1)) + (6151 * (Int32.toInt64 x7_43))) + 1)) - ((((7919 * (Int32.toInt64 x1)) + (6151 * (Int32.toInt64 x7_43))) + 1) * (((7919 * (Int32.toInt64 x1)) + (6151 * (Int32.toInt64 x7_43))) + 1)) / 65521 * 65521))) / 8) / 4 * 4))]) ⟨hx, hb, hml, hown, hg⟩ (c_X10_chance l G x4_43 x2 h_this ad_this v_typed v_at v_isSo v_kept v_all v_sightAll v_aheadMany a_goes a_noise a_works q98 c_98 H.size) (cwV 2 hg (gV wd_4_217 wd_4_219 wd_0_37 wd_1_15 wd_4_220) rfl rfl rfl hdV_X10_chance ⟨(Nat.le_of_ble_eq_true rfl), (Nat.le_of_ble_eq_true rfl)⟩) (preV hc hW [0, 1, 2, 3] rfl (by decide) rfl rfl) rfl rfl hl.1 rfl (lv_room (Nat.le_of_ble_eq_true rfl)) dX10_spring_98 ⟨Nat.zero_le _, Nat.zero_le _⟩) hA hW [0, 1, 2, 3] [] [0, 1, 2, 3] rfl rfl (by decide) (by decide) rfl (by decide) (fun H locs hW => ?_)
                obtain ⟨k_122, e_122, hF⟩ := jn_el hF
                have J_122 : ∀ (x4_122 : Int32) (x6_122 : Int32) (ls : Array Slot) (H : Heap) (locs : List Loc), k_122 x4_122 x6_122 = some out → lv_has ls 11 [(0, .ref h_this), (1, .int x1), (2, .int x2), (3, .int x3), (4, .int x4_122), (5, .int x5_43), (6, .int x6_122), (7, .int x7_43)] → Wd G A s.heap [(h_this, oX10 ad_this v_typed v_at v_isSo v_kept v_all v_sightAll v_aheadMany), ((ad_this 2), cI G 6 a_goes), ((ad_this 11), cI G 10 a_noise), ((ad_this 10), cI G 2 a_works)] H locs → W p l e ({ frames := 2, cells := 0, slots := 0, locals := 46 } : Room) s m args below meth c H locs 0 0 Q (F0 m 122 ls []) := by
                  intro x4_122 x6_122 ls H locs hF hl hW
                  rw [e_122] at hF
                  dsimp only at hF
                  refine lv_iload hx hb dX10_spring_122 (lv_at hl 5 rfl) ?_
                  refine lv_iload hx hb dX10_spring_124 (lv_at hl 4 rfl) ?_
                  refine lv_iconst (v := 2) hx hb dX10_spring_126 (by decide) ?_
                  obtain ⟨k_135, e_135, hF⟩ := jn_el hF
                  have J_135 : ∀ (j0_135 : Int32) (ls : Array Slot) (H : Heap) (locs : List Loc), k_135 j0_135 = some out → lv_has ls 11 [(0, .ref h_this), (1, .int x1), (2, .int x2), (3, .int x3), (4, .int x4_122), (6, .int x6_122), (7, .int x7_43)] → Wd G A s.heap [(h_this, oX10 ad_this v_typed v_at v_isSo v_kept v_all v_sightAll v_aheadMany), ((ad_this 2), cI G 6 a_goes), ((ad_this 11), cI G 10 a_noise), ((ad_this 10), cI G 2 a_works)] H locs → W p l e ({ frames := 2, cells := 0, slots := 0, locals := 46 } : Room) s m args below meth c H locs 0 0 Q (F0 m 135 ls [.int j0_135, .int x5_43]) := by
                    intro j0_135 ls H locs hF hl hW
                    rw [e_135] at hF
                    dsimp only at hF
                    refine lv_iadd hx hb dX10_spring_135 ?_
                    refine lv_istore (lv' := [(5, .int ((x5_43 + j0_135))), (0, .ref h_this), (1, .int x1), (2, .int x2), (3, .int x3), (4, .int x4_122), (6, .int x6_122), (7, .int x7_43)]) hx hb dX10_spring_136 hl (by decide) rfl (fun ls hl => ?_)
                    refine lv_iinc (v := (x7_43 + 1)) (lv' := [(7, .int ((x7_43 + 1))), (5, .int ((x5_43 + j0_135))), (0, .ref h_this), (1, .int x1), (2, .int x2), (3, .int x3), (4, .int x4_122), (6, .int x6_122)]) hx hb dX10_spring_138 hl (k := 7) rfl rfl (by decide) rfl (fun ls hl => ?_)
                    refine lv_goto (tgt := 43) hx hb dX10_spring_141 (by decide) ?_
                    exact ih x4_122 ((x5_43 + j0_135)) x6_122 ((x7_43 + 1)) _ _ _ hF (lv_sub hl [2, 3, 4, 5, 6, 1, 7, 0] rfl) hW
                  refine lv_icmp_ne (tgt := 134) hx hb dX10_spring_127 (by decide) (fun c_127 => ?_) (fun c_127 => ?_)
                  · have hF := ite_f hF c_127
                    refine lv_iconst (v := 0) hx hb dX10_spring_134 (by decide) ?_
                    exact J_135 0 _ _ _ hF (lv_sub hl [0, 1, 2, 3, 4, 6, 7] rfl) hW
                  · have hF := ite_t hF c_127
                    refine lv_iconst (v := 1) hx hb dX10_spring_130 (by decide) ?_
                    refine lv_goto (tgt := 135) hx hb dX10_spring_131 (by decide) ?_
                    exact J_135 1 _ _ _ hF (lv_sub hl [0, 1, 2, 3, 4, 6, 7] rfl) hW
                refine lv_icmp_ge (tgt := 122) hx hb dX10_spring_101 (by decide) (fun c_101 => ?_) (fun c_101 => ?_)
                · have hF := ite_t hF c_101
                  exact J_122 x4_43 x6_43 _ _ _ hF (lv_sub hl [2, 3, 4, 5, 6, 7, 8, 9] rfl) hW
                · have hF := ite_f hF c_101
                  refine lv_iload hx hb dX10_spring_104 (lv_at hl 6 rfl) ?_
                  refine lv_iconst (v := 2) hx hb dX10_spring_106 (by decide) ?_
                  obtain ⟨k_117, e_117, hF⟩ := jn_el hF
                  have J_117 : ∀ (j0_117 : Int32) (ls : Array Slot) (H : Heap) (locs : List Loc), k_117 j0_117 = some out → lv_has ls 11 [(0, .ref h_this), (1, .int x1), (2, .int x2), (3, .int x3), (4, .int x4_43), (5, .int x5_43), (7, .int x7_43)] → Wd G A s.heap [(h_this, oX10 ad_this v_typed v_at v_isSo v_kept v_all v_sightAll v_aheadMany), ((ad_this 2), cI G 6 a_goes), ((ad_this 11), cI G 10 a_noise), ((ad_this 10), cI G 2 a_works)] H locs → W p l e ({ frames := 2, cells := 0, slots := 0, locals := 46 } : Room) s m args below meth c H locs 0 0 Q (F0 m 117 ls [.int j0_117]) := by
                    intro j0_117 ls H locs hF hl hW
                    rw [e_117] at hF
                    dsimp only at hF
                    refine lv_istore (lv' := [(6, .int j0_117), (0, .ref h_this), (1, .int x1), (2, .int x2), (3, .int x3), (4, .int x4_43), (5, .int x5_43), (7, .int x7_43)]) hx hb dX10_spring_117 hl (by decide) rfl (fun ls hl => ?_)
                    refine lv_iinc (v := (x4_43 + 1)) (lv' := [(4, .int ((x4_43 + 1))), (6, .int j0_117), (0, .ref h_this), (1, .int x1), (2, .int x2), (3, .int x3), (5, .int x5_43), (7, .int x7_43)]) hx hb dX10_spring_119 hl (k := 5) rfl rfl (by decide) rfl (fun ls hl => ?_)
                    exact J_122 ((x4_43 + 1)) j0_117 _ _ _ hF (lv_sub hl [2, 3, 4, 5, 0, 6, 1, 7] rfl) hW
                  refine lv_icmp_ne (tgt := 115) hx hb dX10_spring_107 (by decide) (fun c_107 => ?_) (fun c_107 => ?_)
                  · have hF := ite_f hF c_107
                    refine lv_bipush (v := (-4)) hx hb dX10_spring_115 (by decide) ?_
                    exact J_117 ((-4)) _ _ _ hF (lv_sub hl [2, 3, 4, 5, 6, 7, 9] rfl) hW
                  · have hF := ite_t hF c_107
                    refine lv_iload hx hb dX10_spring_110 (lv_at hl 9 rfl) ?_
                    refine lv_goto (tgt := 117) hx hb dX10_spring_112 (by decide) ?_
                    exact J_117 x7_43 _ _ _ hF (lv_sub hl [2, 3, 4, 5, 6, 7, 9] rfl) hW
        exact L_43 5000 0 0 ((-4)) 1 _ _ _ hF (lv_sub hl [4, 5, 6, 7, 3, 2, 1, 0] rfl) hW
      · have hF := ite_t hF c_25
        refine lv_iconst (v := (-1)) hx hb dX10_spring_28 (by decide) ?_
        obtain rfl := Option.some.inj hF
        exact hret _ _ _ _ hW dX10_spring_29
theorem dX10_copy_0 : decode cX10_copy 0 = .ok (.aload_n 0, 1) := by decide +kernel
theorem dX10_copy_1 : decode cX10_copy 1 = .ok (.getfield 50, 3) := by decide +kernel
theorem dX10_copy_4 : decode cX10_copy 4 = .ok (.iload_n 2, 1) := by decide +kernel
theorem dX10_copy_5 : decode cX10_copy 5 = .ok (.aload_n 0, 1) := by decide +kernel
theorem dX10_copy_6 : decode cX10_copy 6 = .ok (.getfield 50, 3) := by decide +kernel
theorem dX10_copy_9 : decode cX10_copy 9 = .ok (.iload_n 1, 1) := by decide +kernel
theorem dX10_copy_10 : decode cX10_copy 10 = .ok (.iaload, 1) := by decide +kernel
theorem dX10_copy_11 : decode cX10_copy 11 = .ok (.iastore, 1) := by decide +kernel
theorem dX10_copy_12 : decode cX10_copy 12 = .ok (.iconst 0, 1) := by decide +kernel
theorem dX10_copy_13 : decode cX10_copy 13 = .ok (.istore_n 3, 1) := by decide +kernel
theorem dX10_copy_14 : decode cX10_copy 14 = .ok (.iload_n 3, 1) := by decide +kernel
theorem dX10_copy_15 : decode cX10_copy 15 = .ok (.iconst 5, 1) := by decide +kernel
theorem dX10_copy_16 : decode cX10_copy 16 = .ok (.if_icmp .ge 49, 3) := by decide +kernel
theorem dX10_copy_19 : decode cX10_copy 19 = .ok (.aload_n 0, 1) := by decide +kernel
theorem dX10_copy_20 : decode cX10_copy 20 = .ok (.getfield 53, 3) := by decide +kernel
theorem dX10_copy_23 : decode cX10_copy 23 = .ok (.iconst 5, 1) := by decide +kernel
theorem dX10_copy_24 : decode cX10_copy 24 = .ok (.iload_n 2, 1) := by decide +kernel
theorem dX10_copy_25 : decode cX10_copy 25 = .ok (.imul, 1) := by decide +kernel
theorem dX10_copy_26 : decode cX10_copy 26 = .ok (.iload_n 3, 1) := by decide +kernel
theorem dX10_copy_27 : decode cX10_copy 27 = .ok (.iadd, 1) := by decide +kernel
theorem dX10_copy_28 : decode cX10_copy 28 = .ok (.aload_n 0, 1) := by decide +kernel
theorem dX10_copy_29 : decode cX10_copy 29 = .ok (.getfield 53, 3) := by decide +kernel
theorem dX10_copy_32 : decode cX10_copy 32 = .ok (.iconst 5, 1) := by decide +kernel
theorem dX10_copy_33 : decode cX10_copy 33 = .ok (.iload_n 1, 1) := by decide +kernel
theorem dX10_copy_34 : decode cX10_copy 34 = .ok (.imul, 1) := by decide +kernel
theorem dX10_copy_35 : decode cX10_copy 35 = .ok (.iload_n 3, 1) := by decide +kernel
theorem dX10_copy_36 : decode cX10_copy 36 = .ok (.iadd, 1) := by decide +kernel
theorem dX10_copy_37 : decode cX10_copy 37 = .ok (.iaload, 1) := by decide +kernel
theorem dX10_copy_38 : decode cX10_copy 38 = .ok (.iastore, 1) := by decide +kernel
theorem dX10_copy_39 : decode cX10_copy 39 = .ok (.aload_n 0, 1) := by decide +kernel
theorem dX10_copy_40 : decode cX10_copy 40 = .ok (.getfield 56, 3) := by decide +kernel
theorem dX10_copy_43 : decode cX10_copy 43 = .ok (.iconst 5, 1) := by decide +kernel
theorem dX10_copy_44 : decode cX10_copy 44 = .ok (.iload_n 2, 1) := by decide +kernel
theorem dX10_copy_45 : decode cX10_copy 45 = .ok (.imul, 1) := by decide +kernel
theorem dX10_copy_46 : decode cX10_copy 46 = .ok (.iload_n 3, 1) := by decide +kernel
theorem dX10_copy_47 : decode cX10_copy 47 = .ok (.iadd, 1) := by decide +kernel
theorem dX10_copy_48 : decode cX10_copy 48 = .ok (.aload_n 0, 1) := by decide +kernel
theorem dX10_copy_49 : decode cX10_copy 49 = .ok (.getfield 56, 3) := by decide +kernel
theorem dX10_copy_52 : decode cX10_copy 52 = .ok (.iconst 5, 1) := by decide +kernel
theorem dX10_copy_53 : decode cX10_copy 53 = .ok (.iload_n 1, 1) := by decide +kernel
theorem dX10_copy_54 : decode cX10_copy 54 = .ok (.imul, 1) := by decide +kernel
theorem dX10_copy_55 : decode cX10_copy 55 = .ok (.iload_n 3, 1) := by decide +kernel
theorem dX10_copy_56 : decode cX10_copy 56 = .ok (.iadd, 1) := by decide +kernel
theorem dX10_copy_57 : decode cX10_copy 57 = .ok (.iaload, 1) := by decide +kernel
theorem dX10_copy_58 : decode cX10_copy 58 = .ok (.iastore, 1) := by decide +kernel
theorem dX10_copy_59 : decode cX10_copy 59 = .ok (.iinc 3 1, 3) := by decide +kernel
theorem dX10_copy_62 : decode cX10_copy 62 = .ok (.goto (-48), 3) := by decide +kernel
theorem dX10_copy_65 : decode cX10_copy 65 = .ok (.return_, 1) := by decide +kernel
def L_X10_copy_14 (x1 : Int32) (x2 : Int32) (a_days : Nat → Int32)  : Nat → Int32 → (Nat → Int32) → (Nat → Int32) → Option ((Nat → Int32) × (Nat → Int32) × (Nat → Int32))
  | 0, _, _, _ => none
  | n + 1, x3_14, a_seenSigns_14, a_wentOn_14 => (if 5 ≤ x3_14 then some ((upd a_days (Int32.toNatClampNeg x2) ((a_days (Int32.toNatClampNeg x1)))), a_seenSigns_14, a_wentOn_14) else (if inb (((5 * x1) + x3_14)) 15 = true then (if inb (((5 * x2) + x3_14)) 15 = true then (if inb (((5 * x1) + x3_14)) 15 = true then (if inb (((5 * x2) + x3_14)) 15 = true then L_X10_copy_14 x1 x2 a_days n ((x3_14 + 1)) ((upd a_seenSigns_14 (Int32.toNatClampNeg (((5 * x2) + x3_14))) ((a_seenSigns_14 (Int32.toNatClampNeg (((5 * x1) + x3_14))))))) ((upd a_wentOn_14 (Int32.toNatClampNeg (((5 * x2) + x3_14))) ((a_wentOn_14 (Int32.toNatClampNeg (((5 * x1) + x3_14))))))) else none) else none) else none) else none))
def F_X10_copy (x1 : Int32) (x2 : Int32) (a_days : Nat → Int32) (a_seenSigns : Nat → Int32) (a_wentOn : Nat → Int32) : Option ((Nat → Int32) × (Nat → Int32) × (Nat → Int32)) := (if inb x1 3 = true then (if inb x2 3 = true then L_X10_copy_14 x1 x2 a_days 5000 0 a_seenSigns a_wentOn else none) else none)
theorem hdV_X10_copy : yX10_copy.cls = RX10 ∧ yX10_copy.cls ≠ "java/lang/invoke/MethodHandle" ∧ yX10_copy.cls ≠ "java/lang/invoke/VarHandle" ∧ (parseMethodDescriptor yX10_copy.desc).map (fun d => d.parameters.length) = some 2 := by decide +kernel
set_option maxHeartbeats 4000000 in
set_option maxRecDepth 100000 in
theorem c_X10_copy (l : Launch) (G : GG) (x1 : Int32) (x2 : Int32) (h_this : Nat) (ad_this : Nat → Nat) (v_typed : Int32) (v_at : Int32) (v_isSo : Int32) (v_kept : Int32) (v_all : Int64) (v_sightAll : Int64) (v_aheadMany : Int32) (a_days : Nat → Int32) (a_seenSigns : Nat → Int32) (a_wentOn : Nat → Int32) (out : (Nat → Int32) × (Nat → Int32) × (Nat → Int32)) (hF : F_X10_copy x1 x2 a_days a_seenSigns a_wentOn = some out) : CtrV l yX10_copy (WS yX10_copy cX10_copy 4 none) { frames := 0, cells := 0, slots := 0, locals := 0 } G [.ref h_this, .int x1, .int x2] [(h_this, oX10 ad_this v_typed v_at v_isSo v_kept v_all v_sightAll v_aheadMany), ((ad_this 16), cI G 3 a_days), ((ad_this 17), cI G 15 a_seenSigns), ((ad_this 18), cI G 15 a_wentOn)] [(h_this, oX10 ad_this v_typed v_at v_isSo v_kept v_all v_sightAll v_aheadMany), ((ad_this 16), cI G 3 out.1), ((ad_this 17), cI G 15 out.2.1), ((ad_this 18), cI G 15 out.2.2)] := by
  refine startV (cc := cX10_copy) (maxL := 4) (by decide) rfl (Nat.le_of_ble_eq_true rfl) ?_
  intro p e s m args below meth c A Q hx hb hml hts hown hc hA hret ls H locs hl hW
  have hown : s.vm.findClass RX10 = some m.cls := hown
  have hg : ∀ w ∈ GOODS, w.before _ s = true := fun w h => hts w (List.mem_cons_of_mem _ h)
  have hl : lv_has ls 4 [(0, .ref h_this), (1, .int x1), (2, .int x2)] := hl
  rw [F_X10_copy] at hF
  refine lv_aload_n hx hb dX10_copy_0 rfl (lv_at hl 0 rfl) ?_
  refine va_get (D := G.1) (ci := 9) (v := .ref ((ad_this 16))) (C := RX10) (T := TX10) (N := 31) hx hb hg hu_X10 hown hc.1 hW.1 0 rfl rfl 16 (by decide) (hg _ wd_4_54) (fun _ h9 => h9) rfl dX10_copy_1 ?_
  refine lv_iload_n hx hb dX10_copy_4 rfl (lv_at hl 2 rfl) ?_
  refine lv_aload_n hx hb dX10_copy_5 rfl (lv_at hl 0 rfl) ?_
  refine va_get (D := G.1) (ci := 9) (v := .ref ((ad_this 16))) (C := RX10) (T := TX10) (N := 31) hx hb hg hu_X10 hown hc.1 hW.1 0 rfl rfl 16 (by decide) (hg _ wd_4_54) (fun _ h9 => h9) rfl dX10_copy_6 ?_
  refine lv_iload_n hx hb dX10_copy_9 rfl (lv_at hl 1 rfl) ?_
  obtain ⟨b_10, hF⟩ := inb_el hF
  refine va_iald hx hb hc.1 hW.1 1 0 rfl rfl b_10 dX10_copy_10 ?_
  obtain ⟨b_11, hF⟩ := inb_el hF
  refine va_iast hx hb hc.1 hW.1 hW.2.1 hW.2.2 1 0 rfl rfl b_11 dX10_copy_11 (fun H locs hP hD hS => ?_)
  have hW : Wd G A s.heap [(h_this, oX10 ad_this v_typed v_at v_isSo v_kept v_all v_sightAll v_aheadMany), ((ad_this 16), cI G 3 ((upd a_days (Int32.toNatClampNeg x2) ((a_days (Int32.toNatClampNeg x1)))))), ((ad_this 17), cI G 15 a_seenSigns), ((ad_this 18), cI G 15 a_wentOn)] H locs := ⟨hP, hD, hS⟩
  refine lv_iconst (v := 0) hx hb dX10_copy_12 (by decide) ?_
  refine lv_istore_n (lv' := [(3, .int 0), (0, .ref h_this), (1, .int x1), (2, .int x2)]) hx hb dX10_copy_13 rfl hl (by decide) rfl (fun ls hl => ?_)
  have L_14 : ∀ (n : Nat) (x3_14 : Int32) (a_seenSigns_14 : Nat → Int32) (a_wentOn_14 : Nat → Int32) (ls : Array Slot) (H : Heap) (locs : List Loc), L_X10_copy_14 x1 x2 a_days n x3_14 a_seenSigns_14 a_wentOn_14 = some out → lv_has ls 4 [(0, .ref h_this), (1, .int x1), (2, .int x2), (3, .int x3_14)] → Wd G A s.heap [(h_this, oX10 ad_this v_typed v_at v_isSo v_kept v_all v_sightAll v_aheadMany), ((ad_this 16), cI G 3 ((upd a_days (Int32.toNatClampNeg x2) ((a_days (Int32.toNatClampNeg x1)))))), ((ad_this 17), cI G 15 a_seenSigns_14), ((ad_this 18), cI G 15 a_wentOn_14)] H locs → W p l e ({ frames := 0, cells := 0, slots := 0, locals := 0 } : Room) s m args below meth c H locs 0 0 Q (F0 m 14 ls []) := by
    intro n
    induction n with
    | zero => intro x3_14 a_seenSigns_14 a_wentOn_14 ls H locs hF hl hW; have h0 : none = some out := hF; cases h0
    | succ n ih =>
      intro x3_14 a_seenSigns_14 a_wentOn_14 ls H locs hF hl hW
      rw [L_X10_copy_14] at hF
      refine lv_iload_n hx hb dX10_copy_14 rfl (lv_at hl 3 rfl) ?_
      refine lv_iconst (v := 5) hx hb dX10_copy_15 (by decide) ?_
      refine lv_icmp_ge (tgt := 65) hx hb dX10_copy_16 (by decide) (fun c_16 => ?_) (fun c_16 => ?_)
      · have hF := ite_t hF c_16
        obtain rfl := Option.some.inj hF
        exact hret _ _ _ _ hW dX10_copy_65
      · have hF := ite_f hF c_16
        refine lv_aload_n hx hb dX10_copy_19 rfl (lv_at hl 0 rfl) ?_
        refine va_get (D := G.1) (ci := 9) (v := .ref ((ad_this 17))) (C := RX10) (T := TX10) (N := 31) hx hb hg hu_X10 hown hc.1 hW.1 0 rfl rfl 17 (by decide) (hg _ wd_4_55) (fun _ h9 => h9) rfl dX10_copy_20 ?_
        refine lv_iconst (v := 5) hx hb dX10_copy_23 (by decide) ?_
        refine lv_iload_n hx hb dX10_copy_24 rfl (lv_at hl 2 rfl) ?_
        refine lv_imul hx hb dX10_copy_25 ?_
        refine lv_iload_n hx hb dX10_copy_26 rfl (lv_at hl 3 rfl) ?_
        refine lv_iadd hx hb dX10_copy_27 ?_
        refine lv_aload_n hx hb dX10_copy_28 rfl (lv_at hl 0 rfl) ?_
        refine va_get (D := G.1) (ci := 9) (v := .ref ((ad_this 17))) (C := RX10) (T := TX10) (N := 31) hx hb hg hu_X10 hown hc.1 hW.1 0 rfl rfl 17 (by decide) (hg _ wd_4_55) (fun _ h9 => h9) rfl dX10_copy_29 ?_
        refine lv_iconst (v := 5) hx hb dX10_copy_32 (by decide) ?_
        refine lv_iload_n hx hb dX10_copy_33 rfl (lv_at hl 1 rfl) ?_
        refine lv_imul hx hb dX10_copy_34 ?_
        refine lv_iload_n hx hb dX10_copy_35 rfl (lv_at hl 3 rfl) ?_
        refine lv_iadd hx hb dX10_copy_36 ?_
        obtain ⟨b_37, hF⟩ := inb_el hF
        refine va_iald hx hb hc.1 hW.1 2 0 rfl rfl b_37 dX10_copy_37 ?_
        obtain ⟨b_38, hF⟩ := inb_el hF
        refine va_iast hx hb hc.1 hW.1 hW.2.1 hW.2.2 2 0 rfl rfl b_38 dX10_copy_38 (fun H locs hP hD hS => ?_)
        have hW : Wd G A s.heap [(h_this, oX10 ad_this v_typed v_at v_isSo v_kept v_all v_sightAll v_aheadMany), ((ad_this 16), cI G 3 ((upd a_days (Int32.toNatClampNeg x2) ((a_days (Int32.toNatClampNeg x1)))))), ((ad_this 17), cI G 15 ((upd a_seenSigns_14 (Int32.toNatClampNeg (((5 * x2) + x3_14))) ((a_seenSigns_14 (Int32.toNatClampNeg (((5 * x1) + x3_14)))))))), ((ad_this 18), cI G 15 a_wentOn_14)] H locs := ⟨hP, hD, hS⟩
        refine lv_aload_n hx hb dX10_copy_39 rfl (lv_at hl 0 rfl) ?_
        refine va_get (D := G.1) (ci := 9) (v := .ref ((ad_this 18))) (C := RX10) (T := TX10) (N := 31) hx hb hg hu_X10 hown hc.1 hW.1 0 rfl rfl 18 (by decide) (hg _ wd_4_56) (fun _ h9 => h9) rfl dX10_copy_40 ?_
        refine lv_iconst (v := 5) hx hb dX10_copy_43 (by decide) ?_
        refine lv_iload_n hx hb dX10_copy_44 rfl (lv_at hl 2 rfl) ?_
        refine lv_imul hx hb dX10_copy_45 ?_
        refine lv_iload_n hx hb dX10_copy_46 rfl (lv_at hl 3 rfl) ?_
        refine lv_iadd hx hb dX10_copy_47 ?_
        refine lv_aload_n hx hb dX10_copy_48 rfl (lv_at hl 0 rfl) ?_
        refine va_get (D := G.1) (ci := 9) (v := .ref ((ad_this 18))) (C := RX10) (T := TX10) (N := 31) hx hb hg hu_X10 hown hc.1 hW.1 0 rfl rfl 18 (by decide) (hg _ wd_4_56) (fun _ h9 => h9) rfl dX10_copy_49 ?_
        refine lv_iconst (v := 5) hx hb dX10_copy_52 (by decide) ?_
        refine lv_iload_n hx hb dX10_copy_53 rfl (lv_at hl 1 rfl) ?_
        refine lv_imul hx hb dX10_copy_54 ?_
        refine lv_iload_n hx hb dX10_copy_55 rfl (lv_at hl 3 rfl) ?_
        refine lv_iadd hx hb dX10_copy_56 ?_
        obtain ⟨b_57, hF⟩ := inb_el hF
        refine va_iald hx hb hc.1 hW.1 3 0 rfl rfl b_57 dX10_copy_57 ?_
        obtain ⟨b_58, hF⟩ := inb_el hF
        refine va_iast hx hb hc.1 hW.1 hW.2.1 hW.2.2 3 0 rfl rfl b_58 dX10_copy_58 (fun H locs hP hD hS => ?_)
        have hW : Wd G A s.heap [(h_this, oX10 ad_this v_typed v_at v_isSo v_kept v_all v_sightAll v_aheadMany), ((ad_this 16), cI G 3 ((upd a_days (Int32.toNatClampNeg x2) ((a_days (Int32.toNatClampNeg x1)))))), ((ad_this 17), cI G 15 ((upd a_seenSigns_14 (Int32.toNatClampNeg (((5 * x2) + x3_14))) ((a_seenSigns_14 (Int32.toNatClampNeg (((5 * x1) + x3_14)))))))), ((ad_this 18), cI G 15 ((upd a_wentOn_14 (Int32.toNatClampNeg (((5 * x2) + x3_14))) ((a_wentOn_14 (Int32.toNatClampNeg (((5 * x1) + x3_14))))))))] H locs := ⟨hP, hD, hS⟩
        refine lv_iinc (v := (x3_14 + 1)) (lv' := [(3, .int ((x3_14 + 1))), (0, .ref h_this), (1, .int x1), (2, .int x2)]) hx hb dX10_copy_59 hl (k := 3) rfl rfl (by decide) rfl (fun ls hl => ?_)
        refine lv_goto (tgt := 14) hx hb dX10_copy_62 (by decide) ?_
        exact ih ((x3_14 + 1)) ((upd a_seenSigns_14 (Int32.toNatClampNeg (((5 * x2) + x3_14))) ((a_seenSigns_14 (Int32.toNatClampNeg (((5 * x1) + x3_14))))))) ((upd a_wentOn_14 (Int32.toNatClampNeg (((5 * x2) + x3_14))) ((a_wentOn_14 (Int32.toNatClampNeg (((5 * x1) + x3_14))))))) _ _ _ hF (lv_sub hl [1, 2, 3, 0] rfl) hW
  exact L_14 5000 0 a_seenSigns a_wentOn _ _ _ hF (lv_sub hl [1, 2, 3, 0] rfl) hW
theorem dX10_keep_0 : decode cX10_keep 0 = .ok (.aload_n 0, 1) := by decide +kernel
theorem dX10_keep_1 : decode cX10_keep 1 = .ok (.getfield 131, 3) := by decide +kernel
theorem dX10_keep_4 : decode cX10_keep 4 = .ok (.iconst 2, 1) := by decide +kernel
theorem dX10_keep_5 : decode cX10_keep 5 = .ok (.if_icmp .ne 6, 3) := by decide +kernel
theorem dX10_keep_8 : decode cX10_keep 8 = .ok (.bipush (-3), 2) := by decide +kernel
theorem dX10_keep_10 : decode cX10_keep 10 = .ok (.ireturn, 1) := by decide +kernel
theorem dX10_keep_11 : decode cX10_keep 11 = .ok (.aload_n 0, 1) := by decide +kernel
theorem dX10_keep_12 : decode cX10_keep 12 = .ok (.dup, 1) := by decide +kernel
theorem dX10_keep_13 : decode cX10_keep 13 = .ok (.getfield 131, 3) := by decide +kernel
theorem dX10_keep_16 : decode cX10_keep 16 = .ok (.iconst 1, 1) := by decide +kernel
theorem dX10_keep_17 : decode cX10_keep 17 = .ok (.iadd, 1) := by decide +kernel
theorem dX10_keep_18 : decode cX10_keep 18 = .ok (.putfield 131, 3) := by decide +kernel
theorem dX10_keep_21 : decode cX10_keep 21 = .ok (.aload_n 0, 1) := by decide +kernel
theorem dX10_keep_22 : decode cX10_keep 22 = .ok (.iconst 0, 1) := by decide +kernel
theorem dX10_keep_23 : decode cX10_keep 23 = .ok (.aload_n 0, 1) := by decide +kernel
theorem dX10_keep_24 : decode cX10_keep 24 = .ok (.getfield 131, 3) := by decide +kernel
theorem dX10_keep_27 : decode cX10_keep 27 = .ok (.invokevirtual 236, 3) := by decide +kernel
theorem dX10_keep_30 : decode cX10_keep 30 = .ok (.aload_n 0, 1) := by decide +kernel
theorem dX10_keep_31 : decode cX10_keep 31 = .ok (.getfield 131, 3) := by decide +kernel
theorem dX10_keep_34 : decode cX10_keep 34 = .ok (.ireturn, 1) := by decide +kernel
def F_X10_keep (v_kept : Int32) (a_days : Nat → Int32) (a_seenSigns : Nat → Int32) (a_wentOn : Nat → Int32) : Option (Int32 × Int32 × (Nat → Int32) × (Nat → Int32) × (Nat → Int32)) := (if v_kept = 2 then some ((-3), v_kept, a_days, a_seenSigns, a_wentOn) else (F_X10_copy 0 ((v_kept + 1)) a_days a_seenSigns a_wentOn).bind (fun q27 => some ((v_kept + 1), (v_kept + 1), q27.1, q27.2.1, q27.2.2)))
theorem hdV_X10_keep : yX10_keep.cls = RX10 ∧ yX10_keep.cls ≠ "java/lang/invoke/MethodHandle" ∧ yX10_keep.cls ≠ "java/lang/invoke/VarHandle" ∧ (parseMethodDescriptor yX10_keep.desc).map (fun d => d.parameters.length) = some 0 := by decide +kernel
set_option maxHeartbeats 4000000 in
set_option maxRecDepth 100000 in
theorem c_X10_keep (l : Launch) (G : GG) (h_this : Nat) (ad_this : Nat → Nat) (v_typed : Int32) (v_at : Int32) (v_isSo : Int32) (v_kept : Int32) (v_all : Int64) (v_sightAll : Int64) (v_aheadMany : Int32) (a_days : Nat → Int32) (a_seenSigns : Nat → Int32) (a_wentOn : Nat → Int32) (out : Int32 × Int32 × (Nat → Int32) × (Nat → Int32) × (Nat → Int32)) (hF : F_X10_keep v_kept a_days a_seenSigns a_wentOn = some out) : CtrI l yX10_keep (WS yX10_keep cX10_keep 1 (some .int)) { frames := 1, cells := 0, slots := 0, locals := 23 } G [.ref h_this] [(h_this, oX10 ad_this v_typed v_at v_isSo v_kept v_all v_sightAll v_aheadMany), ((ad_this 16), cI G 3 a_days), ((ad_this 17), cI G 15 a_seenSigns), ((ad_this 18), cI G 15 a_wentOn)] [(h_this, oX10 ad_this v_typed v_at v_isSo out.2.1 v_all v_sightAll v_aheadMany), ((ad_this 16), cI G 3 out.2.2.1), ((ad_this 17), cI G 15 out.2.2.2.1), ((ad_this 18), cI G 15 out.2.2.2.2)] out.1 := by
  refine startI (cc := cX10_keep) (maxL := 1) (by decide) rfl (Nat.le_of_ble_eq_true rfl) ?_
  intro p e s m args below meth c A Q hx hb hml hts hown hc hA hret ls H locs hl hW
  have hown : s.vm.findClass RX10 = some m.cls := hown
  have hg : ∀ w ∈ GOODS, w.before _ s = true := fun w h => hts w (List.mem_cons_of_mem _ h)
  have hl : lv_has ls 1 [(0, .ref h_this)] := hl
  rw [F_X10_keep] at hF
  refine lv_aload_n hx hb dX10_keep_0 rfl (lv_at hl 0 rfl) ?_
  refine va_get (D := G.1) (ci := 9) (v := .int v_kept) (C := RX10) (T := TX10) (N := 31) hx hb hg hu_X10 hown hc.1 hW.1 0 rfl rfl 19 (by decide) (hg _ wd_4_57) (fun _ h9 => h9) rfl dX10_keep_1 ?_
  refine lv_iconst (v := 2) hx hb dX10_keep_4 (by decide) ?_
  refine lv_icmp_ne (tgt := 11) hx hb dX10_keep_5 (by decide) (fun c_5 => ?_) (fun c_5 => ?_)
  · have hF := ite_f hF c_5
    refine lv_aload_n hx hb dX10_keep_11 rfl (lv_at hl 0 rfl) ?_
    refine lv_dup hx hb dX10_keep_12 rfl ?_
    refine va_get (D := G.1) (ci := 9) (v := .int v_kept) (C := RX10) (T := TX10) (N := 31) hx hb hg hu_X10 hown hc.1 hW.1 0 rfl rfl 19 (by decide) (hg _ wd_4_57) (fun _ h9 => h9) rfl dX10_keep_13 ?_
    refine lv_iconst (v := 1) hx hb dX10_keep_16 (by decide) ?_
    refine lv_iadd hx hb dX10_keep_17 ?_
    refine va_put (D := G.1) (ci := 9) (v := .int ((v_kept + 1))) (ty := .int) (C := RX10) (T := TX10) (N := 31) hx hb hg hu_X10 tyX10 tyX10_ok nmX10 hown hc.1 hW.1 hW.2.1 hW.2.2 0 rfl rfl 19 (by decide) (hg _ wd_4_57) (fun _ h9 => h9) rfl (by decide +kernel) rfl rfl (Nat.le_of_ble_eq_true rfl) dX10_keep_18 (fun H locs hP hD hS => ?_)
    have hW : Wd G A s.heap [(h_this, oX10 ad_this v_typed v_at v_isSo ((v_kept + 1)) v_all v_sightAll v_aheadMany), ((ad_this 16), cI G 3 a_days), ((ad_this 17), cI G 15 a_seenSigns), ((ad_this 18), cI G 15 a_wentOn)] H locs := ⟨hP, hD, hS⟩
    refine lv_aload_n hx hb dX10_keep_21 rfl (lv_at hl 0 rfl) ?_
    refine lv_iconst (v := 0) hx hb dX10_keep_22 (by decide) ?_
    refine lv_aload_n hx hb dX10_keep_23 rfl (lv_at hl 0 rfl) ?_
    refine va_get (D := G.1) (ci := 9) (v := .int ((v_kept + 1))) (C := RX10) (T := TX10) (N := 31) hx hb hg hu_X10 hown hc.1 hW.1 0 rfl rfl 19 (by decide) (hg _ wd_4_57) (fun _ h9 => h9) rfl dX10_keep_24 ?_
    obtain ⟨q27, c_27, hF⟩ := bd_el hF
    refine wcV (ws' := [(h_this, oX10 ad_this v_typed v_at v_isSo ((v_kept + 1)) v_all v_sightAll v_aheadMany), ((ad_this 16), cI G 3 q27.1), ((ad_this 17), cI G 15 q27.2.1), ((ad_this 18), cI G 15 q27.2.2)]) (wc := [(h_this, oX10 ad_this v_typed v_at v_isSo ((v_kept + 1)) v_all v_sightAll v_aheadMany), ((ad_this 16), cI G 3 a_days), ((ad_this 17), cI G 15 a_seenSigns), ((ad_this 18), cI G 15 a_wentOn)]) (wr := []) (w1 := [(h_this, oX10 ad_this v_typed v_at v_isSo ((v_kept + 1)) v_all v_sightAll v_aheadMany), ((ad_this 16), cI G 3 q27.1), ((ad_this 17), cI G 15 q27.2.1), ((ad_this 18), cI G 15 q27.2.2)]) (va_runV (As := [.int 0, .int ((v_kept + 1))]) (rest := []) ⟨hx, hb, hml, hown, hg⟩ (c_X10_copy l G 0 ((v_kept + 1)) h_this ad_this v_typed v_at v_isSo ((v_kept + 1)) v_all v_sightAll v_aheadMany a_days a_seenSigns a_wentOn q27 c_27 H.size) (cwV 2 hg (gV wd_5_96 wd_5_98 wd_0_47 wd_1_15 wd_5_99) rfl rfl rfl hdV_X10_copy ⟨(Nat.le_of_ble_eq_true rfl), (Nat.le_of_ble_eq_true rfl)⟩) (preV hc hW [0, 1, 2, 3] rfl (by decide) rfl rfl) rfl rfl hl.1 rfl (lv_room (Nat.le_of_ble_eq_true rfl)) dX10_keep_27 ⟨Nat.zero_le _, Nat.zero_le _⟩) hA hW [0, 1, 2, 3] [] [0, 1, 2, 3] rfl rfl (by decide) (by decide) rfl (by decide) (fun H locs hW => ?_)
    refine lv_aload_n hx hb dX10_keep_30 rfl (lv_at hl 0 rfl) ?_
    refine va_get (D := G.1) (ci := 9) (v := .int ((v_kept + 1))) (C := RX10) (T := TX10) (N := 31) hx hb hg hu_X10 hown hc.1 hW.1 0 rfl rfl 19 (by decide) (hg _ wd_4_57) (fun _ h9 => h9) rfl dX10_keep_31 ?_
    obtain rfl := Option.some.inj hF
    exact hret _ _ _ _ hW dX10_keep_34
  · have hF := ite_t hF c_5
    refine lv_bipush (v := (-3)) hx hb dX10_keep_8 (by decide) ?_
    obtain rfl := Option.some.inj hF
    exact hret _ _ _ _ hW dX10_keep_10
theorem dX10_back_0 : decode cX10_back 0 = .ok (.aload_n 0, 1) := by decide +kernel
theorem dX10_back_1 : decode cX10_back 1 = .ok (.getfield 131, 3) := by decide +kernel
theorem dX10_back_4 : decode cX10_back 4 = .ok (.ifCond .ne 6, 3) := by decide +kernel
theorem dX10_back_7 : decode cX10_back 7 = .ok (.bipush (-2), 2) := by decide +kernel
theorem dX10_back_9 : decode cX10_back 9 = .ok (.ireturn, 1) := by decide +kernel
theorem dX10_back_10 : decode cX10_back 10 = .ok (.aload_n 0, 1) := by decide +kernel
theorem dX10_back_11 : decode cX10_back 11 = .ok (.aload_n 0, 1) := by decide +kernel
theorem dX10_back_12 : decode cX10_back 12 = .ok (.getfield 131, 3) := by decide +kernel
theorem dX10_back_15 : decode cX10_back 15 = .ok (.iconst 0, 1) := by decide +kernel
theorem dX10_back_16 : decode cX10_back 16 = .ok (.invokevirtual 236, 3) := by decide +kernel
theorem dX10_back_19 : decode cX10_back 19 = .ok (.aload_n 0, 1) := by decide +kernel
theorem dX10_back_20 : decode cX10_back 20 = .ok (.dup, 1) := by decide +kernel
theorem dX10_back_21 : decode cX10_back 21 = .ok (.getfield 131, 3) := by decide +kernel
theorem dX10_back_24 : decode cX10_back 24 = .ok (.iconst 1, 1) := by decide +kernel
theorem dX10_back_25 : decode cX10_back 25 = .ok (.isub, 1) := by decide +kernel
theorem dX10_back_26 : decode cX10_back 26 = .ok (.putfield 131, 3) := by decide +kernel
theorem dX10_back_29 : decode cX10_back 29 = .ok (.aload_n 0, 1) := by decide +kernel
theorem dX10_back_30 : decode cX10_back 30 = .ok (.getfield 131, 3) := by decide +kernel
theorem dX10_back_33 : decode cX10_back 33 = .ok (.ireturn, 1) := by decide +kernel
def F_X10_back (v_kept : Int32) (a_days : Nat → Int32) (a_seenSigns : Nat → Int32) (a_wentOn : Nat → Int32) : Option (Int32 × Int32 × (Nat → Int32) × (Nat → Int32) × (Nat → Int32)) := (if v_kept = 0 then some ((-2), v_kept, a_days, a_seenSigns, a_wentOn) else (F_X10_copy v_kept 0 a_days a_seenSigns a_wentOn).bind (fun q16 => some ((v_kept - 1), (v_kept - 1), q16.1, q16.2.1, q16.2.2)))
theorem hdV_X10_back : yX10_back.cls = RX10 ∧ yX10_back.cls ≠ "java/lang/invoke/MethodHandle" ∧ yX10_back.cls ≠ "java/lang/invoke/VarHandle" ∧ (parseMethodDescriptor yX10_back.desc).map (fun d => d.parameters.length) = some 0 := by decide +kernel
set_option maxHeartbeats 4000000 in
set_option maxRecDepth 100000 in
theorem c_X10_back (l : Launch) (G : GG) (h_this : Nat) (ad_this : Nat → Nat) (v_typed : Int32) (v_at : Int32) (v_isSo : Int32) (v_kept : Int32) (v_all : Int64) (v_sightAll : Int64) (v_aheadMany : Int32) (a_days : Nat → Int32) (a_seenSigns : Nat → Int32) (a_wentOn : Nat → Int32) (out : Int32 × Int32 × (Nat → Int32) × (Nat → Int32) × (Nat → Int32)) (hF : F_X10_back v_kept a_days a_seenSigns a_wentOn = some out) : CtrI l yX10_back (WS yX10_back cX10_back 1 (some .int)) { frames := 1, cells := 0, slots := 0, locals := 23 } G [.ref h_this] [(h_this, oX10 ad_this v_typed v_at v_isSo v_kept v_all v_sightAll v_aheadMany), ((ad_this 16), cI G 3 a_days), ((ad_this 17), cI G 15 a_seenSigns), ((ad_this 18), cI G 15 a_wentOn)] [(h_this, oX10 ad_this v_typed v_at v_isSo out.2.1 v_all v_sightAll v_aheadMany), ((ad_this 16), cI G 3 out.2.2.1), ((ad_this 17), cI G 15 out.2.2.2.1), ((ad_this 18), cI G 15 out.2.2.2.2)] out.1 := by
  refine startI (cc := cX10_back) (maxL := 1) (by decide) rfl (Nat.le_of_ble_eq_true rfl) ?_
  intro p e s m args below meth c A Q hx hb hml hts hown hc hA hret ls H locs hl hW
  have hown : s.vm.findClass RX10 = some m.cls := hown
  have hg : ∀ w ∈ GOODS, w.before _ s = true := fun w h => hts w (List.mem_cons_of_mem _ h)
  have hl : lv_has ls 1 [(0, .ref h_this)] := hl
  rw [F_X10_back] at hF
  refine lv_aload_n hx hb dX10_back_0 rfl (lv_at hl 0 rfl) ?_
  refine va_get (D := G.1) (ci := 9) (v := .int v_kept) (C := RX10) (T := TX10) (N := 31) hx hb hg hu_X10 hown hc.1 hW.1 0 rfl rfl 19 (by decide) (hg _ wd_4_57) (fun _ h9 => h9) rfl dX10_back_1 ?_
  refine lv_if_ne (tgt := 10) hx hb dX10_back_4 (by decide) (fun c_4 => ?_) (fun c_4 => ?_)
  · have hF := ite_f hF c_4
    refine lv_aload_n hx hb dX10_back_10 rfl (lv_at hl 0 rfl) ?_
    refine lv_aload_n hx hb dX10_back_11 rfl (lv_at hl 0 rfl) ?_
    refine va_get (D := G.1) (ci := 9) (v := .int v_kept) (C := RX10) (T := TX10) (N := 31) hx hb hg hu_X10 hown hc.1 hW.1 0 rfl rfl 19 (by decide) (hg _ wd_4_57) (fun _ h9 => h9) rfl dX10_back_12 ?_
    refine lv_iconst (v := 0) hx hb dX10_back_15 (by decide) ?_
    obtain ⟨q16, c_16, hF⟩ := bd_el hF
    refine wcV (ws' := [(h_this, oX10 ad_this v_typed v_at v_isSo v_kept v_all v_sightAll v_aheadMany), ((ad_this 16), cI G 3 q16.1), ((ad_this 17), cI G 15 q16.2.1), ((ad_this 18), cI G 15 q16.2.2)]) (wc := [(h_this, oX10 ad_this v_typed v_at v_isSo v_kept v_all v_sightAll v_aheadMany), ((ad_this 16), cI G 3 a_days), ((ad_this 17), cI G 15 a_seenSigns), ((ad_this 18), cI G 15 a_wentOn)]) (wr := []) (w1 := [(h_this, oX10 ad_this v_typed v_at v_isSo v_kept v_all v_sightAll v_aheadMany), ((ad_this 16), cI G 3 q16.1), ((ad_this 17), cI G 15 q16.2.1), ((ad_this 18), cI G 15 q16.2.2)]) (va_runV (As := [.int v_kept, .int 0]) (rest := []) ⟨hx, hb, hml, hown, hg⟩ (c_X10_copy l G v_kept 0 h_this ad_this v_typed v_at v_isSo v_kept v_all v_sightAll v_aheadMany a_days a_seenSigns a_wentOn q16 c_16 H.size) (cwV 2 hg (gV wd_5_96 wd_5_98 wd_0_47 wd_1_15 wd_5_99) rfl rfl rfl hdV_X10_copy ⟨(Nat.le_of_ble_eq_true rfl), (Nat.le_of_ble_eq_true rfl)⟩) (preV hc hW [0, 1, 2, 3] rfl (by decide) rfl rfl) rfl rfl hl.1 rfl (lv_room (Nat.le_of_ble_eq_true rfl)) dX10_back_16 ⟨Nat.zero_le _, Nat.zero_le _⟩) hA hW [0, 1, 2, 3] [] [0, 1, 2, 3] rfl rfl (by decide) (by decide) rfl (by decide) (fun H locs hW => ?_)
    refine lv_aload_n hx hb dX10_back_19 rfl (lv_at hl 0 rfl) ?_
    refine lv_dup hx hb dX10_back_20 rfl ?_
    refine va_get (D := G.1) (ci := 9) (v := .int v_kept) (C := RX10) (T := TX10) (N := 31) hx hb hg hu_X10 hown hc.1 hW.1 0 rfl rfl 19 (by decide) (hg _ wd_4_57) (fun _ h9 => h9) rfl dX10_back_21 ?_
    refine lv_iconst (v := 1) hx hb dX10_back_24 (by decide) ?_
    refine lv_isub hx hb dX10_back_25 ?_
    refine va_put (D := G.1) (ci := 9) (v := .int ((v_kept - 1))) (ty := .int) (C := RX10) (T := TX10) (N := 31) hx hb hg hu_X10 tyX10 tyX10_ok nmX10 hown hc.1 hW.1 hW.2.1 hW.2.2 0 rfl rfl 19 (by decide) (hg _ wd_4_57) (fun _ h9 => h9) rfl (by decide +kernel) rfl rfl (Nat.le_of_ble_eq_true rfl) dX10_back_26 (fun H locs hP hD hS => ?_)
    have hW : Wd G A s.heap [(h_this, oX10 ad_this v_typed v_at v_isSo ((v_kept - 1)) v_all v_sightAll v_aheadMany), ((ad_this 16), cI G 3 q16.1), ((ad_this 17), cI G 15 q16.2.1), ((ad_this 18), cI G 15 q16.2.2)] H locs := ⟨hP, hD, hS⟩
    refine lv_aload_n hx hb dX10_back_29 rfl (lv_at hl 0 rfl) ?_
    refine va_get (D := G.1) (ci := 9) (v := .int ((v_kept - 1))) (C := RX10) (T := TX10) (N := 31) hx hb hg hu_X10 hown hc.1 hW.1 0 rfl rfl 19 (by decide) (hg _ wd_4_57) (fun _ h9 => h9) rfl dX10_back_30 ?_
    obtain rfl := Option.some.inj hF
    exact hret _ _ _ _ hW dX10_back_33
  · have hF := ite_t hF c_4
    refine lv_bipush (v := (-2)) hx hb dX10_back_7 (by decide) ?_
    obtain rfl := Option.some.inj hF
    exact hret _ _ _ _ hW dX10_back_9
theorem dX10_count_0 : decode cX10_count 0 = .ok (.iconst 0, 1) := by decide +kernel
theorem dX10_count_1 : decode cX10_count 1 = .ok (.istore_n 2, 1) := by decide +kernel
theorem dX10_count_2 : decode cX10_count 2 = .ok (.iload_n 1, 1) := by decide +kernel
theorem dX10_count_3 : decode cX10_count 3 = .ok (.tableswitch 128 0 8 #[49, 56, 63, 70, 77, 84, 89, 94, 99], 49) := by decide +kernel
theorem dX10_count_52 : decode cX10_count 52 = .ok (.aload_n 0, 1) := by decide +kernel
theorem dX10_count_53 : decode cX10_count 53 = .ok (.getfield 17, 3) := by decide +kernel
theorem dX10_count_56 : decode cX10_count 56 = .ok (.iconst 0, 1) := by decide +kernel
theorem dX10_count_57 : decode cX10_count 57 = .ok (.iaload, 1) := by decide +kernel
theorem dX10_count_58 : decode cX10_count 58 = .ok (.ireturn, 1) := by decide +kernel
theorem dX10_count_59 : decode cX10_count 59 = .ok (.aload_n 0, 1) := by decide +kernel
theorem dX10_count_60 : decode cX10_count 60 = .ok (.getfield 23, 3) := by decide +kernel
theorem dX10_count_63 : decode cX10_count 63 = .ok (.iconst 0, 1) := by decide +kernel
theorem dX10_count_64 : decode cX10_count 64 = .ok (.iaload, 1) := by decide +kernel
theorem dX10_count_65 : decode cX10_count 65 = .ok (.ireturn, 1) := by decide +kernel
theorem dX10_count_66 : decode cX10_count 66 = .ok (.aload_n 0, 1) := by decide +kernel
theorem dX10_count_67 : decode cX10_count 67 = .ok (.getfield 32, 3) := by decide +kernel
theorem dX10_count_70 : decode cX10_count 70 = .ok (.iconst 0, 1) := by decide +kernel
theorem dX10_count_71 : decode cX10_count 71 = .ok (.iaload, 1) := by decide +kernel
theorem dX10_count_72 : decode cX10_count 72 = .ok (.ireturn, 1) := by decide +kernel
theorem dX10_count_73 : decode cX10_count 73 = .ok (.aload_n 0, 1) := by decide +kernel
theorem dX10_count_74 : decode cX10_count 74 = .ok (.getfield 38, 3) := by decide +kernel
theorem dX10_count_77 : decode cX10_count 77 = .ok (.iconst 0, 1) := by decide +kernel
theorem dX10_count_78 : decode cX10_count 78 = .ok (.iaload, 1) := by decide +kernel
theorem dX10_count_79 : decode cX10_count 79 = .ok (.ireturn, 1) := by decide +kernel
theorem dX10_count_80 : decode cX10_count 80 = .ok (.aload_n 0, 1) := by decide +kernel
theorem dX10_count_81 : decode cX10_count 81 = .ok (.getfield 50, 3) := by decide +kernel
theorem dX10_count_84 : decode cX10_count 84 = .ok (.iconst 0, 1) := by decide +kernel
theorem dX10_count_85 : decode cX10_count 85 = .ok (.iaload, 1) := by decide +kernel
theorem dX10_count_86 : decode cX10_count 86 = .ok (.ireturn, 1) := by decide +kernel
theorem dX10_count_87 : decode cX10_count 87 = .ok (.aload_n 0, 1) := by decide +kernel
theorem dX10_count_88 : decode cX10_count 88 = .ok (.getfield 128, 3) := by decide +kernel
theorem dX10_count_91 : decode cX10_count 91 = .ok (.ireturn, 1) := by decide +kernel
theorem dX10_count_92 : decode cX10_count 92 = .ok (.aload_n 0, 1) := by decide +kernel
theorem dX10_count_93 : decode cX10_count 93 = .ok (.getfield 131, 3) := by decide +kernel
theorem dX10_count_96 : decode cX10_count 96 = .ok (.ireturn, 1) := by decide +kernel
theorem dX10_count_97 : decode cX10_count 97 = .ok (.aload_n 0, 1) := by decide +kernel
theorem dX10_count_98 : decode cX10_count 98 = .ok (.getfield 103, 3) := by decide +kernel
theorem dX10_count_101 : decode cX10_count 101 = .ok (.ireturn, 1) := by decide +kernel
theorem dX10_count_102 : decode cX10_count 102 = .ok (.iconst 0, 1) := by decide +kernel
theorem dX10_count_103 : decode cX10_count 103 = .ok (.istore_n 3, 1) := by decide +kernel
theorem dX10_count_104 : decode cX10_count 104 = .ok (.iload_n 3, 1) := by decide +kernel
theorem dX10_count_105 : decode cX10_count 105 = .ok (.aload_n 0, 1) := by decide +kernel
theorem dX10_count_106 : decode cX10_count 106 = .ok (.getfield 23, 3) := by decide +kernel
theorem dX10_count_109 : decode cX10_count 109 = .ok (.iconst 0, 1) := by decide +kernel
theorem dX10_count_110 : decode cX10_count 110 = .ok (.iaload, 1) := by decide +kernel
theorem dX10_count_111 : decode cX10_count 111 = .ok (.if_icmp .ge 18, 3) := by decide +kernel
theorem dX10_count_114 : decode cX10_count 114 = .ok (.iload_n 2, 1) := by decide +kernel
theorem dX10_count_115 : decode cX10_count 115 = .ok (.aload_n 0, 1) := by decide +kernel
theorem dX10_count_116 : decode cX10_count 116 = .ok (.getfield 26, 3) := by decide +kernel
theorem dX10_count_119 : decode cX10_count 119 = .ok (.iload_n 3, 1) := by decide +kernel
theorem dX10_count_120 : decode cX10_count 120 = .ok (.iaload, 1) := by decide +kernel
theorem dX10_count_121 : decode cX10_count 121 = .ok (.iadd, 1) := by decide +kernel
theorem dX10_count_122 : decode cX10_count 122 = .ok (.istore_n 2, 1) := by decide +kernel
theorem dX10_count_123 : decode cX10_count 123 = .ok (.iinc 3 1, 3) := by decide +kernel
theorem dX10_count_126 : decode cX10_count 126 = .ok (.goto (-22), 3) := by decide +kernel
theorem dX10_count_129 : decode cX10_count 129 = .ok (.iload_n 2, 1) := by decide +kernel
theorem dX10_count_130 : decode cX10_count 130 = .ok (.ireturn, 1) := by decide +kernel
theorem dX10_count_131 : decode cX10_count 131 = .ok (.iconst (-1), 1) := by decide +kernel
theorem dX10_count_132 : decode cX10_count 132 = .ok (.ireturn, 1) := by decide +kernel
def L_X10_count_104 (a_houses : Nat → Int32) (a_people : Nat → Int32)  : Nat → Int32 → Int32 → Option (Int32)
  | 0, _, _ => none
  | n + 1, x2_104, x3_104 => (if (a_houses (Int32.toNatClampNeg 0)) ≤ x3_104 then some (x2_104) else (if inb x3_104 12 = true then L_X10_count_104 a_houses a_people n ((x2_104 + (a_people (Int32.toNatClampNeg x3_104)))) ((x3_104 + 1)) else none))
def F_X10_count (x1 : Int32) (v_aheadMany : Int32) (v_kept : Int32) (v_typed : Int32) (a_boats : Nat → Int32) (a_days : Nat → Int32) (a_houses : Nat → Int32) (a_people : Nat → Int32) (a_signs : Nat → Int32) (a_works : Nat → Int32) : Option (Int32) := (if x1 = 0 then some ((a_signs (Int32.toNatClampNeg 0))) else (if x1 = 1 then some ((a_houses (Int32.toNatClampNeg 0))) else (if x1 = 2 then some ((a_boats (Int32.toNatClampNeg 0))) else (if x1 = 3 then some ((a_works (Int32.toNatClampNeg 0))) else (if x1 = 4 then some ((a_days (Int32.toNatClampNeg 0))) else (if x1 = 5 then some (v_aheadMany) else (if x1 = 6 then some (v_kept) else (if x1 = 7 then some (v_typed) else (if x1 = 8 then L_X10_count_104 a_houses a_people 5000 0 0 else some ((-1)))))))))))
theorem hdV_X10_count : yX10_count.cls = RX10 ∧ yX10_count.cls ≠ "java/lang/invoke/MethodHandle" ∧ yX10_count.cls ≠ "java/lang/invoke/VarHandle" ∧ (parseMethodDescriptor yX10_count.desc).map (fun d => d.parameters.length) = some 1 := by decide +kernel
set_option maxHeartbeats 4000000 in
set_option maxRecDepth 100000 in
theorem c_X10_count (l : Launch) (G : GG) (x1 : Int32) (h_this : Nat) (ad_this : Nat → Nat) (v_typed : Int32) (v_at : Int32) (v_isSo : Int32) (v_kept : Int32) (v_all : Int64) (v_sightAll : Int64) (v_aheadMany : Int32) (a_boats : Nat → Int32) (a_days : Nat → Int32) (a_houses : Nat → Int32) (a_people : Nat → Int32) (a_signs : Nat → Int32) (a_works : Nat → Int32) (out : Int32) (hF : F_X10_count x1 v_aheadMany v_kept v_typed a_boats a_days a_houses a_people a_signs a_works = some out) : CtrI l yX10_count (WS yX10_count cX10_count 4 (some .int)) { frames := 0, cells := 0, slots := 0, locals := 0 } G [.ref h_this, .int x1] [(h_this, oX10 ad_this v_typed v_at v_isSo v_kept v_all v_sightAll v_aheadMany), ((ad_this 8), cI G 2 a_boats), ((ad_this 16), cI G 3 a_days), ((ad_this 5), cI G 2 a_houses), ((ad_this 6), cI G 12 a_people), ((ad_this 3), cI G 2 a_signs), ((ad_this 10), cI G 2 a_works)] [(h_this, oX10 ad_this v_typed v_at v_isSo v_kept v_all v_sightAll v_aheadMany), ((ad_this 8), cI G 2 a_boats), ((ad_this 16), cI G 3 a_days), ((ad_this 5), cI G 2 a_houses), ((ad_this 6), cI G 12 a_people), ((ad_this 3), cI G 2 a_signs), ((ad_this 10), cI G 2 a_works)] out := by
  refine startI (cc := cX10_count) (maxL := 4) (by decide) rfl (Nat.le_of_ble_eq_true rfl) ?_
  intro p e s m args below meth c A Q hx hb hml hts hown hc hA hret ls H locs hl hW
  have hown : s.vm.findClass RX10 = some m.cls := hown
  have hg : ∀ w ∈ GOODS, w.before _ s = true := fun w h => hts w (List.mem_cons_of_mem _ h)
  have hl : lv_has ls 4 [(0, .ref h_this), (1, .int x1)] := hl
  rw [F_X10_count] at hF
  refine lv_iconst (v := 0) hx hb dX10_count_0 (by decide) ?_
  refine lv_istore_n (lv' := [(2, .int 0), (0, .ref h_this), (1, .int x1)]) hx hb dX10_count_1 rfl hl (by decide) rfl (fun ls hl => ?_)
  refine lv_iload_n hx hb dX10_count_2 rfl (lv_at hl 2 rfl) ?_
  by_cases w_3_0 : x1 = 0
  · have hF := ite_t hF w_3_0
    refine lv_tableIn (off := 49) (tgt := 52) hx hb dX10_count_3 (by rw [w_3_0]; decide +kernel) (by rw [w_3_0]; decide +kernel) (by rw [w_3_0]; decide +kernel) (by decide) ?_
    refine lv_aload_n hx hb dX10_count_52 rfl (lv_at hl 1 rfl) ?_
    refine va_get (D := G.1) (ci := 9) (v := .ref ((ad_this 3))) (C := RX10) (T := TX10) (N := 31) hx hb hg hu_X10 hown hc.1 hW.1 0 rfl rfl 3 (by decide) (hg _ wd_4_41) (fun _ h9 => h9) rfl dX10_count_53 ?_
    refine lv_iconst (v := 0) hx hb dX10_count_56 (by decide) ?_
    have b_57 : vp_in 0 2 := inb_vp (by decide)
    refine va_iald hx hb hc.1 hW.1 5 0 rfl rfl b_57 dX10_count_57 ?_
    obtain rfl := Option.some.inj hF
    exact hret _ _ _ _ hW dX10_count_58
  have hF := ite_f hF w_3_0
  by_cases w_3_1 : x1 = 1
  · have hF := ite_t hF w_3_1
    refine lv_tableIn (off := 56) (tgt := 59) hx hb dX10_count_3 (by rw [w_3_1]; decide +kernel) (by rw [w_3_1]; decide +kernel) (by rw [w_3_1]; decide +kernel) (by decide) ?_
    refine lv_aload_n hx hb dX10_count_59 rfl (lv_at hl 1 rfl) ?_
    refine va_get (D := G.1) (ci := 9) (v := .ref ((ad_this 5))) (C := RX10) (T := TX10) (N := 31) hx hb hg hu_X10 hown hc.1 hW.1 0 rfl rfl 5 (by decide) (hg _ wd_4_43) (fun _ h9 => h9) rfl dX10_count_60 ?_
    refine lv_iconst (v := 0) hx hb dX10_count_63 (by decide) ?_
    have b_64 : vp_in 0 2 := inb_vp (by decide)
    refine va_iald hx hb hc.1 hW.1 3 0 rfl rfl b_64 dX10_count_64 ?_
    obtain rfl := Option.some.inj hF
    exact hret _ _ _ _ hW dX10_count_65
  have hF := ite_f hF w_3_1
  by_cases w_3_2 : x1 = 2
  · have hF := ite_t hF w_3_2
    refine lv_tableIn (off := 63) (tgt := 66) hx hb dX10_count_3 (by rw [w_3_2]; decide +kernel) (by rw [w_3_2]; decide +kernel) (by rw [w_3_2]; decide +kernel) (by decide) ?_
    refine lv_aload_n hx hb dX10_count_66 rfl (lv_at hl 1 rfl) ?_
    refine va_get (D := G.1) (ci := 9) (v := .ref ((ad_this 8))) (C := RX10) (T := TX10) (N := 31) hx hb hg hu_X10 hown hc.1 hW.1 0 rfl rfl 8 (by decide) (hg _ wd_4_46) (fun _ h9 => h9) rfl dX10_count_67 ?_
    refine lv_iconst (v := 0) hx hb dX10_count_70 (by decide) ?_
    have b_71 : vp_in 0 2 := inb_vp (by decide)
    refine va_iald hx hb hc.1 hW.1 1 0 rfl rfl b_71 dX10_count_71 ?_
    obtain rfl := Option.some.inj hF
    exact hret _ _ _ _ hW dX10_count_72
  have hF := ite_f hF w_3_2
  by_cases w_3_3 : x1 = 3
  · have hF := ite_t hF w_3_3
    refine lv_tableIn (off := 70) (tgt := 73) hx hb dX10_count_3 (by rw [w_3_3]; decide +kernel) (by rw [w_3_3]; decide +kernel) (by rw [w_3_3]; decide +kernel) (by decide) ?_
    refine lv_aload_n hx hb dX10_count_73 rfl (lv_at hl 1 rfl) ?_
    refine va_get (D := G.1) (ci := 9) (v := .ref ((ad_this 10))) (C := RX10) (T := TX10) (N := 31) hx hb hg hu_X10 hown hc.1 hW.1 0 rfl rfl 10 (by decide) (hg _ wd_4_48) (fun _ h9 => h9) rfl dX10_count_74 ?_
    refine lv_iconst (v := 0) hx hb dX10_count_77 (by decide) ?_
    have b_78 : vp_in 0 2 := inb_vp (by decide)
    refine va_iald hx hb hc.1 hW.1 6 0 rfl rfl b_78 dX10_count_78 ?_
    obtain rfl := Option.some.inj hF
    exact hret _ _ _ _ hW dX10_count_79
  have hF := ite_f hF w_3_3
  by_cases w_3_4 : x1 = 4
  · have hF := ite_t hF w_3_4
    refine lv_tableIn (off := 77) (tgt := 80) hx hb dX10_count_3 (by rw [w_3_4]; decide +kernel) (by rw [w_3_4]; decide +kernel) (by rw [w_3_4]; decide +kernel) (by decide) ?_
    refine lv_aload_n hx hb dX10_count_80 rfl (lv_at hl 1 rfl) ?_
    refine va_get (D := G.1) (ci := 9) (v := .ref ((ad_this 16))) (C := RX10) (T := TX10) (N := 31) hx hb hg hu_X10 hown hc.1 hW.1 0 rfl rfl 16 (by decide) (hg _ wd_4_54) (fun _ h9 => h9) rfl dX10_count_81 ?_
    refine lv_iconst (v := 0) hx hb dX10_count_84 (by decide) ?_
    have b_85 : vp_in 0 3 := inb_vp (by decide)
    refine va_iald hx hb hc.1 hW.1 2 0 rfl rfl b_85 dX10_count_85 ?_
    obtain rfl := Option.some.inj hF
    exact hret _ _ _ _ hW dX10_count_86
  have hF := ite_f hF w_3_4
  by_cases w_3_5 : x1 = 5
  · have hF := ite_t hF w_3_5
    refine lv_tableIn (off := 84) (tgt := 87) hx hb dX10_count_3 (by rw [w_3_5]; decide +kernel) (by rw [w_3_5]; decide +kernel) (by rw [w_3_5]; decide +kernel) (by decide) ?_
    refine lv_aload_n hx hb dX10_count_87 rfl (lv_at hl 1 rfl) ?_
    refine va_get (D := G.1) (ci := 9) (v := .int v_aheadMany) (C := RX10) (T := TX10) (N := 31) hx hb hg hu_X10 hown hc.1 hW.1 0 rfl rfl 29 (by decide) (hg _ wd_4_67) (fun _ h9 => h9) rfl dX10_count_88 ?_
    obtain rfl := Option.some.inj hF
    exact hret _ _ _ _ hW dX10_count_91
  have hF := ite_f hF w_3_5
  by_cases w_3_6 : x1 = 6
  · have hF := ite_t hF w_3_6
    refine lv_tableIn (off := 89) (tgt := 92) hx hb dX10_count_3 (by rw [w_3_6]; decide +kernel) (by rw [w_3_6]; decide +kernel) (by rw [w_3_6]; decide +kernel) (by decide) ?_
    refine lv_aload_n hx hb dX10_count_92 rfl (lv_at hl 1 rfl) ?_
    refine va_get (D := G.1) (ci := 9) (v := .int v_kept) (C := RX10) (T := TX10) (N := 31) hx hb hg hu_X10 hown hc.1 hW.1 0 rfl rfl 19 (by decide) (hg _ wd_4_57) (fun _ h9 => h9) rfl dX10_count_93 ?_
    obtain rfl := Option.some.inj hF
    exact hret _ _ _ _ hW dX10_count_96
  have hF := ite_f hF w_3_6
  by_cases w_3_7 : x1 = 7
  · have hF := ite_t hF w_3_7
    refine lv_tableIn (off := 94) (tgt := 97) hx hb dX10_count_3 (by rw [w_3_7]; decide +kernel) (by rw [w_3_7]; decide +kernel) (by rw [w_3_7]; decide +kernel) (by decide) ?_
    refine lv_aload_n hx hb dX10_count_97 rfl (lv_at hl 1 rfl) ?_
    refine va_get (D := G.1) (ci := 9) (v := .int v_typed) (C := RX10) (T := TX10) (N := 31) hx hb hg hu_X10 hown hc.1 hW.1 0 rfl rfl 1 (by decide) (hg _ wd_4_39) (fun _ h9 => h9) rfl dX10_count_98 ?_
    obtain rfl := Option.some.inj hF
    exact hret _ _ _ _ hW dX10_count_101
  have hF := ite_f hF w_3_7
  by_cases w_3_8 : x1 = 8
  · have hF := ite_t hF w_3_8
    refine lv_tableIn (off := 99) (tgt := 102) hx hb dX10_count_3 (by rw [w_3_8]; decide +kernel) (by rw [w_3_8]; decide +kernel) (by rw [w_3_8]; decide +kernel) (by decide) ?_
    refine lv_iconst (v := 0) hx hb dX10_count_102 (by decide) ?_
    refine lv_istore_n (lv' := [(3, .int 0), (2, .int 0), (0, .ref h_this), (1, .int x1)]) hx hb dX10_count_103 rfl hl (by decide) rfl (fun ls hl => ?_)
    have L_104 : ∀ (n : Nat) (x2_104 : Int32) (x3_104 : Int32) (ls : Array Slot) (H : Heap) (locs : List Loc), L_X10_count_104 a_houses a_people n x2_104 x3_104 = some out → lv_has ls 4 [(0, .ref h_this), (2, .int x2_104), (3, .int x3_104)] → Wd G A s.heap [(h_this, oX10 ad_this v_typed v_at v_isSo v_kept v_all v_sightAll v_aheadMany), ((ad_this 8), cI G 2 a_boats), ((ad_this 16), cI G 3 a_days), ((ad_this 5), cI G 2 a_houses), ((ad_this 6), cI G 12 a_people), ((ad_this 3), cI G 2 a_signs), ((ad_this 10), cI G 2 a_works)] H locs → W p l e ({ frames := 0, cells := 0, slots := 0, locals := 0 } : Room) s m args below meth c H locs 0 0 Q (F0 m 104 ls []) := by
      intro n
      induction n with
      | zero => intro x2_104 x3_104 ls H locs hF hl hW; have h0 : none = some out := hF; cases h0
      | succ n ih =>
        intro x2_104 x3_104 ls H locs hF hl hW
        rw [L_X10_count_104] at hF
        refine lv_iload_n hx hb dX10_count_104 rfl (lv_at hl 2 rfl) ?_
        refine lv_aload_n hx hb dX10_count_105 rfl (lv_at hl 0 rfl) ?_
        refine va_get (D := G.1) (ci := 9) (v := .ref ((ad_this 5))) (C := RX10) (T := TX10) (N := 31) hx hb hg hu_X10 hown hc.1 hW.1 0 rfl rfl 5 (by decide) (hg _ wd_4_43) (fun _ h9 => h9) rfl dX10_count_106 ?_
        refine lv_iconst (v := 0) hx hb dX10_count_109 (by decide) ?_
        have b_110 : vp_in 0 2 := inb_vp (by decide)
        refine va_iald hx hb hc.1 hW.1 3 0 rfl rfl b_110 dX10_count_110 ?_
        refine lv_icmp_ge (tgt := 129) hx hb dX10_count_111 (by decide) (fun c_111 => ?_) (fun c_111 => ?_)
        · have hF := ite_t hF c_111
          refine lv_iload_n hx hb dX10_count_129 rfl (lv_at hl 1 rfl) ?_
          obtain rfl := Option.some.inj hF
          exact hret _ _ _ _ hW dX10_count_130
        · have hF := ite_f hF c_111
          refine lv_iload_n hx hb dX10_count_114 rfl (lv_at hl 1 rfl) ?_
          refine lv_aload_n hx hb dX10_count_115 rfl (lv_at hl 0 rfl) ?_
          refine va_get (D := G.1) (ci := 9) (v := .ref ((ad_this 6))) (C := RX10) (T := TX10) (N := 31) hx hb hg hu_X10 hown hc.1 hW.1 0 rfl rfl 6 (by decide) (hg _ wd_4_44) (fun _ h9 => h9) rfl dX10_count_116 ?_
          refine lv_iload_n hx hb dX10_count_119 rfl (lv_at hl 2 rfl) ?_
          obtain ⟨b_120, hF⟩ := inb_el hF
          refine va_iald hx hb hc.1 hW.1 4 0 rfl rfl b_120 dX10_count_120 ?_
          refine lv_iadd hx hb dX10_count_121 ?_
          refine lv_istore_n (lv' := [(2, .int ((x2_104 + (a_people (Int32.toNatClampNeg x3_104))))), (0, .ref h_this), (3, .int x3_104)]) hx hb dX10_count_122 rfl hl (by decide) rfl (fun ls hl => ?_)
          refine lv_iinc (v := (x3_104 + 1)) (lv' := [(3, .int ((x3_104 + 1))), (2, .int ((x2_104 + (a_people (Int32.toNatClampNeg x3_104))))), (0, .ref h_this)]) hx hb dX10_count_123 hl (k := 2) rfl rfl (by decide) rfl (fun ls hl => ?_)
          refine lv_goto (tgt := 104) hx hb dX10_count_126 (by decide) ?_
          exact ih ((x2_104 + (a_people (Int32.toNatClampNeg x3_104)))) ((x3_104 + 1)) _ _ _ hF (lv_sub hl [2, 1, 0] rfl) hW
    exact L_104 5000 0 0 _ _ _ hF (lv_sub hl [2, 1, 0] rfl) hW
  have hF := ite_f hF w_3_8
  refine lv_tableOut (tgt := 131) hx hb dX10_count_3 (by have g0 := i32_ne (k := 0) rfl w_3_0; have g1 := i32_ne (k := 1) rfl w_3_1; have g2 := i32_ne (k := 2) rfl w_3_2; have g3 := i32_ne (k := 3) rfl w_3_3; have g4 := i32_ne (k := 4) rfl w_3_4; have g5 := i32_ne (k := 5) rfl w_3_5; have g6 := i32_ne (k := 6) rfl w_3_6; have g7 := i32_ne (k := 7) rfl w_3_7; have g8 := i32_ne (k := 8) rfl w_3_8; omega) (by decide) ?_
  refine lv_iconst (v := (-1)) hx hb dX10_count_131 (by decide) ?_
  obtain rfl := Option.some.inj hF
  exact hret _ _ _ _ hW dX10_count_132
