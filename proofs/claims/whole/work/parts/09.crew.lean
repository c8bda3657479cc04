theorem dJ6_bitCount_0f7a4_0 : decode cJ6_bitCount_0f7a4 0 = .ok (.iload_n 0, 1) := by decide +kernel
theorem dJ6_bitCount_0f7a4_1 : decode cJ6_bitCount_0f7a4 1 = .ok (.iload_n 0, 1) := by decide +kernel
theorem dJ6_bitCount_0f7a4_2 : decode cJ6_bitCount_0f7a4 2 = .ok (.iconst 1, 1) := by decide +kernel
theorem dJ6_bitCount_0f7a4_3 : decode cJ6_bitCount_0f7a4 3 = .ok (.iushr, 1) := by decide +kernel
theorem dJ6_bitCount_0f7a4_4 : decode cJ6_bitCount_0f7a4 4 = .ok (.ldc_w 265, 3) := by decide +kernel
theorem dJ6_bitCount_0f7a4_7 : decode cJ6_bitCount_0f7a4 7 = .ok (.iand, 1) := by decide +kernel
theorem dJ6_bitCount_0f7a4_8 : decode cJ6_bitCount_0f7a4 8 = .ok (.isub, 1) := by decide +kernel
theorem dJ6_bitCount_0f7a4_9 : decode cJ6_bitCount_0f7a4 9 = .ok (.istore_n 0, 1) := by decide +kernel
theorem dJ6_bitCount_0f7a4_10 : decode cJ6_bitCount_0f7a4 10 = .ok (.iload_n 0, 1) := by decide +kernel
theorem dJ6_bitCount_0f7a4_11 : decode cJ6_bitCount_0f7a4 11 = .ok (.ldc_w 266, 3) := by decide +kernel
theorem dJ6_bitCount_0f7a4_14 : decode cJ6_bitCount_0f7a4 14 = .ok (.iand, 1) := by decide +kernel
theorem dJ6_bitCount_0f7a4_15 : decode cJ6_bitCount_0f7a4 15 = .ok (.iload_n 0, 1) := by decide +kernel
theorem dJ6_bitCount_0f7a4_16 : decode cJ6_bitCount_0f7a4 16 = .ok (.iconst 2, 1) := by decide +kernel
theorem dJ6_bitCount_0f7a4_17 : decode cJ6_bitCount_0f7a4 17 = .ok (.iushr, 1) := by decide +kernel
theorem dJ6_bitCount_0f7a4_18 : decode cJ6_bitCount_0f7a4 18 = .ok (.ldc_w 266, 3) := by decide +kernel
theorem dJ6_bitCount_0f7a4_21 : decode cJ6_bitCount_0f7a4 21 = .ok (.iand, 1) := by decide +kernel
theorem dJ6_bitCount_0f7a4_22 : decode cJ6_bitCount_0f7a4 22 = .ok (.iadd, 1) := by decide +kernel
theorem dJ6_bitCount_0f7a4_23 : decode cJ6_bitCount_0f7a4 23 = .ok (.istore_n 0, 1) := by decide +kernel
theorem dJ6_bitCount_0f7a4_24 : decode cJ6_bitCount_0f7a4 24 = .ok (.iload_n 0, 1) := by decide +kernel
theorem dJ6_bitCount_0f7a4_25 : decode cJ6_bitCount_0f7a4 25 = .ok (.iload_n 0, 1) := by decide +kernel
theorem dJ6_bitCount_0f7a4_26 : decode cJ6_bitCount_0f7a4 26 = .ok (.iconst 4, 1) := by decide +kernel
theorem dJ6_bitCount_0f7a4_27 : decode cJ6_bitCount_0f7a4 27 = .ok (.iushr, 1) := by decide +kernel
theorem dJ6_bitCount_0f7a4_28 : decode cJ6_bitCount_0f7a4 28 = .ok (.iadd, 1) := by decide +kernel
theorem dJ6_bitCount_0f7a4_29 : decode cJ6_bitCount_0f7a4 29 = .ok (.ldc_w 267, 3) := by decide +kernel
theorem dJ6_bitCount_0f7a4_32 : decode cJ6_bitCount_0f7a4 32 = .ok (.iand, 1) := by decide +kernel
theorem dJ6_bitCount_0f7a4_33 : decode cJ6_bitCount_0f7a4 33 = .ok (.istore_n 0, 1) := by decide +kernel
theorem dJ6_bitCount_0f7a4_34 : decode cJ6_bitCount_0f7a4 34 = .ok (.iload_n 0, 1) := by decide +kernel
theorem dJ6_bitCount_0f7a4_35 : decode cJ6_bitCount_0f7a4 35 = .ok (.iload_n 0, 1) := by decide +kernel
theorem dJ6_bitCount_0f7a4_36 : decode cJ6_bitCount_0f7a4 36 = .ok (.bipush 8, 2) := by decide +kernel
theorem dJ6_bitCount_0f7a4_38 : decode cJ6_bitCount_0f7a4 38 = .ok (.iushr, 1) := by decide +kernel
theorem dJ6_bitCount_0f7a4_39 : decode cJ6_bitCount_0f7a4 39 = .ok (.iadd, 1) := by decide +kernel
theorem dJ6_bitCount_0f7a4_40 : decode cJ6_bitCount_0f7a4 40 = .ok (.istore_n 0, 1) := by decide +kernel
theorem dJ6_bitCount_0f7a4_41 : decode cJ6_bitCount_0f7a4 41 = .ok (.iload_n 0, 1) := by decide +kernel
theorem dJ6_bitCount_0f7a4_42 : decode cJ6_bitCount_0f7a4 42 = .ok (.iload_n 0, 1) := by decide +kernel
theorem dJ6_bitCount_0f7a4_43 : decode cJ6_bitCount_0f7a4 43 = .ok (.bipush 16, 2) := by decide +kernel
theorem dJ6_bitCount_0f7a4_45 : decode cJ6_bitCount_0f7a4 45 = .ok (.iushr, 1) := by decide +kernel
theorem dJ6_bitCount_0f7a4_46 : decode cJ6_bitCount_0f7a4 46 = .ok (.iadd, 1) := by decide +kernel
theorem dJ6_bitCount_0f7a4_47 : decode cJ6_bitCount_0f7a4 47 = .ok (.istore_n 0, 1) := by decide +kernel
theorem dJ6_bitCount_0f7a4_48 : decode cJ6_bitCount_0f7a4 48 = .ok (.iload_n 0, 1) := by decide +kernel
theorem dJ6_bitCount_0f7a4_49 : decode cJ6_bitCount_0f7a4 49 = .ok (.bipush 63, 2) := by decide +kernel
theorem dJ6_bitCount_0f7a4_51 : decode cJ6_bitCount_0f7a4 51 = .ok (.iand, 1) := by decide +kernel
theorem dJ6_bitCount_0f7a4_52 : decode cJ6_bitCount_0f7a4 52 = .ok (.ireturn, 1) := by decide +kernel
def F_J6_bitCount_0f7a4 (x0 : Int32) : Option (Int32) := some (((((((((x0 - ((Int32.toUInt32 x0 >>> (Int32.toUInt32 1 &&& Int32.toUInt32 31)).toInt32 &&& 1431655765)) &&& 858993459) + ((Int32.toUInt32 ((x0 - ((Int32.toUInt32 x0 >>> (Int32.toUInt32 1 &&& Int32.toUInt32 31)).toInt32 &&& 1431655765))) >>> (Int32.toUInt32 2 &&& Int32.toUInt32 31)).toInt32 &&& 858993459)) + (Int32.toUInt32 ((((x0 - ((Int32.toUInt32 x0 >>> (Int32.toUInt32 1 &&& Int32.toUInt32 31)).toInt32 &&& 1431655765)) &&& 858993459) + ((Int32.toUInt32 ((x0 - ((Int32.toUInt32 x0 >>> (Int32.toUInt32 1 &&& Int32.toUInt32 31)).toInt32 &&& 1431655765))) >>> (Int32.toUInt32 2 &&& Int32.toUInt32 31)).toInt32 &&& 858993459))) >>> (Int32.toUInt32 4 &&& Int32.toUInt32 31)).toInt32) &&& 252645135) + (Int32.toUInt32 ((((((x0 - ((Int32.toUInt32 x0 >>> (Int32.toUInt32 1 &&& Int32.toUInt32 31)).toInt32 &&& 1431655765)) &&& 858993459) + ((Int32.toUInt32 ((x0 - ((Int32.toUInt32 x0 >>> (Int32.toUInt32 1 &&& Int32.toUInt32 31)).toInt32 &&& 1431655765))) >>> (Int32.toUInt32 2 &&& Int32.toUInt32 31)).toInt32 &&& 858993459)) + (Int32.toUInt32 ((((x0 - ((Int32.toUInt32 x0 >>> (Int32.toUInt32 1 &&& Int32.toUInt32 31)).toInt32 &&& 1431655765)) &&& 858993459) + ((Int32.toUInt32 ((x0 - ((Int32.toUInt32 x0 >>> (Int32.toUInt32 1 &&& Int32.toUInt32 31)).toInt32 &&& 1431655765))) >>> (Int32.toUInt32 2 &&& Int32.toUInt32 31)).toInt32 &&& 858993459))) >>> (Int32.toUInt32 4 &&& Int32.toUInt32 31)).toInt32) &&& 252645135)) >>> (Int32.toUInt32 8 &&& Int32.toUInt32 31)).toInt32) + (Int32.toUInt32 (((((((x0 - ((Int32.toUInt32 x0 >>> (Int32.toUInt32 1 &&& Int32.toUInt32 31)).toInt32 &&& 1431655765)) &&& 858993459) + ((Int32.toUInt32 ((x0 - ((Int32.toUInt32 x0 >>> (Int32.toUInt32 1 &&& Int32.toUInt32 31)).toInt32 &&& 1431655765))) >>> (Int32.toUInt32 2 &&& Int32.toUInt32 31)).toInt32 &&& 858993459)) + (Int32.toUInt32 ((((x0 - ((Int32.toUInt32 x0 >>> (Int32.toUInt32 1 &&& Int32.toUInt32 31)).toInt32 &&& 1431655765)) &&& 858993459) + ((Int32.toUInt32 ((x0 - ((Int32.toUInt32 x0 >>> (Int32.toUInt32 1 &&& Int32.toUInt32 31)).toInt32 &&& 1431655765))) >>> (Int32.toUInt32 2 &&& Int32.toUInt32 31)).toInt32 &&& 858993459))) >>> (Int32.toUInt32 4 &&& Int32.toUInt32 31)).toInt32) &&& 252645135) + (Int32.toUInt32 ((((((x0 - ((Int32.toUInt32 x0 >>> (Int32.toUInt32 1 &&& Int32.toUInt32 31)).toInt32 &&& 1431655765)) &&& 858993459) + ((Int32.toUInt32 ((x0 - ((Int32.toUInt32 x0 >>> (Int32.toUInt32 1 &&& Int32.toUInt32 31)).toInt32 &&& 1431655765))) >>> (Int32.toUInt32 2 &&& Int32.toUInt32 31)).toInt32 &&& 858993459)) + (Int32.toUInt32 ((((x0 - ((Int32.toUInt32 x0 >>> (Int32.toUInt32 1 &&& Int32.toUInt32 31)).toInt32 &&& 1431655765)) &&& 858993459) + ((Int32.toUInt32 ((x0 - ((Int32.toUInt32 x0 >>> (Int32.toUInt32 1 &&& Int32.toUInt32 31)).toInt32 &&& 1431655765))) >>> (Int32.toUInt32 2 &&& Int32.toUInt32 31)).toInt32 &&& 858993459))) >>> (Int32.toUInt32 4 &&& Int32.toUInt32 31)).toInt32) &&& 252645135)) >>> (Int32.toUInt32 8 &&& Int32.toUInt32 31)).toInt32)) >>> (Int32.toUInt32 16 &&& Int32.toUInt32 31)).toInt32) &&& 63))
theorem hdS_J6_bitCount_0f7a4 : yJ6_bitCount_0f7a4.cls ≠ "java/lang/invoke/MethodHandle" ∧ yJ6_bitCount_0f7a4.cls ≠ "java/lang/invoke/VarHandle" ∧ (parseMethodDescriptor yJ6_bitCount_0f7a4.desc).map (fun d => d.parameters.length) = some 1 := by decide +kernel
set_option maxHeartbeats 4000000 in
set_option maxRecDepth 100000 in
theorem c_J6_bitCount_0f7a4 (l : Launch) (G : GG) (x0 : Int32) (out : Int32) (hF : F_J6_bitCount_0f7a4 x0 = some out) : CtrI l yJ6_bitCount_0f7a4 (WS yJ6_bitCount_0f7a4 cJ6_bitCount_0f7a4 1 (some .int)) { frames := 0, cells := 0, slots := 0, locals := 0 } G [.int x0] [] [] out := by
  refine startI (cc := cJ6_bitCount_0f7a4) (maxL := 1) (by decide) rfl (Nat.le_of_ble_eq_true rfl) ?_
  intro p e s m args below meth c A Q hx hb hml hts hown hc hA hret ls H locs hl hW
  have hown : s.vm.findClass RJ6 = some m.cls := hown
  have hg : ∀ w ∈ GOODS, w.before _ s = true := fun w h => hts w (List.mem_cons_of_mem _ h)
  have hl : lv_has ls 1 [(0, .int x0)] := hl
  rw [F_J6_bitCount_0f7a4] at hF
  refine lv_iload_n hx hb dJ6_bitCount_0f7a4_0 rfl (lv_at hl 0 rfl) ?_
  refine lv_iload_n hx hb dJ6_bitCount_0f7a4_1 rfl (lv_at hl 0 rfl) ?_
  refine lv_iconst (v := 1) hx hb dJ6_bitCount_0f7a4_2 (by decide) ?_
  refine lv_iushr hx hb dJ6_bitCount_0f7a4_3 rfl ?_
  refine lv_ldcw (v := 1431655765) hx hb hown (hg _ wd_3_142) dJ6_bitCount_0f7a4_4 ?_
  refine lv_iand hx hb dJ6_bitCount_0f7a4_7 ?_
  refine lv_isub hx hb dJ6_bitCount_0f7a4_8 ?_
  refine lv_istore_n (lv' := [(0, .int ((x0 - ((Int32.toUInt32 x0 >>> (Int32.toUInt32 1 &&& Int32.toUInt32 31)).toInt32 &&& 1431655765))))]) hx hb dJ6_bitCount_0f7a4_9 rfl hl (by decide) rfl (fun ls hl => ?_)
  refine lv_iload_n hx hb dJ6_bitCount_0f7a4_10 rfl (lv_at hl 0 rfl) ?_
  refine lv_ldcw (v := 858993459) hx hb hown (hg _ wd_3_143) dJ6_bitCount_0f7a4_11 ?_
  refine lv_iand hx hb dJ6_bitCount_0f7a4_14 ?_
  refine lv_iload_n hx hb dJ6_bitCount_0f7a4_15 rfl (lv_at hl 0 rfl) ?_
  refine lv_iconst (v := 2) hx hb dJ6_bitCount_0f7a4_16 (by decide) ?_
  refine lv_iushr hx hb dJ6_bitCount_0f7a4_17 rfl ?_
  refine lv_ldcw (v := 858993459) hx hb hown (hg _ wd_3_143) dJ6_bitCount_0f7a4_18 ?_
  refine lv_iand hx hb dJ6_bitCount_0f7a4_21 ?_
  refine lv_iadd hx hb dJ6_bitCount_0f7a4_22 ?_
  refine lv_istore_n (lv' := [(0, .int ((((x0 - ((Int32.toUInt32 x0 >>> (Int32.toUInt32 1 &&& Int32.toUInt32 31)).toInt32 &&& 1431655765)) &&& 858993459) + ((Int32.toUInt32 ((x0 - ((Int32.toUInt32 x0 >>> (Int32.toUInt32 1 &&& Int32.toUInt32 31)).toInt32 &&& 1431655765))) >>> (Int32.toUInt32 2 &&& Int32.toUInt32 31)).toInt32 &&& 858993459))))]) hx hb dJ6_bitCount_0f7a4_23 rfl hl (by decide) rfl (fun ls hl => ?_)
  refine lv_iload_n hx hb dJ6_bitCount_0f7a4_24 rfl (lv_at hl 0 rfl) ?_
  refine lv_iload_n hx hb dJ6_bitCount_0f7a4_25 rfl (lv_at hl 0 rfl) ?_
  refine lv_iconst (v := 4) hx hb dJ6_bitCount_0f7a4_26 (by decide) ?_
  refine lv_iushr hx hb dJ6_bitCount_0f7a4_27 rfl ?_
  refine lv_iadd hx hb dJ6_bitCount_0f7a4_28 ?_
  refine lv_ldcw (v := 252645135) hx hb hown (hg _ wd_3_144) dJ6_bitCount_0f7a4_29 ?_
  refine lv_iand hx hb dJ6_bitCount_0f7a4_32 ?_
  refine lv_istore_n (lv' := [(0, .int ((((((x0 - ((Int32.toUInt32 x0 >>> (Int32.toUInt32 1 &&& Int32.toUInt32 31)).toInt32 &&& 1431655765)) &&& 858993459) + ((Int32.toUInt32 ((x0 - ((Int32.toUInt32 x0 >>> (Int32.toUInt32 1 &&& Int32.toUInt32 31)).toInt32 &&& 1431655765))) >>> (Int32.toUInt32 2 &&& Int32.toUInt32 31)).toInt32 &&& 858993459)) + (Int32.toUInt32 ((((x0 - ((Int32.toUInt32 x0 >>> (Int32.toUInt32 1 &&& Int32.toUInt32 31)).toInt32 &&& 1431655765)) &&& 858993459) + ((Int32.toUInt32 ((x0 - ((Int32.toUInt32 x0 >>> (Int32.toUInt32 1 &&& Int32.toUInt32 31)).toInt32 &&& 1431655765))) >>> (Int32.toUInt32 2 &&& Int32.toUInt32 31)).toInt32 &&& 858993459))) >>> (Int32.toUInt32 4 &&& Int32.toUInt32 31)).toInt32) &&& 252645135)))]) hx hb dJ6_bitCount_0f7a4_33 rfl hl (by decide) rfl (fun ls hl => ?_)
  refine lv_iload_n hx hb dJ6_bitCount_0f7a4_34 rfl (lv_at hl 0 rfl) ?_
  refine lv_iload_n hx hb dJ6_bitCount_0f7a4_35 rfl (lv_at hl 0 rfl) ?_
  refine lv_bipush (v := 8) hx hb dJ6_bitCount_0f7a4_36 (by decide) ?_
  refine lv_iushr hx hb dJ6_bitCount_0f7a4_38 rfl ?_
  refine lv_iadd hx hb dJ6_bitCount_0f7a4_39 ?_
  refine lv_istore_n (lv' := [(0, .int (((((((x0 - ((Int32.toUInt32 x0 >>> (Int32.toUInt32 1 &&& Int32.toUInt32 31)).toInt32 &&& 1431655765)) &&& 858993459) + ((Int32.toUInt32 ((x0 - ((Int32.toUInt32 x0 >>> (Int32.toUInt32 1 &&& Int32.toUInt32 31)).toInt32 &&& 1431655765))) >>> (Int32.toUInt32 2 &&& Int32.toUInt32 31)).toInt32 &&& 858993459)) + (Int32.toUInt32 ((((x0 - ((Int32.toUInt32 x0 >>> (Int32.toUInt32 1 &&& Int32.toUInt32 31)).toInt32 &&& 1431655765)) &&& 858993459) + ((Int32.toUInt32 ((x0 - ((Int32.toUInt32 x0 >>> (Int32.toUInt32 1 &&& Int32.toUInt32 31)).toInt32 &&& 1431655765))) >>> (Int32.toUInt32 2 &&& Int32.toUInt32 31)).toInt32 &&& 858993459))) >>> (Int32.toUInt32 4 &&& Int32.toUInt32 31)).toInt32) &&& 252645135) + (Int32.toUInt32 ((((((x0 - ((Int32.toUInt32 x0 >>> (Int32.toUInt32 1 &&& Int32.toUInt32 31)).toInt32 &&& 1431655765)) &&& 858993459) + ((Int32.toUInt32 ((x0 - ((Int32.toUInt32 x0 >>> (Int32.toUInt32 1 &&& Int32.toUInt32 31)).toInt32 &&& 1431655765))) >>> (Int32.toUInt32 2 &&& Int32.toUInt32 31)).toInt32 &&& 858993459)) + (Int32.toUInt32 ((((x0 - ((Int32.toUInt32 x0 >>> (Int32.toUInt32 1 &&& Int32.toUInt32 31)).toInt32 &&& 1431655765)) &&& 858993459) + ((Int32.toUInt32 ((x0 - ((Int32.toUInt32 x0 >>> (Int32.toUInt32 1 &&& Int32.toUInt32 31)).toInt32 &&& 1431655765))) >>> (Int32.toUInt32 2 &&& Int32.toUInt32 31)).toInt32 &&& 858993459))) >>> (Int32.toUInt32 4 &&& Int32.toUInt32 31)).toInt32) &&& 252645135)) >>> (Int32.toUInt32 8 &&& Int32.toUInt32 31)).toInt32)))]) hx hb dJ6_bitCount_0f7a4_40 rfl hl (by decide) rfl (fun ls hl => ?_)
  refine lv_iload_n hx hb dJ6_bitCount_0f7a4_41 rfl (lv_at hl 0 rfl) ?_
  refine lv_iload_n hx hb dJ6_bitCount_0f7a4_42 rfl (lv_at hl 0 rfl) ?_
  refine lv_bipush (v := 16) hx hb dJ6_bitCount_0f7a4_43 (by decide) ?_
  refine lv_iushr hx hb dJ6_bitCount_0f7a4_45 rfl ?_
  refine lv_iadd hx hb dJ6_bitCount_0f7a4_46 ?_
  refine lv_istore_n (lv' := [(0, .int ((((((((x0 - ((Int32.toUInt32 x0 >>> (Int32.toUInt32 1 &&& Int32.toUInt32 31)).toInt32 &&& 1431655765)) &&& 858993459) + ((Int32.toUInt32 ((x0 - ((Int32.toUInt32 x0 >>> (Int32.toUInt32 1 &&& Int32.toUInt32 31)).toInt32 &&& 1431655765))) >>> (Int32.toUInt32 2 &&& Int32.toUInt32 31)).toInt32 &&& 858993459)) + (Int32.toUInt32 ((((x0 - ((Int32.toUInt32 x0 >>> (Int32.toUInt32 1 &&& Int32.toUInt32 31)).toInt32 &&& 1431655765)) &&& 858993459) + ((Int32.toUInt32 ((x0 - ((Int32.toUInt32 x0 >>> (Int32.toUInt32 1 &&& Int32.toUInt32 31)).toInt32 &&& 1431655765))) >>> (Int32.toUInt32 2 &&& Int32.toUInt32 31)).toInt32 &&& 858993459))) >>> (Int32.toUInt32 4 &&& Int32.toUInt32 31)).toInt32) &&& 252645135) + (Int32.toUInt32 ((((((x0 - ((Int32.toUInt32 x0 >>> (Int32.toUInt32 1 &&& Int32.toUInt32 31)).toInt32 &&& 1431655765)) &&& 858993459) + ((Int32.toUInt32 ((x0 - ((Int32.toUInt32 x0 >>> (Int32.toUInt32 1 &&& Int32.toUInt32 31)).toInt32 &&& 1431655765))) >>> (Int32.toUInt32 2 &&& Int32.toUInt32 31)).toInt32 &&& 858993459)) + (Int32.toUInt32 ((((x0 - ((Int32.toUInt32 x0 >>> (Int32.toUInt32 1 &&& Int32.toUInt32 31)).toInt32 &&& 1431655765)) &&& 858993459) + ((Int32.toUInt32 ((x0 - ((Int32.toUInt32 x0 >>> (Int32.toUInt32 1 &&& Int32.toUInt32 31)).toInt32 &&& 1431655765))) >>> (Int32.toUInt32 2 &&& Int32.toUInt32 31)).toInt32 &&& 858993459))) >>> (Int32.toUInt32 4 &&& Int32.toUInt32 31)).toInt32) &&& 252645135)) >>> (Int32.toUInt32 8 &&& Int32.toUInt32 31)).toInt32) + (Int32.toUInt32 (((((((x0 - ((Int32.toUInt32 x0 >>> (Int32.toUInt32 1 &&& Int32.toUInt32 31)).toInt32 &&& 1431655765)) &&& 858993459) + ((Int32.toUInt32 ((x0 - ((Int32.toUInt32 x0 >>> (Int32.toUInt32 1 &&& Int32.toUInt32 31)).toInt32 &&& 1431655765))) >>> (Int32.toUInt32 2 &&& Int32.toUInt32 31)).toInt32 &&& 858993459)) + (Int32.toUInt32 ((((x0 - ((Int32.toUInt32 x0 >>> (Int32.toUInt32 1 &&& Int32.toUInt32 31)).toInt32 &&& 1431655765)) &&& 858993459) + ((Int32.toUInt32 ((x0 - ((Int32.toUInt32 x0 >>> (Int32.toUInt32 1 &&& Int32.toUInt32 31)).toInt32 &&& 1431655765))) >>> (Int32.toUInt32 2 &&& Int32.toUInt32 31)).toInt32 &&& 858993459))) >>> (Int32.toUInt32 4 &&& Int32.toUInt32 31)).toInt32) &&& 252645135) + (Int32.toUInt32 ((((((x0 - ((Int32.toUInt32 x0 >>> (Int32.toUInt32 1 &&& Int32.toUInt32 31)).toInt32 &&& 1431655765)) &&& 858993459) + ((Int32.toUInt32 ((x0 - ((Int32.toUInt32 x0 >>> (Int32.toUInt32 1 &&& Int32.toUInt32 31)).toInt32 &&& 1431655765))) >>> (Int32.toUInt32 2 &&& Int32.toUInt32 31)).toInt32 &&& 858993459)) + (Int32.toUInt32 ((((x0 - ((Int32.toUInt32 x0 >>> (Int32.toUInt32 1 &&& Int32.toUInt32 31)).toInt32 &&& 1431655765)) &&& 858993459) + ((Int32.toUInt32 ((x0 - ((Int32.toUInt32 x0 >>> (Int32.toUInt32 1 &&& Int32.toUInt32 31)).toInt32 &&& 1431655765))) >>> (Int32.toUInt32 2 &&& Int32.toUInt32 31)).toInt32 &&& 858993459))) >>> (Int32.toUInt32 4 &&& Int32.toUInt32 31)).toInt32) &&& 252645135)) >>> (Int32.toUInt32 8 &&& Int32.toUInt32 31)).toInt32)) >>> (Int32.toUInt32 16 &&& Int32.toUInt32 31)).toInt32)))]) hx hb dJ6_bitCount_0f7a4_47 rfl hl (by decide) rfl (fun ls hl => ?_)
  refine lv_iload_n hx hb dJ6_bitCount_0f7a4_48 rfl (lv_at hl 0 rfl) ?_
  refine lv_bipush (v := 63) hx hb dJ6_bitCount_0f7a4_49 (by decide) ?_
  refine lv_iand hx hb dJ6_bitCount_0f7a4_51 ?_
  obtain rfl := Option.some.inj hF
  exact hret _ _ _ _ hW dJ6_bitCount_0f7a4_52
theorem dX0_boatOf_0 : decode cX0_boatOf 0 = .ok (.aload_n 0, 1) := by decide +kernel
theorem dX0_boatOf_1 : decode cX0_boatOf 1 = .ok (.getfield 9, 3) := by decide +kernel
theorem dX0_boatOf_4 : decode cX0_boatOf 4 = .ok (.iload_n 1, 1) := by decide +kernel
theorem dX0_boatOf_5 : decode cX0_boatOf 5 = .ok (.invokestatic 18, 3) := by decide +kernel
theorem dX0_boatOf_8 : decode cX0_boatOf 8 = .ok (.ireturn, 1) := by decide +kernel
def F_X0_boatOf (x1 : Int32) (a_boatOfHouse : Nat → Int32) : Option (Int32) := (F_X4_at x1 6 a_boatOfHouse).bind (fun q5 => some (q5))
theorem hdV_X0_boatOf : yX0_boatOf.cls = RX0 ∧ yX0_boatOf.cls ≠ "java/lang/invoke/MethodHandle" ∧ yX0_boatOf.cls ≠ "java/lang/invoke/VarHandle" ∧ (parseMethodDescriptor yX0_boatOf.desc).map (fun d => d.parameters.length) = some 1 := by decide +kernel
set_option maxHeartbeats 4000000 in
set_option maxRecDepth 100000 in
theorem c_X0_boatOf (l : Launch) (G : GG) (x1 : Int32) (h_this : Nat) (ad_this : Nat → Nat) (v_boats : Int32) (a_boatOfHouse : Nat → Int32) (out : Int32) (hF : F_X0_boatOf x1 a_boatOfHouse = some out) : CtrI l yX0_boatOf (WS yX0_boatOf cX0_boatOf 2 (some .int)) { frames := 1, cells := 0, slots := 0, locals := 21 } G [.ref h_this, .int x1] [(h_this, oX0 ad_this v_boats), ((ad_this 0), cI G 6 a_boatOfHouse)] [(h_this, oX0 ad_this v_boats), ((ad_this 0), cI G 6 a_boatOfHouse)] out := by
  refine startI (cc := cX0_boatOf) (maxL := 2) (by decide) rfl (Nat.le_of_ble_eq_true rfl) ?_
  intro p e s m args below meth c A Q hx hb hml hts hown hc hA hret ls H locs hl hW
  have hown : s.vm.findClass RX0 = some m.cls := hown
  have hg : ∀ w ∈ GOODS, w.before _ s = true := fun w h => hts w (List.mem_cons_of_mem _ h)
  have hl : lv_has ls 2 [(0, .ref h_this), (1, .int x1)] := hl
  rw [F_X0_boatOf] at hF
  refine lv_aload_n hx hb dX0_boatOf_0 rfl (lv_at hl 0 rfl) ?_
  refine va_get (D := G.1) (ci := 0) (v := .ref ((ad_this 0))) (C := RX0) (T := TX0) (N := 3) hx hb hg hu_X0 hown hc.1 hW.1 0 rfl rfl 0 (by decide) (hg _ wd_1_179) (fun _ h9 => h9) rfl dX0_boatOf_1 ?_
  refine lv_iload_n hx hb dX0_boatOf_4 rfl (lv_at hl 1 rfl) ?_
  obtain ⟨q5, c_5, hF⟩ := bd_el hF
  refine wcI (ws' := [(h_this, oX0 ad_this v_boats), ((ad_this 0), cI G 6 a_boatOfHouse)]) (wc := [((ad_this 0), cI G 6 a_boatOfHouse)]) (wr := [(h_this, oX0 ad_this v_boats)]) (w1 := [((ad_this 0), cI G 6 a_boatOfHouse)]) (va_runS (As := [.ref ((ad_this 0)), .int x1]) (rest := []) ⟨hx, hb, hml, hown, hg⟩ (c_X4_at l G x1 6 ((ad_this 0)) a_boatOfHouse q5 c_5 H.size) (va_cwS 2 hg (gS wd_3_155 wd_2_37 wd_1_14 wd_2_38) rfl rfl rfl hdS_X4_at ⟨(Nat.le_of_ble_eq_true rfl), (Nat.le_of_ble_eq_true rfl)⟩) (preS hc hW [1] rfl (by decide)) rfl rfl hl.1 rfl (lv_room (Nat.le_of_ble_eq_true rfl)) dX0_boatOf_5 ⟨Nat.zero_le _, Nat.zero_le _⟩) hA hW [1] [0] [0, 1] rfl rfl (by decide) (by decide) rfl (by decide) (fun H locs hW => ?_)
  obtain rfl := Option.some.inj hF
  exact hret _ _ _ _ hW dX0_boatOf_8
theorem dX0_sendFrom_0 : decode cX0_sendFrom 0 = .ok (.iload_n 2, 1) := by decide +kernel
theorem dX0_sendFrom_1 : decode cX0_sendFrom 1 = .ok (.aload_n 1, 1) := by decide +kernel
theorem dX0_sendFrom_2 : decode cX0_sendFrom 2 = .ok (.getfield 57, 3) := by decide +kernel
theorem dX0_sendFrom_5 : decode cX0_sendFrom 5 = .ok (.if_icmp .ge 9, 3) := by decide +kernel
theorem dX0_sendFrom_8 : decode cX0_sendFrom 8 = .ok (.iload_n 2, 1) := by decide +kernel
theorem dX0_sendFrom_9 : decode cX0_sendFrom 9 = .ok (.bipush 6, 2) := by decide +kernel
theorem dX0_sendFrom_11 : decode cX0_sendFrom 11 = .ok (.if_icmp .lt 5, 3) := by decide +kernel
theorem dX0_sendFrom_14 : decode cX0_sendFrom 14 = .ok (.iconst 1, 1) := by decide +kernel
theorem dX0_sendFrom_15 : decode cX0_sendFrom 15 = .ok (.ireturn, 1) := by decide +kernel
theorem dX0_sendFrom_16 : decode cX0_sendFrom 16 = .ok (.aload_n 1, 1) := by decide +kernel
theorem dX0_sendFrom_17 : decode cX0_sendFrom 17 = .ok (.iload_n 2, 1) := by decide +kernel
theorem dX0_sendFrom_18 : decode cX0_sendFrom 18 = .ok (.invokevirtual 60, 3) := by decide +kernel
theorem dX0_sendFrom_21 : decode cX0_sendFrom 21 = .ok (.istore_n 3, 1) := by decide +kernel
theorem dX0_sendFrom_22 : decode cX0_sendFrom 22 = .ok (.iconst 0, 1) := by decide +kernel
theorem dX0_sendFrom_23 : decode cX0_sendFrom 23 = .ok (.istore 4, 2) := by decide +kernel
theorem dX0_sendFrom_25 : decode cX0_sendFrom 25 = .ok (.iload 4, 2) := by decide +kernel
theorem dX0_sendFrom_27 : decode cX0_sendFrom 27 = .ok (.aload_n 1, 1) := by decide +kernel
theorem dX0_sendFrom_28 : decode cX0_sendFrom 28 = .ok (.getfield 24, 3) := by decide +kernel
theorem dX0_sendFrom_31 : decode cX0_sendFrom 31 = .ok (.if_icmp .ge 85, 3) := by decide +kernel
theorem dX0_sendFrom_34 : decode cX0_sendFrom 34 = .ok (.aload_n 0, 1) := by decide +kernel
theorem dX0_sendFrom_35 : decode cX0_sendFrom 35 = .ok (.getfield 15, 3) := by decide +kernel
theorem dX0_sendFrom_38 : decode cX0_sendFrom 38 = .ok (.iload 4, 2) := by decide +kernel
theorem dX0_sendFrom_40 : decode cX0_sendFrom 40 = .ok (.invokestatic 18, 3) := by decide +kernel
theorem dX0_sendFrom_43 : decode cX0_sendFrom 43 = .ok (.istore 5, 2) := by decide +kernel
theorem dX0_sendFrom_45 : decode cX0_sendFrom 45 = .ok (.aload_n 0, 1) := by decide +kernel
theorem dX0_sendFrom_46 : decode cX0_sendFrom 46 = .ok (.getfield 43, 3) := by decide +kernel
theorem dX0_sendFrom_49 : decode cX0_sendFrom 49 = .ok (.iload 4, 2) := by decide +kernel
theorem dX0_sendFrom_51 : decode cX0_sendFrom 51 = .ok (.invokestatic 63, 3) := by decide +kernel
theorem dX0_sendFrom_54 : decode cX0_sendFrom 54 = .ok (.ifCond .eq 56, 3) := by decide +kernel
theorem dX0_sendFrom_57 : decode cX0_sendFrom 57 = .ok (.iload 5, 2) := by decide +kernel
theorem dX0_sendFrom_59 : decode cX0_sendFrom 59 = .ok (.iload_n 3, 1) := by decide +kernel
theorem dX0_sendFrom_60 : decode cX0_sendFrom 60 = .ok (.if_icmp .lt 50, 3) := by decide +kernel
theorem dX0_sendFrom_63 : decode cX0_sendFrom 63 = .ok (.aload_n 0, 1) := by decide +kernel
theorem dX0_sendFrom_64 : decode cX0_sendFrom 64 = .ok (.getfield 9, 3) := by decide +kernel
theorem dX0_sendFrom_67 : decode cX0_sendFrom 67 = .ok (.iload_n 2, 1) := by decide +kernel
theorem dX0_sendFrom_68 : decode cX0_sendFrom 68 = .ok (.iload 4, 2) := by decide +kernel
theorem dX0_sendFrom_70 : decode cX0_sendFrom 70 = .ok (.invokestatic 49, 3) := by decide +kernel
theorem dX0_sendFrom_73 : decode cX0_sendFrom 73 = .ok (.aload_n 0, 1) := by decide +kernel
theorem dX0_sendFrom_74 : decode cX0_sendFrom 74 = .ok (.getfield 15, 3) := by decide +kernel
theorem dX0_sendFrom_77 : decode cX0_sendFrom 77 = .ok (.iload 4, 2) := by decide +kernel
theorem dX0_sendFrom_79 : decode cX0_sendFrom 79 = .ok (.iload 5, 2) := by decide +kernel
theorem dX0_sendFrom_81 : decode cX0_sendFrom 81 = .ok (.iload_n 3, 1) := by decide +kernel
theorem dX0_sendFrom_82 : decode cX0_sendFrom 82 = .ok (.isub, 1) := by decide +kernel
theorem dX0_sendFrom_83 : decode cX0_sendFrom 83 = .ok (.invokestatic 49, 3) := by decide +kernel
theorem dX0_sendFrom_86 : decode cX0_sendFrom 86 = .ok (.aload_n 0, 1) := by decide +kernel
theorem dX0_sendFrom_87 : decode cX0_sendFrom 87 = .ok (.aload_n 1, 1) := by decide +kernel
theorem dX0_sendFrom_88 : decode cX0_sendFrom 88 = .ok (.iload_n 2, 1) := by decide +kernel
theorem dX0_sendFrom_89 : decode cX0_sendFrom 89 = .ok (.iconst 1, 1) := by decide +kernel
theorem dX0_sendFrom_90 : decode cX0_sendFrom 90 = .ok (.iadd, 1) := by decide +kernel
theorem dX0_sendFrom_91 : decode cX0_sendFrom 91 = .ok (.invokestatic 53, 3) := by decide +kernel
theorem dX0_sendFrom_94 : decode cX0_sendFrom 94 = .ok (.ifCond .eq 5, 3) := by decide +kernel
theorem dX0_sendFrom_97 : decode cX0_sendFrom 97 = .ok (.iconst 1, 1) := by decide +kernel
theorem dX0_sendFrom_98 : decode cX0_sendFrom 98 = .ok (.ireturn, 1) := by decide +kernel
theorem dX0_sendFrom_99 : decode cX0_sendFrom 99 = .ok (.aload_n 0, 1) := by decide +kernel
theorem dX0_sendFrom_100 : decode cX0_sendFrom 100 = .ok (.getfield 15, 3) := by decide +kernel
theorem dX0_sendFrom_103 : decode cX0_sendFrom 103 = .ok (.iload 4, 2) := by decide +kernel
theorem dX0_sendFrom_105 : decode cX0_sendFrom 105 = .ok (.iload 5, 2) := by decide +kernel
theorem dX0_sendFrom_107 : decode cX0_sendFrom 107 = .ok (.invokestatic 49, 3) := by decide +kernel
theorem dX0_sendFrom_110 : decode cX0_sendFrom 110 = .ok (.iinc 4 1, 3) := by decide +kernel
theorem dX0_sendFrom_113 : decode cX0_sendFrom 113 = .ok (.goto (-88), 3) := by decide +kernel
theorem dX0_sendFrom_116 : decode cX0_sendFrom 116 = .ok (.iconst 0, 1) := by decide +kernel
theorem dX0_sendFrom_117 : decode cX0_sendFrom 117 = .ok (.ireturn, 1) := by decide +kernel
def L_X0_sendFrom_25 (x2 : Int32) (v_p0_boats : Int32) (v_p1_boatCount : Int32) (v_p1_houseCount : Int32) (a_p1_housePeople : Nat → Int32) (q18 : Int32) (frec : Int32 → Int32 → (Nat → Int32) → (Nat → Int32) → Int32 → Int32 → (Nat → Int32) → Option (Int32 × (Nat → Int32) × (Nat → Int32)))  : Nat → Int32 → (Nat → Int32) → (Nat → Int32) → Option (Int32 × (Nat → Int32) × (Nat → Int32))
  | 0, _, _, _ => none
  | n + 1, x4_25, a_p0_boatOfHouse_25, a_p0_roomLeft_25 => (if v_p1_boatCount ≤ x4_25 then some (0, a_p0_boatOfHouse_25, a_p0_roomLeft_25) else (F_X4_at x4_25 4 a_p0_roomLeft_25).bind (fun q40 => (F_X9_holds v_p0_boats x4_25).bind (fun q51 => jn (fun (a_p0_boatOfHouse_110 : Nat → Int32) (a_p0_roomLeft_110 : Nat → Int32) => L_X0_sendFrom_25 x2 v_p0_boats v_p1_boatCount v_p1_houseCount a_p1_housePeople q18 frec n ((x4_25 + 1)) a_p0_boatOfHouse_110 a_p0_roomLeft_110) (fun k_110 => (if q51 = 0 then k_110 a_p0_boatOfHouse_25 a_p0_roomLeft_25 else (if q40 < q18 then k_110 a_p0_boatOfHouse_25 a_p0_roomLeft_25 else (F_X4_put x2 x4_25 6 a_p0_boatOfHouse_25).bind (fun q70 => (F_X4_put x4_25 ((q40 - q18)) 4 a_p0_roomLeft_25).bind (fun q83 => (frec ((x2 + 1)) v_p0_boats q70 q83 v_p1_boatCount v_p1_houseCount a_p1_housePeople).bind (fun q91 => (if q91.1 = 0 then (F_X4_put x4_25 q40 4 q91.2.2).bind (fun q107 => k_110 q91.2.1 q107) else some (1, q91.2.1, q91.2.2)))))))))))
def F_X0_sendFrom : Nat → Int32 → Int32 → (Nat → Int32) → (Nat → Int32) → Int32 → Int32 → (Nat → Int32) → Option (Int32 × (Nat → Int32) × (Nat → Int32))
  | 0, _, _, _, _, _, _, _ => none
  | d + 1, x2, v_p0_boats, a_p0_boatOfHouse, a_p0_roomLeft, v_p1_boatCount, v_p1_houseCount, a_p1_housePeople => (if v_p1_houseCount ≤ x2 then some (1, a_p0_boatOfHouse, a_p0_roomLeft) else (if x2 < 6 then (F_X8_peopleOf x2 a_p1_housePeople).bind (fun q18 => L_X0_sendFrom_25 x2 v_p0_boats v_p1_boatCount v_p1_houseCount a_p1_housePeople q18 (F_X0_sendFrom d) 5000 0 a_p0_boatOfHouse a_p0_roomLeft) else some (1, a_p0_boatOfHouse, a_p0_roomLeft)))
theorem hdS_X0_sendFrom : yX0_sendFrom.cls ≠ "java/lang/invoke/MethodHandle" ∧ yX0_sendFrom.cls ≠ "java/lang/invoke/VarHandle" ∧ (parseMethodDescriptor yX0_sendFrom.desc).map (fun d => d.parameters.length) = some 3 := by decide +kernel
set_option maxHeartbeats 4000000 in
set_option maxRecDepth 100000 in
theorem c_X0_sendFrom (l : Launch) (G : GG) : ∀ (d : Nat) (x2 : Int32) (h_p0 : Nat) (h_p1 : Nat) (ad_p0 : Nat → Nat) (ad_p1 : Nat → Nat) (v_p0_boats : Int32) (a_p0_boatOfHouse : Nat → Int32) (a_p0_roomLeft : Nat → Int32) (v_p1_signCount : Int32) (v_p1_houseCount : Int32) (v_p1_boatCount : Int32) (v_p1_workCount : Int32) (v_p1_turnCost : Int32) (v_p1_boatDayCost : Int32) (a_p1_housePeople : Nat → Int32) (out : Int32 × (Nat → Int32) × (Nat → Int32)) (hF : F_X0_sendFrom d x2 v_p0_boats a_p0_boatOfHouse a_p0_roomLeft v_p1_boatCount v_p1_houseCount a_p1_housePeople = some out), CtrZ l yX0_sendFrom (WS yX0_sendFrom cX0_sendFrom 6 (some .boolean)) { frames := 2 + d, cells := 0, slots := 0, locals := 42 + 25 * d } G [.ref h_p0, .ref h_p1, .int x2] [(h_p0, oX0 ad_p0 v_p0_boats), ((ad_p0 0), cI G 6 a_p0_boatOfHouse), ((ad_p0 1), cI G 4 a_p0_roomLeft), (h_p1, oX8 ad_p1 v_p1_signCount v_p1_houseCount v_p1_boatCount v_p1_workCount v_p1_turnCost v_p1_boatDayCost), ((ad_p1 2), cI G 6 a_p1_housePeople)] [(h_p0, oX0 ad_p0 v_p0_boats), ((ad_p0 0), cI G 6 out.2.1), ((ad_p0 1), cI G 4 out.2.2), (h_p1, oX8 ad_p1 v_p1_signCount v_p1_houseCount v_p1_boatCount v_p1_workCount v_p1_turnCost v_p1_boatDayCost), ((ad_p1 2), cI G 6 a_p1_housePeople)] out.1 := by
  intro d
  induction d with
  | zero => intro x2 h_p0 h_p1 ad_p0 ad_p1 v_p0_boats a_p0_boatOfHouse a_p0_roomLeft v_p1_signCount v_p1_houseCount v_p1_boatCount v_p1_workCount v_p1_turnCost v_p1_boatDayCost a_p1_housePeople out hF; have h0 : none = some out := hF; cases h0
  | succ d ihd =>
    intro x2 h_p0 h_p1 ad_p0 ad_p1 v_p0_boats a_p0_boatOfHouse a_p0_roomLeft v_p1_signCount v_p1_houseCount v_p1_boatCount v_p1_workCount v_p1_turnCost v_p1_boatDayCost a_p1_housePeople out hF
    refine startZ (cc := cX0_sendFrom) (maxL := 6) (by decide) rfl (Nat.le_of_ble_eq_true rfl) ?_
    intro p e s m args below meth c A Q hx hb hml hts hown hc hA hret ls H locs hl hW
    have hown : s.vm.findClass RX0 = some m.cls := hown
    have hg : ∀ w ∈ GOODS, w.before _ s = true := fun w h => hts w (List.mem_cons_of_mem _ h)
    have hl : lv_has ls 6 [(0, .ref h_p0), (1, .ref h_p1), (2, .int x2)] := hl
    rw [F_X0_sendFrom] at hF
    refine lv_iload_n hx hb dX0_sendFrom_0 rfl (lv_at hl 2 rfl) ?_
    refine lv_aload_n hx hb dX0_sendFrom_1 rfl (lv_at hl 1 rfl) ?_
    refine va_get (D := G.1) (ci := 7) (v := .int v_p1_houseCount) (C := RX8) (T := TX8) (N := 13) hx hb hg hu_X8 hown hc.1 hW.1 3 rfl rfl 8 (by decide) (hg _ wd_1_79) (fun _ h9 => h9) rfl dX0_sendFrom_2 ?_
    refine lv_icmp_ge (tgt := 14) hx hb dX0_sendFrom_5 (by decide) (fun c_5 => ?_) (fun c_5 => ?_)
    · have hF := ite_t hF c_5
      refine lv_iconst (v := 1) hx hb dX0_sendFrom_14 (by decide) ?_
      obtain rfl := Option.some.inj hF
      exact hret _ _ _ _ hW (Or.inr rfl) dX0_sendFrom_15
    · have hF := ite_f hF c_5
      refine lv_iload_n hx hb dX0_sendFrom_8 rfl (lv_at hl 2 rfl) ?_
      refine lv_bipush (v := 6) hx hb dX0_sendFrom_9 (by decide) ?_
      refine lv_icmp_lt (tgt := 16) hx hb dX0_sendFrom_11 (by decide) (fun c_11 => ?_) (fun c_11 => ?_)
      · have hF := ite_t hF c_11
        refine lv_aload_n hx hb dX0_sendFrom_16 rfl (lv_at hl 1 rfl) ?_
        refine lv_iload_n hx hb dX0_sendFrom_17 rfl (lv_at hl 2 rfl) ?_
        obtain ⟨q18, c_18, hF⟩ := bd_el hF
        refine wcI (ws' := [(h_p0, oX0 ad_p0 v_p0_boats), ((ad_p0 0), cI G 6 a_p0_boatOfHouse), ((ad_p0 1), cI G 4 a_p0_roomLeft), (h_p1, oX8 ad_p1 v_p1_signCount v_p1_houseCount v_p1_boatCount v_p1_workCount v_p1_turnCost v_p1_boatDayCost), ((ad_p1 2), cI G 6 a_p1_housePeople)]) (wc := [(h_p1, oX8 ad_p1 v_p1_signCount v_p1_houseCount v_p1_boatCount v_p1_workCount v_p1_turnCost v_p1_boatDayCost), ((ad_p1 2), cI G 6 a_p1_housePeople)]) (wr := [(h_p0, oX0 ad_p0 v_p0_boats), ((ad_p0 0), cI G 6 a_p0_boatOfHouse), ((ad_p0 1), cI G 4 a_p0_roomLeft)]) (w1 := [(h_p1, oX8 ad_p1 v_p1_signCount v_p1_houseCount v_p1_boatCount v_p1_workCount v_p1_turnCost v_p1_boatDayCost), ((ad_p1 2), cI G 6 a_p1_housePeople)]) (va_runV (As := [.int x2]) (rest := []) ⟨hx, hb, hml, hown, hg⟩ (c_X8_peopleOf l G x2 h_p1 ad_p1 v_p1_signCount v_p1_houseCount v_p1_boatCount v_p1_workCount v_p1_turnCost v_p1_boatDayCost a_p1_housePeople q18 c_18 H.size) (cwV 1 hg (gV wd_3_154 wd_3_118 wd_3_119 wd_1_4 wd_3_120) rfl rfl rfl hdV_X8_peopleOf ⟨(by show 1 + 1 ≤ 2 + (d + 1); omega), (by show 8 + (2 + 11) + 21 ≤ 42 + 25 * (d + 1); omega)⟩) (preV hc hW [3, 4] rfl (by decide) rfl rfl) rfl rfl hl.1 rfl (lv_room (Nat.le_of_ble_eq_true rfl)) dX0_sendFrom_18 ⟨Nat.zero_le _, Nat.zero_le _⟩) hA hW [3, 4] [0, 1, 2] [0, 1, 2, 3, 4] rfl rfl (by decide) (by decide) rfl (by decide) (fun H locs hW => ?_)
        refine lv_istore_n (lv' := [(3, .int q18), (0, .ref h_p0), (1, .ref h_p1), (2, .int x2)]) hx hb dX0_sendFrom_21 rfl hl (by decide) rfl (fun ls hl => ?_)
        refine lv_iconst (v := 0) hx hb dX0_sendFrom_22 (by decide) ?_
        refine lv_istore (lv' := [(4, .int 0), (3, .int q18), (0, .ref h_p0), (1, .ref h_p1), (2, .int x2)]) hx hb dX0_sendFrom_23 hl (by decide) rfl (fun ls hl => ?_)
        have L_25 : ∀ (n : Nat) (x4_25 : Int32) (a_p0_boatOfHouse_25 : Nat → Int32) (a_p0_roomLeft_25 : Nat → Int32) (ls : Array Slot) (H : Heap) (locs : List Loc), L_X0_sendFrom_25 x2 v_p0_boats v_p1_boatCount v_p1_houseCount a_p1_housePeople q18 (F_X0_sendFrom d) n x4_25 a_p0_boatOfHouse_25 a_p0_roomLeft_25 = some out → lv_has ls 6 [(0, .ref h_p0), (1, .ref h_p1), (2, .int x2), (3, .int q18), (4, .int x4_25)] → Wd G A s.heap [(h_p0, oX0 ad_p0 v_p0_boats), ((ad_p0 0), cI G 6 a_p0_boatOfHouse_25), ((ad_p0 1), cI G 4 a_p0_roomLeft_25), (h_p1, oX8 ad_p1 v_p1_signCount v_p1_houseCount v_p1_boatCount v_p1_workCount v_p1_turnCost v_p1_boatDayCost), ((ad_p1 2), cI G 6 a_p1_housePeople)] H locs → W p l e ({ frames := 2 + (d + 1), cells := 0, slots := 0, locals := 42 + 25 * (d + 1) } : Room) s m args below meth c H locs 0 0 Q (F0 m 25 ls []) := by
          intro n
          induction n with
          | zero => intro x4_25 a_p0_boatOfHouse_25 a_p0_roomLeft_25 ls H locs hF hl hW; have h0 : none = some out := hF; cases h0
          | succ n ih =>
            intro x4_25 a_p0_boatOfHouse_25 a_p0_roomLeft_25 ls H locs hF hl hW
            rw [L_X0_sendFrom_25] at hF
            refine lv_iload hx hb dX0_sendFrom_25 (lv_at hl 4 rfl) ?_
            refine lv_aload_n hx hb dX0_sendFrom_27 rfl (lv_at hl 1 rfl) ?_
            refine va_get (D := G.1) (ci := 7) (v := .int v_p1_boatCount) (C := RX8) (T := TX8) (N := 13) hx hb hg hu_X8 hown hc.1 hW.1 3 rfl rfl 9 (by decide) (hg _ wd_1_81) (fun _ h9 => h9) rfl dX0_sendFrom_28 ?_
            refine lv_icmp_ge (tgt := 116) hx hb dX0_sendFrom_31 (by decide) (fun c_31 => ?_) (fun c_31 => ?_)
            · have hF := ite_t hF c_31
              refine lv_iconst (v := 0) hx hb dX0_sendFrom_116 (by decide) ?_
              obtain rfl := Option.some.inj hF
              exact hret _ _ _ _ hW (Or.inl rfl) dX0_sendFrom_117
            · have hF := ite_f hF c_31
              refine lv_aload_n hx hb dX0_sendFrom_34 rfl (lv_at hl 0 rfl) ?_
              refine va_get (D := G.1) (ci := 0) (v := .ref ((ad_p0 1))) (C := RX0) (T := TX0) (N := 3) hx hb hg hu_X0 hown hc.1 hW.1 0 rfl rfl 1 (by decide) (hg _ wd_1_180) (fun _ h9 => h9) rfl dX0_sendFrom_35 ?_
              refine lv_iload hx hb dX0_sendFrom_38 (lv_at hl 4 rfl) ?_
              obtain ⟨q40, c_40, hF⟩ := bd_el hF
              refine wcI (ws' := [(h_p0, oX0 ad_p0 v_p0_boats), ((ad_p0 0), cI G 6 a_p0_boatOfHouse_25), ((ad_p0 1), cI G 4 a_p0_roomLeft_25), (h_p1, oX8 ad_p1 v_p1_signCount v_p1_houseCount v_p1_boatCount v_p1_workCount v_p1_turnCost v_p1_boatDayCost), ((ad_p1 2), cI G 6 a_p1_housePeople)]) (wc := [((ad_p0 1), cI G 4 a_p0_roomLeft_25)]) (wr := [(h_p0, oX0 ad_p0 v_p0_boats), ((ad_p0 0), cI G 6 a_p0_boatOfHouse_25), (h_p1, oX8 ad_p1 v_p1_signCount v_p1_houseCount v_p1_boatCount v_p1_workCount v_p1_turnCost v_p1_boatDayCost), ((ad_p1 2), cI G 6 a_p1_housePeople)]) (w1 := [((ad_p0 1), cI G 4 a_p0_roomLeft_25)]) (va_runS (As := [.ref ((ad_p0 1)), .int x4_25]) (rest := []) ⟨hx, hb, hml, hown, hg⟩ (c_X4_at l G x4_25 4 ((ad_p0 1)) a_p0_roomLeft_25 q40 c_40 H.size) (va_cwS 2 hg (gS wd_3_155 wd_2_37 wd_1_14 wd_2_38) rfl rfl rfl hdS_X4_at ⟨(by show 0 + 1 ≤ 2 + (d + 1); omega), (by show 8 + (2 + 11) + 0 ≤ 42 + 25 * (d + 1); omega)⟩) (preS hc hW [2] rfl (by decide)) rfl rfl hl.1 rfl (lv_room (Nat.le_of_ble_eq_true rfl)) dX0_sendFrom_40 ⟨Nat.zero_le _, Nat.zero_le _⟩) hA hW [2] [0, 1, 3, 4] [0, 1, 4, 2, 3] rfl rfl (by decide) (by decide) rfl (by decide) (fun H locs hW => ?_)
              refine lv_istore (lv' := [(5, .int q40), (0, .ref h_p0), (1, .ref h_p1), (2, .int x2), (3, .int q18), (4, .int x4_25)]) hx hb dX0_sendFrom_43 hl (by decide) rfl (fun ls hl => ?_)
              refine lv_aload_n hx hb dX0_sendFrom_45 rfl (lv_at hl 1 rfl) ?_
              refine va_get (D := G.1) (ci := 0) (v := .int v_p0_boats) (C := RX0) (T := TX0) (N := 3) hx hb hg hu_X0 hown hc.1 hW.1 0 rfl rfl 2 (by decide) (hg _ wd_1_181) (fun _ h9 => h9) rfl dX0_sendFrom_46 ?_
              refine lv_iload hx hb dX0_sendFrom_49 (lv_at hl 5 rfl) ?_
              obtain ⟨q51, c_51, hF⟩ := bd_el hF
              refine wcZ (ws' := [(h_p0, oX0 ad_p0 v_p0_boats), ((ad_p0 0), cI G 6 a_p0_boatOfHouse_25), ((ad_p0 1), cI G 4 a_p0_roomLeft_25), (h_p1, oX8 ad_p1 v_p1_signCount v_p1_houseCount v_p1_boatCount v_p1_workCount v_p1_turnCost v_p1_boatDayCost), ((ad_p1 2), cI G 6 a_p1_housePeople)]) (wc := []) (wr := [(h_p0, oX0 ad_p0 v_p0_boats), ((ad_p0 0), cI G 6 a_p0_boatOfHouse_25), ((ad_p0 1), cI G 4 a_p0_roomLeft_25), (h_p1, oX8 ad_p1 v_p1_signCount v_p1_houseCount v_p1_boatCount v_p1_workCount v_p1_turnCost v_p1_boatDayCost), ((ad_p1 2), cI G 6 a_p1_housePeople)]) (w1 := []) (va_runSN (As := [.int v_p0_boats, .int x4_25]) (rest := []) ⟨hx, hb, hml, hown, hg⟩ (c_X9_holds l G v_p0_boats x4_25 q51 c_51 H.size) ⟨va_cnB 2 hg (gN wd_2_181) rfl rfl rfl (hc.2 (RX0, 63, yX9_holds) (by decide +kernel)) (hg _ wd_1_1) hdS_X9_holds ⟨(by show 0 + 1 ≤ 2 + (d + 1); omega), (by show 8 + (2 + 11) + 0 ≤ 42 + 25 * (d + 1); omega)⟩, (hg _ wd_2_180), trivial⟩ (preS hc hW [] rfl (by decide)) rfl rfl hl.1 rfl (lv_room (Nat.le_of_ble_eq_true rfl)) dX0_sendFrom_51 ⟨Nat.zero_le _, Nat.zero_le _⟩) hA hW [] [0, 1, 2, 3, 4] [0, 1, 2, 3, 4] rfl rfl (by decide) (by decide) rfl (by decide) (fun z_51 H locs hW => ?_)
              obtain ⟨k_110, e_110, hF⟩ := jn_el hF
              have J_110 : ∀ (a_p0_boatOfHouse_110 : Nat → Int32) (a_p0_roomLeft_110 : Nat → Int32) (ls : Array Slot) (H : Heap) (locs : List Loc), k_110 a_p0_boatOfHouse_110 a_p0_roomLeft_110 = some out → lv_has ls 6 [(0, .ref h_p0), (1, .ref h_p1), (2, .int x2), (3, .int q18), (4, .int x4_25)] → Wd G A s.heap [(h_p0, oX0 ad_p0 v_p0_boats), ((ad_p0 0), cI G 6 a_p0_boatOfHouse_110), ((ad_p0 1), cI G 4 a_p0_roomLeft_110), (h_p1, oX8 ad_p1 v_p1_signCount v_p1_houseCount v_p1_boatCount v_p1_workCount v_p1_turnCost v_p1_boatDayCost), ((ad_p1 2), cI G 6 a_p1_housePeople)] H locs → W p l e ({ frames := 2 + (d + 1), cells := 0, slots := 0, locals := 42 + 25 * (d + 1) } : Room) s m args below meth c H locs 0 0 Q (F0 m 110 ls []) := by
                intro a_p0_boatOfHouse_110 a_p0_roomLeft_110 ls H locs hF hl hW
                rw [e_110] at hF
                dsimp only at hF
                refine lv_iinc (v := (x4_25 + 1)) (lv' := [(4, .int ((x4_25 + 1))), (0, .ref h_p0), (1, .ref h_p1), (2, .int x2), (3, .int q18)]) hx hb dX0_sendFrom_110 hl (k := 4) rfl rfl (by decide) rfl (fun ls hl => ?_)
                refine lv_goto (tgt := 25) hx hb dX0_sendFrom_113 (by decide) ?_
                exact ih ((x4_25 + 1)) a_p0_boatOfHouse_110 a_p0_roomLeft_110 _ _ _ hF (lv_sub hl [1, 2, 3, 4, 0] rfl) hW
              refine lv_if_eq (tgt := 110) hx hb dX0_sendFrom_54 (by decide) (fun c_54 => ?_) (fun c_54 => ?_)
              · have hF := ite_t hF c_54
                exact J_110 a_p0_boatOfHouse_25 a_p0_roomLeft_25 _ _ _ hF (lv_sub hl [1, 2, 3, 4, 5] rfl) hW
              · have hF := ite_f hF c_54
                refine lv_iload hx hb dX0_sendFrom_57 (lv_at hl 0 rfl) ?_
                refine lv_iload_n hx hb dX0_sendFrom_59 rfl (lv_at hl 4 rfl) ?_
                refine lv_icmp_lt (tgt := 110) hx hb dX0_sendFrom_60 (by decide) (fun c_60 => ?_) (fun c_60 => ?_)
                · have hF := ite_t hF c_60
                  exact J_110 a_p0_boatOfHouse_25 a_p0_roomLeft_25 _ _ _ hF (lv_sub hl [1, 2, 3, 4, 5] rfl) hW
                · have hF := ite_f hF c_60
                  refine lv_aload_n hx hb dX0_sendFrom_63 rfl (lv_at hl 1 rfl) ?_
                  refine va_get (D := G.1) (ci := 0) (v := .ref ((ad_p0 0))) (C := RX0) (T := TX0) (N := 3) hx hb hg hu_X0 hown hc.1 hW.1 0 rfl rfl 0 (by decide) (hg _ wd_1_179) (fun _ h9 => h9) rfl dX0_sendFrom_64 ?_
                  refine lv_iload_n hx hb dX0_sendFrom_67 rfl (lv_at hl 3 rfl) ?_
                  refine lv_iload hx hb dX0_sendFrom_68 (lv_at hl 5 rfl) ?_
                  obtain ⟨q70, c_70, hF⟩ := bd_el hF
                  refine wcV (ws' := [(h_p0, oX0 ad_p0 v_p0_boats), ((ad_p0 0), cI G 6 q70), ((ad_p0 1), cI G 4 a_p0_roomLeft_25), (h_p1, oX8 ad_p1 v_p1_signCount v_p1_houseCount v_p1_boatCount v_p1_workCount v_p1_turnCost v_p1_boatDayCost), ((ad_p1 2), cI G 6 a_p1_housePeople)]) (wc := [((ad_p0 0), cI G 6 a_p0_boatOfHouse_25)]) (wr := [(h_p0, oX0 ad_p0 v_p0_boats), ((ad_p0 1), cI G 4 a_p0_roomLeft_25), (h_p1, oX8 ad_p1 v_p1_signCount v_p1_houseCount v_p1_boatCount v_p1_workCount v_p1_turnCost v_p1_boatDayCost), ((ad_p1 2), cI G 6 a_p1_housePeople)]) (w1 := [((ad_p0 0), cI G 6 q70)]) (va_runS (As := [.ref ((ad_p0 0)), .int x2, .int x4_25]) (rest := []) ⟨hx, hb, hml, hown, hg⟩ (c_X4_put l G x2 x4_25 6 ((ad_p0 0)) a_p0_boatOfHouse_25 q70 c_70 H.size) (va_cwS 3 hg (gS wd_3_150 wd_2_17 wd_1_14 wd_2_18) rfl rfl rfl hdS_X4_put ⟨(by show 0 + 1 ≤ 2 + (d + 1); omega), (by show 8 + (3 + 11) + 0 ≤ 42 + 25 * (d + 1); omega)⟩) (preS hc hW [1] rfl (by decide)) rfl rfl hl.1 rfl (lv_room (Nat.le_of_ble_eq_true rfl)) dX0_sendFrom_70 ⟨Nat.zero_le _, Nat.zero_le _⟩) hA hW [1] [0, 2, 3, 4] [0, 4, 1, 2, 3] rfl rfl (by decide) (by decide) rfl (by decide) (fun H locs hW => ?_)
                  refine lv_aload_n hx hb dX0_sendFrom_73 rfl (lv_at hl 1 rfl) ?_
                  refine va_get (D := G.1) (ci := 0) (v := .ref ((ad_p0 1))) (C := RX0) (T := TX0) (N := 3) hx hb hg hu_X0 hown hc.1 hW.1 0 rfl rfl 1 (by decide) (hg _ wd_1_180) (fun _ h9 => h9) rfl dX0_sendFrom_74 ?_
                  refine lv_iload hx hb dX0_sendFrom_77 (lv_at hl 5 rfl) ?_
                  refine lv_iload hx hb dX0_sendFrom_79 (lv_at hl 0 rfl) ?_
                  refine lv_iload_n hx hb dX0_sendFrom_81 rfl (lv_at hl 4 rfl) ?_
                  refine lv_isub hx hb dX0_sendFrom_82 ?_
                  obtain ⟨q83, c_83, hF⟩ := bd_el hF
                  refine wcV (ws' := [(h_p0, oX0 ad_p0 v_p0_boats), ((ad_p0 0), cI G 6 q70), ((ad_p0 1), cI G 4 q83), (h_p1, oX8 ad_p1 v_p1_signCount v_p1_houseCount v_p1_boatCount v_p1_workCount v_p1_turnCost v_p1_boatDayCost), ((ad_p1 2), cI G 6 a_p1_housePeople)]) (wc := [((ad_p0 1), cI G 4 a_p0_roomLeft_25)]) (wr := [(h_p0, oX0 ad_p0 v_p0_boats), ((ad_p0 0), cI G 6 q70), (h_p1, oX8 ad_p1 v_p1_signCount v_p1_houseCount v_p1_boatCount v_p1_workCount v_p1_turnCost v_p1_boatDayCost), ((ad_p1 2), cI G 6 a_p1_housePeople)]) (w1 := [((ad_p0 1), cI G 4 q83)]) (va_runS (As := [.ref ((ad_p0 1)), .int x4_25, .int ((q40 - q18))]) (rest := []) ⟨hx, hb, hml, hown, hg⟩ (c_X4_put l G x4_25 ((q40 - q18)) 4 ((ad_p0 1)) a_p0_roomLeft_25 q83 c_83 H.size) (va_cwS 3 hg (gS wd_3_150 wd_2_17 wd_1_14 wd_2_18) rfl rfl rfl hdS_X4_put ⟨(by show 0 + 1 ≤ 2 + (d + 1); omega), (by show 8 + (3 + 11) + 0 ≤ 42 + 25 * (d + 1); omega)⟩) (preS hc hW [2] rfl (by decide)) rfl rfl hl.1 rfl (lv_room (Nat.le_of_ble_eq_true rfl)) dX0_sendFrom_83 ⟨Nat.zero_le _, Nat.zero_le _⟩) hA hW [2] [0, 1, 3, 4] [0, 1, 4, 2, 3] rfl rfl (by decide) (by decide) rfl (by decide) (fun H locs hW => ?_)
                  refine lv_aload_n hx hb dX0_sendFrom_86 rfl (lv_at hl 1 rfl) ?_
                  refine lv_aload_n hx hb dX0_sendFrom_87 rfl (lv_at hl 2 rfl) ?_
                  refine lv_iload_n hx hb dX0_sendFrom_88 rfl (lv_at hl 3 rfl) ?_
                  refine lv_iconst (v := 1) hx hb dX0_sendFrom_89 (by decide) ?_
                  refine lv_iadd hx hb dX0_sendFrom_90 ?_
                  obtain ⟨q91, c_91, hF⟩ := bd_el hF
                  refine wcZ (ws' := [(h_p0, oX0 ad_p0 v_p0_boats), ((ad_p0 0), cI G 6 q91.2.1), ((ad_p0 1), cI G 4 q91.2.2), (h_p1, oX8 ad_p1 v_p1_signCount v_p1_houseCount v_p1_boatCount v_p1_workCount v_p1_turnCost v_p1_boatDayCost), ((ad_p1 2), cI G 6 a_p1_housePeople)]) (wc := [(h_p0, oX0 ad_p0 v_p0_boats), ((ad_p0 0), cI G 6 q70), ((ad_p0 1), cI G 4 q83), (h_p1, oX8 ad_p1 v_p1_signCount v_p1_houseCount v_p1_boatCount v_p1_workCount v_p1_turnCost v_p1_boatDayCost), ((ad_p1 2), cI G 6 a_p1_housePeople)]) (wr := []) (w1 := [(h_p0, oX0 ad_p0 v_p0_boats), ((ad_p0 0), cI G 6 q91.2.1), ((ad_p0 1), cI G 4 q91.2.2), (h_p1, oX8 ad_p1 v_p1_signCount v_p1_houseCount v_p1_boatCount v_p1_workCount v_p1_turnCost v_p1_boatDayCost), ((ad_p1 2), cI G 6 a_p1_housePeople)]) (va_runS (As := [.ref h_p0, .ref h_p1, .int ((x2 + 1))]) (rest := []) ⟨hx, hb, hml, hown, hg⟩ (ihd ((x2 + 1)) h_p0 h_p1 ad_p0 ad_p1 v_p0_boats q70 q83 v_p1_signCount v_p1_houseCount v_p1_boatCount v_p1_workCount v_p1_turnCost v_p1_boatDayCost a_p1_housePeople q91 c_91 H.size) (va_cwS 3 hg (gS wd_3_151 wd_3_152 wd_1_8 wd_3_153) rfl rfl rfl hdS_X0_sendFrom ⟨(by show 2 + d + 1 ≤ 2 + (d + 1); omega), (by show 8 + (6 + 11) + (42 + 25 * d) ≤ 42 + 25 * (d + 1); omega)⟩) (preS hc hW [0, 1, 2, 3, 4] rfl (by decide)) rfl rfl hl.1 rfl (lv_room (Nat.le_of_ble_eq_true rfl)) dX0_sendFrom_91 ⟨Nat.zero_le _, Nat.zero_le _⟩) hA hW [0, 1, 2, 3, 4] [] [0, 1, 2, 3, 4] rfl rfl (by decide) (by decide) rfl (by decide) (fun z_91 H locs hW => ?_)
                  refine lv_if_eq (tgt := 99) hx hb dX0_sendFrom_94 (by decide) (fun c_94 => ?_) (fun c_94 => ?_)
                  · have hF := ite_t hF c_94
                    refine lv_aload_n hx hb dX0_sendFrom_99 rfl (lv_at hl 1 rfl) ?_
                    refine va_get (D := G.1) (ci := 0) (v := .ref ((ad_p0 1))) (C := RX0) (T := TX0) (N := 3) hx hb hg hu_X0 hown hc.1 hW.1 0 rfl rfl 1 (by decide) (hg _ wd_1_180) (fun _ h9 => h9) rfl dX0_sendFrom_100 ?_
                    refine lv_iload hx hb dX0_sendFrom_103 (lv_at hl 5 rfl) ?_
                    refine lv_iload hx hb dX0_sendFrom_105 (lv_at hl 0 rfl) ?_
                    obtain ⟨q107, c_107, hF⟩ := bd_el hF
                    refine wcV (ws' := [(h_p0, oX0 ad_p0 v_p0_boats), ((ad_p0 0), cI G 6 q91.2.1), ((ad_p0 1), cI G 4 q107), (h_p1, oX8 ad_p1 v_p1_signCount v_p1_houseCount v_p1_boatCount v_p1_workCount v_p1_turnCost v_p1_boatDayCost), ((ad_p1 2), cI G 6 a_p1_housePeople)]) (wc := [((ad_p0 1), cI G 4 q91.2.2)]) (wr := [(h_p0, oX0 ad_p0 v_p0_boats), ((ad_p0 0), cI G 6 q91.2.1), (h_p1, oX8 ad_p1 v_p1_signCount v_p1_houseCount v_p1_boatCount v_p1_workCount v_p1_turnCost v_p1_boatDayCost), ((ad_p1 2), cI G 6 a_p1_housePeople)]) (w1 := [((ad_p0 1), cI G 4 q107)]) (va_runS (As := [.ref ((ad_p0 1)), .int x4_25, .int q40]) (rest := []) ⟨hx, hb, hml, hown, hg⟩ (c_X4_put l G x4_25 q40 4 ((ad_p0 1)) q91.2.2 q107 c_107 H.size) (va_cwS 3 hg (gS wd_3_150 wd_2_17 wd_1_14 wd_2_18) rfl rfl rfl hdS_X4_put ⟨(by show 0 + 1 ≤ 2 + (d + 1); omega), (by show 8 + (3 + 11) + 0 ≤ 42 + 25 * (d + 1); omega)⟩) (preS hc hW [2] rfl (by decide)) rfl rfl hl.1 rfl (lv_room (Nat.le_of_ble_eq_true rfl)) dX0_sendFrom_107 ⟨Nat.zero_le _, Nat.zero_le _⟩) hA hW [2] [0, 1, 3, 4] [0, 1, 4, 2, 3] rfl rfl (by decide) (by decide) rfl (by decide) (fun H locs hW => ?_)
                    exact J_110 q91.2.1 q107 _ _ _ hF (lv_sub hl [1, 2, 3, 4, 5] rfl) hW
                  · have hF := ite_f hF c_94
                    refine lv_iconst (v := 1) hx hb dX0_sendFrom_97 (by decide) ?_
                    obtain rfl := Option.some.inj hF
                    exact hret _ _ _ _ hW (Or.inr rfl) dX0_sendFrom_98
        exact L_25 5000 0 a_p0_boatOfHouse a_p0_roomLeft _ _ _ hF (lv_sub hl [2, 3, 4, 1, 0] rfl) hW
      · have hF := ite_f hF c_11
        refine lv_iconst (v := 1) hx hb dX0_sendFrom_14 (by decide) ?_
        obtain rfl := Option.some.inj hF
        exact hret _ _ _ _ hW (Or.inr rfl) dX0_sendFrom_15
theorem dX0_findWith_0 : decode cX0_findWith 0 = .ok (.aload_n 0, 1) := by decide +kernel
theorem dX0_findWith_1 : decode cX0_findWith 1 = .ok (.iload_n 2, 1) := by decide +kernel
theorem dX0_findWith_2 : decode cX0_findWith 2 = .ok (.putfield 43, 3) := by decide +kernel
theorem dX0_findWith_5 : decode cX0_findWith 5 = .ok (.iconst 0, 1) := by decide +kernel
theorem dX0_findWith_6 : decode cX0_findWith 6 = .ok (.istore_n 3, 1) := by decide +kernel
theorem dX0_findWith_7 : decode cX0_findWith 7 = .ok (.iload_n 3, 1) := by decide +kernel
theorem dX0_findWith_8 : decode cX0_findWith 8 = .ok (.aload_n 1, 1) := by decide +kernel
theorem dX0_findWith_9 : decode cX0_findWith 9 = .ok (.getfield 24, 3) := by decide +kernel
theorem dX0_findWith_12 : decode cX0_findWith 12 = .ok (.if_icmp .ge 22, 3) := by decide +kernel
theorem dX0_findWith_15 : decode cX0_findWith 15 = .ok (.aload_n 0, 1) := by decide +kernel
theorem dX0_findWith_16 : decode cX0_findWith 16 = .ok (.getfield 15, 3) := by decide +kernel
theorem dX0_findWith_19 : decode cX0_findWith 19 = .ok (.iload_n 3, 1) := by decide +kernel
theorem dX0_findWith_20 : decode cX0_findWith 20 = .ok (.aload_n 1, 1) := by decide +kernel
theorem dX0_findWith_21 : decode cX0_findWith 21 = .ok (.iload_n 3, 1) := by decide +kernel
theorem dX0_findWith_22 : decode cX0_findWith 22 = .ok (.invokevirtual 46, 3) := by decide +kernel
theorem dX0_findWith_25 : decode cX0_findWith 25 = .ok (.invokestatic 49, 3) := by decide +kernel
theorem dX0_findWith_28 : decode cX0_findWith 28 = .ok (.iinc 3 1, 3) := by decide +kernel
theorem dX0_findWith_31 : decode cX0_findWith 31 = .ok (.goto (-24), 3) := by decide +kernel
theorem dX0_findWith_34 : decode cX0_findWith 34 = .ok (.aload_n 0, 1) := by decide +kernel
theorem dX0_findWith_35 : decode cX0_findWith 35 = .ok (.aload_n 1, 1) := by decide +kernel
theorem dX0_findWith_36 : decode cX0_findWith 36 = .ok (.iconst 0, 1) := by decide +kernel
theorem dX0_findWith_37 : decode cX0_findWith 37 = .ok (.invokestatic 53, 3) := by decide +kernel
theorem dX0_findWith_40 : decode cX0_findWith 40 = .ok (.ireturn, 1) := by decide +kernel
def L_X0_findWith_7 (v_p1_boatCount : Int32) (a_p1_boatRoom : Nat → Int32) (k_34 : (Nat → Int32) → Option (Int32 × Int32 × (Nat → Int32) × (Nat → Int32))) : Nat → Int32 → (Nat → Int32) → Option (Int32 × Int32 × (Nat → Int32) × (Nat → Int32))
  | 0, _, _ => none
  | n + 1, x3_7, a_roomLeft_7 => (if v_p1_boatCount ≤ x3_7 then k_34 a_roomLeft_7 else (F_X8_roomOf x3_7 a_p1_boatRoom).bind (fun q22 => (F_X4_put x3_7 q22 4 a_roomLeft_7).bind (fun q25 => L_X0_findWith_7 v_p1_boatCount a_p1_boatRoom k_34 n ((x3_7 + 1)) q25)))
def F_X0_findWith (x2 : Int32) (v_boats : Int32) (v_p1_boatCount : Int32) (v_p1_houseCount : Int32) (a_p1_boatRoom : Nat → Int32) (a_p1_housePeople : Nat → Int32) (a_boatOfHouse : Nat → Int32) (a_roomLeft : Nat → Int32) : Option (Int32 × Int32 × (Nat → Int32) × (Nat → Int32)) := jn (fun (a_roomLeft_34 : Nat → Int32) => (F_X0_sendFrom 7 0 x2 a_boatOfHouse a_roomLeft_34 v_p1_boatCount v_p1_houseCount a_p1_housePeople).bind (fun q37 => some (q37.1, x2, q37.2.1, q37.2.2))) (fun k_34 => L_X0_findWith_7 v_p1_boatCount a_p1_boatRoom k_34 5000 0 a_roomLeft)
theorem hdV_X0_findWith : yX0_findWith.cls = RX0 ∧ yX0_findWith.cls ≠ "java/lang/invoke/MethodHandle" ∧ yX0_findWith.cls ≠ "java/lang/invoke/VarHandle" ∧ (parseMethodDescriptor yX0_findWith.desc).map (fun d => d.parameters.length) = some 2 := by decide +kernel
set_option maxHeartbeats 4000000 in
set_option maxRecDepth 100000 in
theorem c_X0_findWith (l : Launch) (G : GG) (x2 : Int32) (h_this : Nat) (h_p1 : Nat) (ad_this : Nat → Nat) (ad_p1 : Nat → Nat) (v_boats : Int32) (v_p1_signCount : Int32) (v_p1_houseCount : Int32) (v_p1_boatCount : Int32) (v_p1_workCount : Int32) (v_p1_turnCost : Int32) (v_p1_boatDayCost : Int32) (a_p1_boatRoom : Nat → Int32) (a_p1_housePeople : Nat → Int32) (a_boatOfHouse : Nat → Int32) (a_roomLeft : Nat → Int32) (out : Int32 × Int32 × (Nat → Int32) × (Nat → Int32)) (hF : F_X0_findWith x2 v_boats v_p1_boatCount v_p1_houseCount a_p1_boatRoom a_p1_housePeople a_boatOfHouse a_roomLeft = some out) : CtrZ l yX0_findWith (WS yX0_findWith cX0_findWith 4 (some .boolean)) { frames := 10, cells := 0, slots := 0, locals := 242 } G [.ref h_this, .ref h_p1, .int x2] [(h_this, oX0 ad_this v_boats), (h_p1, oX8 ad_p1 v_p1_signCount v_p1_houseCount v_p1_boatCount v_p1_workCount v_p1_turnCost v_p1_boatDayCost), ((ad_p1 4), cI G 4 a_p1_boatRoom), ((ad_p1 2), cI G 6 a_p1_housePeople), ((ad_this 0), cI G 6 a_boatOfHouse), ((ad_this 1), cI G 4 a_roomLeft)] [(h_this, oX0 ad_this out.2.1), (h_p1, oX8 ad_p1 v_p1_signCount v_p1_houseCount v_p1_boatCount v_p1_workCount v_p1_turnCost v_p1_boatDayCost), ((ad_p1 4), cI G 4 a_p1_boatRoom), ((ad_p1 2), cI G 6 a_p1_housePeople), ((ad_this 0), cI G 6 out.2.2.1), ((ad_this 1), cI G 4 out.2.2.2)] out.1 := by
  refine startZ (cc := cX0_findWith) (maxL := 4) (by decide) rfl (Nat.le_of_ble_eq_true rfl) ?_
  intro p e s m args below meth c A Q hx hb hml hts hown hc hA hret ls H locs hl hW
  have hown : s.vm.findClass RX0 = some m.cls := hown
  have hg : ∀ w ∈ GOODS, w.before _ s = true := fun w h => hts w (List.mem_cons_of_mem _ h)
  have hl : lv_has ls 4 [(0, .ref h_this), (1, .ref h_p1), (2, .int x2)] := hl
  rw [F_X0_findWith] at hF
  refine lv_aload_n hx hb dX0_findWith_0 rfl (lv_at hl 0 rfl) ?_
  refine lv_iload_n hx hb dX0_findWith_1 rfl (lv_at hl 2 rfl) ?_
  refine va_put (D := G.1) (ci := 0) (v := .int x2) (ty := .int) (C := RX0) (T := TX0) (N := 3) hx hb hg hu_X0 tyX0 tyX0_ok nmX0 hown hc.1 hW.1 hW.2.1 hW.2.2 0 rfl rfl 2 (by decide) (hg _ wd_1_181) (fun _ h9 => h9) rfl (by decide +kernel) rfl rfl (Nat.le_of_ble_eq_true rfl) dX0_findWith_2 (fun H locs hP hD hS => ?_)
  have hW : Wd G A s.heap [(h_this, oX0 ad_this x2), (h_p1, oX8 ad_p1 v_p1_signCount v_p1_houseCount v_p1_boatCount v_p1_workCount v_p1_turnCost v_p1_boatDayCost), ((ad_p1 4), cI G 4 a_p1_boatRoom), ((ad_p1 2), cI G 6 a_p1_housePeople), ((ad_this 0), cI G 6 a_boatOfHouse), ((ad_this 1), cI G 4 a_roomLeft)] H locs := ⟨hP, hD, hS⟩
  refine lv_iconst (v := 0) hx hb dX0_findWith_5 (by decide) ?_
  refine lv_istore_n (lv' := [(3, .int 0), (0, .ref h_this), (1, .ref h_p1), (2, .int x2)]) hx hb dX0_findWith_6 rfl hl (by decide) rfl (fun ls hl => ?_)
  obtain ⟨k_34, e_34, hF⟩ := jn_el hF
  have J_34 : ∀ (a_roomLeft_34 : Nat → Int32) (ls : Array Slot) (H : Heap) (locs : List Loc), k_34 a_roomLeft_34 = some out → lv_has ls 4 [(0, .ref h_this), (1, .ref h_p1)] → Wd G A s.heap [(h_this, oX0 ad_this x2), (h_p1, oX8 ad_p1 v_p1_signCount v_p1_houseCount v_p1_boatCount v_p1_workCount v_p1_turnCost v_p1_boatDayCost), ((ad_p1 4), cI G 4 a_p1_boatRoom), ((ad_p1 2), cI G 6 a_p1_housePeople), ((ad_this 0), cI G 6 a_boatOfHouse), ((ad_this 1), cI G 4 a_roomLeft_34)] H locs → W p l e ({ frames := 10, cells := 0, slots := 0, locals := 242 } : Room) s m args below meth c H locs 0 0 Q (F0 m 34 ls []) := by
    intro a_roomLeft_34 ls H locs hF hl hW
    rw [e_34] at hF
    dsimp only at hF
    refine lv_aload_n hx hb dX0_findWith_34 rfl (lv_at hl 0 rfl) ?_
    refine lv_aload_n hx hb dX0_findWith_35 rfl (lv_at hl 1 rfl) ?_
    refine lv_iconst (v := 0) hx hb dX0_findWith_36 (by decide) ?_
    obtain ⟨q37, c_37, hF⟩ := bd_el hF
    refine wcZ (ws' := [(h_this, oX0 ad_this x2), (h_p1, oX8 ad_p1 v_p1_signCount v_p1_houseCount v_p1_boatCount v_p1_workCount v_p1_turnCost v_p1_boatDayCost), ((ad_p1 4), cI G 4 a_p1_boatRoom), ((ad_p1 2), cI G 6 a_p1_housePeople), ((ad_this 0), cI G 6 q37.2.1), ((ad_this 1), cI G 4 q37.2.2)]) (wc := [(h_this, oX0 ad_this x2), ((ad_this 0), cI G 6 a_boatOfHouse), ((ad_this 1), cI G 4 a_roomLeft_34), (h_p1, oX8 ad_p1 v_p1_signCount v_p1_houseCount v_p1_boatCount v_p1_workCount v_p1_turnCost v_p1_boatDayCost), ((ad_p1 2), cI G 6 a_p1_housePeople)]) (wr := [((ad_p1 4), cI G 4 a_p1_boatRoom)]) (w1 := [(h_this, oX0 ad_this x2), ((ad_this 0), cI G 6 q37.2.1), ((ad_this 1), cI G 4 q37.2.2), (h_p1, oX8 ad_p1 v_p1_signCount v_p1_houseCount v_p1_boatCount v_p1_workCount v_p1_turnCost v_p1_boatDayCost), ((ad_p1 2), cI G 6 a_p1_housePeople)]) (va_runS (As := [.ref h_this, .ref h_p1, .int 0]) (rest := []) ⟨hx, hb, hml, hown, hg⟩ (c_X0_sendFrom l G 7 0 h_this h_p1 ad_this ad_p1 x2 a_boatOfHouse a_roomLeft_34 v_p1_signCount v_p1_houseCount v_p1_boatCount v_p1_workCount v_p1_turnCost v_p1_boatDayCost a_p1_housePeople q37 c_37 H.size) (va_cwS 3 hg (gS wd_3_151 wd_3_152 wd_1_8 wd_3_153) rfl rfl rfl hdS_X0_sendFrom ⟨(Nat.le_of_ble_eq_true rfl), (Nat.le_of_ble_eq_true rfl)⟩) (preS hc hW [0, 4, 5, 1, 3] rfl (by decide)) rfl rfl hl.1 rfl (lv_room (Nat.le_of_ble_eq_true rfl)) dX0_findWith_37 ⟨Nat.zero_le _, Nat.zero_le _⟩) hA hW [0, 4, 5, 1, 3] [2] [1, 4, 0, 5, 2, 3] rfl rfl (by decide) (by decide) rfl (by decide) (fun z_37 H locs hW => ?_)
    obtain rfl := Option.some.inj hF
    exact hret _ _ _ _ hW z_37 dX0_findWith_40
  have L_7 : ∀ (n : Nat) (x3_7 : Int32) (a_roomLeft_7 : Nat → Int32) (ls : Array Slot) (H : Heap) (locs : List Loc), L_X0_findWith_7 v_p1_boatCount a_p1_boatRoom k_34 n x3_7 a_roomLeft_7 = some out → lv_has ls 4 [(0, .ref h_this), (1, .ref h_p1), (3, .int x3_7)] → Wd G A s.heap [(h_this, oX0 ad_this x2), (h_p1, oX8 ad_p1 v_p1_signCount v_p1_houseCount v_p1_boatCount v_p1_workCount v_p1_turnCost v_p1_boatDayCost), ((ad_p1 4), cI G 4 a_p1_boatRoom), ((ad_p1 2), cI G 6 a_p1_housePeople), ((ad_this 0), cI G 6 a_boatOfHouse), ((ad_this 1), cI G 4 a_roomLeft_7)] H locs → W p l e ({ frames := 10, cells := 0, slots := 0, locals := 242 } : Room) s m args below meth c H locs 0 0 Q (F0 m 7 ls []) := by
    intro n
    induction n with
    | zero => intro x3_7 a_roomLeft_7 ls H locs hF hl hW; have h0 : none = some out := hF; cases h0
    | succ n ih =>
      intro x3_7 a_roomLeft_7 ls H locs hF hl hW
      rw [L_X0_findWith_7] at hF
      refine lv_iload_n hx hb dX0_findWith_7 rfl (lv_at hl 2 rfl) ?_
      refine lv_aload_n hx hb dX0_findWith_8 rfl (lv_at hl 1 rfl) ?_
      refine va_get (D := G.1) (ci := 7) (v := .int v_p1_boatCount) (C := RX8) (T := TX8) (N := 13) hx hb hg hu_X8 hown hc.1 hW.1 1 rfl rfl 9 (by decide) (hg _ wd_1_81) (fun _ h9 => h9) rfl dX0_findWith_9 ?_
      refine lv_icmp_ge (tgt := 34) hx hb dX0_findWith_12 (by decide) (fun c_12 => ?_) (fun c_12 => ?_)
      · have hF := ite_t hF c_12
        exact J_34 a_roomLeft_7 _ _ _ hF (lv_sub hl [0, 1] rfl) hW
      · have hF := ite_f hF c_12
        refine lv_aload_n hx hb dX0_findWith_15 rfl (lv_at hl 0 rfl) ?_
        refine va_get (D := G.1) (ci := 0) (v := .ref ((ad_this 1))) (C := RX0) (T := TX0) (N := 3) hx hb hg hu_X0 hown hc.1 hW.1 0 rfl rfl 1 (by decide) (hg _ wd_1_180) (fun _ h9 => h9) rfl dX0_findWith_16 ?_
        refine lv_iload_n hx hb dX0_findWith_19 rfl (lv_at hl 2 rfl) ?_
        refine lv_aload_n hx hb dX0_findWith_20 rfl (lv_at hl 1 rfl) ?_
        refine lv_iload_n hx hb dX0_findWith_21 rfl (lv_at hl 2 rfl) ?_
        obtain ⟨q22, c_22, hF⟩ := bd_el hF
        refine wcI (ws' := [(h_this, oX0 ad_this x2), (h_p1, oX8 ad_p1 v_p1_signCount v_p1_houseCount v_p1_boatCount v_p1_workCount v_p1_turnCost v_p1_boatDayCost), ((ad_p1 4), cI G 4 a_p1_boatRoom), ((ad_p1 2), cI G 6 a_p1_housePeople), ((ad_this 0), cI G 6 a_boatOfHouse), ((ad_this 1), cI G 4 a_roomLeft_7)]) (wc := [(h_p1, oX8 ad_p1 v_p1_signCount v_p1_houseCount v_p1_boatCount v_p1_workCount v_p1_turnCost v_p1_boatDayCost), ((ad_p1 4), cI G 4 a_p1_boatRoom)]) (wr := [(h_this, oX0 ad_this x2), ((ad_p1 2), cI G 6 a_p1_housePeople), ((ad_this 0), cI G 6 a_boatOfHouse), ((ad_this 1), cI G 4 a_roomLeft_7)]) (w1 := [(h_p1, oX8 ad_p1 v_p1_signCount v_p1_houseCount v_p1_boatCount v_p1_workCount v_p1_turnCost v_p1_boatDayCost), ((ad_p1 4), cI G 4 a_p1_boatRoom)]) (va_runV (As := [.int x3_7]) (rest := [.int x3_7, .ref ((ad_this 1))]) ⟨hx, hb, hml, hown, hg⟩ (c_X8_roomOf l G x3_7 h_p1 ad_p1 v_p1_signCount v_p1_houseCount v_p1_boatCount v_p1_workCount v_p1_turnCost v_p1_boatDayCost a_p1_boatRoom q22 c_22 H.size) (cwV 1 hg (gV wd_3_149 wd_3_126 wd_3_127 wd_1_4 wd_3_128) rfl rfl rfl hdV_X8_roomOf ⟨(Nat.le_of_ble_eq_true rfl), (Nat.le_of_ble_eq_true rfl)⟩) (preV hc hW [1, 2] rfl (by decide) rfl rfl) rfl rfl hl.1 rfl (lv_room (Nat.le_of_ble_eq_true rfl)) dX0_findWith_22 ⟨Nat.zero_le _, Nat.zero_le _⟩) hA hW [1, 2] [0, 3, 4, 5] [0, 4, 5, 1, 2, 3] rfl rfl (by decide) (by decide) rfl (by decide) (fun H locs hW => ?_)
        obtain ⟨q25, c_25, hF⟩ := bd_el hF
        refine wcV (ws' := [(h_this, oX0 ad_this x2), (h_p1, oX8 ad_p1 v_p1_signCount v_p1_houseCount v_p1_boatCount v_p1_workCount v_p1_turnCost v_p1_boatDayCost), ((ad_p1 4), cI G 4 a_p1_boatRoom), ((ad_p1 2), cI G 6 a_p1_housePeople), ((ad_this 0), cI G 6 a_boatOfHouse), ((ad_this 1), cI G 4 q25)]) (wc := [((ad_this 1), cI G 4 a_roomLeft_7)]) (wr := [(h_this, oX0 ad_this x2), (h_p1, oX8 ad_p1 v_p1_signCount v_p1_houseCount v_p1_boatCount v_p1_workCount v_p1_turnCost v_p1_boatDayCost), ((ad_p1 4), cI G 4 a_p1_boatRoom), ((ad_p1 2), cI G 6 a_p1_housePeople), ((ad_this 0), cI G 6 a_boatOfHouse)]) (w1 := [((ad_this 1), cI G 4 q25)]) (va_runS (As := [.ref ((ad_this 1)), .int x3_7, .int q22]) (rest := []) ⟨hx, hb, hml, hown, hg⟩ (c_X4_put l G x3_7 q22 4 ((ad_this 1)) a_roomLeft_7 q25 c_25 H.size) (va_cwS 3 hg (gS wd_3_150 wd_2_17 wd_1_14 wd_2_18) rfl rfl rfl hdS_X4_put ⟨(Nat.le_of_ble_eq_true rfl), (Nat.le_of_ble_eq_true rfl)⟩) (preS hc hW [5] rfl (by decide)) rfl rfl hl.1 rfl (lv_room (Nat.le_of_ble_eq_true rfl)) dX0_findWith_25 ⟨Nat.zero_le _, Nat.zero_le _⟩) hA hW [5] [0, 1, 2, 3, 4] [0, 1, 2, 3, 4, 5] rfl rfl (by decide) (by decide) rfl (by decide) (fun H locs hW => ?_)
        refine lv_iinc (v := (x3_7 + 1)) (lv' := [(3, .int ((x3_7 + 1))), (0, .ref h_this), (1, .ref h_p1)]) hx hb dX0_findWith_28 hl (k := 2) rfl rfl (by decide) rfl (fun ls hl => ?_)
        refine lv_goto (tgt := 7) hx hb dX0_findWith_31 (by decide) ?_
        exact ih ((x3_7 + 1)) q25 _ _ _ hF (lv_sub hl [1, 2, 0] rfl) hW
  exact L_7 5000 0 a_roomLeft _ _ _ hF (lv_sub hl [1, 2, 0] rfl) hW
theorem dX0_find_0 : decode cX0_find 0 = .ok (.iconst 1, 1) := by decide +kernel
theorem dX0_find_1 : decode cX0_find 1 = .ok (.istore_n 2, 1) := by decide +kernel
theorem dX0_find_2 : decode cX0_find 2 = .ok (.iload_n 2, 1) := by decide +kernel
theorem dX0_find_3 : decode cX0_find 3 = .ok (.aload_n 1, 1) := by decide +kernel
theorem dX0_find_4 : decode cX0_find 4 = .ok (.getfield 24, 3) := by decide +kernel
theorem dX0_find_7 : decode cX0_find 7 = .ok (.if_icmp .gt 47, 3) := by decide +kernel
theorem dX0_find_10 : decode cX0_find 10 = .ok (.iconst 1, 1) := by decide +kernel
theorem dX0_find_11 : decode cX0_find 11 = .ok (.istore_n 3, 1) := by decide +kernel
theorem dX0_find_12 : decode cX0_find 12 = .ok (.iload_n 3, 1) := by decide +kernel
theorem dX0_find_13 : decode cX0_find 13 = .ok (.aload_n 1, 1) := by decide +kernel
theorem dX0_find_14 : decode cX0_find 14 = .ok (.getfield 24, 3) := by decide +kernel
theorem dX0_find_17 : decode cX0_find 17 = .ok (.invokestatic 28, 3) := by decide +kernel
theorem dX0_find_20 : decode cX0_find 20 = .ok (.if_icmp .ge 28, 3) := by decide +kernel
theorem dX0_find_23 : decode cX0_find 23 = .ok (.iload_n 3, 1) := by decide +kernel
theorem dX0_find_24 : decode cX0_find 24 = .ok (.invokestatic 34, 3) := by decide +kernel
theorem dX0_find_27 : decode cX0_find 27 = .ok (.iload_n 2, 1) := by decide +kernel
theorem dX0_find_28 : decode cX0_find 28 = .ok (.if_icmp .ne 14, 3) := by decide +kernel
theorem dX0_find_31 : decode cX0_find 31 = .ok (.aload_n 0, 1) := by decide +kernel
theorem dX0_find_32 : decode cX0_find 32 = .ok (.aload_n 1, 1) := by decide +kernel
theorem dX0_find_33 : decode cX0_find 33 = .ok (.iload_n 3, 1) := by decide +kernel
theorem dX0_find_34 : decode cX0_find 34 = .ok (.invokevirtual 39, 3) := by decide +kernel
theorem dX0_find_37 : decode cX0_find 37 = .ok (.ifCond .eq 5, 3) := by decide +kernel
theorem dX0_find_40 : decode cX0_find 40 = .ok (.iconst 1, 1) := by decide +kernel
theorem dX0_find_41 : decode cX0_find 41 = .ok (.ireturn, 1) := by decide +kernel
theorem dX0_find_42 : decode cX0_find 42 = .ok (.iinc 3 1, 3) := by decide +kernel
theorem dX0_find_45 : decode cX0_find 45 = .ok (.goto (-33), 3) := by decide +kernel
theorem dX0_find_48 : decode cX0_find 48 = .ok (.iinc 2 1, 3) := by decide +kernel
theorem dX0_find_51 : decode cX0_find 51 = .ok (.goto (-49), 3) := by decide +kernel
theorem dX0_find_54 : decode cX0_find 54 = .ok (.iconst 0, 1) := by decide +kernel
theorem dX0_find_55 : decode cX0_find 55 = .ok (.ireturn, 1) := by decide +kernel
def L_X0_find_12 (v_p1_boatCount : Int32) (v_p1_houseCount : Int32) (a_p1_boatRoom : Nat → Int32) (a_p1_housePeople : Nat → Int32) (x2_2 : Int32) (k_48 : Int32 → (Nat → Int32) → (Nat → Int32) → Option (Int32 × Int32 × (Nat → Int32) × (Nat → Int32))) : Nat → Int32 → Int32 → (Nat → Int32) → (Nat → Int32) → Option (Int32 × Int32 × (Nat → Int32) × (Nat → Int32))
  | 0, _, _, _, _ => none
  | n + 1, x3_12, v_boats_12, a_boatOfHouse_12, a_roomLeft_12 => (F_X9_setsOf v_p1_boatCount).bind (fun q17 => (if q17 ≤ x3_12 then k_48 v_boats_12 a_boatOfHouse_12 a_roomLeft_12 else (F_J6_bitCount_0f7a4 x3_12).bind (fun q24 => jn (fun (v_boats_42 : Int32) (a_boatOfHouse_42 : Nat → Int32) (a_roomLeft_42 : Nat → Int32) => L_X0_find_12 v_p1_boatCount v_p1_houseCount a_p1_boatRoom a_p1_housePeople x2_2 k_48 n ((x3_12 + 1)) v_boats_42 a_boatOfHouse_42 a_roomLeft_42) (fun k_42 => (if q24 = x2_2 then (F_X0_findWith x3_12 v_boats_12 v_p1_boatCount v_p1_houseCount a_p1_boatRoom a_p1_housePeople a_boatOfHouse_12 a_roomLeft_12).bind (fun q34 => (if q34.1 = 0 then k_42 q34.2.1 q34.2.2.1 q34.2.2.2 else some (1, q34.2.1, q34.2.2.1, q34.2.2.2))) else k_42 v_boats_12 a_boatOfHouse_12 a_roomLeft_12)))))
def L_X0_find_2 (v_p1_boatCount : Int32) (v_p1_houseCount : Int32) (a_p1_boatRoom : Nat → Int32) (a_p1_housePeople : Nat → Int32)  : Nat → Int32 → Int32 → (Nat → Int32) → (Nat → Int32) → Option (Int32 × Int32 × (Nat → Int32) × (Nat → Int32))
  | 0, _, _, _, _ => none
  | n + 1, x2_2, v_boats_2, a_boatOfHouse_2, a_roomLeft_2 => (if v_p1_boatCount < x2_2 then some (0, v_boats_2, a_boatOfHouse_2, a_roomLeft_2) else jn (fun (v_boats_48 : Int32) (a_boatOfHouse_48 : Nat → Int32) (a_roomLeft_48 : Nat → Int32) => L_X0_find_2 v_p1_boatCount v_p1_houseCount a_p1_boatRoom a_p1_housePeople n ((x2_2 + 1)) v_boats_48 a_boatOfHouse_48 a_roomLeft_48) (fun k_48 => L_X0_find_12 v_p1_boatCount v_p1_houseCount a_p1_boatRoom a_p1_housePeople x2_2 k_48 5000 1 v_boats_2 a_boatOfHouse_2 a_roomLeft_2))
def F_X0_find (v_boats : Int32) (v_p1_boatCount : Int32) (v_p1_houseCount : Int32) (a_p1_boatRoom : Nat → Int32) (a_p1_housePeople : Nat → Int32) (a_boatOfHouse : Nat → Int32) (a_roomLeft : Nat → Int32) : Option (Int32 × Int32 × (Nat → Int32) × (Nat → Int32)) := L_X0_find_2 v_p1_boatCount v_p1_houseCount a_p1_boatRoom a_p1_housePeople 5000 1 v_boats a_boatOfHouse a_roomLeft
theorem hdV_X0_find : yX0_find.cls = RX0 ∧ yX0_find.cls ≠ "java/lang/invoke/MethodHandle" ∧ yX0_find.cls ≠ "java/lang/invoke/VarHandle" ∧ (parseMethodDescriptor yX0_find.desc).map (fun d => d.parameters.length) = some 1 := by decide +kernel
set_option maxHeartbeats 4000000 in
set_option maxRecDepth 100000 in
theorem c_X0_find (l : Launch) (G : GG) (h_this : Nat) (h_p1 : Nat) (ad_this : Nat → Nat) (ad_p1 : Nat → Nat) (v_boats : Int32) (v_p1_signCount : Int32) (v_p1_houseCount : Int32) (v_p1_boatCount : Int32) (v_p1_workCount : Int32) (v_p1_turnCost : Int32) (v_p1_boatDayCost : Int32) (a_p1_boatRoom : Nat → Int32) (a_p1_housePeople : Nat → Int32) (a_boatOfHouse : Nat → Int32) (a_roomLeft : Nat → Int32) (out : Int32 × Int32 × (Nat → Int32) × (Nat → Int32)) (hF : F_X0_find v_boats v_p1_boatCount v_p1_houseCount a_p1_boatRoom a_p1_housePeople a_boatOfHouse a_roomLeft = some out) : CtrZ l yX0_find (WS yX0_find cX0_find 4 (some .boolean)) { frames := 11, cells := 0, slots := 0, locals := 265 } G [.ref h_this, .ref h_p1] [(h_this, oX0 ad_this v_boats), (h_p1, oX8 ad_p1 v_p1_signCount v_p1_houseCount v_p1_boatCount v_p1_workCount v_p1_turnCost v_p1_boatDayCost), ((ad_p1 4), cI G 4 a_p1_boatRoom), ((ad_p1 2), cI G 6 a_p1_housePeople), ((ad_this 0), cI G 6 a_boatOfHouse), ((ad_this 1), cI G 4 a_roomLeft)] [(h_this, oX0 ad_this out.2.1), (h_p1, oX8 ad_p1 v_p1_signCount v_p1_houseCount v_p1_boatCount v_p1_workCount v_p1_turnCost v_p1_boatDayCost), ((ad_p1 4), cI G 4 a_p1_boatRoom), ((ad_p1 2), cI G 6 a_p1_housePeople), ((ad_this 0), cI G 6 out.2.2.1), ((ad_this 1), cI G 4 out.2.2.2)] out.1 := by
  refine startZ (cc := cX0_find) (maxL := 4) (by decide) rfl (Nat.le_of_ble_eq_true rfl) ?_
  intro p e s m args below meth c A Q hx hb hml hts hown hc hA hret ls H locs hl hW
  have hown : s.vm.findClass RX0 = some m.cls := hown
  have hg : ∀ w ∈ GOODS, w.before _ s = true := fun w h => hts w (List.mem_cons_of_mem _ h)
  have hl : lv_has ls 4 [(0, .ref h_this), (1, .ref h_p1)] := hl
  rw [F_X0_find] at hF
  refine lv_iconst (v := 1) hx hb dX0_find_0 (by decide) ?_
  refine lv_istore_n (lv' := [(2, .int 1), (0, .ref h_this), (1, .ref h_p1)]) hx hb dX0_find_1 rfl hl (by decide) rfl (fun ls hl => ?_)
  have L_2 : ∀ (n : Nat) (x2_2 : Int32) (v_boats_2 : Int32) (a_boatOfHouse_2 : Nat → Int32) (a_roomLeft_2 : Nat → Int32) (ls : Array Slot) (H : Heap) (locs : List Loc), L_X0_find_2 v_p1_boatCount v_p1_houseCount a_p1_boatRoom a_p1_housePeople n x2_2 v_boats_2 a_boatOfHouse_2 a_roomLeft_2 = some out → lv_has ls 4 [(0, .ref h_this), (1, .ref h_p1), (2, .int x2_2)] → Wd G A s.heap [(h_this, oX0 ad_this v_boats_2), (h_p1, oX8 ad_p1 v_p1_signCount v_p1_houseCount v_p1_boatCount v_p1_workCount v_p1_turnCost v_p1_boatDayCost), ((ad_p1 4), cI G 4 a_p1_boatRoom), ((ad_p1 2), cI G 6 a_p1_housePeople), ((ad_this 0), cI G 6 a_boatOfHouse_2), ((ad_this 1), cI G 4 a_roomLeft_2)] H locs → W p l e ({ frames := 11, cells := 0, slots := 0, locals := 265 } : Room) s m args below meth c H locs 0 0 Q (F0 m 2 ls []) := by
    intro n
    induction n with
    | zero => intro x2_2 v_boats_2 a_boatOfHouse_2 a_roomLeft_2 ls H locs hF hl hW; have h0 : none = some out := hF; cases h0
    | succ n ih =>
      intro x2_2 v_boats_2 a_boatOfHouse_2 a_roomLeft_2 ls H locs hF hl hW
      rw [L_X0_find_2] at hF
      refine lv_iload_n hx hb dX0_find_2 rfl (lv_at hl 2 rfl) ?_
      refine lv_aload_n hx hb dX0_find_3 rfl (lv_at hl 1 rfl) ?_
      refine va_get (D := G.1) (ci := 7) (v := .int v_p1_boatCount) (C := RX8) (T := TX8) (N := 13) hx hb hg hu_X8 hown hc.1 hW.1 1 rfl rfl 9 (by decide) (hg _ wd_1_81) (fun _ h9 => h9) rfl dX0_find_4 ?_
      refine lv_icmp_gt (tgt := 54) hx hb dX0_find_7 (by decide) (fun c_7 => ?_) (fun c_7 => ?_)
      · have hF := ite_t hF c_7
        refine lv_iconst (v := 0) hx hb dX0_find_54 (by decide) ?_
        obtain rfl := Option.some.inj hF
        exact hret _ _ _ _ hW (Or.inl rfl) dX0_find_55
      · have hF := ite_f hF c_7
        refine lv_iconst (v := 1) hx hb dX0_find_10 (by decide) ?_
        refine lv_istore_n (lv' := [(3, .int 1), (0, .ref h_this), (1, .ref h_p1), (2, .int x2_2)]) hx hb dX0_find_11 rfl hl (by decide) rfl (fun ls hl => ?_)
        obtain ⟨k_48, e_48, hF⟩ := jn_el hF
        have J_48 : ∀ (v_boats_48 : Int32) (a_boatOfHouse_48 : Nat → Int32) (a_roomLeft_48 : Nat → Int32) (ls : Array Slot) (H : Heap) (locs : List Loc), k_48 v_boats_48 a_boatOfHouse_48 a_roomLeft_48 = some out → lv_has ls 4 [(0, .ref h_this), (1, .ref h_p1), (2, .int x2_2)] → Wd G A s.heap [(h_this, oX0 ad_this v_boats_48), (h_p1, oX8 ad_p1 v_p1_signCount v_p1_houseCount v_p1_boatCount v_p1_workCount v_p1_turnCost v_p1_boatDayCost), ((ad_p1 4), cI G 4 a_p1_boatRoom), ((ad_p1 2), cI G 6 a_p1_housePeople), ((ad_this 0), cI G 6 a_boatOfHouse_48), ((ad_this 1), cI G 4 a_roomLeft_48)] H locs → W p l e ({ frames := 11, cells := 0, slots := 0, locals := 265 } : Room) s m args below meth c H locs 0 0 Q (F0 m 48 ls []) := by
          intro v_boats_48 a_boatOfHouse_48 a_roomLeft_48 ls H locs hF hl hW
          rw [e_48] at hF
          dsimp only at hF
          refine lv_iinc (v := (x2_2 + 1)) (lv' := [(2, .int ((x2_2 + 1))), (0, .ref h_this), (1, .ref h_p1)]) hx hb dX0_find_48 hl (k := 2) rfl rfl (by decide) rfl (fun ls hl => ?_)
          refine lv_goto (tgt := 2) hx hb dX0_find_51 (by decide) ?_
          exact ih ((x2_2 + 1)) v_boats_48 a_boatOfHouse_48 a_roomLeft_48 _ _ _ hF (lv_sub hl [1, 2, 0] rfl) hW
        have L_12 : ∀ (n : Nat) (x3_12 : Int32) (v_boats_12 : Int32) (a_boatOfHouse_12 : Nat → Int32) (a_roomLeft_12 : Nat → Int32) (ls : Array Slot) (H : Heap) (locs : List Loc), L_X0_find_12 v_p1_boatCount v_p1_houseCount a_p1_boatRoom a_p1_housePeople x2_2 k_48 n x3_12 v_boats_12 a_boatOfHouse_12 a_roomLeft_12 = some out → lv_has ls 4 [(0, .ref h_this), (1, .ref h_p1), (2, .int x2_2), (3, .int x3_12)] → Wd G A s.heap [(h_this, oX0 ad_this v_boats_12), (h_p1, oX8 ad_p1 v_p1_signCount v_p1_houseCount v_p1_boatCount v_p1_workCount v_p1_turnCost v_p1_boatDayCost), ((ad_p1 4), cI G 4 a_p1_boatRoom), ((ad_p1 2), cI G 6 a_p1_housePeople), ((ad_this 0), cI G 6 a_boatOfHouse_12), ((ad_this 1), cI G 4 a_roomLeft_12)] H locs → W p l e ({ frames := 11, cells := 0, slots := 0, locals := 265 } : Room) s m args below meth c H locs 0 0 Q (F0 m 12 ls []) := by
          intro n
          induction n with
          | zero => intro x3_12 v_boats_12 a_boatOfHouse_12 a_roomLeft_12 ls H locs hF hl hW; have h0 : none = some out := hF; cases h0
          | succ n ih =>
            intro x3_12 v_boats_12 a_boatOfHouse_12 a_roomLeft_12 ls H locs hF hl hW
            rw [L_X0_find_12] at hF
            refine lv_iload_n hx hb dX0_find_12 rfl (lv_at hl 3 rfl) ?_
            refine lv_aload_n hx hb dX0_find_13 rfl (lv_at hl 1 rfl) ?_
            refine va_get (D := G.1) (ci := 7) (v := .int v_p1_boatCount) (C := RX8) (T := TX8) (N := 13) hx hb hg hu_X8 hown hc.1 hW.1 1 rfl rfl 9 (by decide) (hg _ wd_1_81) (fun _ h9 => h9) rfl dX0_find_14 ?_
            obtain ⟨q17, c_17, hF⟩ := bd_el hF
            refine wcI (ws' := [(h_this, oX0 ad_this v_boats_12), (h_p1, oX8 ad_p1 v_p1_signCount v_p1_houseCount v_p1_boatCount v_p1_workCount v_p1_turnCost v_p1_boatDayCost), ((ad_p1 4), cI G 4 a_p1_boatRoom), ((ad_p1 2), cI G 6 a_p1_housePeople), ((ad_this 0), cI G 6 a_boatOfHouse_12), ((ad_this 1), cI G 4 a_roomLeft_12)]) (wc := []) (wr := [(h_this, oX0 ad_this v_boats_12), (h_p1, oX8 ad_p1 v_p1_signCount v_p1_houseCount v_p1_boatCount v_p1_workCount v_p1_turnCost v_p1_boatDayCost), ((ad_p1 4), cI G 4 a_p1_boatRoom), ((ad_p1 2), cI G 6 a_p1_housePeople), ((ad_this 0), cI G 6 a_boatOfHouse_12), ((ad_this 1), cI G 4 a_roomLeft_12)]) (w1 := []) (va_runSN (As := [.int v_p1_boatCount]) (rest := [.int x3_12]) ⟨hx, hb, hml, hown, hg⟩ (c_X9_setsOf l G v_p1_boatCount q17 c_17 H.size) ⟨va_cnB 1 hg (gN wd_2_171) rfl rfl rfl (hc.2 (RX0, 28, yX9_setsOf) (by decide +kernel)) (hg _ wd_1_1) hdS_X9_setsOf ⟨(Nat.le_of_ble_eq_true rfl), (Nat.le_of_ble_eq_true rfl)⟩, (hg _ wd_2_170), trivial⟩ (preS hc hW [] rfl (by decide)) rfl rfl hl.1 rfl (lv_room (Nat.le_of_ble_eq_true rfl)) dX0_find_17 ⟨Nat.zero_le _, Nat.zero_le _⟩) hA hW [] [0, 1, 2, 3, 4, 5] [0, 1, 2, 3, 4, 5] rfl rfl (by decide) (by decide) rfl (by decide) (fun H locs hW => ?_)
            refine lv_icmp_ge (tgt := 48) hx hb dX0_find_20 (by decide) (fun c_20 => ?_) (fun c_20 => ?_)
            · have hF := ite_t hF c_20
              exact J_48 v_boats_12 a_boatOfHouse_12 a_roomLeft_12 _ _ _ hF (lv_sub hl [0, 1, 2] rfl) hW
            · have hF := ite_f hF c_20
              refine lv_iload_n hx hb dX0_find_23 rfl (lv_at hl 3 rfl) ?_
              obtain ⟨q24, c_24, hF⟩ := bd_el hF
              refine wcI (ws' := [(h_this, oX0 ad_this v_boats_12), (h_p1, oX8 ad_p1 v_p1_signCount v_p1_houseCount v_p1_boatCount v_p1_workCount v_p1_turnCost v_p1_boatDayCost), ((ad_p1 4), cI G 4 a_p1_boatRoom), ((ad_p1 2), cI G 6 a_p1_housePeople), ((ad_this 0), cI G 6 a_boatOfHouse_12), ((ad_this 1), cI G 4 a_roomLeft_12)]) (wc := []) (wr := [(h_this, oX0 ad_this v_boats_12), (h_p1, oX8 ad_p1 v_p1_signCount v_p1_houseCount v_p1_boatCount v_p1_workCount v_p1_turnCost v_p1_boatDayCost), ((ad_p1 4), cI G 4 a_p1_boatRoom), ((ad_p1 2), cI G 6 a_p1_housePeople), ((ad_this 0), cI G 6 a_boatOfHouse_12), ((ad_this 1), cI G 4 a_roomLeft_12)]) (w1 := []) (va_runS (As := [.int x3_12]) (rest := []) ⟨hx, hb, hml, hown, hg⟩ (c_J6_bitCount_0f7a4 l G x3_12 q24 c_24 H.size) (va_cwS 1 hg (gS wd_3_139 wd_3_140 wd_1_17 wd_3_141) rfl rfl rfl hdS_J6_bitCount_0f7a4 ⟨(Nat.le_of_ble_eq_true rfl), (Nat.le_of_ble_eq_true rfl)⟩) (preS hc hW [] rfl (by decide)) rfl rfl hl.1 rfl (lv_room (Nat.le_of_ble_eq_true rfl)) dX0_find_24 ⟨Nat.zero_le _, Nat.zero_le _⟩) hA hW [] [0, 1, 2, 3, 4, 5] [0, 1, 2, 3, 4, 5] rfl rfl (by decide) (by decide) rfl (by decide) (fun H locs hW => ?_)
              refine lv_iload_n hx hb dX0_find_27 rfl (lv_at hl 2 rfl) ?_
              obtain ⟨k_42, e_42, hF⟩ := jn_el hF
              have J_42 : ∀ (v_boats_42 : Int32) (a_boatOfHouse_42 : Nat → Int32) (a_roomLeft_42 : Nat → Int32) (ls : Array Slot) (H : Heap) (locs : List Loc), k_42 v_boats_42 a_boatOfHouse_42 a_roomLeft_42 = some out → lv_has ls 4 [(0, .ref h_this), (1, .ref h_p1), (2, .int x2_2), (3, .int x3_12)] → Wd G A s.heap [(h_this, oX0 ad_this v_boats_42), (h_p1, oX8 ad_p1 v_p1_signCount v_p1_houseCount v_p1_boatCount v_p1_workCount v_p1_turnCost v_p1_boatDayCost), ((ad_p1 4), cI G 4 a_p1_boatRoom), ((ad_p1 2), cI G 6 a_p1_housePeople), ((ad_this 0), cI G 6 a_boatOfHouse_42), ((ad_this 1), cI G 4 a_roomLeft_42)] H locs → W p l e ({ frames := 11, cells := 0, slots := 0, locals := 265 } : Room) s m args below meth c H locs 0 0 Q (F0 m 42 ls []) := by
                intro v_boats_42 a_boatOfHouse_42 a_roomLeft_42 ls H locs hF hl hW
                rw [e_42] at hF
                dsimp only at hF
                refine lv_iinc (v := (x3_12 + 1)) (lv' := [(3, .int ((x3_12 + 1))), (0, .ref h_this), (1, .ref h_p1), (2, .int x2_2)]) hx hb dX0_find_42 hl (k := 3) rfl rfl (by decide) rfl (fun ls hl => ?_)
                refine lv_goto (tgt := 12) hx hb dX0_find_45 (by decide) ?_
                exact ih ((x3_12 + 1)) v_boats_42 a_boatOfHouse_42 a_roomLeft_42 _ _ _ hF (lv_sub hl [1, 2, 3, 0] rfl) hW
              refine lv_icmp_ne (tgt := 42) hx hb dX0_find_28 (by decide) (fun c_28 => ?_) (fun c_28 => ?_)
              · have hF := ite_f hF c_28
                exact J_42 v_boats_12 a_boatOfHouse_12 a_roomLeft_12 _ _ _ hF (lv_sub hl [0, 1, 2, 3] rfl) hW
              · have hF := ite_t hF c_28
                refine lv_aload_n hx hb dX0_find_31 rfl (lv_at hl 0 rfl) ?_
                refine lv_aload_n hx hb dX0_find_32 rfl (lv_at hl 1 rfl) ?_
                refine lv_iload_n hx hb dX0_find_33 rfl (lv_at hl 3 rfl) ?_
                obtain ⟨q34, c_34, hF⟩ := bd_el hF
                refine wcZ (ws' := [(h_this, oX0 ad_this q34.2.1), (h_p1, oX8 ad_p1 v_p1_signCount v_p1_houseCount v_p1_boatCount v_p1_workCount v_p1_turnCost v_p1_boatDayCost), ((ad_p1 4), cI G 4 a_p1_boatRoom), ((ad_p1 2), cI G 6 a_p1_housePeople), ((ad_this 0), cI G 6 q34.2.2.1), ((ad_this 1), cI G 4 q34.2.2.2)]) (wc := [(h_this, oX0 ad_this v_boats_12), (h_p1, oX8 ad_p1 v_p1_signCount v_p1_houseCount v_p1_boatCount v_p1_workCount v_p1_turnCost v_p1_boatDayCost), ((ad_p1 4), cI G 4 a_p1_boatRoom), ((ad_p1 2), cI G 6 a_p1_housePeople), ((ad_this 0), cI G 6 a_boatOfHouse_12), ((ad_this 1), cI G 4 a_roomLeft_12)]) (wr := []) (w1 := [(h_this, oX0 ad_this q34.2.1), (h_p1, oX8 ad_p1 v_p1_signCount v_p1_houseCount v_p1_boatCount v_p1_workCount v_p1_turnCost v_p1_boatDayCost), ((ad_p1 4), cI G 4 a_p1_boatRoom), ((ad_p1 2), cI G 6 a_p1_housePeople), ((ad_this 0), cI G 6 q34.2.2.1), ((ad_this 1), cI G 4 q34.2.2.2)]) (va_runV (As := [.ref h_p1, .int x3_12]) (rest := []) ⟨hx, hb, hml, hown, hg⟩ (c_X0_findWith l G x3_12 h_this h_p1 ad_this ad_p1 v_boats_12 v_p1_signCount v_p1_houseCount v_p1_boatCount v_p1_workCount v_p1_turnCost v_p1_boatDayCost a_p1_boatRoom a_p1_housePeople a_boatOfHouse_12 a_roomLeft_12 q34 c_34 H.size) (cwV 2 hg (gV wd_3_145 wd_3_147 wd_0_20 wd_1_8 wd_3_148) rfl rfl rfl hdV_X0_findWith ⟨(Nat.le_of_ble_eq_true rfl), (Nat.le_of_ble_eq_true rfl)⟩) (preV hc hW [0, 1, 2, 3, 4, 5] rfl (by decide) rfl rfl) rfl rfl hl.1 rfl (lv_room (Nat.le_of_ble_eq_true rfl)) dX0_find_34 ⟨Nat.zero_le _, Nat.zero_le _⟩) hA hW [0, 1, 2, 3, 4, 5] [] [0, 1, 2, 3, 4, 5] rfl rfl (by decide) (by decide) rfl (by decide) (fun z_34 H locs hW => ?_)
                refine lv_if_eq (tgt := 42) hx hb dX0_find_37 (by decide) (fun c_37 => ?_) (fun c_37 => ?_)
                · have hF := ite_t hF c_37
                  exact J_42 q34.2.1 q34.2.2.1 q34.2.2.2 _ _ _ hF (lv_sub hl [0, 1, 2, 3] rfl) hW
                · have hF := ite_f hF c_37
                  refine lv_iconst (v := 1) hx hb dX0_find_40 (by decide) ?_
                  obtain rfl := Option.some.inj hF
                  exact hret _ _ _ _ hW (Or.inr rfl) dX0_find_41
        exact L_12 5000 1 v_boats_2 a_boatOfHouse_2 a_roomLeft_2 _ _ _ hF (lv_sub hl [1, 2, 3, 0] rfl) hW
  exact L_2 5000 1 v_boats a_boatOfHouse a_roomLeft _ _ _ hF (lv_sub hl [1, 2, 0] rfl) hW
theorem dX9_crews_0 : decode cX9_crews 0 = .ok (.iload_n 1, 1) := by decide +kernel
theorem dX9_crews_1 : decode cX9_crews 1 = .ok (.iconst (-1), 1) := by decide +kernel
theorem dX9_crews_2 : decode cX9_crews 2 = .ok (.aload_n 0, 1) := by decide +kernel
theorem dX9_crews_3 : decode cX9_crews 3 = .ok (.getfield 26, 3) := by decide +kernel
theorem dX9_crews_6 : decode cX9_crews 6 = .ok (.getfield 213, 3) := by decide +kernel
theorem dX9_crews_9 : decode cX9_crews 9 = .ok (.iconst 1, 1) := by decide +kernel
theorem dX9_crews_10 : decode cX9_crews 10 = .ok (.isub, 1) := by decide +kernel
theorem dX9_crews_11 : decode cX9_crews 11 = .ok (.invokestatic 104, 3) := by decide +kernel
theorem dX9_crews_14 : decode cX9_crews 14 = .ok (.ifCond .ne 5, 3) := by decide +kernel
theorem dX9_crews_17 : decode cX9_crews 17 = .ok (.iconst (-1), 1) := by decide +kernel
theorem dX9_crews_18 : decode cX9_crews 18 = .ok (.ireturn, 1) := by decide +kernel
theorem dX9_crews_19 : decode cX9_crews 19 = .ok (.aload_n 0, 1) := by decide +kernel
theorem dX9_crews_20 : decode cX9_crews 20 = .ok (.getfield 26, 3) := by decide +kernel
theorem dX9_crews_23 : decode cX9_crews 23 = .ok (.getfield 213, 3) := by decide +kernel
theorem dX9_crews_26 : decode cX9_crews 26 = .ok (.iconst 1, 1) := by decide +kernel
theorem dX9_crews_27 : decode cX9_crews 27 = .ok (.if_icmp .lt 17, 3) := by decide +kernel
theorem dX9_crews_30 : decode cX9_crews 30 = .ok (.aload_n 0, 1) := by decide +kernel
theorem dX9_crews_31 : decode cX9_crews 31 = .ok (.getfield 70, 3) := by decide +kernel
theorem dX9_crews_34 : decode cX9_crews 34 = .ok (.aload_n 0, 1) := by decide +kernel
theorem dX9_crews_35 : decode cX9_crews 35 = .ok (.getfield 26, 3) := by decide +kernel
theorem dX9_crews_38 : decode cX9_crews 38 = .ok (.invokevirtual 216, 3) := by decide +kernel
theorem dX9_crews_41 : decode cX9_crews 41 = .ok (.ifCond .ne 6, 3) := by decide +kernel
theorem dX9_crews_44 : decode cX9_crews 44 = .ok (.bipush (-4), 2) := by decide +kernel
theorem dX9_crews_46 : decode cX9_crews 46 = .ok (.ireturn, 1) := by decide +kernel
theorem dX9_crews_47 : decode cX9_crews 47 = .ok (.iload_n 1, 1) := by decide +kernel
theorem dX9_crews_48 : decode cX9_crews 48 = .ok (.ifCond .ge 13, 3) := by decide +kernel
theorem dX9_crews_51 : decode cX9_crews 51 = .ok (.aload_n 0, 1) := by decide +kernel
theorem dX9_crews_52 : decode cX9_crews 52 = .ok (.getfield 70, 3) := by decide +kernel
theorem dX9_crews_55 : decode cX9_crews 55 = .ok (.getfield 220, 3) := by decide +kernel
theorem dX9_crews_58 : decode cX9_crews 58 = .ok (.goto 11, 3) := by decide +kernel
theorem dX9_crews_61 : decode cX9_crews 61 = .ok (.aload_n 0, 1) := by decide +kernel
theorem dX9_crews_62 : decode cX9_crews 62 = .ok (.getfield 70, 3) := by decide +kernel
theorem dX9_crews_65 : decode cX9_crews 65 = .ok (.iload_n 1, 1) := by decide +kernel
theorem dX9_crews_66 : decode cX9_crews 66 = .ok (.invokevirtual 223, 3) := by decide +kernel
theorem dX9_crews_69 : decode cX9_crews 69 = .ok (.ireturn, 1) := by decide +kernel
def F_X9_crews (x1 : Int32) (v_crewing_boats : Int32) (a_crewing_boatOfHouse : Nat → Int32) (a_crewing_roomLeft : Nat → Int32) (v_town_boatCount : Int32) (v_town_houseCount : Int32) (a_town_boatRoom : Nat → Int32) (a_town_housePeople : Nat → Int32) : Option (Int32 × Int32 × (Nat → Int32) × (Nat → Int32)) := (F_X9_isWithin x1 ((-1)) ((v_town_houseCount - 1))).bind (fun q11 => (if q11 = 0 then some ((-1), v_crewing_boats, a_crewing_boatOfHouse, a_crewing_roomLeft) else (if v_town_houseCount < 1 then some ((-4), v_crewing_boats, a_crewing_boatOfHouse, a_crewing_roomLeft) else (F_X0_find v_crewing_boats v_town_boatCount v_town_houseCount a_town_boatRoom a_town_housePeople a_crewing_boatOfHouse a_crewing_roomLeft).bind (fun q38 => (if q38.1 = 0 then some ((-4), q38.2.1, q38.2.2.1, q38.2.2.2) else (if 0 ≤ x1 then (F_X0_boatOf x1 q38.2.2.1).bind (fun q66 => some (q66, q38.2.1, q38.2.2.1, q38.2.2.2)) else some (q38.2.1, q38.2.1, q38.2.2.1, q38.2.2.2)))))))
theorem hdV_X9_crews : yX9_crews.cls = RX9 ∧ yX9_crews.cls ≠ "java/lang/invoke/MethodHandle" ∧ yX9_crews.cls ≠ "java/lang/invoke/VarHandle" ∧ (parseMethodDescriptor yX9_crews.desc).map (fun d => d.parameters.length) = some 1 := by decide +kernel
set_option maxHeartbeats 4000000 in
set_option maxRecDepth 100000 in
theorem c_X9_crews (l : Launch) (G : GG) (x1 : Int32) (h_this : Nat) (ad_this : Nat → Nat) (ad_this_crewing : Nat → Nat) (ad_this_town : Nat → Nat) (v_keptCount : Int32) (v_crewing_boats : Int32) (a_crewing_boatOfHouse : Nat → Int32) (a_crewing_roomLeft : Nat → Int32) (v_town_signCount : Int32) (v_town_houseCount : Int32) (v_town_boatCount : Int32) (v_town_workCount : Int32) (v_town_turnCost : Int32) (v_town_boatDayCost : Int32) (a_town_boatRoom : Nat → Int32) (a_town_housePeople : Nat → Int32) (out : Int32 × Int32 × (Nat → Int32) × (Nat → Int32)) (hF : F_X9_crews x1 v_crewing_boats a_crewing_boatOfHouse a_crewing_roomLeft v_town_boatCount v_town_houseCount a_town_boatRoom a_town_housePeople = some out) : CtrI l yX9_crews (WS yX9_crews cX9_crews 2 (some .int)) { frames := 12, cells := 0, slots := 0, locals := 288 } G [.ref h_this, .int x1] [(h_this, oX9 ad_this v_keptCount), ((ad_this 11), oX0 ad_this_crewing v_crewing_boats), ((ad_this_crewing 0), cI G 6 a_crewing_boatOfHouse), ((ad_this_crewing 1), cI G 4 a_crewing_roomLeft), ((ad_this 2), oX8 ad_this_town v_town_signCount v_town_houseCount v_town_boatCount v_town_workCount v_town_turnCost v_town_boatDayCost), ((ad_this_town 4), cI G 4 a_town_boatRoom), ((ad_this_town 2), cI G 6 a_town_housePeople)] [(h_this, oX9 ad_this v_keptCount), ((ad_this 11), oX0 ad_this_crewing out.2.1), ((ad_this_crewing 0), cI G 6 out.2.2.1), ((ad_this_crewing 1), cI G 4 out.2.2.2), ((ad_this 2), oX8 ad_this_town v_town_signCount v_town_houseCount v_town_boatCount v_town_workCount v_town_turnCost v_town_boatDayCost), ((ad_this_town 4), cI G 4 a_town_boatRoom), ((ad_this_town 2), cI G 6 a_town_housePeople)] out.1 := by
  refine startI (cc := cX9_crews) (maxL := 2) (by decide) rfl (Nat.le_of_ble_eq_true rfl) ?_
  intro p e s m args below meth c A Q hx hb hml hts hown hc hA hret ls H locs hl hW
  have hown : s.vm.findClass RX9 = some m.cls := hown
  have hg : ∀ w ∈ GOODS, w.before _ s = true := fun w h => hts w (List.mem_cons_of_mem _ h)
  have hl : lv_has ls 2 [(0, .ref h_this), (1, .int x1)] := hl
  rw [F_X9_crews] at hF
  refine lv_iload_n hx hb dX9_crews_0 rfl (lv_at hl 1 rfl) ?_
  refine lv_iconst (v := (-1)) hx hb dX9_crews_1 (by decide) ?_
  refine lv_aload_n hx hb dX9_crews_2 rfl (lv_at hl 0 rfl) ?_
  refine va_get (D := G.1) (ci := 8) (v := .ref ((ad_this 2))) (C := RX9) (T := TX9) (N := 13) hx hb hg hu_X9 hown hc.1 hW.1 0 rfl rfl 2 (by decide) (hg _ wd_2_97) (fun _ h9 => h9) rfl dX9_crews_3 ?_
  refine va_get (D := G.1) (ci := 7) (v := .int v_town_houseCount) (C := RX8) (T := TX8) (N := 13) hx hb hg hu_X8 hown hc.1 hW.1 4 rfl rfl 8 (by decide) (hg _ wd_1_80) (fun _ h9 => h9) rfl dX9_crews_6 ?_
  refine lv_iconst (v := 1) hx hb dX9_crews_9 (by decide) ?_
  refine lv_isub hx hb dX9_crews_10 ?_
  obtain ⟨q11, c_11, hF⟩ := bd_el hF
  refine wcZ (ws' := [(h_this, oX9 ad_this v_keptCount), ((ad_this 11), oX0 ad_this_crewing v_crewing_boats), ((ad_this_crewing 0), cI G 6 a_crewing_boatOfHouse), ((ad_this_crewing 1), cI G 4 a_crewing_roomLeft), ((ad_this 2), oX8 ad_this_town v_town_signCount v_town_houseCount v_town_boatCount v_town_workCount v_town_turnCost v_town_boatDayCost), ((ad_this_town 4), cI G 4 a_town_boatRoom), ((ad_this_town 2), cI G 6 a_town_housePeople)]) (wc := []) (wr := [(h_this, oX9 ad_this v_keptCount), ((ad_this 11), oX0 ad_this_crewing v_crewing_boats), ((ad_this_crewing 0), cI G 6 a_crewing_boatOfHouse), ((ad_this_crewing 1), cI G 4 a_crewing_roomLeft), ((ad_this 2), oX8 ad_this_town v_town_signCount v_town_houseCount v_town_boatCount v_town_workCount v_town_turnCost v_town_boatDayCost), ((ad_this_town 4), cI G 4 a_town_boatRoom), ((ad_this_town 2), cI G 6 a_town_housePeople)]) (w1 := []) (va_runS (As := [.int x1, .int ((-1)), .int ((v_town_houseCount - 1))]) (rest := []) ⟨hx, hb, hml, hown, hg⟩ (c_X9_isWithin l G x1 ((-1)) ((v_town_houseCount - 1)) q11 c_11 H.size) (va_cwS 3 hg (gS wd_2_140 wd_2_47 wd_1_1 wd_2_48) rfl rfl rfl hdS_X9_isWithin ⟨(Nat.le_of_ble_eq_true rfl), (Nat.le_of_ble_eq_true rfl)⟩) (preS hc hW [] rfl (by decide)) rfl rfl hl.1 rfl (lv_room (Nat.le_of_ble_eq_true rfl)) dX9_crews_11 ⟨Nat.zero_le _, Nat.zero_le _⟩) hA hW [] [0, 1, 2, 3, 4, 5, 6] [0, 1, 2, 3, 4, 5, 6] rfl rfl (by decide) (by decide) rfl (by decide) (fun z_11 H locs hW => ?_)
  refine lv_if_ne (tgt := 19) hx hb dX9_crews_14 (by decide) (fun c_14 => ?_) (fun c_14 => ?_)
  · have hF := ite_f hF c_14
    refine lv_aload_n hx hb dX9_crews_19 rfl (lv_at hl 0 rfl) ?_
    refine va_get (D := G.1) (ci := 8) (v := .ref ((ad_this 2))) (C := RX9) (T := TX9) (N := 13) hx hb hg hu_X9 hown hc.1 hW.1 0 rfl rfl 2 (by decide) (hg _ wd_2_97) (fun _ h9 => h9) rfl dX9_crews_20 ?_
    refine va_get (D := G.1) (ci := 7) (v := .int v_town_houseCount) (C := RX8) (T := TX8) (N := 13) hx hb hg hu_X8 hown hc.1 hW.1 4 rfl rfl 8 (by decide) (hg _ wd_1_80) (fun _ h9 => h9) rfl dX9_crews_23 ?_
    refine lv_iconst (v := 1) hx hb dX9_crews_26 (by decide) ?_
    refine lv_icmp_lt (tgt := 44) hx hb dX9_crews_27 (by decide) (fun c_27 => ?_) (fun c_27 => ?_)
    · have hF := ite_t hF c_27
      refine lv_bipush (v := (-4)) hx hb dX9_crews_44 (by decide) ?_
      obtain rfl := Option.some.inj hF
      exact hret _ _ _ _ hW dX9_crews_46
    · have hF := ite_f hF c_27
      refine lv_aload_n hx hb dX9_crews_30 rfl (lv_at hl 0 rfl) ?_
      refine va_get (D := G.1) (ci := 8) (v := .ref ((ad_this 11))) (C := RX9) (T := TX9) (N := 13) hx hb hg hu_X9 hown hc.1 hW.1 0 rfl rfl 11 (by decide) (hg _ wd_2_106) (fun _ h9 => h9) rfl dX9_crews_31 ?_
      refine lv_aload_n hx hb dX9_crews_34 rfl (lv_at hl 0 rfl) ?_
      refine va_get (D := G.1) (ci := 8) (v := .ref ((ad_this 2))) (C := RX9) (T := TX9) (N := 13) hx hb hg hu_X9 hown hc.1 hW.1 0 rfl rfl 2 (by decide) (hg _ wd_2_97) (fun _ h9 => h9) rfl dX9_crews_35 ?_
      obtain ⟨q38, c_38, hF⟩ := bd_el hF
      refine wcZ (ws' := [(h_this, oX9 ad_this v_keptCount), ((ad_this 11), oX0 ad_this_crewing q38.2.1), ((ad_this_crewing 0), cI G 6 q38.2.2.1), ((ad_this_crewing 1), cI G 4 q38.2.2.2), ((ad_this 2), oX8 ad_this_town v_town_signCount v_town_houseCount v_town_boatCount v_town_workCount v_town_turnCost v_town_boatDayCost), ((ad_this_town 4), cI G 4 a_town_boatRoom), ((ad_this_town 2), cI G 6 a_town_housePeople)]) (wc := [((ad_this 11), oX0 ad_this_crewing v_crewing_boats), ((ad_this 2), oX8 ad_this_town v_town_signCount v_town_houseCount v_town_boatCount v_town_workCount v_town_turnCost v_town_boatDayCost), ((ad_this_town 4), cI G 4 a_town_boatRoom), ((ad_this_town 2), cI G 6 a_town_housePeople), ((ad_this_crewing 0), cI G 6 a_crewing_boatOfHouse), ((ad_this_crewing 1), cI G 4 a_crewing_roomLeft)]) (wr := [(h_this, oX9 ad_this v_keptCount)]) (w1 := [((ad_this 11), oX0 ad_this_crewing q38.2.1), ((ad_this 2), oX8 ad_this_town v_town_signCount v_town_houseCount v_town_boatCount v_town_workCount v_town_turnCost v_town_boatDayCost), ((ad_this_town 4), cI G 4 a_town_boatRoom), ((ad_this_town 2), cI G 6 a_town_housePeople), ((ad_this_crewing 0), cI G 6 q38.2.2.1), ((ad_this_crewing 1), cI G 4 q38.2.2.2)]) (va_runV (As := [.ref ((ad_this 2))]) (rest := []) ⟨hx, hb, hml, hown, hg⟩ (c_X0_find l G ((ad_this 11)) ((ad_this 2)) ad_this_crewing ad_this_town v_crewing_boats v_town_signCount v_town_houseCount v_town_boatCount v_town_workCount v_town_turnCost v_town_boatDayCost a_town_boatRoom a_town_housePeople a_crewing_boatOfHouse a_crewing_roomLeft q38 c_38 H.size) (cwV 1 hg (gV wd_3_134 wd_3_135 wd_3_136 wd_1_8 wd_3_137) rfl rfl rfl hdV_X0_find ⟨(Nat.le_of_ble_eq_true rfl), (Nat.le_of_ble_eq_true rfl)⟩) (preV hc hW [1, 4, 5, 6, 2, 3] rfl (by decide) rfl rfl) rfl rfl hl.1 rfl (lv_room (Nat.le_of_ble_eq_true rfl)) dX9_crews_38 ⟨Nat.zero_le _, Nat.zero_le _⟩) hA hW [1, 4, 5, 6, 2, 3] [0] [0, 1, 5, 6, 2, 3, 4] rfl rfl (by decide) (by decide) rfl (by decide) (fun z_38 H locs hW => ?_)
      refine lv_if_ne (tgt := 47) hx hb dX9_crews_41 (by decide) (fun c_41 => ?_) (fun c_41 => ?_)
      · have hF := ite_f hF c_41
        refine lv_iload_n hx hb dX9_crews_47 rfl (lv_at hl 1 rfl) ?_
        refine lv_if_ge (tgt := 61) hx hb dX9_crews_48 (by decide) (fun c_48 => ?_) (fun c_48 => ?_)
        · have hF := ite_t hF c_48
          refine lv_aload_n hx hb dX9_crews_61 rfl (lv_at hl 0 rfl) ?_
          refine va_get (D := G.1) (ci := 8) (v := .ref ((ad_this 11))) (C := RX9) (T := TX9) (N := 13) hx hb hg hu_X9 hown hc.1 hW.1 0 rfl rfl 11 (by decide) (hg _ wd_2_106) (fun _ h9 => h9) rfl dX9_crews_62 ?_
          refine lv_iload_n hx hb dX9_crews_65 rfl (lv_at hl 1 rfl) ?_
          obtain ⟨q66, c_66, hF⟩ := bd_el hF
          refine wcI (ws' := [(h_this, oX9 ad_this v_keptCount), ((ad_this 11), oX0 ad_this_crewing q38.2.1), ((ad_this_crewing 0), cI G 6 q38.2.2.1), ((ad_this_crewing 1), cI G 4 q38.2.2.2), ((ad_this 2), oX8 ad_this_town v_town_signCount v_town_houseCount v_town_boatCount v_town_workCount v_town_turnCost v_town_boatDayCost), ((ad_this_town 4), cI G 4 a_town_boatRoom), ((ad_this_town 2), cI G 6 a_town_housePeople)]) (wc := [((ad_this 11), oX0 ad_this_crewing q38.2.1), ((ad_this_crewing 0), cI G 6 q38.2.2.1)]) (wr := [(h_this, oX9 ad_this v_keptCount), ((ad_this_crewing 1), cI G 4 q38.2.2.2), ((ad_this 2), oX8 ad_this_town v_town_signCount v_town_houseCount v_town_boatCount v_town_workCount v_town_turnCost v_town_boatDayCost), ((ad_this_town 4), cI G 4 a_town_boatRoom), ((ad_this_town 2), cI G 6 a_town_housePeople)]) (w1 := [((ad_this 11), oX0 ad_this_crewing q38.2.1), ((ad_this_crewing 0), cI G 6 q38.2.2.1)]) (va_runV (As := [.int x1]) (rest := []) ⟨hx, hb, hml, hown, hg⟩ (c_X0_boatOf l G x1 ((ad_this 11)) ad_this_crewing q38.2.1 q38.2.2.1 q66 c_66 H.size) (cwV 1 hg (gV wd_3_157 wd_3_158 wd_3_159 wd_1_8 wd_3_160) rfl rfl rfl hdV_X0_boatOf ⟨(Nat.le_of_ble_eq_true rfl), (Nat.le_of_ble_eq_true rfl)⟩) (preV hc hW [1, 2] rfl (by decide) rfl rfl) rfl rfl hl.1 rfl (lv_room (Nat.le_of_ble_eq_true rfl)) dX9_crews_66 ⟨Nat.zero_le _, Nat.zero_le _⟩) hA hW [1, 2] [0, 3, 4, 5, 6] [0, 5, 6, 1, 2, 3, 4] rfl rfl (by decide) (by decide) rfl (by decide) (fun H locs hW => ?_)
          obtain rfl := Option.some.inj hF
          exact hret _ _ _ _ hW dX9_crews_69
        · have hF := ite_f hF c_48
          refine lv_aload_n hx hb dX9_crews_51 rfl (lv_at hl 0 rfl) ?_
          refine va_get (D := G.1) (ci := 8) (v := .ref ((ad_this 11))) (C := RX9) (T := TX9) (N := 13) hx hb hg hu_X9 hown hc.1 hW.1 0 rfl rfl 11 (by decide) (hg _ wd_2_106) (fun _ h9 => h9) rfl dX9_crews_52 ?_
          refine va_get (D := G.1) (ci := 0) (v := .int q38.2.1) (C := RX0) (T := TX0) (N := 3) hx hb hg hu_X0 hown hc.1 hW.1 1 rfl rfl 2 (by decide) (hg _ wd_1_182) (fun _ h9 => h9) rfl dX9_crews_55 ?_
          refine lv_goto (tgt := 69) hx hb dX9_crews_58 (by decide) ?_
          obtain rfl := Option.some.inj hF
          exact hret _ _ _ _ hW dX9_crews_69
      · have hF := ite_t hF c_41
        refine lv_bipush (v := (-4)) hx hb dX9_crews_44 (by decide) ?_
        obtain rfl := Option.some.inj hF
        exact hret _ _ _ _ hW dX9_crews_46
  · have hF := ite_t hF c_14
    refine lv_iconst (v := (-1)) hx hb dX9_crews_17 (by decide) ?_
    obtain rfl := Option.some.inj hF
    exact hret _ _ _ _ hW dX9_crews_18
