theorem wd_1_18 : Cond.classLink RL 7 RX9 ∈ GOODS := mg1 18 rfl rfl
theorem wd_1_19 : Cond.instantiable RX9 13 ∈ GOODS := mg1 19 rfl rfl
theorem wd_1_20 : Cond.methodLink RL 9 yX9_init ∈ GOODS := mg1 20 rfl rfl
theorem wd_1_21 : Cond.instanceMethod yX9_init ∈ GOODS := mg1 21 rfl rfl
theorem wd_1_22 : Cond.code yX9_init cX9_init 2 none ∈ GOODS := mg1 22 rfl rfl
theorem wd_4_16 : Cond.classLink RL 10 RX10 ∈ GOODS := mg4 16 rfl rfl
theorem wd_4_17 : Cond.instantiable RX10 31 ∈ GOODS := mg4 17 rfl rfl
theorem wd_4_18 : Cond.methodLink RL 12 yX10_init ∈ GOODS := mg4 18 rfl rfl
theorem wd_4_19 : Cond.instanceMethod yX10_init ∈ GOODS := mg4 19 rfl rfl
theorem wd_4_20 : Cond.code yX10_init cX10_init 1 none ∈ GOODS := mg4 20 rfl rfl
abbrev M0 (out : (Nat → Int32) × (Nat → Int32) × (Nat → Int32) × (Nat → Int32) × (Nat → Int32) × (Nat → Int32) × (Nat → Int32) × (Nat → Int32) × (Nat → Int32) × (Nat → Int32) × (Nat → Int32) × (Nat → Int32)) : SS := (fun _ => 0, (va_up (va_up (va_up (va_up (va_up (va_up (va_up (va_up (va_up (va_up (va_up (va_up (fun _ _ => 0) 1 out.1) 2 out.2.1) 3 out.2.2.1) 4 out.2.2.2.1) 5 out.2.2.2.2.1) 6 out.2.2.2.2.2.1) 7 out.2.2.2.2.2.2.1) 8 out.2.2.2.2.2.2.2.1) 9 out.2.2.2.2.2.2.2.2.1) 10 out.2.2.2.2.2.2.2.2.2.1) 11 out.2.2.2.2.2.2.2.2.2.2.1) 12 out.2.2.2.2.2.2.2.2.2.2.2), fun _ _ => 0, fun _ => 0)
abbrev F0_X10 : Option ((Nat → Int32) × (Nat → Int32) × (Nat → Int32) × (Nat → Int32) × (Nat → Int32) × (Nat → Int32) × (Nat → Int32) × (Nat → Int32) × (Nat → Int32) × (Nat → Int32) × (Nat → Int32) × (Nat → Int32)) := F_X10_init (fun _ => 0) (fun _ => 0) (fun _ => 0) (fun _ => 0) (fun _ => 0) (fun _ => 0) (fun _ => 0) (fun _ => 0) (fun _ => 0) (fun _ => 0) (fun _ => 0) (fun _ => 0)
theorem ctx_start {s : State} {args : Array Value} (hts : ∀ w ∈ lw_tbl, w.before args s = true) : ∃ G : GG, ctx G s := by
  have hg : ∀ w ∈ GOODS, w.before args s = true := fun w h => hts w (List.mem_filter.mp h).1
  obtain ⟨cX0, iX0, kX0⟩ := u_known (C := RX0) (T := TX0) (N := 3) (n := 3) hg hu_X0 (hg _ wd_1_174)
  obtain ⟨cX1, iX1, kX1⟩ := u_known (C := RX1) (T := TX1) (N := 3) (n := 3) hg hu_X1 (hg _ wd_1_118)
  obtain ⟨cX2, iX2, kX2⟩ := u_known (C := RX2) (T := TX2) (N := 2) (n := 2) hg hu_X2 (hg _ wd_1_191)
  obtain ⟨cX3, iX3, kX3⟩ := u_known (C := RX3) (T := TX3) (N := 4) (n := 4) hg hu_X3 (hg _ wd_1_43)
  obtain ⟨cX5, iX5, kX5⟩ := u_known (C := RX5) (T := TX5) (N := 3) (n := 3) hg hu_X5 (hg _ wd_1_136)
  obtain ⟨cX6, iX6, kX6⟩ := u_known (C := RX6) (T := TX6) (N := 2) (n := 2) hg hu_X6 (hg _ wd_1_27)
  obtain ⟨cX7, iX7, kX7⟩ := u_known (C := RX7) (T := TX7) (N := 4) (n := 4) hg hu_X7 (hg _ wd_1_154)
  obtain ⟨cX8, iX8, kX8⟩ := u_known (C := RX8) (T := TX8) (N := 13) (n := 13) hg hu_X8 (hg _ wd_1_64)
  obtain ⟨cX9, iX9, kX9⟩ := u_known (C := RX9) (T := TX9) (N := 13) (n := 13) hg hu_X9 (hg _ wd_1_19)
  obtain ⟨cX10, iX10, kX10⟩ := u_known (C := RX10) (T := TX10) (N := 31) (n := 31) hg hu_X10 (hg _ wd_4_17)
  obtain ⟨a_int, ka_int, co_int, h1_int, h2_int, h3_int⟩ := Cond.arrayClass_spec (type := .int) (hg _ wd_1_41)
  obtain ⟨a_long, ka_long, co_long, h1_long, h2_long, h3_long⟩ := Cond.arrayClass_spec (type := .long) (hg _ wd_1_152)
  obtain ⟨a_byte, ka_byte, co_byte, h1_byte, h2_byte, h3_byte⟩ := Cond.arrayClass_spec (type := .byte) (hg _ wd_2_135)
  refine ⟨((fun k => [cX0, cX1, cX2, cX3, cX5, cX6, cX7, cX8, cX9, cX10].getD k cX0, fun k => [iX0, iX1, iX2, iX3, iX5, iX6, iX7, iX8, iX9, iX10].getD k iX0), (a_int, a_long, a_byte)), ⟨?_, ?_⟩, ?_⟩
  · intro c q hq
    match c, hq with
    | 0, hq => cases hq; exact kX0
    | 1, hq => cases hq; exact kX1
    | 2, hq => cases hq; exact kX2
    | 3, hq => cases hq; exact kX3
    | 4, hq => cases hq; exact kX5
    | 5, hq => cases hq; exact kX6
    | 6, hq => cases hq; exact kX7
    | 7, hq => cases hq; exact kX8
    | 8, hq => cases hq; exact kX9
    | 9, hq => cases hq; exact kX10
    | c + 10, hq => simp [vwCl] at hq
  · intro k q hq
    match k, hq with
    | 0, hq => cases hq; exact ⟨fun n z => ⟨fun k h => (by cases h), ka_int, h2_int, co_int, h3_int⟩, h1_int⟩
    | 1, hq => cases hq; exact ⟨fun n z => ⟨fun k h => (by cases h), ka_long, h2_long, co_long, h3_long⟩, h1_long⟩
    | 2, hq => cases hq; exact ⟨fun n z => ⟨fun k h => (by cases h), ka_byte, h2_byte, co_byte, h3_byte⟩, h1_byte⟩
    | k + 3, hq => simp [TY] at hq
  · intro q hq
    have hw : Cond.methodLinkNest q.1 q.2.1 q.2.2 "WhaleTown" ∈ lw_tbl := List.mem_append_right _ ((by decide +kernel : ∀ q ∈ nwL, Cond.methodLinkNest q.1 q.2.1 q.2.2 "WhaleTown" ∈ tables_1) q hq)
    exact va_Nw.of rfl (hts _ hw)
set_option maxHeartbeats 4000000 in
set_option maxRecDepth 100000 in
theorem str_start {s : State} {args : Array Value} (hts : ∀ w ∈ lw_tbl, w.before args s = true) (hgv : (Jvm.Cond.and given_1 narrow_1).before args s = true) : ∃ aK aV : Nat, SFa aK aV (fun q => s.heap.size ≤ q) s s.heap ∧ vk_R RX9 81 "a1,2,1;s0,1,2,3;s1,0,2,4;s2,4,3,1;s3,2,2,2;h4,10;h3,25;h6,5;h2,40;b8;b5;b9;w1,6;w0,2;w2,9;l60,5;" aK s := by
  have hs := flat_of_before _ hgv
  have hA : ∀ a : Nat, a < s.heap.size → ¬ (fun q => s.heap.size ≤ q) a := fun a h => Nat.not_le.mpr h
  obtain ⟨adK, adV, hS, hev⟩ := vk_Sof (N := 1) (tm := fun _ => .string "WhaleTown" 81) (len := [96]) (byt := [FTB]) (A := fun q => s.heap.size ≤ q) (args := args) (s := s) (by decide)
    (fun i hi => hs _ (by decide +kernel)) (fun i hi => hs _ (by decide +kernel)) (fun i hi => hs _ (by decide +kernel))
    (fun i hi => by obtain rfl : i = 0 := by omega
                    exact hs _ (by decide +kernel))
    (fun i hi j hj => by
      obtain rfl : i = 0 := by omega
      exact hs _ ((by decide +kernel : ∀ j, j < 96 → (Cond.eq (.elem (.field (.string "WhaleTown" 81) "java/lang/String" "value" "[B") (.int (Int32.ofNat j))) (.int (FTB.getD j 0))) ∈ flatC (Jvm.Cond.and given_1 narrow_1)) j hj))
    (fun i j hi hj hne => absurd (show i = j by omega) hne) hA
  have hS2 : vk_S 1 [96] [FTB] (fun _ => adK 0) (fun _ => adV 0) (fun q => s.heap.size ≤ q) s s.heap := by
    refine ⟨fun i hi => ?_, fun i j hi hj _ => ?_⟩
    · obtain rfl : i = 0 := Nat.lt_one_iff.mp hi
      exact hS.1 0 hi
    · exact (Nat.lt_one_iff.mp hi).trans (Nat.lt_one_iff.mp hj).symm
  refine ⟨adK 0, adV 0, ⟨hS2, ?_, ?_⟩, ?_⟩
  · exact va_Zof (args := args) (hts _ (List.mem_append_right _ (by decide +kernel))) (hts _ (List.mem_append_right _ (by decide +kernel))) (va_eqi (hs _ (by decide +kernel))) hA
  · exact va_Zqof (args := args) (hts _ (List.mem_append_right _ (by decide +kernel))) (hts _ (List.mem_append_right _ (by decide +kernel))) (hs _ (by decide +kernel)) hA
  · exact vk_R.of (A := args) (hts _ (List.mem_append_right _ (by decide +kernel))) (hev 0 (by decide))
set_option maxHeartbeats 4000000 in
set_option maxRecDepth 100000 in
theorem whole_open {p : Program} {e : Env} {s : State} {m : MethodId} {below : List Frame} {meth : Method} {c : Code} (l : Launch) {b L : Nat} {xs : Nat → Int32} (hL : L ≤ 3072) (C0 : lw_At p s m meth c b L xs) (Rl : SS → SS → Prop) (sim_write : ∀ (x1 : Int32) (σ μ : SS), Rl σ μ → ∃ q r, SX_write x1 σ = some q ∧ SM_write x1 μ = some r ∧ q.1 = r.1 ∧ Rl q.2 r.2)
  (sim_wipe : ∀ (σ μ : SS), Rl σ μ → ∃ q r, SX_wipe σ = some q ∧ SM_wipe μ = some r ∧ q.1 = r.1 ∧ Rl q.2 r.2)
  (sim_fault : ∀ (σ μ : SS), Rl σ μ → ∃ q r, SX_fault σ = some q ∧ SM_fault μ = some r ∧ q.1 = r.1 ∧ Rl q.2 r.2)
  (sim_lay : ∀ (σ μ : SS), Rl σ μ → ∃ q r, SX_lay σ = some q ∧ SM_lay μ = some r ∧ q.1 = r.1 ∧ Rl q.2.1 r.2)
  (sim_sign : ∀ (x1 : Int32) (x2 : Int32) (σ μ : SS), Rl σ μ → ∃ q r, SX_sign x1 x2 σ = some q ∧ SM_sign x1 x2 μ = some r ∧ q.1 = r.1 ∧ Rl q.2 r.2)
  (sim_works : ∀ (x1 : Int32) (x2 : Int32) (σ μ : SS), Rl σ μ → ∃ q r, SX_works x1 x2 σ = some q ∧ SM_works x1 x2 μ = some r ∧ q.1 = r.1 ∧ Rl q.2 r.2)
  (sim_day : ∀ (x1 : Int32) (x2 : Int32) (σ μ : SS), Rl σ μ → ∃ q r, SX_day x1 x2 σ = some q ∧ SM_day x1 x2 μ = some r ∧ q.1 = r.1 ∧ Rl q.2 r.2)
  (sim_diary : ∀ (x1 : Int32) (x2 : Int32) (σ μ : SS), Rl σ μ → ∃ q r, SX_diary x1 x2 σ = some q ∧ SM_diary x1 x2 μ = some r ∧ q.1 = r.1 ∧ Rl q.2 r.2)
  (sim_undo : ∀ (σ μ : SS), Rl σ μ → ∃ q r, SX_undo σ = some q ∧ SM_undo μ = some r ∧ q.1 = r.1 ∧ Rl q.2 r.2)
  (sim_belief : ∀ (x1 : Int32) (x2 : Int32) (σ μ : SS), Rl σ μ → ∃ q r, SX_belief x1 x2 σ = some q ∧ SM_belief x1 x2 μ = some r ∧ q.1 = r.1 ∧ Rl q.2 r.2)
  (sim_near : ∀ (x1 : Int32) (x2 : Int32) (x3 : Int32) (σ μ : SS), Rl σ μ → ∃ q r, SX_near x1 x2 x3 σ = some q ∧ SM_near x1 x2 x3 μ = some r ∧ q.1 = r.1 ∧ Rl q.2 r.2)
  (sim_sight : ∀ (x1 : Int32) (x2 : Int32) (x3 : Int32) (σ μ : SS), Rl σ μ → ∃ q r, SX_sight x1 x2 x3 σ = some q ∧ SM_sight x1 x2 x3 μ = some r ∧ q.1 = r.1 ∧ Rl q.2 r.2)
  (sim_tells : ∀ (x1 : Int32) (σ μ : SS), Rl σ μ → ∃ q r, SX_tells x1 σ = some q ∧ SM_tells x1 μ = some r ∧ q.1 = r.1 ∧ Rl q.2 r.2)
  (sim_board : ∀ (x1 : Int32) (x2 : Int32) (σ μ : SS), Rl σ μ → ∃ q r, SX_board x1 x2 σ = some q ∧ SM_board x1 x2 μ = some r ∧ q.1 = r.1 ∧ Rl q.2 r.2)
  (sim_quiet : ∀ (x1 : Int32) (x2 : Int32) (σ μ : SS), Rl σ μ → ∃ q r, SX_quiet x1 x2 σ = some q ∧ SM_quiet x1 x2 μ = some r ∧ q.1 = r.1 ∧ Rl q.2 r.2)
  (sim_saved : ∀ (x1 : Int32) (σ μ : SS), Rl σ μ → ∃ q r, SX_saved x1 σ = some q ∧ SM_saved x1 μ = some r ∧ q.1 = r.1 ∧ Rl q.2 r.2)
  (sim_crews : ∀ (x1 : Int32) (σ μ : SS), Rl σ μ → ∃ q r, SX_crews x1 σ = some q ∧ SM_crews x1 μ = some r ∧ q.1 = r.1 ∧ Rl q.2 r.2)
  (sim_drift : ∀ (x1 : Int32) (x2 : Int32) (x3 : Int32) (x4 : Int32) (x5 : Int32) (σ μ : SS), Rl σ μ → ∃ q r, SX_drift x1 x2 x3 x4 x5 σ = some q ∧ SM_drift x1 x2 x3 x4 x5 μ = some r ∧ q.1 = r.1 ∧ Rl q.2 r.2)
  (sim_ahead : ∀ (x1 : Int32) (x2 : Int32) (σ μ : SS), Rl σ μ → ∃ q r, SX_ahead x1 x2 σ = some q ∧ SM_ahead x1 x2 μ = some r ∧ q.1 = r.1 ∧ Rl q.2 r.2)
  (sim_forget : ∀ (σ μ : SS), Rl σ μ → ∃ q r, SX_forget σ = some q ∧ SM_forget μ = some r ∧ q.1 = r.1 ∧ Rl q.2 r.2)
  (sim_first : ∀ (σ μ : SS), Rl σ μ → ∃ q r, SX_first σ = some q ∧ SM_first μ = some r ∧ q.1 = r.1 ∧ Rl q.2 r.2)
  (sim_orders : ∀ (σ μ : SS), Rl σ μ → ∃ q r, SX_orders σ = some q ∧ SM_orders μ = some r ∧ q.1 = r.1 ∧ Rl q.2 r.2)
  (sim_feigned : ∀ (σ μ : SS), Rl σ μ → ∃ q r, SX_feigned σ = some q ∧ SM_feigned μ = some r ∧ q.1 = r.1 ∧ Rl q.2 r.2)
  (sim_spring : ∀ (x1 : Int32) (x2 : Int32) (x3 : Int32) (σ μ : SS), Rl σ μ → ∃ q r, SX_spring x1 x2 x3 σ = some q ∧ SM_spring x1 x2 x3 μ = some r ∧ q.1 = r.1 ∧ Rl q.2 r.2)
  (sim_keep : ∀ (σ μ : SS), Rl σ μ → ∃ q r, SX_keep σ = some q ∧ SM_keep μ = some r ∧ q.1 = r.1 ∧ Rl q.2 r.2)
  (sim_back : ∀ (σ μ : SS), Rl σ μ → ∃ q r, SX_back σ = some q ∧ SM_back μ = some r ∧ q.1 = r.1 ∧ Rl q.2 r.2)
  (sim_count : ∀ (x1 : Int32) (σ μ : SS), Rl σ μ → ∃ q r, SX_count x1 σ = some q ∧ SM_count x1 μ = some r ∧ q.1 = r.1 ∧ Rl q.2 r.2)
  (h0 : ∃ σ out, F_X9_init = some σ ∧ F0_X10 = some out ∧ Rl σ (M0 out)) : W p l e room_1 s m #[Value.ref b] below meth c s.heap [] 0 0 (lw_Z below #[Value.ref b] s) (entryFrame m ([Value.ref b] : List Value).toArray 4) := by
  obtain ⟨hx, hb, hr, hml, hown, hts, hXs, hbl, hlocks, hgv⟩ := id C0
  have hown : s.vm.findClass RL = some m.cls := hown
  have hg : ∀ w ∈ GOODS, w.before #[Value.ref b] s = true := fun w h => hts w (List.mem_filter.mp h).1
  have hA : ∀ q : Nat, s.heap.size ≤ q → (fun q : Nat => s.heap.size ≤ q) q := fun _ h => h
  obtain ⟨G, hc⟩ := ctx_start hts
  obtain ⟨aK, aV, hSF, hvk⟩ := str_start hts hgv
  obtain ⟨σ1, out, hF1, hF2, hR0⟩ := h0
  have hl := lv_entry ([.ref b]) (n := 4) (Nat.le_of_ble_eq_true rfl)
  rw [lg_entry_eq]
  generalize (lg_sl ([.ref b]) ++ List.replicate (4 - (lg_sl ([.ref b])).length) Slot.unset).toArray = ls at hl ⊢
  have hl : lv_has ls 4 [(0, .ref b)] := hl
  have hW : Wd G (fun q : Nat => s.heap.size ≤ q) s.heap [] s.heap [] := ⟨fun k q h => by simp at h, ⟨fun i j p q h => by simp at h, fun k q h => by simp at h⟩, va_S.rf⟩
  refine va_new (ci := 8) (fs := [.null, .null, .null, .null, .null, .null, .null, .int 0, .null, .null, .null, .null, .null]) (C := RX9) (T := TX9) (N := 13) hx hb hg hu_X9 tyX9 tyX9_ok hown (hg _ wd_1_18) (hg _ wd_1_19) (hg _ wd_1_1) hc.1 hW.1 hW.2.1 hW.2.2 hA rfl hf_X9 (Nat.le_of_ble_eq_true rfl) (Nat.le_of_ble_eq_true rfl) dL_law_0 (fun hX H hP hD hS => ?_)
  have hW : Wd G (fun q : Nat => s.heap.size ≤ q) s.heap [(hX, .inr (8, [.null, .null, .null, .null, .null, .null, .null, .int 0, .null, .null, .null, .null, .null]))] H [] := ⟨hP, hD, hS⟩
  refine lv_dup hx hb dL_law_3 rfl ?_
  have hpre : PreS s H (va_Pc [.ref hX] (fun U => U.heap.size = H.size ∧ va_P G.1 vwCl [(hX, .inr (8, [.null, .null, .null, .null, .null, .null, .null, .int 0, .null, .null, .null, .null, .null]))] U.heap ∧ ctx G U ∧ va_D (fun _ => True) [(hX, .inr (8, [.null, .null, .null, .null, .null, .null, .null, .int 0, .null, .null, .null, .null, .null]))] ∧ SFa aK aV (va_A [(hX, .inr (8, [.null, .null, .null, .null, .null, .null, .null, .int 0, .null, .null, .null, .null, .null]))] H.size) U U.heap ∧ vk_R RX9 81 "a1,2,1;s0,1,2,3;s1,0,2,4;s2,4,3,1;s3,2,2,2;h4,10;h3,25;h6,5;h2,40;b8;b5;b9;w1,6;w0,2;w2,9;l60,5;" aK U)) [.ref hX] := by
    have hfr : ∀ q : Nat, va_A [(hX, .inr (8, [.null, .null, .null, .null, .null, .null, .null, .int 0, .null, .null, .null, .null, .null]))] H.size q → s.heap.size ≤ q := va_free (wc := [(hX, .inr (8, [.null, .null, .null, .null, .null, .null, .null, .int 0, .null, .null, .null, .null, .null]))]) hW.2.1 hW.2.2 hA [0] rfl
    refine ⟨fun a U g mk q => ?_, fun U hU hWm => ⟨rfl, by rw [hU], by rw [hU]; exact hW.1, hc.warm hWm, hW.2.1.weaken (fun _ _ _ _ => trivial), ?_, hvk.warm hWm⟩⟩
    · obtain ⟨q0, q1, qP, qK, qD, qS, qv⟩ := q
      exact ⟨q0, q1, qP, qK.calling, qD, ⟨vk_S.moved (u := U) (U := U.calling g mk a) (Vm.Alike.refl U.vm) qS.1, va_Z.moved (u := U) (U := U.calling g mk a) (Vm.Alike.refl U.vm) qS.2.1, va_Zq.moved (u := U) (U := U.calling g mk a) (Vm.Alike.refl U.vm) qS.2.2⟩, vk_R.same (u := U) (U := U.calling g mk a) rfl qv⟩
    · rw [hU]
      exact ⟨vk_S.narrow (vk_S.moved hWm.alike (vk_S.kept hSF.1 hW.2.2.2.1)) hfr, va_Z.narrow (va_Z.moved hWm.alike (va_Z.kept hSF.2.1 hW.2.2.2.1)) hfr, va_Zq.narrow (va_Zq.moved hWm.alike (va_Zq.kept hSF.2.2 hW.2.2.2.1)) hfr⟩
  refine wcN (wc := [(hX, .inr (8, [.null, .null, .null, .null, .null, .null, .null, .int 0, .null, .null, .null, .null, .null]))]) (wr := []) (w1 := fun ad => XW G hX (fun k j => ad (k * 64 + j)) σ1) (va_runI (As := []) (rest := [.ref hX]) ⟨hx, hb, hml, hown, hg⟩ (c_X9_init l G hX aK aV σ1 hF1 H.size) (cwI 0 hg (gN wd_1_22) rfl rfl rfl (hg _ wd_1_1) (hg _ wd_1_20) (hg _ wd_1_21) rfl hdI_X9_init ⟨(Nat.le_of_ble_eq_true rfl), (Nat.le_of_ble_eq_true rfl)⟩) hpre rfl rfl hl.1 rfl (lv_room (Nat.le_of_ble_eq_true rfl)) dL_law_4 ⟨(Nat.le_of_ble_eq_true rfl), (Nat.le_of_ble_eq_true rfl)⟩) hA hW [0] [] rfl rfl (by decide) (by decide) (fun ad H locs hW => ?_)
  obtain ⟨xd, hW⟩ : ∃ xd : Nat → Nat → Nat, Wd G (fun q : Nat => s.heap.size ≤ q) s.heap (XW G hX xd σ1) H locs := ⟨fun k j => ad (k * 64 + j), hW⟩
  refine lv_astore_n (lv' := [(1, .ref hX), (0, .ref b)]) hx hb dL_law_7 rfl hl (by decide) rfl (fun ls hl => ?_)
  refine va_new (ci := 9) (fs := [.null, .int 0, .null, .null, .null, .null, .null, .null, .null, .null, .null, .null, .null, .null, .int 0, .int 0, .null, .null, .null, .int 0, .null, .null, .long 0, .null, .long 0, .null, .null, .null, .null, .int 0, .null]) (C := RX10) (T := TX10) (N := 31) hx hb hg hu_X10 tyX10 tyX10_ok hown (hg _ wd_4_16) (hg _ wd_4_17) (hg _ wd_1_15) hc.1 hW.1 hW.2.1 hW.2.2 hA rfl hf_X10 (Nat.le_of_ble_eq_true rfl) (Nat.le_of_ble_eq_true rfl) dL_law_8 (fun hM H hP hD hS => ?_)
  have hW : Wd G (fun q : Nat => s.heap.size ≤ q) s.heap (XW G hX xd σ1 ++ [(hM, .inr (9, [.null, .int 0, .null, .null, .null, .null, .null, .null, .null, .null, .null, .null, .null, .null, .int 0, .int 0, .null, .null, .null, .int 0, .null, .null, .long 0, .null, .long 0, .null, .null, .null, .null, .int 0, .null]))]) H locs := ⟨hP, hD, hS⟩
  refine lv_dup hx hb dL_law_11 rfl ?_
  refine wcN (wc := [(hM, .inr (9, [.null, .int 0, .null, .null, .null, .null, .null, .null, .null, .null, .null, .null, .null, .null, .int 0, .int 0, .null, .null, .null, .int 0, .null, .null, .long 0, .null, .long 0, .null, .null, .null, .null, .int 0, .null]))]) (wr := XW G hX xd σ1) (w1 := fun ad => MW G hM (fun _ => ad) (M0 out)) (va_runI (As := []) (rest := [.ref hM]) ⟨hx, hb, hml, hown, hg⟩ (c_X10_init l G hM out hF2 H.size) (cwI 0 hg (gN wd_4_20) rfl rfl rfl (hg _ wd_1_15) (hg _ wd_4_18) (hg _ wd_4_19) rfl hdI_X10_init ⟨(Nat.le_of_ble_eq_true rfl), (Nat.le_of_ble_eq_true rfl)⟩) (preS hc hW [46] rfl (by decide)) rfl rfl hl.1 rfl (lv_room (Nat.le_of_ble_eq_true rfl)) dL_law_12 ⟨(Nat.le_of_ble_eq_true rfl), (Nat.le_of_ble_eq_true rfl)⟩) hA hW [46] [0, 1, 2, 3, 4, 5, 6, 7, 8, 9, 10, 11, 12, 13, 14, 15, 16, 17, 18, 19, 20, 21, 22, 23, 24, 25, 26, 27, 28, 29, 30, 31, 32, 33, 34, 35, 36, 37, 38, 39, 40, 41, 42, 43, 44, 45] rfl rfl (by decide) (by decide) (fun ad H locs hW => ?_)
  refine lv_astore_n (lv' := [(2, .ref hM), (1, .ref hX), (0, .ref b)]) hx hb dL_law_15 rfl hl (by decide) rfl (fun ls hl => ?_)
  refine lv_iconst (v := 0) hx hb dL_law_16 (by decide) ?_
  refine lv_istore_n (lv' := [(3, .int 0), (2, .ref hM), (1, .ref hX), (0, .ref b)]) hx hb dL_law_17 rfl hl (by decide) rfl (fun ls hl => ?_)
  exact law_loop hL C0 hc (cells := 71) (slots := 911) (by decide) (by decide) hX hM Rl sim_write sim_wipe sim_fault sim_lay sim_sign sim_works sim_day sim_diary sim_undo sim_belief sim_near sim_sight sim_tells sim_board sim_quiet sim_saved sim_crews sim_drift sim_ahead sim_forget sim_first sim_orders sim_feigned sim_spring sim_keep sim_back sim_count (L + 1) 0 0 (Nat.zero_le L) (by omega) rfl xd (fun _ => ad) σ1 (M0 out) hR0 _ _ _ (lv_sub hl [3, 2, 1, 0] rfl) hW
